import java.lang.reflect.Constructor;
import java.lang.reflect.Field;
import java.lang.reflect.Method;
import java.lang.reflect.Modifier;
import java.util.ArrayList;
import java.util.Arrays;
import java.util.Collections;
import java.util.HashSet;
import java.util.List;
import java.util.Set;

// The public face is that of the document; nothing else of the class can be seen from outside.
public final class FaceTest {
    private static final String[] CONSTANTS = {"NONE", "FULL", "UNABLE", "LATER", "NOTHING", "CAST", "PLACE", "SIZE",
        "THROWN", "ZERO"};
    private static final String ALL = "begin() set(int,int,int) of(int,int) tide(int) level(int) comesBack(int) window(int,int)"
        + " old(int,int,int,int) map(int,int,int) cut(int) mapOf(int,int,int) route(int,int,int,int) way(int) take(int,int)"
        + " lineOf(int,int,int) size(int) gangs(int,int) kiln(int) bad(int,int,boolean) bears(int,int) carries(int)"
        + " cross(int,int,int) rain(int) lift(int,int,int,int) coal(int,int) stop(int,boolean) lasts(int,int)"
        + " out(int,int,int,int) house(int,int) hours(int) bridge(int) cutOff() law(int,int,int) inForce(int,int)"
        + " holds(int,int) best(int,int) judge(int,int) share(int,int) tape(int,int,int) keep(int) back(int) toss(int)"
        + " clear(int) put(int,int,long) at(int,int) copy(int,int,int,int,int) count(int)";

    public static void main(String[] args) {
        List<String> faults = new ArrayList<>();
        if (LowFall.class.getModifiers() != (Modifier.PUBLIC | Modifier.FINAL)) faults.add("the class is not public final");
        lookAtMethods(faults);
        lookAtFields(faults);
        Constructor<?>[] makers = LowFall.class.getDeclaredConstructors();
        if (makers.length != 1 || !Modifier.isPublic(makers[0].getModifiers()) || makers[0].getParameterCount() != 0) {
            faults.add("the constructor is another");
        }
        for (String fault : faults) System.out.println("face: " + fault);
        if (!faults.isEmpty()) System.exit(1);
        System.out.println("face: as the document has it");
    }

    private static void lookAtMethods(List<String> faults) {
        List<String> open = new ArrayList<>();
        Set<String> publicNames = new HashSet<>();
        for (Method m : LowFall.class.getDeclaredMethods()) {
            if (Modifier.isPrivate(m.getModifiers())) continue;
            String kinds = "";
            for (Class<?> kind : m.getParameterTypes()) kinds += (kinds.isEmpty() ? "" : ",") + kind.getName();
            open.add(m.getName() + "(" + kinds + ")");
            publicNames.add(m.getName());
            boolean isLong = m.getName().equals("at");
            if (m.getReturnType() != (isLong ? long.class : int.class)) faults.add(m.getName() + " answers another type");
            if (m.getModifiers() != Modifier.PUBLIC) faults.add(m.getName() + " is not plainly public");
        }
        List<String> due = new ArrayList<>(Arrays.asList(ALL.split(" ")));
        Collections.sort(due);
        Collections.sort(open);
        if (!due.equals(open)) faults.add("the methods are " + open);
        for (Class<?> inside : LowFall.class.getDeclaredClasses()) {
            for (Method m : inside.getDeclaredMethods()) {
                if (publicNames.contains(m.getName())) faults.add(inside + " has a " + m.getName() + " too");
            }
        }
        for (Method m : LowFall.class.getDeclaredMethods()) {
            if (Modifier.isPrivate(m.getModifiers()) && publicNames.contains(m.getName())) faults.add("a private " + m.getName());
        }
    }

    private static void lookAtFields(List<String> faults) {
        int constants = 0;
        for (Field f : LowFall.class.getDeclaredFields()) {
            if (Modifier.isPrivate(f.getModifiers())) continue;
            if (!Arrays.asList(CONSTANTS).contains(f.getName()) || f.getType() != int.class) faults.add("a field " + f.getName());
            if (f.getModifiers() != (Modifier.PUBLIC | Modifier.STATIC | Modifier.FINAL)) faults.add(f.getName() + " is no constant");
            constants++;
        }
        if (constants != CONSTANTS.length) faults.add(constants + " constants");
    }
}
