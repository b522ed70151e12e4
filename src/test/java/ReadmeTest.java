// The runs that README.md shows.
public final class ReadmeTest extends Due {
    public static void main(String[] args) {
        LowFall city = new LowFall();
        says("README: a line is found, dug and laid");
        due(city.set(0, 2, 900), 0);
        due(city.route(0, 3, 90, 2), 104);
        int line = city.take(1, 0);
        due(line, 0);
        due(city.gangs(line, 2), 0);
        due(city.kiln(120), 0);
        due(city.hours(48), 48);
        due(city.lineOf(line, 3, 4), 2);
        says("README: a law by a tape");
        String text = "s<2&p<500";
        due(city.tape(0, 1, text.length()), 9);
        for (int i = 0; i < text.length(); i++) due(city.put(0, i, text.charAt(i)), 1);
        due(city.law(0, 2, 0), 0);
        due(city.holds(0, 0), 0);
        due(city.holds(0, 1), 1);
        says("README: an image");
        due(city.keep(1), 48);
        due(city.hours(240), 288);
        due(city.count(10) > 0 ? 1 : 0, 1);
        due(city.back(1), 48);
        due(city.count(0), 48);
        due(city.count(10), 0);
        due(city.count(12), 0);
        due(city.count(16), 1);
        end("README");
    }
}
