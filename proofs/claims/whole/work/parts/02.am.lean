-- THE WORLD OF THIS CLAIM: all cells of class, reference and their images at fixed numbers ('virtual addresses'); a world is what their numbers hold
abbrev Wd : Type := (Nat → Nat → Int32) × (Nat → Nat → Int64)
def ri (w : Wd) (a : Nat) (i : Int32) : Int32 := w.1 a i.toNatClampNeg
def rl (w : Wd) (a : Nat) (i : Int32) : Int64 := w.2 a i.toNatClampNeg
def si (w : Wd) (a i : Nat) (x : Int32) : Wd := (fun b => if b = a then upd (w.1 a) i x else w.1 b, w.2)
def sl (w : Wd) (a i : Nat) (x : Int64) : Wd := (w.1, fun b => if b = a then vp_updL (w.2 a) i x else w.2 b)
def wi (w : Wd) (a : Nat) (i : Int32) (x : Int32) : Wd := si w a i.toNatClampNeg x
def wl (w : Wd) (a : Nat) (i : Int32) (x : Int64) : Wd := sl w a i.toNatClampNeg x
def inb (i : Int32) (n : Nat) : Bool := decide (¬ (i < 0 ∨ n ≤ i.toNatClampNeg))
theorem inb_vp {i : Int32} {n : Nat} (h : inb i n = true) : vp_in i n := by
  unfold vp_in
  exact of_decide_eq_true h
def bI (b : Bool) : Int32 := if b = true then 1 else 0
-- the kind of a cell: an object (its class by number, its fields: 0 a number, 1 a reference, 2 a reference that is null where the number there is 0, 3 null), or an array (0 int, 1 long, 2 boolean, else of references: which)
abbrev Kd : Type := (Nat × List (Nat × Nat)) ⊕ (Nat × Nat × (Nat → Option Nat))
def nt : Nat → Option Nat := fun _ => none
def fv (ad : Nat → Nat) (w : Wd) (a j : Nat) (d : Nat × Nat) : Value := match d.1 with
  | 0 => .int (w.1 a j)
  | 1 => .ref (ad d.2)
  | 2 => if w.1 a j = 0 then .null else .ref (ad d.2)
  | _ => .null
def fvs (ad : Nat → Nat) (w : Wd) (a : Nat) : Nat → List (Nat × Nat) → List Value
  | _, [] => []
  | j, d :: ds => fv ad w a j d :: fvs ad w a (j + 1) ds
def cellOf (ad : Nat → Nat) (cA : Nat → ClassId) (w : Wd) (a : Nat) : Kd → va_E
  | .inl (ci, ds) => .inr (ci, fvs ad w a 0 ds)
  | .inr (0, n, _) => .inl (cA 0, n, .inl (w.1 a))
  | .inr (1, n, _) => .inl (cA 1, n, .inr (.inl (w.2 a)))
  | .inr (2, n, _) => .inl (cA 2, n, .inl (w.1 a))
  | .inr (k, n, t) => .inl (cA k, n, .inr (.inr (.inr (.inr (fun i => (t i).map ad)))))
def cv (ad : Nat → Nat) : Value → Value
  | .ref a => .ref (ad a)
  | v => v
theorem fvs_get (ad : Nat → Nat) (w : Wd) (a : Nat) : ∀ (ds : List (Nat × Nat)) (j k : Nat) (d : Nat × Nat), ds[k]? = some d → (fvs ad w a j ds)[k]? = some (fv ad w a (j + k) d)
  | [], _, _, _, h => by simp at h
  | e :: ds, j, 0, d, h => by
    simp at h
    subst h
    rfl
  | e :: ds, j, k + 1, d, h => by
    simp only [List.getElem?_cons_succ] at h
    have := fvs_get ad w a ds (j + 1) k d h
    show (fvs ad w a (j + 1) ds)[k]? = _
    rw [this]
    congr 2
    omega
theorem fvs_len (ad : Nat → Nat) (w : Wd) (a : Nat) : ∀ (ds : List (Nat × Nat)) (j : Nat), (fvs ad w a j ds).length = ds.length
  | [], _ => rfl
  | e :: ds, j => by show (fvs ad w a (j + 1) ds).length + 1 = _; rw [fvs_len ad w a ds (j + 1)]; rfl
theorem fvs_ext {ad : Nat → Nat} {w w' : Wd} {a a' : Nat} : ∀ (ds : List (Nat × Nat)) (j : Nat), (∀ k d, ds[k]? = some d → fv ad w a (j + k) d = fv ad w' a' (j + k) d) → fvs ad w a j ds = fvs ad w' a' j ds
  | [], _, _ => rfl
  | e :: ds, j, h => by
    have h0 : fv ad w a j e = fv ad w' a' j e := h 0 e rfl
    have h1 : fvs ad w a (j + 1) ds = fvs ad w' a' (j + 1) ds := fvs_ext ds (j + 1) (fun k d hk => by
      have h2 := h (k + 1) d hk
      rw [show j + (k + 1) = j + 1 + k by omega] at h2
      exact h2)
    show fv ad w a j e :: fvs ad w a (j + 1) ds = fv ad w' a' j e :: fvs ad w' a' (j + 1) ds
    rw [h0, h1]
-- the words that every method has
def gtbl : List Cond := lw_tbl.filter goodWord
theorem gq {w : Cond} (h : w ∈ lw_tbl) (g : goodWord w = true) : w ∈ gtbl := List.mem_filter.mpr ⟨h, g⟩
theorem gt_tbl {w : Cond} (h : w ∈ gtbl) : w ∈ lw_tbl := (List.mem_filter.mp h).1
theorem gt_good {w : Cond} (h : w ∈ gtbl) : (w.onTables && w.keeps) = true ∨ ∃ ty, w = .arrayClass ty := good_of_word (List.mem_filter.mp h).2
theorem gq_s {w : Cond} (i : Nat) (h : (k2_sels lw_privs)[i]? = some w) (g : goodWord w = true) : w ∈ gtbl := gq (List.mem_append_left _ (List.mem_of_getElem? h)) g
theorem gq_t {w : Cond} (i : Nat) (h : tables_1[i]? = some w) (g : goodWord w = true) : w ∈ gtbl := gq (List.mem_append_right _ (List.mem_of_getElem? h)) g
def wsM (y : MethodName) (b : ByteArray) (n : Nat) (r : Option FieldType) : List Cond := .code y b n r :: gtbl
theorem good_gtbl {Ts : List Cond} (hsub : ∀ w ∈ gtbl, w ∈ Ts) {y : MethodName} {b : ByteArray} {n : Nat} {r : Option FieldType} (hc : Cond.code y b n r ∈ gtbl) : GoodIn Ts (wsM y b n r) := by
  intro w hw
  rcases List.mem_cons.mp hw with rfl | h
  · exact ⟨hsub _ hc, gt_good hc⟩
  · exact ⟨hsub _ h, gt_good h⟩
theorem good_list {Ts : List Cond} (hsub : ∀ w ∈ gtbl, w ∈ Ts) (l : List Cond) (h : ∀ w ∈ l, w ∈ gtbl) : GoodIn Ts l := fun w hw => ⟨hsub _ (h w hw), gt_good (h w hw)⟩
-- the room of a method whose calls go at most d deep
def rmD (d : Nat) : Room := { frames := d, cells := 0, slots := 0, locals := 60 * d }
-- what stands still while a method runs
abbrev KS : Type := (Nat → Nat) × va_G × (Nat → ClassId) × (Nat → Prop) × (Nat → Kd) × ((Nat → Prop) → State → Heap → Prop)
abbrev KT : Type := (Program × Launch × Env × Room × State × MethodId × Array Value × List Frame) × (Method × Code × (State → Prop) × Nat × Nat) × KS × (Nat → Prop) × Heap
def KT.p (K : KT) : Program := K.1.1
def KT.l (K : KT) : Launch := K.1.2.1
def KT.e (K : KT) : Env := K.1.2.2.1
def KT.R (K : KT) : Room := K.1.2.2.2.1
def KT.s (K : KT) : State := K.1.2.2.2.2.1
def KT.m (K : KT) : MethodId := K.1.2.2.2.2.2.1
def KT.args (K : KT) : Array Value := K.1.2.2.2.2.2.2.1
def KT.below (K : KT) : List Frame := K.1.2.2.2.2.2.2.2
def KT.meth (K : KT) : Method := K.2.1.1
def KT.c (K : KT) : Code := K.2.1.2.1
def KT.Q (K : KT) : State → Prop := K.2.1.2.2.1
def KT.cells (K : KT) : Nat := K.2.1.2.2.2.1
def KT.slots (K : KT) : Nat := K.2.1.2.2.2.2
def KT.ks (K : KT) : KS := K.2.2.1
def KT.A (K : KT) : Nat → Prop := K.2.2.2.1
def KT.H0 (K : KT) : Heap := K.2.2.2.2
def KS.ad (S : KS) : Nat → Nat := S.1
def KS.G (S : KS) : va_G := S.2.1
def KS.cA (S : KS) : Nat → ClassId := S.2.2.1
def KS.D (S : KS) : Nat → Prop := S.2.2.2.1
def KS.kd (S : KS) : Nat → Kd := S.2.2.2.2.1
/-- what else is known of the heap outside this world (constants, statics), and that it stays -/
def KS.X (S : KS) : (Nat → Prop) → State → Heap → Prop := S.2.2.2.2.2
def XF (A : Nat → Prop) (U : State) (H : Heap) : Prop := va_Z "java/lang/String" "COMPACT_STRINGS" "Z" (.int 1) A U H ∧ ∃ (adK adV : Nat → Nat), vk_S 1 [12] [[104, 115, 112, 116, 100, 107, 111, 119, 102, 99, 109, 117]] adK adV A U H ∧ vk_R RX4 187 "hsptdkowfcmu" (adK 0) U
def Stb (S : KS) : Prop := ∀ (A A' : Nat → Prop) (s U : State) (H H' : Heap), S.X A s H → s.WarmedH U.vm → (∀ q, A' q → A q) → (∀ a : Nat, a < H.size → ¬ A a → H'[a]? = H[a]?) → S.X A' U H'
def tysK (cA : Nat → ClassId) : List (ClassId × FieldType) := [(cA 0, .int), (cA 1, .long), (cA 2, .boolean), (cA 3, .object "LowFall$Line"), (cA 4, .object "LowFall$Tape"), (cA 5, .array .int)]
def HH (S : KS) (w : Wd) (H : Heap) : Prop := ∀ k, S.D k → va_at S.G vwCl (S.ad k, cellOf S.ad S.cA w k (S.kd k)) H
def Inj (S : KS) : Prop := (∀ j k, S.D j → S.D k → S.ad j = S.ad k → j = k) ∧ Stb S
def nestQ : List (String × Nat × MethodName × String) := [(RX0, 11, yX2_init, RX11), (RX0, 20, yX10_init, RX11), (RX0, 27, yX3_init, RX11), (RX0, 34, yX6_init, RX11), (RX0, 70, yX5_init, RX11), (RX11, 18, yX1_init, RX11), (RX11, 25, yX9_init, RX11), (RX11, 32, yX7_init, RX11), (RX11, 39, yX4_init, RX11), (RX11, 67, yX8_init, RX11), (RX7, 38, yX11_isCell, RX11), (RX7, 54, yX11_near, RX11), (RX7, 60, yX11_beside, RX11), (RX5, 50, yX11_copyRow, RX11), (RX1, 130, yX11_isCell, RX11), (RX0, 142, yX11_beside, RX11), (RX1, 228, yX11_beside, RX11), (RX1, 222, yX11_near, RX11), (RX4, 183, yX11_within, RX11), (RX2, 51, yX11_copyRow, RX11), (RX10, 52, yX11_copyRow, RX11), (RX3, 48, yX11_copyRow, RX11), (RX6, 28, yX11_copyRow, RX11), (RX8, 26, yX11_within, RX11), (RX0, 156, yX11_sumOf, RX11)]
def NK (U : State) : Prop := ∀ q ∈ nestQ, va_Nw (.methodLinkNest q.1 q.2.1 q.2.2.1 q.2.2.2) U
def KK (S : KS) (A : Nat → Prop) (U : State) (H : Heap) : Prop := va_K S.G vwCl (tysK S.cA) U ∧ NK U ∧ S.X A U H ∧ H = U.heap
def AA (S : KS) (sz : Nat) : Nat → Prop := fun q => (∃ k, S.D k ∧ q = S.ad k) ∨ sz ≤ q
def KD (S : KS) (a : Nat) (d : Kd) : Prop := S.D a ∧ S.kd a = d
def LH (K : KT) (ls : Array Slot) (lv : List (Option Value)) : Prop := ls.size = K.c.maxLocals ∧ lv_wf ls ∧ ∀ (i : Nat) (v : Value), lv[i]? = some (some v) → ls[i]? = some (.val (cv K.ks.ad v))
def XW (K : KT) (pc : Nat) (lv : List (Option Value)) (st : List Value) (w : Wd) : Prop :=
  ∀ (H : Heap) (locs : List Loc) (ls : Array Slot), HH K.ks w H → va_S K.A K.H0 H locs → LH K ls lv → W K.p K.l K.e K.R K.s K.m K.args K.below K.meth K.c H locs K.cells K.slots K.Q (F0 K.m pc ls (st.map (cv K.ks.ad)))
def GK (K : KT) (cc : ByteArray) (own : String) (nL d : Nat) : Prop :=
  K.p.tables.exec = Jvm.exec ∧ K.c.code = cc ∧ K.c.maxLocals = nL ∧ K.s.vm.findClass own = some K.m.cls ∧ (∀ w ∈ gtbl, w.before K.args K.s = true) ∧ KK K.ks K.A K.s K.H0 ∧ Inj K.ks ∧ (∀ k, K.ks.D k → K.A (K.ks.ad k)) ∧ (∀ q, K.H0.size ≤ q → K.A q) ∧ K.meth.locks = false ∧ (d ≤ K.R.frames ∧ 60 * d ≤ K.R.locals ∧ K.cells ≤ K.R.cells ∧ K.slots ≤ K.R.slots)
section ROWS
variable {K : KT} {cc : ByteArray} {own : String} {nL d pc : Nat} {lv : List (Option Value)} {st : List Value} {w : Wd}
theorem x_iconst (G : GK K cc own nL d) {n : Int} {v : Int32} (hd : decode cc pc = .ok (.iconst n, 1)) (hv : Int32.ofInt n = v) (k : XW K (pc + 1) lv (.int v :: st) w) : XW K pc lv st w := fun H locs ls hH hS hL => lv_iconst G.1 G.2.1 hd hv (k H locs ls hH hS hL)
theorem x_bipush (G : GK K cc own nL d) {n : Int} {v : Int32} (hd : decode cc pc = .ok (.bipush n, 2)) (hv : (Int8.ofInt n).toInt32 = v) (k : XW K (pc + 2) lv (.int v :: st) w) : XW K pc lv st w := fun H locs ls hH hS hL => lv_bipush G.1 G.2.1 hd hv (k H locs ls hH hS hL)
theorem x_sipush (G : GK K cc own nL d) {n : Int} {v : Int32} (hd : decode cc pc = .ok (.sipush n, 3)) (hv : (Int16.ofInt n).toInt32 = v) (k : XW K (pc + 3) lv (.int v :: st) w) : XW K pc lv st w := fun H locs ls hH hS hL => lv_sipush G.1 G.2.1 hd hv (k H locs ls hH hS hL)
theorem x_lconst (G : GK K cc own nL d) {n : Fin 2} {v : Int64} (hd : decode cc pc = .ok (.lconst n, 1)) (hv : Int64.ofNat (n : Nat) = v) (k : XW K (pc + 1) lv (.long v :: st) w) : XW K pc lv st w := fun H locs ls hH hS hL => lv_lconst G.1 G.2.1 hd hv (k H locs ls hH hS hL)
theorem x_null (G : GK K cc own nL d) (hd : decode cc pc = .ok (.aconst_null, 1)) (k : XW K (pc + 1) lv (.null :: st) w) : XW K pc lv st w := fun H locs ls hH hS hL => lv_null G.1 G.2.1 hd (k H locs ls hH hS hL)
theorem x_iload_n (G : GK K cc own nL d) {k : Fin 4} {i : Nat} {x : Int32} (hd : decode cc pc = .ok (.iload_n k, 1)) (hi : (k : Nat) = i) (hl : lv[i]? = some (some (.int x))) (k : XW K (pc + 1) lv (.int x :: st) w) : XW K pc lv st w := fun H locs ls hH hS hL => lv_iload_n G.1 G.2.1 hd hi (hL.2.2 i _ hl) (k H locs ls hH hS hL)
theorem x_iload (G : GK K cc own nL d) {i : Nat} {x : Int32} (hd : decode cc pc = .ok (.iload i, 2)) (hl : lv[i]? = some (some (.int x))) (k : XW K (pc + 2) lv (.int x :: st) w) : XW K pc lv st w := fun H locs ls hH hS hL => lv_iload G.1 G.2.1 hd (hL.2.2 i _ hl) (k H locs ls hH hS hL)
theorem x_lload_n (G : GK K cc own nL d) {k : Fin 4} {i : Nat} {x : Int64} (hd : decode cc pc = .ok (.lload_n k, 1)) (hi : (k : Nat) = i) (hl : lv[i]? = some (some (.long x))) (k : XW K (pc + 1) lv (.long x :: st) w) : XW K pc lv st w := fun H locs ls hH hS hL => lv_lload_n G.1 G.2.1 hd hi (hL.2.2 i _ hl) (k H locs ls hH hS hL)
theorem x_lload (G : GK K cc own nL d) {i : Nat} {x : Int64} (hd : decode cc pc = .ok (.lload i, 2)) (hl : lv[i]? = some (some (.long x))) (k : XW K (pc + 2) lv (.long x :: st) w) : XW K pc lv st w := fun H locs ls hH hS hL => lv_lload G.1 G.2.1 hd (hL.2.2 i _ hl) (k H locs ls hH hS hL)
theorem x_aload_n (G : GK K cc own nL d) {k : Fin 4} {i a : Nat} (hd : decode cc pc = .ok (.aload_n k, 1)) (hi : (k : Nat) = i) (hl : lv[i]? = some (some (.ref a))) (k : XW K (pc + 1) lv (.ref a :: st) w) : XW K pc lv st w := fun H locs ls hH hS hL => lv_aload_n G.1 G.2.1 hd hi (hL.2.2 i _ hl) (k H locs ls hH hS hL)
theorem x_aload (G : GK K cc own nL d) {i a : Nat} (hd : decode cc pc = .ok (.aload i, 2)) (hl : lv[i]? = some (some (.ref a))) (k : XW K (pc + 2) lv (.ref a :: st) w) : XW K pc lv st w := fun H locs ls hH hS hL => lv_aload G.1 G.2.1 hd (hL.2.2 i _ hl) (k H locs ls hH hS hL)
theorem x_iadd (G : GK K cc own nL d) {x y : Int32} (hd : decode cc pc = .ok (.iadd, 1)) (k : XW K (pc + 1) lv (.int (x + y) :: st) w) : XW K pc lv (.int y :: .int x :: st) w := fun H locs ls hH hS hL => lv_iadd G.1 G.2.1 hd (k H locs ls hH hS hL)
theorem x_isub (G : GK K cc own nL d) {x y : Int32} (hd : decode cc pc = .ok (.isub, 1)) (k : XW K (pc + 1) lv (.int (x - y) :: st) w) : XW K pc lv (.int y :: .int x :: st) w := fun H locs ls hH hS hL => lv_isub G.1 G.2.1 hd (k H locs ls hH hS hL)
theorem x_imul (G : GK K cc own nL d) {x y : Int32} (hd : decode cc pc = .ok (.imul, 1)) (k : XW K (pc + 1) lv (.int (x * y) :: st) w) : XW K pc lv (.int y :: .int x :: st) w := fun H locs ls hH hS hL => lv_imul G.1 G.2.1 hd (k H locs ls hH hS hL)
theorem x_iand (G : GK K cc own nL d) {x y : Int32} (hd : decode cc pc = .ok (.iand, 1)) (k : XW K (pc + 1) lv (.int (x &&& y) :: st) w) : XW K pc lv (.int y :: .int x :: st) w := fun H locs ls hH hS hL => lv_iand G.1 G.2.1 hd (k H locs ls hH hS hL)
theorem x_ior (G : GK K cc own nL d) {x y : Int32} (hd : decode cc pc = .ok (.ior, 1)) (k : XW K (pc + 1) lv (.int (x ||| y) :: st) w) : XW K pc lv (.int y :: .int x :: st) w := fun H locs ls hH hS hL => lv_ior G.1 G.2.1 hd (k H locs ls hH hS hL)
theorem x_ishl (G : GK K cc own nL d) {x y : Int32} (hd : decode cc pc = .ok (.ishl, 1)) (k : XW K (pc + 1) lv (.int (x <<< (y &&& 31)) :: st) w) : XW K pc lv (.int y :: .int x :: st) w := fun H locs ls hH hS hL => lv_ishl G.1 G.2.1 hd (k H locs ls hH hS hL)
theorem x_ishr (G : GK K cc own nL d) {x y : Int32} (hd : decode cc pc = .ok (.ishr, 1)) (k : XW K (pc + 1) lv (.int (x >>> (y &&& 31)) :: st) w) : XW K pc lv (.int y :: .int x :: st) w := fun H locs ls hH hS hL => lv_ishr G.1 G.2.1 hd (k H locs ls hH hS hL)
theorem x_idiv (G : GK K cc own nL d) {x y : Int32} (hd : decode cc pc = .ok (.idiv, 1)) (hn : ¬ y = 0) (k : XW K (pc + 1) lv (.int (x / y) :: st) w) : XW K pc lv (.int y :: .int x :: st) w := fun H locs ls hH hS hL => lv_idiv G.1 G.2.1 hd hn (k H locs ls hH hS hL)
theorem x_irem (G : GK K cc own nL d) {x y : Int32} (hd : decode cc pc = .ok (.irem, 1)) (hn : ¬ y = 0) (k : XW K (pc + 1) lv (.int (x - x / y * y) :: st) w) : XW K pc lv (.int y :: .int x :: st) w := fun H locs ls hH hS hL => lv_irem G.1 G.2.1 hd hn (k H locs ls hH hS hL)
theorem x_ineg (G : GK K cc own nL d) {x : Int32} (hd : decode cc pc = .ok (.ineg, 1)) (k : XW K (pc + 1) lv (.int (-x) :: st) w) : XW K pc lv (.int x :: st) w := fun H locs ls hH hS hL => lv_ineg G.1 G.2.1 hd (k H locs ls hH hS hL)
theorem x_ladd (G : GK K cc own nL d) {x y : Int64} (hd : decode cc pc = .ok (.ladd, 1)) (k : XW K (pc + 1) lv (.long (x + y) :: st) w) : XW K pc lv (.long y :: .long x :: st) w := fun H locs ls hH hS hL => lv_ladd G.1 G.2.1 hd (k H locs ls hH hS hL)
theorem x_lsub (G : GK K cc own nL d) {x y : Int64} (hd : decode cc pc = .ok (.lsub, 1)) (k : XW K (pc + 1) lv (.long (x - y) :: st) w) : XW K pc lv (.long y :: .long x :: st) w := fun H locs ls hH hS hL => lv_lsub G.1 G.2.1 hd (k H locs ls hH hS hL)
theorem x_lmul (G : GK K cc own nL d) {x y : Int64} (hd : decode cc pc = .ok (.lmul, 1)) (k : XW K (pc + 1) lv (.long (x * y) :: st) w) : XW K pc lv (.long y :: .long x :: st) w := fun H locs ls hH hS hL => lv_lmul G.1 G.2.1 hd (k H locs ls hH hS hL)
theorem x_land (G : GK K cc own nL d) {x y : Int64} (hd : decode cc pc = .ok (.land, 1)) (k : XW K (pc + 1) lv (.long (x &&& y) :: st) w) : XW K pc lv (.long y :: .long x :: st) w := fun H locs ls hH hS hL => lv_land G.1 G.2.1 hd (k H locs ls hH hS hL)
theorem x_lor (G : GK K cc own nL d) {x y : Int64} (hd : decode cc pc = .ok (.lor, 1)) (k : XW K (pc + 1) lv (.long (x ||| y) :: st) w) : XW K pc lv (.long y :: .long x :: st) w := fun H locs ls hH hS hL => lv_lor G.1 G.2.1 hd (k H locs ls hH hS hL)
theorem x_ldiv (G : GK K cc own nL d) {x y : Int64} (hd : decode cc pc = .ok (.ldiv, 1)) (hn : ¬ y = 0) (k : XW K (pc + 1) lv (.long (x / y) :: st) w) : XW K pc lv (.long y :: .long x :: st) w := fun H locs ls hH hS hL => lv_ldiv G.1 G.2.1 hd hn (k H locs ls hH hS hL)
theorem x_lrem (G : GK K cc own nL d) {x y : Int64} (hd : decode cc pc = .ok (.lrem, 1)) (hn : ¬ y = 0) (k : XW K (pc + 1) lv (.long (x - x / y * y) :: st) w) : XW K pc lv (.long y :: .long x :: st) w := fun H locs ls hH hS hL => lv_lrem G.1 G.2.1 hd hn (k H locs ls hH hS hL)
theorem x_lneg (G : GK K cc own nL d) {x : Int64} (hd : decode cc pc = .ok (.lneg, 1)) (k : XW K (pc + 1) lv (.long (-x) :: st) w) : XW K pc lv (.long x :: st) w := fun H locs ls hH hS hL => lv_lneg G.1 G.2.1 hd (k H locs ls hH hS hL)
theorem x_lshl (G : GK K cc own nL d) {x : Int64} {y : Int32} (hd : decode cc pc = .ok (.lshl, 1)) (k : XW K (pc + 1) lv (.long (x <<< (y.toInt64 &&& 63)) :: st) w) : XW K pc lv (.int y :: .long x :: st) w := fun H locs ls hH hS hL => lv_lshl G.1 G.2.1 hd rfl (k H locs ls hH hS hL)
theorem x_i2l (G : GK K cc own nL d) {x : Int32} (hd : decode cc pc = .ok (.i2l, 1)) (k : XW K (pc + 1) lv (.long x.toInt64 :: st) w) : XW K pc lv (.int x :: st) w := fun H locs ls hH hS hL => lv_i2l G.1 G.2.1 hd rfl (k H locs ls hH hS hL)
theorem x_l2i (G : GK K cc own nL d) {x : Int64} (hd : decode cc pc = .ok (.l2i, 1)) (k : XW K (pc + 1) lv (.int x.toInt32 :: st) w) : XW K pc lv (.long x :: st) w := fun H locs ls hH hS hL => lv_l2i G.1 G.2.1 hd rfl (k H locs ls hH hS hL)
theorem x_i2b (G : GK K cc own nL d) {x : Int32} (hd : decode cc pc = .ok (.i2b, 1)) (k : XW K (pc + 1) lv (.int x.toInt8.toInt32 :: st) w) : XW K pc lv (.int x :: st) w := fun H locs ls hH hS hL => lv_i2b G.1 G.2.1 hd rfl (k H locs ls hH hS hL)
theorem x_i2s (G : GK K cc own nL d) {x : Int32} (hd : decode cc pc = .ok (.i2s, 1)) (k : XW K (pc + 1) lv (.int x.toInt16.toInt32 :: st) w) : XW K pc lv (.int x :: st) w := fun H locs ls hH hS hL => lv_i2s G.1 G.2.1 hd rfl (k H locs ls hH hS hL)
theorem x_i2c (G : GK K cc own nL d) {x : Int32} (hd : decode cc pc = .ok (.i2c, 1)) (k : XW K (pc + 1) lv (.int (x.toUInt32 % 65536).toInt32 :: st) w) : XW K pc lv (.int x :: st) w := fun H locs ls hH hS hL => lv_i2c G.1 G.2.1 hd rfl (k H locs ls hH hS hL)
theorem cv_cat (ad : Nat → Nat) (v : Value) : (cv ad v).category = v.category := by cases v <;> rfl
theorem cv_cats (ad : Nat → Nat) (st : List Value) : ((st.map (cv ad)).map fun v => v.category).sum = (st.map fun v => v.category).sum := by
  rw [List.map_map]
  congr 1
  apply List.map_congr_left
  intro v _
  exact cv_cat ad v
theorem x_dup (G : GK K cc own nL d) {v : Value} (hd : decode cc pc = .ok (.dup, 1)) (hc : v.category = 1) (k : XW K (pc + 1) lv (v :: v :: st) w) : XW K pc lv (v :: st) w := fun H locs ls hH hS hL => lv_dup G.1 G.2.1 hd ((cv_cat _ _).trans hc) (k H locs ls hH hS hL)
theorem x_dup2 (G : GK K cc own nL d) {v u : Value} (hd : decode cc pc = .ok (.dup2, 1)) (hc : v.category = 1) (hu : u.category = 1) (k : XW K (pc + 1) lv (v :: u :: v :: u :: st) w) : XW K pc lv (v :: u :: st) w := fun H locs ls hH hS hL => lv_dup2_11 G.1 G.2.1 hd ((cv_cat _ _).trans hc) ((cv_cat _ _).trans hu) (k H locs ls hH hS hL)
theorem x_pop (G : GK K cc own nL d) {v : Value} (hd : decode cc pc = .ok (.pop, 1)) (hc : v.category = 1) (k : XW K (pc + 1) lv st w) : XW K pc lv (v :: st) w := fun H locs ls hH hS hL => lv_pop G.1 G.2.1 hd ((cv_cat _ _).trans hc) (k H locs ls hH hS hL)
theorem x_lcmp (G : GK K cc own nL d) {x y : Int64} (hd : decode cc pc = .ok (.lcmp, 1)) (k : XW K (pc + 1) lv (.int (lg_cmp x y) :: st) w) : XW K pc lv (.long y :: .long x :: st) w := fun H locs ls hH hS hL => W.lcmp G.1 G.2.1 hd (k H locs ls hH hS hL)
theorem x_goto (G : GK K cc own nL d) {off : Int} {tgt : Nat} (hd : decode cc pc = .ok (.goto off, 3)) (ht : (pc : Int) + off = (tgt : Int)) (k : XW K tgt lv st w) : XW K pc lv st w := fun H locs ls hH hS hL => lv_goto G.1 G.2.1 hd ht (k H locs ls hH hS hL)
theorem x_ldc (G : GK K cc own nL d) {i : Nat} {v : Int32} (hq : Cond.constant own i v ∈ gtbl) (hd : decode cc pc = .ok (.ldc i, 2)) (k : XW K (pc + 2) lv (.int v :: st) w) : XW K pc lv st w := fun H locs ls hH hS hL => lv_ldc G.1 G.2.1 G.2.2.2.1 (G.2.2.2.2.1 _ hq) hd (k H locs ls hH hS hL)
theorem x_ldcw (G : GK K cc own nL d) {i : Nat} {v : Int32} (hq : Cond.constant own i v ∈ gtbl) (hd : decode cc pc = .ok (.ldc_w i, 3)) (k : XW K (pc + 3) lv (.int v :: st) w) : XW K pc lv st w := fun H locs ls hH hS hL => lv_ldcw G.1 G.2.1 G.2.2.2.1 (G.2.2.2.2.1 _ hq) hd (k H locs ls hH hS hL)
theorem x_ldc2 (G : GK K cc own nL d) {i : Nat} {v : Int64} (hq : Cond.constantLong own i v ∈ gtbl) (hd : decode cc pc = .ok (.ldc2_w i, 3)) (k : XW K (pc + 3) lv (.long v :: st) w) : XW K pc lv st w := fun H locs ls hH hS hL => lv_ldc2 G.1 G.2.1 G.2.2.2.1 (G.2.2.2.2.1 _ hq) hd (k H locs ls hH hS hL)
end ROWS
