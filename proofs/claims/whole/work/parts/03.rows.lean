-- locals: a list, a place a slot
def okst (lv : List (Option Value)) (i : Nat) : Bool := match i with
  | 0 => true
  | j + 1 => match lv[j]? with
    | some (some v) => decide (v.category = 1)
    | _ => true
def toL : Nat → List (Option Value) → List (Nat × Value)
  | _, [] => []
  | i, none :: r => toL (i + 1) r
  | i, some v :: r => (i, v) :: toL (i + 1) r
theorem toL_mem : ∀ (lv : List (Option Value)) (n : Nat) (q : Nat × Value), q ∈ toL n lv ↔ ∃ i, q.1 = n + i ∧ lv[i]? = some (some q.2)
  | [], n, q => by simp [toL]
  | none :: r, n, q => by
    rw [show toL n (none :: r) = toL (n + 1) r from rfl, toL_mem r (n + 1) q]
    constructor
    · rintro ⟨i, h1, h2⟩
      exact ⟨i + 1, by omega, by simpa using h2⟩
    · rintro ⟨i, h1, h2⟩
      cases i with
      | zero => simp at h2
      | succ i => exact ⟨i, by omega, by simpa using h2⟩
  | some v :: r, n, q => by
    rw [show toL n (some v :: r) = (n, v) :: toL (n + 1) r from rfl, List.mem_cons, toL_mem r (n + 1) q]
    constructor
    · rintro (h | ⟨i, h1, h2⟩)
      · subst h
        exact ⟨0, by simp, by simp⟩
      · exact ⟨i + 1, by omega, by simpa using h2⟩
    · rintro ⟨i, h1, h2⟩
      cases i with
      | zero =>
        left
        simp at h2
        obtain ⟨a, b⟩ := q
        simp at h1 h2
        subst h1 h2
        rfl
      | succ i => exact Or.inr ⟨i, by omega, by simpa using h2⟩
def cvL (ad : Nat → Nat) (lv : List (Option Value)) : List (Nat × Value) := toL 0 (lv.map (Option.map (cv ad)))
theorem cvL_mem {ad : Nat → Nat} {lv : List (Option Value)} {q : Nat × Value} : q ∈ cvL ad lv ↔ ∃ v, lv[q.1]? = some (some v) ∧ q.2 = cv ad v := by
  unfold cvL
  rw [toL_mem]
  constructor
  · rintro ⟨i, h1, h2⟩
    rw [Nat.zero_add] at h1
    rw [← h1, List.getElem?_map] at h2
    cases h : lv[q.1]? with
    | none => rw [h] at h2; simp at h2
    | some o =>
      rw [h] at h2
      cases o with
      | none => simp at h2
      | some v => simp at h2; exact ⟨v, rfl, h2.symm⟩
  · rintro ⟨v, h1, h2⟩
    refine ⟨q.1, by omega, ?_⟩
    rw [List.getElem?_map, h1, h2]
    rfl
theorem LH.has {K : KT} {ls : Array Slot} {lv : List (Option Value)} (h : LH K ls lv) : lv_has ls K.c.maxLocals (cvL K.ks.ad lv) := by
  refine ⟨h.1, h.2.1, fun q hq => ?_⟩
  obtain ⟨v, h1, h2⟩ := cvL_mem.mp hq
  rw [h2]
  exact h.2.2 _ _ h1
theorem LH.of {K : KT} {ls : Array Slot} {lv : List (Option Value)} {l : List (Nat × Value)} (h : lv_has ls K.c.maxLocals l) (hl : ∀ (i : Nat) (v : Value), lv[i]? = some (some v) → (i, cv K.ks.ad v) ∈ l) : LH K ls lv := ⟨h.1, h.2.1, fun i v hv => h.2.2 _ (hl i v hv)⟩
theorem okst_no {lv : List (Option Value)} {i j : Nat} (h : okst lv i = true) {v : Value} (hj : j + 1 = i) (hv : lv[j]? = some (some v)) : v.category = 1 := by
  subst hj
  simp only [okst, hv, decide_eq_true_eq] at h
  exact h
theorem LH.set1 {K : KT} {ls' : Array Slot} {lv lv' : List (Option Value)} {i : Nat} {v : Value} (hc : okst lv i = true) (he : lv.set i (some v) = lv') (h : lv_has ls' K.c.maxLocals ((i, cv K.ks.ad v) :: (cvL K.ks.ad lv).filter (fun q => !(q.1 == i) && !(q.1 + 1 == i && q.2.category == 2)))) : LH K ls' lv' := by
  subst he
  refine LH.of h fun j u hj => ?_
  by_cases e : j = i
  · subst e
    have hl : j < lv.length := by
      have := (List.getElem?_eq_some_iff.mp hj).1
      simpa using this
    rw [List.getElem?_set_self hl] at hj
    cases hj
    exact List.mem_cons_self
  · rw [List.getElem?_set_ne (Ne.symm e)] at hj
    refine List.mem_cons_of_mem _ (List.mem_filter.mpr ⟨cvL_mem.mpr ⟨u, hj, rfl⟩, ?_⟩)
    have h1 : (j == i) = false := by simpa using e
    by_cases e2 : j + 1 = i
    · have := okst_no hc e2 hj
      simp [h1, cv_cat, this]
    · simp [h1, e2]
theorem LH.set2 {K : KT} {ls' : Array Slot} {lv lv' : List (Option Value)} {i : Nat} {v : Value} (hc : okst lv i = true) (he : (lv.set i (some v)).set (i + 1) none = lv') (h : lv_has ls' K.c.maxLocals ((i, cv K.ks.ad v) :: (cvL K.ks.ad lv).filter (fun q => !(q.1 == i) && (!(q.1 == i + 1) && !(q.1 + 1 == i && q.2.category == 2))))) : LH K ls' lv' := by
  subst he
  refine LH.of h fun j u hj => ?_
  by_cases e1 : j = i + 1
  · subst e1
    have hl := (List.getElem?_eq_some_iff.mp hj).1
    simp only [List.length_set] at hl
    rw [List.getElem?_set_self (by simpa using hl)] at hj
    simp at hj
  rw [List.getElem?_set_ne (Ne.symm e1)] at hj
  by_cases e : j = i
  · subst e
    have hl : j < lv.length := by
      have := (List.getElem?_eq_some_iff.mp hj).1
      simpa using this
    rw [List.getElem?_set_self hl] at hj
    cases hj
    exact List.mem_cons_self
  · rw [List.getElem?_set_ne (Ne.symm e)] at hj
    refine List.mem_cons_of_mem _ (List.mem_filter.mpr ⟨cvL_mem.mpr ⟨u, hj, rfl⟩, ?_⟩)
    have h1 : (j == i) = false := by simpa using e
    have h3 : (j == i + 1) = false := by simpa using e1
    by_cases e2 : j + 1 = i
    · have := okst_no hc e2 hj
      simp [h1, h3, cv_cat, this]
    · simp [h1, h3, e2]
def lsub : List (Option Value) → List (Option Value) → Prop
  | [], _ => True
  | none :: r, l => lsub r l.tail
  | some v :: r, l => l.head? = some (some v) ∧ lsub r l.tail
theorem lsub_get : ∀ (a b : List (Option Value)), lsub a b → ∀ (i : Nat) (v : Value), a[i]? = some (some v) → b[i]? = some (some v)
  | [], _, _, i, v, h => by simp at h
  | none :: r, l, hs, i, v, h => by
    cases i with
    | zero => simp at h
    | succ i =>
      have := lsub_get r l.tail hs i v (by simpa using h)
      simpa using this
  | some u :: r, l, hs, i, v, h => by
    cases i with
    | zero =>
      simp at h
      subst h
      have := hs.1
      cases l with
      | nil => simp at this
      | cons x xs => simpa using this
    | succ i =>
      have := lsub_get r l.tail hs.2 i v (by simpa using h)
      simpa using this
section ROWS2
variable {K : KT} {cc : ByteArray} {own : String} {nL d pc : Nat} {lv lv' : List (Option Value)} {st : List Value} {w : Wd} {α : Type} {r : α}
theorem XW.sub (h : lsub lv' lv) (k : XW K pc lv' st w) : XW K pc lv st w := fun H locs ls hH hS hL => k H locs ls hH hS ⟨hL.1, hL.2.1, fun i v hv => hL.2.2 i v (lsub_get _ _ h i v hv)⟩
theorem x_istore_n (G : GK K cc own nL d) {k : Fin 4} {i : Nat} {x : Int32} (hd : decode cc pc = .ok (.istore_n k, 1)) (hi : (k : Nat) = i) (hn : Nat.blt i nL = true) (hc : okst lv i = true) (he : lv.set i (some (.int x)) = lv') (k : XW K (pc + 1) lv' st w) : XW K pc lv (.int x :: st) w := fun H locs ls hH hS hL => lv_istore_n G.1 G.2.1 hd hi hL.has (by rw [G.2.2.1]; exact Nat.le_of_ble_eq_true hn) rfl (fun ls' h' => k H locs ls' hH hS (LH.set1 hc he h'))
theorem x_istore (G : GK K cc own nL d) {i : Nat} {x : Int32} (hd : decode cc pc = .ok (.istore i, 2)) (hn : Nat.blt i nL = true) (hc : okst lv i = true) (he : lv.set i (some (.int x)) = lv') (k : XW K (pc + 2) lv' st w) : XW K pc lv (.int x :: st) w := fun H locs ls hH hS hL => lv_istore G.1 G.2.1 hd hL.has (by rw [G.2.2.1]; exact Nat.le_of_ble_eq_true hn) rfl (fun ls' h' => k H locs ls' hH hS (LH.set1 hc he h'))
theorem x_astore_n (G : GK K cc own nL d) {k : Fin 4} {i a : Nat} (hd : decode cc pc = .ok (.astore_n k, 1)) (hi : (k : Nat) = i) (hn : Nat.blt i nL = true) (hc : okst lv i = true) (he : lv.set i (some (.ref a)) = lv') (k : XW K (pc + 1) lv' st w) : XW K pc lv (.ref a :: st) w := fun H locs ls hH hS hL => lv_astore_n G.1 G.2.1 hd hi hL.has (by rw [G.2.2.1]; exact Nat.le_of_ble_eq_true hn) rfl (fun ls' h' => k H locs ls' hH hS (LH.set1 (v := .ref a) hc he h'))
theorem x_astore (G : GK K cc own nL d) {i a : Nat} (hd : decode cc pc = .ok (.astore i, 2)) (hn : Nat.blt i nL = true) (hc : okst lv i = true) (he : lv.set i (some (.ref a)) = lv') (k : XW K (pc + 2) lv' st w) : XW K pc lv (.ref a :: st) w := fun H locs ls hH hS hL => lv_astore G.1 G.2.1 hd hL.has (by rw [G.2.2.1]; exact Nat.le_of_ble_eq_true hn) rfl (fun ls' h' => k H locs ls' hH hS (LH.set1 (v := .ref a) hc he h'))
theorem x_lstore_n (G : GK K cc own nL d) {k : Fin 4} {i : Nat} {x : Int64} (hd : decode cc pc = .ok (.lstore_n k, 1)) (hi : (k : Nat) = i) (hn : Nat.blt (i + 1) nL = true) (hc : okst lv i = true) (he : (lv.set i (some (.long x))).set (i + 1) none = lv') (k : XW K (pc + 1) lv' st w) : XW K pc lv (.long x :: st) w := fun H locs ls hH hS hL => lv_lstore_n G.1 G.2.1 hd hi hL.has (by rw [G.2.2.1]; exact Nat.le_of_ble_eq_true hn) rfl (fun ls' h' => k H locs ls' hH hS (LH.set2 (v := .long x) hc he h'))
theorem x_lstore (G : GK K cc own nL d) {i : Nat} {x : Int64} (hd : decode cc pc = .ok (.lstore i, 2)) (hn : Nat.blt (i + 1) nL = true) (hc : okst lv i = true) (he : (lv.set i (some (.long x))).set (i + 1) none = lv') (k : XW K (pc + 2) lv' st w) : XW K pc lv (.long x :: st) w := fun H locs ls hH hS hL => lv_lstore G.1 G.2.1 hd hL.has (by rw [G.2.2.1]; exact Nat.le_of_ble_eq_true hn) rfl (fun ls' h' => k H locs ls' hH hS (LH.set2 (v := .long x) hc he h'))
theorem x_iinc (G : GK K cc own nL d) {i : Nat} {n : Int} {x v : Int32} (hd : decode cc pc = .ok (.iinc i n, 3)) (hl : lv[i]? = some (some (.int x))) (hv : Int32.ofInt n = v) (hn : Nat.blt i nL = true) (hc : okst lv i = true) (he : lv.set i (some (.int (x + v))) = lv') (k : XW K (pc + 3) lv' st w) : XW K pc lv st w := by
  intro H locs ls hH hS hL
  subst hv
  obtain ⟨kk, hk⟩ := List.getElem?_of_mem (cvL_mem.mpr ⟨_, hl, rfl⟩ : (i, Value.int x) ∈ cvL K.ks.ad lv)
  exact lv_iinc G.1 G.2.1 hd hL.has hk rfl (by rw [G.2.2.1]; exact Nat.le_of_ble_eq_true hn) rfl (fun ls' h' => k H locs ls' hH hS (LH.set1 (v := .int (x + Int32.ofInt n)) hc he h'))
-- branches: the value's own choice goes along ('hf')
theorem x_ifeq (G : GK K cc own nL d) {x : Int32} {off : Int} {tgt : Nat} (hd : decode cc pc = .ok (.ifCond .eq off, 3)) (ht : (pc : Int) + off = (tgt : Int)) {A B : Option α} (hf : (if x = 0 then A else B) = some r) (kt : x = 0 → A = some r → XW K tgt lv st w) (kf : ¬ x = 0 → B = some r → XW K (pc + 3) lv st w) : XW K pc lv (.int x :: st) w := fun H locs ls hH hS hL => lv_if_eq G.1 G.2.1 hd ht (fun c => kt c (by rw [if_pos c] at hf; exact hf) H locs ls hH hS hL) (fun c => kf c (by rw [if_neg c] at hf; exact hf) H locs ls hH hS hL)
theorem x_ifne (G : GK K cc own nL d) {x : Int32} {off : Int} {tgt : Nat} (hd : decode cc pc = .ok (.ifCond .ne off, 3)) (ht : (pc : Int) + off = (tgt : Int)) {A B : Option α} (hf : (if x = 0 then A else B) = some r) (kf : x = 0 → A = some r → XW K (pc + 3) lv st w) (kt : ¬ x = 0 → B = some r → XW K tgt lv st w) : XW K pc lv (.int x :: st) w := fun H locs ls hH hS hL => lv_if_ne G.1 G.2.1 hd ht (fun c => kt c (by rw [if_neg c] at hf; exact hf) H locs ls hH hS hL) (fun c => kf c (by rw [if_pos c] at hf; exact hf) H locs ls hH hS hL)
theorem x_iflt (G : GK K cc own nL d) {x : Int32} {off : Int} {tgt : Nat} (hd : decode cc pc = .ok (.ifCond .lt off, 3)) (ht : (pc : Int) + off = (tgt : Int)) {A B : Option α} (hf : (if x < 0 then A else B) = some r) (kt : x < 0 → A = some r → XW K tgt lv st w) (kf : ¬ x < 0 → B = some r → XW K (pc + 3) lv st w) : XW K pc lv (.int x :: st) w := fun H locs ls hH hS hL => lv_if_lt G.1 G.2.1 hd ht (fun c => kt c (by rw [if_pos c] at hf; exact hf) H locs ls hH hS hL) (fun c => kf c (by rw [if_neg c] at hf; exact hf) H locs ls hH hS hL)
theorem nlt_le {x y : Int32} : ¬ x < y ↔ y ≤ x := by rw [Int32.lt_iff_toInt_lt, Int32.le_iff_toInt_le]; omega
theorem x_ifge (G : GK K cc own nL d) {x : Int32} {off : Int} {tgt : Nat} (hd : decode cc pc = .ok (.ifCond .ge off, 3)) (ht : (pc : Int) + off = (tgt : Int)) {A B : Option α} (hf : (if x < 0 then A else B) = some r) (kf : x < 0 → A = some r → XW K (pc + 3) lv st w) (kt : ¬ x < 0 → B = some r → XW K tgt lv st w) : XW K pc lv (.int x :: st) w := fun H locs ls hH hS hL => lv_if_ge G.1 G.2.1 hd ht (fun c => kt (nlt_le.mpr c) (by rw [if_neg (nlt_le.mpr c)] at hf; exact hf) H locs ls hH hS hL) (fun c => by
  have c2 : x < 0 := Decidable.byContradiction fun q => c (nlt_le.mp q)
  exact kf c2 (by rw [if_pos c2] at hf; exact hf) H locs ls hH hS hL)
theorem x_ifgt (G : GK K cc own nL d) {x : Int32} {off : Int} {tgt : Nat} (hd : decode cc pc = .ok (.ifCond .gt off, 3)) (ht : (pc : Int) + off = (tgt : Int)) {A B : Option α} (hf : (if 0 < x then A else B) = some r) (kt : 0 < x → A = some r → XW K tgt lv st w) (kf : ¬ 0 < x → B = some r → XW K (pc + 3) lv st w) : XW K pc lv (.int x :: st) w := fun H locs ls hH hS hL => lv_if_gt G.1 G.2.1 hd ht (fun c => kt c (by rw [if_pos c] at hf; exact hf) H locs ls hH hS hL) (fun c => kf c (by rw [if_neg c] at hf; exact hf) H locs ls hH hS hL)
theorem x_ifle (G : GK K cc own nL d) {x : Int32} {off : Int} {tgt : Nat} (hd : decode cc pc = .ok (.ifCond .le off, 3)) (ht : (pc : Int) + off = (tgt : Int)) {A B : Option α} (hf : (if 0 < x then A else B) = some r) (kf : 0 < x → A = some r → XW K (pc + 3) lv st w) (kt : ¬ 0 < x → B = some r → XW K tgt lv st w) : XW K pc lv (.int x :: st) w := fun H locs ls hH hS hL => lv_if_le G.1 G.2.1 hd ht (fun c => kt (nlt_le.mpr c) (by rw [if_neg (nlt_le.mpr c)] at hf; exact hf) H locs ls hH hS hL) (fun c => by
  have c2 : 0 < x := Decidable.byContradiction fun q => c (nlt_le.mp q)
  exact kf c2 (by rw [if_pos c2] at hf; exact hf) H locs ls hH hS hL)
theorem x_icmpeq (G : GK K cc own nL d) {x y : Int32} {off : Int} {tgt : Nat} (hd : decode cc pc = .ok (.if_icmp .eq off, 3)) (ht : (pc : Int) + off = (tgt : Int)) {A B : Option α} (hf : (if x = y then A else B) = some r) (kt : x = y → A = some r → XW K tgt lv st w) (kf : ¬ x = y → B = some r → XW K (pc + 3) lv st w) : XW K pc lv (.int y :: .int x :: st) w := fun H locs ls hH hS hL => lv_icmp_eq G.1 G.2.1 hd ht (fun c => kt c (by rw [if_pos c] at hf; exact hf) H locs ls hH hS hL) (fun c => kf c (by rw [if_neg c] at hf; exact hf) H locs ls hH hS hL)
theorem x_icmpne (G : GK K cc own nL d) {x y : Int32} {off : Int} {tgt : Nat} (hd : decode cc pc = .ok (.if_icmp .ne off, 3)) (ht : (pc : Int) + off = (tgt : Int)) {A B : Option α} (hf : (if x = y then A else B) = some r) (kf : x = y → A = some r → XW K (pc + 3) lv st w) (kt : ¬ x = y → B = some r → XW K tgt lv st w) : XW K pc lv (.int y :: .int x :: st) w := fun H locs ls hH hS hL => lv_icmp_ne G.1 G.2.1 hd ht (fun c => kt c (by rw [if_neg c] at hf; exact hf) H locs ls hH hS hL) (fun c => kf c (by rw [if_pos c] at hf; exact hf) H locs ls hH hS hL)
theorem x_icmplt (G : GK K cc own nL d) {x y : Int32} {off : Int} {tgt : Nat} (hd : decode cc pc = .ok (.if_icmp .lt off, 3)) (ht : (pc : Int) + off = (tgt : Int)) {A B : Option α} (hf : (if x < y then A else B) = some r) (kt : x < y → A = some r → XW K tgt lv st w) (kf : ¬ x < y → B = some r → XW K (pc + 3) lv st w) : XW K pc lv (.int y :: .int x :: st) w := fun H locs ls hH hS hL => lv_icmp_lt G.1 G.2.1 hd ht (fun c => kt c (by rw [if_pos c] at hf; exact hf) H locs ls hH hS hL) (fun c => kf c (by rw [if_neg c] at hf; exact hf) H locs ls hH hS hL)
theorem x_icmpge (G : GK K cc own nL d) {x y : Int32} {off : Int} {tgt : Nat} (hd : decode cc pc = .ok (.if_icmp .ge off, 3)) (ht : (pc : Int) + off = (tgt : Int)) {A B : Option α} (hf : (if x < y then A else B) = some r) (kf : x < y → A = some r → XW K (pc + 3) lv st w) (kt : ¬ x < y → B = some r → XW K tgt lv st w) : XW K pc lv (.int y :: .int x :: st) w := fun H locs ls hH hS hL => lv_icmp_ge G.1 G.2.1 hd ht (fun c => kt (nlt_le.mpr c) (by rw [if_neg (nlt_le.mpr c)] at hf; exact hf) H locs ls hH hS hL) (fun c => by
  have c2 : x < y := Decidable.byContradiction fun q => c (nlt_le.mp q)
  exact kf c2 (by rw [if_pos c2] at hf; exact hf) H locs ls hH hS hL)
theorem x_icmpgt (G : GK K cc own nL d) {x y : Int32} {off : Int} {tgt : Nat} (hd : decode cc pc = .ok (.if_icmp .gt off, 3)) (ht : (pc : Int) + off = (tgt : Int)) {A B : Option α} (hf : (if y < x then A else B) = some r) (kt : y < x → A = some r → XW K tgt lv st w) (kf : ¬ y < x → B = some r → XW K (pc + 3) lv st w) : XW K pc lv (.int y :: .int x :: st) w := fun H locs ls hH hS hL => lv_icmp_gt G.1 G.2.1 hd ht (fun c => kt c (by rw [if_pos c] at hf; exact hf) H locs ls hH hS hL) (fun c => kf c (by rw [if_neg c] at hf; exact hf) H locs ls hH hS hL)
theorem x_icmple (G : GK K cc own nL d) {x y : Int32} {off : Int} {tgt : Nat} (hd : decode cc pc = .ok (.if_icmp .le off, 3)) (ht : (pc : Int) + off = (tgt : Int)) {A B : Option α} (hf : (if y < x then A else B) = some r) (kf : y < x → A = some r → XW K (pc + 3) lv st w) (kt : ¬ y < x → B = some r → XW K tgt lv st w) : XW K pc lv (.int y :: .int x :: st) w := fun H locs ls hH hS hL => lv_icmp_le G.1 G.2.1 hd ht (fun c => kt (nlt_le.mpr c) (by rw [if_neg (nlt_le.mpr c)] at hf; exact hf) H locs ls hH hS hL) (fun c => by
  have c2 : y < x := Decidable.byContradiction fun q => c (nlt_le.mp q)
  exact kf c2 (by rw [if_pos c2] at hf; exact hf) H locs ls hH hS hL)
-- a boolean answer
theorem bI_eq {b : Bool} : bI b = 0 ↔ b = false := by cases b <;> simp [bI]
theorem x_ifeqB (G : GK K cc own nL d) {b : Bool} {off : Int} {tgt : Nat} (hd : decode cc pc = .ok (.ifCond .eq off, 3)) (ht : (pc : Int) + off = (tgt : Int)) {A B : Option α} (hf : (if b = true then A else B) = some r) (kf : b = true → A = some r → XW K (pc + 3) lv st w) (kt : b = false → B = some r → XW K tgt lv st w) : XW K pc lv (.int (bI b) :: st) w := fun H locs ls hH hS hL => lv_if_eq G.1 G.2.1 hd ht (fun c => kt (bI_eq.mp c) (by rw [bI_eq.mp c] at hf; exact hf) H locs ls hH hS hL) (fun c => by
  have c2 : b = true := by cases b <;> simp [bI] at c ⊢
  exact kf c2 (by rw [c2] at hf; exact hf) H locs ls hH hS hL)
theorem x_ifneB (G : GK K cc own nL d) {b : Bool} {off : Int} {tgt : Nat} (hd : decode cc pc = .ok (.ifCond .ne off, 3)) (ht : (pc : Int) + off = (tgt : Int)) {A B : Option α} (hf : (if b = true then A else B) = some r) (kt : b = true → A = some r → XW K tgt lv st w) (kf : b = false → B = some r → XW K (pc + 3) lv st w) : XW K pc lv (.int (bI b) :: st) w := fun H locs ls hH hS hL => lv_if_ne G.1 G.2.1 hd ht (fun c => by
  have c2 : b = true := by cases b <;> simp [bI] at c ⊢
  exact kt c2 (by rw [c2] at hf; exact hf) H locs ls hH hS hL) (fun c => kf (bI_eq.mp c) (by rw [bI_eq.mp c] at hf; exact hf) H locs ls hH hS hL)
-- lcmp, then a branch
theorem x_ceq (G : GK K cc own nL d) {x y : Int64} {off : Int} {tgt : Nat} (hd : decode cc pc = .ok (.ifCond .eq off, 3)) (ht : (pc : Int) + off = (tgt : Int)) {A B : Option α} (hf : (if x = y then A else B) = some r) (kt : x = y → A = some r → XW K tgt lv st w) (kf : ¬ x = y → B = some r → XW K (pc + 3) lv st w) : XW K pc lv (.int (lg_cmp x y) :: st) w := fun H locs ls hH hS hL => lv_if_eq G.1 G.2.1 hd ht (fun c => by have c := (lg_cmp_eq x y).mp c; exact kt c (by rw [if_pos c] at hf; exact hf) H locs ls hH hS hL) (fun c => by have c : ¬ x = y := fun q => c ((lg_cmp_eq x y).mpr q); exact kf c (by rw [if_neg c] at hf; exact hf) H locs ls hH hS hL)
theorem x_cne (G : GK K cc own nL d) {x y : Int64} {off : Int} {tgt : Nat} (hd : decode cc pc = .ok (.ifCond .ne off, 3)) (ht : (pc : Int) + off = (tgt : Int)) {A B : Option α} (hf : (if x = y then A else B) = some r) (kf : x = y → A = some r → XW K (pc + 3) lv st w) (kt : ¬ x = y → B = some r → XW K tgt lv st w) : XW K pc lv (.int (lg_cmp x y) :: st) w := fun H locs ls hH hS hL => lv_if_ne G.1 G.2.1 hd ht (fun c => by have c : ¬ x = y := fun q => c ((lg_cmp_eq x y).mpr q); exact kt c (by rw [if_neg c] at hf; exact hf) H locs ls hH hS hL) (fun c => by have c := (lg_cmp_eq x y).mp c; exact kf c (by rw [if_pos c] at hf; exact hf) H locs ls hH hS hL)
theorem nltL_le {x y : Int64} : ¬ x < y ↔ y ≤ x := by rw [Int64.lt_iff_toInt_lt, Int64.le_iff_toInt_le]; omega
theorem x_clt (G : GK K cc own nL d) {x y : Int64} {off : Int} {tgt : Nat} (hd : decode cc pc = .ok (.ifCond .lt off, 3)) (ht : (pc : Int) + off = (tgt : Int)) {A B : Option α} (hf : (if x < y then A else B) = some r) (kt : x < y → A = some r → XW K tgt lv st w) (kf : ¬ x < y → B = some r → XW K (pc + 3) lv st w) : XW K pc lv (.int (lg_cmp x y) :: st) w := fun H locs ls hH hS hL => lv_if_lt G.1 G.2.1 hd ht (fun c => by have c := (lg_cmp_lt x y).mp c; exact kt c (by rw [if_pos c] at hf; exact hf) H locs ls hH hS hL) (fun c => by have c : ¬ x < y := fun q => c ((lg_cmp_lt x y).mpr q); exact kf c (by rw [if_neg c] at hf; exact hf) H locs ls hH hS hL)
theorem x_cge (G : GK K cc own nL d) {x y : Int64} {off : Int} {tgt : Nat} (hd : decode cc pc = .ok (.ifCond .ge off, 3)) (ht : (pc : Int) + off = (tgt : Int)) {A B : Option α} (hf : (if x < y then A else B) = some r) (kf : x < y → A = some r → XW K (pc + 3) lv st w) (kt : ¬ x < y → B = some r → XW K tgt lv st w) : XW K pc lv (.int (lg_cmp x y) :: st) w := fun H locs ls hH hS hL => lv_if_ge G.1 G.2.1 hd ht (fun c => by have c : ¬ x < y := nltL_le.mpr ((lg_cmp_ge x y).mp c); exact kt c (by rw [if_neg c] at hf; exact hf) H locs ls hH hS hL) (fun c => by have c : x < y := Decidable.byContradiction fun q => c ((lg_cmp_ge x y).mpr (nltL_le.mp q)); exact kf c (by rw [if_pos c] at hf; exact hf) H locs ls hH hS hL)
theorem x_cgt (G : GK K cc own nL d) {x y : Int64} {off : Int} {tgt : Nat} (hd : decode cc pc = .ok (.ifCond .gt off, 3)) (ht : (pc : Int) + off = (tgt : Int)) {A B : Option α} (hf : (if y < x then A else B) = some r) (kt : y < x → A = some r → XW K tgt lv st w) (kf : ¬ y < x → B = some r → XW K (pc + 3) lv st w) : XW K pc lv (.int (lg_cmp x y) :: st) w := fun H locs ls hH hS hL => lv_if_gt G.1 G.2.1 hd ht (fun c => by have c := (lg_cmp_gt x y).mp c; exact kt c (by rw [if_pos c] at hf; exact hf) H locs ls hH hS hL) (fun c => by have c : ¬ y < x := fun q => c ((lg_cmp_gt x y).mpr q); exact kf c (by rw [if_neg c] at hf; exact hf) H locs ls hH hS hL)
theorem x_cle (G : GK K cc own nL d) {x y : Int64} {off : Int} {tgt : Nat} (hd : decode cc pc = .ok (.ifCond .le off, 3)) (ht : (pc : Int) + off = (tgt : Int)) {A B : Option α} (hf : (if y < x then A else B) = some r) (kf : y < x → A = some r → XW K (pc + 3) lv st w) (kt : ¬ y < x → B = some r → XW K tgt lv st w) : XW K pc lv (.int (lg_cmp x y) :: st) w := fun H locs ls hH hS hL => lv_if_le G.1 G.2.1 hd ht (fun c => by have c : ¬ y < x := nltL_le.mpr ((lg_cmp_le x y).mp c); exact kt c (by rw [if_neg c] at hf; exact hf) H locs ls hH hS hL) (fun c => by have c : y < x := Decidable.byContradiction fun q => c ((lg_cmp_le x y).mpr (nltL_le.mp q)); exact kf c (by rw [if_pos c] at hf; exact hf) H locs ls hH hS hL)
-- null tests of a known reference
theorem x_ifnullR (G : GK K cc own nL d) {a : Nat} {off : Int} (hd : decode cc pc = .ok (.ifnull off, 3)) (k : XW K (pc + 3) lv st w) : XW K pc lv (.ref a :: st) w := fun H locs ls hH hS hL => lv_ifnull G.1 G.2.1 hd (k H locs ls hH hS hL)
theorem x_ifnullN (G : GK K cc own nL d) {off : Int} {tgt : Nat} (hd : decode cc pc = .ok (.ifnull off, 3)) (ht : (pc : Int) + off = (tgt : Int)) (k : XW K tgt lv st w) : XW K pc lv (.null :: st) w := fun H locs ls hH hS hL => lv_ifnullN G.1 G.2.1 hd ht (k H locs ls hH hS hL)
theorem x_ifnonnullR (G : GK K cc own nL d) {a : Nat} {off : Int} {tgt : Nat} (hd : decode cc pc = .ok (.ifnonnull off, 3)) (ht : (pc : Int) + off = (tgt : Int)) (k : XW K tgt lv st w) : XW K pc lv (.ref a :: st) w := fun H locs ls hH hS hL => lv_ifnonnull G.1 G.2.1 hd ht (k H locs ls hH hS hL)
theorem x_ifnonnullN (G : GK K cc own nL d) {off : Int} (hd : decode cc pc = .ok (.ifnonnull off, 3)) (k : XW K (pc + 3) lv st w) : XW K pc lv (.null :: st) w := fun H locs ls hH hS hL => lv_ifnonnullN G.1 G.2.1 hd (k H locs ls hH hS hL)
end ROWS2
