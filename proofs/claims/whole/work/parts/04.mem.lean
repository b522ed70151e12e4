-- memory, calls, returns
def CLS (ci : Nat) (C : String) (T : u_T) (N : Nat) (ty : Nat → FieldType) : Prop := vwCl[ci]? = some (C, T, N) ∧ (∀ w ∈ u_ws C T N, w ∈ gtbl) ∧ (∀ k, k < N → parseFieldDescriptor (T k).2.2.1 = some (ty k)) ∧ (∀ a, a < N → ∀ b, b < N → a ≠ b → (T a).2.1 ≠ (T b).2.1)
theorem HH.one {S : KS} {w : Wd} {H : Heap} (h : HH S w H) {a : Nat} {k : Kd} (hk : KD S a k) : va_P S.G vwCl [(S.ad a, cellOf S.ad S.cA w a k)] H := by
  intro i q hq
  have : i = 0 := by
    have := (List.getElem?_eq_some_iff.mp hq).1
    simpa using this
  subst this
  simp at hq
  subst hq
  have := h a hk.1
  rwa [hk.2] at this
/-- a cell changes, nothing else -/
theorem HH.put {S : KS} {w w' : Wd} {H H1 : Heap} (h : HH S w H) (hj : Inj S) {a : Nat} {k : Kd} (hk : KD S a k) (oq : ∀ q : Nat, q ≠ S.ad a → H1[q]? = H[q]?) (he : va_at S.G vwCl (S.ad a, cellOf S.ad S.cA w' a k) H1) (hw : ∀ b, b ≠ a → cellOf S.ad S.cA w' b (S.kd b) = cellOf S.ad S.cA w b (S.kd b)) : HH S w' H1 := by
  intro b hb
  by_cases e : b = a
  · subst e
    rw [hk.2]
    exact he
  · rw [hw b e]
    exact (h b hb).kept (oq _ (fun z => e (hj.1 b a hb hk.1 z)))
theorem fv_si {ad : Nat → Nat} {w : Wd} {a b k j : Nat} {x : Int32} {d : Nat × Nat} (h : b ≠ a) : fv ad (si w a k x) b j d = fv ad w b j d := by
  obtain ⟨n, t⟩ := d
  rcases n with _ | _ | _ | n <;> simp [fv, si, h]
theorem fv_sl {ad : Nat → Nat} {w : Wd} {a b k j : Nat} {x : Int64} {d : Nat × Nat} : fv ad (sl w a k x) b j d = fv ad w b j d := by
  obtain ⟨n, t⟩ := d
  rcases n with _ | _ | _ | n <;> rfl
theorem cellOf_si {ad : Nat → Nat} {cA : Nat → ClassId} {w : Wd} {a b k : Nat} {x : Int32} {d : Kd} (h : b ≠ a) : cellOf ad cA (si w a k x) b d = cellOf ad cA w b d := by
  rcases d with ⟨ci, ds⟩ | ⟨n, m, t⟩
  · show (Sum.inr (ci, fvs ad (si w a k x) b 0 ds) : va_E) = Sum.inr (ci, fvs ad w b 0 ds)
    rw [fvs_ext ds 0 (fun k d _ => fv_si h)]
  · rcases n with _ | _ | _ | n <;> simp [cellOf, si, h]
theorem cellOf_sl {ad : Nat → Nat} {cA : Nat → ClassId} {w : Wd} {a b k : Nat} {x : Int64} {d : Kd} (h : b ≠ a) : cellOf ad cA (sl w a k x) b d = cellOf ad cA w b d := by
  rcases d with ⟨ci, ds⟩ | ⟨n, m, t⟩
  · show (Sum.inr (ci, fvs ad (sl w a k x) b 0 ds) : va_E) = Sum.inr (ci, fvs ad w b 0 ds)
    rw [fvs_ext ds 0 (fun k d _ => fv_sl)]
  · rcases n with _ | _ | _ | n <;> simp [cellOf, sl, h]
theorem fvs_si {ad : Nat → Nat} {w : Wd} {a : Nat} {x : Int32} : ∀ (ds : List (Nat × Nat)) (j k : Nat), ds[k]? = some (0, 0) → fvs ad (si w a (j + k) x) a j ds = (fvs ad w a j ds).set k (.int x)
  | [], _, _, h => by simp at h
  | e :: ds, j, 0, h => by
    simp at h
    subst h
    have h1 : fvs ad (si w a j x) a (j + 1) ds = fvs ad w a (j + 1) ds := by
      refine fvs_ext ds (j + 1) (fun k d _ => ?_)
      obtain ⟨n, t⟩ := d
      have : ¬ (j + 1 + k = j) := by omega
      rcases n with _ | _ | _ | n <;> simp [fv, si, upd, this]
    show fv ad (si w a (j + 0) x) a j (0, 0) :: fvs ad (si w a (j + 0) x) a (j + 1) ds = _
    rw [Nat.add_zero, h1]
    simp [fv, si, upd, fvs]
  | e :: ds, j, k + 1, h => by
    have h0 : ds[k]? = some (0, 0) := by simpa using h
    have h1 := fvs_si (ad := ad) (w := w) (a := a) (x := x) ds (j + 1) k h0
    rw [show j + 1 + k = j + (k + 1) by omega] at h1
    have h2 : fv ad (si w a (j + (k + 1)) x) a j e = fv ad w a j e := by
      obtain ⟨n, t⟩ := e
      have : ¬ (j = j + (k + 1)) := by omega
      rcases n with _ | _ | _ | n <;> simp [fv, si, upd, this]
    show fv ad (si w a (j + (k + 1)) x) a j e :: fvs ad (si w a (j + (k + 1)) x) a (j + 1) ds = fv ad w a j e :: (fvs ad w a (j + 1) ds).set k (.int x)
    rw [h1, h2]
section ROWS3
variable {K : KT} {cc : ByteArray} {own : String} {nL d pc : Nat} {lv lv' : List (Option Value)} {st : List Value} {w : Wd} {α : Type} {r : α} {ci a k i n : Nat} {ds : List (Nat × Nat)} {C : String} {T : u_T} {N : Nat} {ty : Nat → FieldType} {t : Nat → Option Nat}
theorem x_getI (G : GK K cc own nL d) (hk : KD K.ks a (.inl (ci, ds))) (k : Nat) (hdk : ds[k]? = some (0, 0)) (hC : CLS ci C T N ty) (hkN : Nat.blt k N = true) (hq : Cond.fieldLink own i (T k).1 (T k).2.1 (T k).2.2.1 ∈ gtbl) (hd : decode cc pc = .ok (.getfield i, 3)) (kk : XW K (pc + 3) lv (.int (w.1 a k) :: st) w) : XW K pc lv (.ref a :: st) w := fun H locs ls hH hS hL =>
  va_get (v := .int (w.1 a k)) G.1 G.2.1 G.2.2.2.2.1 hC.2.1 G.2.2.2.1 G.2.2.2.2.2.1.1 (hH.one hk) 0 rfl hC.1 k (Nat.le_of_ble_eq_true hkN) (G.2.2.2.2.1 _ hq) (fun _ h => h) (by rw [fvs_get _ _ _ ds 0 k _ hdk, Nat.zero_add]; rfl) hd (kk H locs ls hH hS hL)
theorem x_getR (G : GK K cc own nL d) (hk : KD K.ks a (.inl (ci, ds))) (k : Nat) {b : Nat} (hdk : ds[k]? = some (1, b)) (hC : CLS ci C T N ty) (hkN : Nat.blt k N = true) (hq : Cond.fieldLink own i (T k).1 (T k).2.1 (T k).2.2.1 ∈ gtbl) (hd : decode cc pc = .ok (.getfield i, 3)) (kk : XW K (pc + 3) lv (.ref b :: st) w) : XW K pc lv (.ref a :: st) w := fun H locs ls hH hS hL =>
  va_get (v := .ref (K.ks.ad b)) G.1 G.2.1 G.2.2.2.2.1 hC.2.1 G.2.2.2.1 G.2.2.2.2.2.1.1 (hH.one hk) 0 rfl hC.1 k (Nat.le_of_ble_eq_true hkN) (G.2.2.2.2.1 _ hq) (fun _ h => h) (by rw [fvs_get _ _ _ ds 0 k _ hdk]; rfl) hd (kk H locs ls hH hS hL)
theorem x_getN (G : GK K cc own nL d) (hk : KD K.ks a (.inl (ci, ds))) (k : Nat) {b : Nat} (hdk : ds[k]? = some (2, b)) (hC : CLS ci C T N ty) (hkN : Nat.blt k N = true) (hq : Cond.fieldLink own i (T k).1 (T k).2.1 (T k).2.2.1 ∈ gtbl) (hd : decode cc pc = .ok (.getfield i, 3)) {A B : Option α} (hf : (if w.1 a k = 0 then A else B) = some r) (kn : w.1 a k = 0 → A = some r → XW K (pc + 3) lv (.null :: st) w) (kr : ¬ w.1 a k = 0 → B = some r → XW K (pc + 3) lv (.ref b :: st) w) : XW K pc lv (.ref a :: st) w := fun H locs ls hH hS hL => by
  by_cases c : w.1 a k = 0
  · exact va_get (v := .null) G.1 G.2.1 G.2.2.2.2.1 hC.2.1 G.2.2.2.1 G.2.2.2.2.2.1.1 (hH.one hk) 0 rfl hC.1 k (Nat.le_of_ble_eq_true hkN) (G.2.2.2.2.1 _ hq) (fun _ h => h) (by rw [fvs_get _ _ _ ds 0 k _ hdk]; simp [fv, c]) hd (kn c (by rw [if_pos c] at hf; exact hf) H locs ls hH hS hL)
  · exact va_get (v := .ref (K.ks.ad b)) G.1 G.2.1 G.2.2.2.2.1 hC.2.1 G.2.2.2.1 G.2.2.2.2.2.1.1 (hH.one hk) 0 rfl hC.1 k (Nat.le_of_ble_eq_true hkN) (G.2.2.2.2.1 _ hq) (fun _ h => h) (by rw [fvs_get _ _ _ ds 0 k _ hdk]; simp [fv, c]) hd (kr c (by rw [if_neg c] at hf; exact hf) H locs ls hH hS hL)
theorem x_putI (G : GK K cc own nL d) (hk : KD K.ks a (.inl (ci, ds))) (k : Nat) (hdk : ds[k]? = some (0, 0)) (hC : CLS ci C T N ty) (hkN : Nat.blt k N = true) (hq : Cond.fieldLink own i (T k).1 (T k).2.1 (T k).2.2.1 ∈ gtbl) (hfin : (T k).2.2.2 = false) {x : Int32} (hn : narrow (ty k) (.int x) = .int x) (hfit : fits (ty k) (.int x) = true) (hd : decode cc pc = .ok (.putfield i, 3)) (kk : XW K (pc + 3) lv st (si w a k x)) : XW K pc lv (.int x :: .ref a :: st) w := fun H locs ls hH hS hL => by
  have hkN : k < N := Nat.le_of_ble_eq_true hkN
  have hK : va_K K.ks.G vwCl (tysK K.ks.cA) K.s := G.2.2.2.2.2.1.1
  have hap := va_apart (own := own) G.2.2.2.2.1 hC.2.1 ty hC.2.2.1 hC.2.2.2 hK hC.1
  have hP := hH.one hk
  obtain ⟨r, h1, cell, q1, q2, q3, q4⟩ := hP 0 _ rfl
  have hr : r = (C, T, N) := Option.some.inj (h1.symm.trans hC.1)
  subst hr
  obtain ⟨hSl, hfc, kC, hkC, hkind⟩ := hK.1 ci _ hC.1
  obtain ⟨cf, kf, fi, f, hi, hsl⟩ := hSl k hkN
  have hlay := G.2.2.2.2.1 _ (hC.2.1 _ (u_in_lay hkN))
  unfold u_lay at hlay
  rw [if_neg (by rw [hfin]; decide)] at hlay
  have hst := (u_facts hfc hkC (u_lays G.2.2.2.2.1 hC.2.1 hkN) hi).1
  have h6 := u_store hfc hkC hkind hlay hi (hC.2.2.1 k hkN) hn hfit
  refine W.putK G.1 G.2.1 (f := f) ⟨G.2.2.2.1, G.2.2.2.2.1 _ hq, ⟨_, _, _, hi⟩, hst⟩ (by rw [q2]; exact h6) q1 q3 (by rw [hsl]; exact k2_hasslot (q4 k hkN)) rfl rfl hd fun H' e1 e2 e3 => ?_
  rw [hsl] at e1 ⊢
  refine kk H' _ ls (hH.put G.2.2.2.2.2.2.1 hk e3 ?_ (fun b hb => cellOf_si hb)) (hS.put e2 e3 (G.2.2.2.2.2.2.2.1 a hk.1)) hL
  refine ⟨_, hC.1, t_OB.to (V := updV (vp_V (fvs K.ks.ad w a 0 ds)) k (.int x)) ⟨_, e1, q2, q3, t_set q4 hap hkN (.int x)⟩ (fun j _ => ?_)⟩
  have hs := fvs_si (ad := K.ks.ad) (w := w) (a := a) (x := x) ds 0 k hdk
  rw [Nat.zero_add] at hs
  show _ = vp_V (fvs K.ks.ad (si w a k x) a 0 ds) j
  rw [hs]
  exact vp_updV_set (by rw [fvs_len]; exact (List.getElem?_eq_some_iff.mp hdk).1) _ j
-- arrays
theorem x_iald (G : GK K cc own nL d) (hk : KD K.ks a (.inr (0, n, t))) (hd : decode cc pc = .ok (.iaload, 1)) {j : Int32} {A : Option α} (hf : (if inb j n = true then A else none) = some r) (kk : inb j n = true → A = some r → XW K (pc + 1) lv (.int (ri w a j) :: st) w) : XW K pc lv (.int j :: .ref a :: st) w := fun H locs ls hH hS hL => by
  by_cases c : inb j n = true
  · rw [if_pos c] at hf
    exact va_iald G.1 G.2.1 G.2.2.2.2.2.1.1 (hH.one hk) 0 0 rfl rfl (inb_vp c) hd (kk c hf H locs ls hH hS hL)
  · rw [if_neg c] at hf; cases hf
theorem x_zald (G : GK K cc own nL d) (hk : KD K.ks a (.inr (2, n, t))) (hd : decode cc pc = .ok (.baload, 1)) {j : Int32} {A : Option α} (hf : (if inb j n = true then A else none) = some r) (kk : inb j n = true → A = some r → XW K (pc + 1) lv (.int (ri w a j) :: st) w) : XW K pc lv (.int j :: .ref a :: st) w := fun H locs ls hH hS hL => by
  by_cases c : inb j n = true
  · rw [if_pos c] at hf
    exact va_zald G.1 G.2.1 G.2.2.2.2.2.1.1 (hH.one hk) 0 2 rfl rfl (inb_vp c) hd (kk c hf H locs ls hH hS hL)
  · rw [if_neg c] at hf; cases hf
theorem x_lald (G : GK K cc own nL d) (hk : KD K.ks a (.inr (1, n, t))) (hd : decode cc pc = .ok (.laload, 1)) {j : Int32} {A : Option α} (hf : (if inb j n = true then A else none) = some r) (kk : inb j n = true → A = some r → XW K (pc + 1) lv (.long (rl w a j) :: st) w) : XW K pc lv (.int j :: .ref a :: st) w := fun H locs ls hH hS hL => by
  by_cases c : inb j n = true
  · rw [if_pos c] at hf
    exact va_lald G.1 G.2.1 G.2.2.2.2.2.1.1 (hH.one hk) 0 1 rfl rfl (inb_vp c) hd (kk c hf H locs ls hH hS hL)
  · rw [if_neg c] at hf; cases hf
/-- an array of references, at kinds 3 (Line), 4 (Tape), 5 (rows of ints) -/
theorem x_aald (G : GK K cc own nL d) {kn : Nat} {tf : Nat → Nat} (hk : KD K.ks a (.inr (kn + 3, n, fun j => some (tf j)))) (hkn : kn < 3) (hd : decode cc pc = .ok (.aaload, 1)) {j : Int32} {A : Option α} (hf : (if inb j n = true then A else none) = some r) (kk : inb j n = true → A = some r → XW K (pc + 1) lv (.ref (tf j.toNatClampNeg) :: st) w) : XW K pc lv (.int j :: .ref a :: st) w := fun H locs ls hH hS hL => by
  by_cases c : inb j n = true
  · rw [if_pos c] at hf
    have hin : vp_in j n := inb_vp c
    have hlt : j.toNatClampNeg < n := Nat.not_le.mp fun q => hin (Or.inr q)
    have hP : H[K.ks.ad a]? = some (arrV (K.ks.cA (kn + 3)) n (fun j => va_rf ((some (tf j) : Option Nat).map K.ks.ad))) := hH.one hk 0 _ rfl
    have hT : ∃ ty : FieldType, ty.isReference = true ∧ ArrOfT K.s (K.ks.cA (kn + 3)) ty := by
      have hK : va_K K.ks.G vwCl (tysK K.ks.cA) K.s := G.2.2.2.2.2.1.1
      rcases kn with _ | _ | _ | kn
      · exact ⟨_, rfl, (hK.2 3 _ rfl).1⟩
      · exact ⟨_, rfl, (hK.2 4 _ rfl).1⟩
      · exact ⟨_, rfl, (hK.2 5 _ rfl).1⟩
      · omega
    obtain ⟨ty, hr, hA⟩ := hT
    exact W.aald (v := .ref (K.ks.ad (tf j.toNatClampNeg))) (ty := ty) G.1 G.2.1 hP (hA n _) hr (fun q => by cases q) (by show ¬ (j < 0 ∨ (arrV _ _ _).slots.size ≤ _); rw [arrV_size]; exact hin) (by show (arrV _ _ _).slots[_]? = _; rw [arrV_read _ _ hlt]; rfl) rfl rfl hd (kk c hf H locs ls hH hS hL)
  · rw [if_neg c] at hf; cases hf
theorem x_iast (G : GK K cc own nL d) (hk : KD K.ks a (.inr (0, n, t))) (hd : decode cc pc = .ok (.iastore, 1)) {j x : Int32} {A : Option α} (hf : (if inb j n = true then A else none) = some r) (kk : inb j n = true → A = some r → XW K (pc + 1) lv st (wi w a j x)) : XW K pc lv (.int x :: .int j :: .ref a :: st) w := fun H locs ls hH hS hL => by
  by_cases c : inb j n = true
  · rw [if_pos c] at hf
    have hK : va_K K.ks.G vwCl (tysK K.ks.cA) K.s := G.2.2.2.2.2.1.1
    have hP : H[K.ks.ad a]? = some (vp_cell (K.ks.cA 0) (n, .inl (w.1 a))) := hH.one hk 0 _ rfl
    refine W.iast G.1 G.2.1 hP ((hK.2 0 _ rfl).1 n (fun j => .int (w.1 a j))) (fun q => by cases q) (by show ¬ (j < 0 ∨ (arrV _ _ _).slots.size ≤ _); rw [arrV_size]; exact inb_vp c) rfl rfl hd fun H1 e z oq => ?_
    refine kk c hf H1 _ ls (hH.put G.2.2.2.2.2.2.1 hk oq ?_ (fun b hb => cellOf_si hb)) (hS.put z oq (G.2.2.2.2.2.2.2.1 a hk.1)) hL
    show H1[K.ks.ad a]? = some (vp_cell (K.ks.cA 0) (n, .inl ((si w a j.toNatClampNeg x).1 a)))
    rw [e, vp_cell_i, vp_cell_i, arrV_store]
    congr 2
    funext q
    by_cases hq : q = j.toNatClampNeg
    · subst hq
      simp [updV, upd, si]
    · simp [updV, upd, si, hq]
  · rw [if_neg c] at hf; cases hf
theorem x_zast (G : GK K cc own nL d) (hk : KD K.ks a (.inr (2, n, t))) (hd : decode cc pc = .ok (.bastore, 1)) {j x : Int32} {A : Option α} (hf : (if inb j n = true then A else none) = some r) (kk : inb j n = true → A = some r → XW K (pc + 1) lv st (wi w a j (vp_nar .boolean x))) : XW K pc lv (.int x :: .int j :: .ref a :: st) w := fun H locs ls hH hS hL => by
  by_cases c : inb j n = true
  · rw [if_pos c] at hf
    have hK : va_K K.ks.G vwCl (tysK K.ks.cA) K.s := G.2.2.2.2.2.1.1
    have hP : H[K.ks.ad a]? = some (vp_cell (K.ks.cA 2) (n, .inl (w.1 a))) := hH.one hk 0 _ rfl
    refine W.zast G.1 G.2.1 hP ((hK.2 2 _ rfl).1 n (fun j => .int (w.1 a j))) (fun q => by cases q) (by show ¬ (j < 0 ∨ (arrV _ _ _).slots.size ≤ _); rw [arrV_size]; exact inb_vp c) rfl rfl hd fun H1 e z oq => ?_
    refine kk c hf H1 _ ls (hH.put G.2.2.2.2.2.2.1 hk oq ?_ (fun b hb => cellOf_si hb)) (hS.put z oq (G.2.2.2.2.2.2.2.1 a hk.1)) hL
    show H1[K.ks.ad a]? = some (vp_cell (K.ks.cA 2) (n, .inl ((si w a j.toNatClampNeg (vp_nar .boolean x)).1 a)))
    rw [e, vp_cell_i, vp_cell_i, arrV_store]
    congr 2
    funext q
    by_cases hq : q = j.toNatClampNeg
    · subst hq
      simp [updV, upd, vp_nar, si]
      try rfl
    · simp [updV, upd, si, hq]
  · rw [if_neg c] at hf; cases hf
theorem x_last (G : GK K cc own nL d) (hk : KD K.ks a (.inr (1, n, t))) (hd : decode cc pc = .ok (.lastore, 1)) {j : Int32} {x : Int64} {A : Option α} (hf : (if inb j n = true then A else none) = some r) (kk : inb j n = true → A = some r → XW K (pc + 1) lv st (wl w a j x)) : XW K pc lv (.long x :: .int j :: .ref a :: st) w := fun H locs ls hH hS hL => by
  by_cases c : inb j n = true
  · rw [if_pos c] at hf
    have hK : va_K K.ks.G vwCl (tysK K.ks.cA) K.s := G.2.2.2.2.2.1.1
    have hP : H[K.ks.ad a]? = some (vp_cell (K.ks.cA 1) (n, .inr (.inl (w.2 a)))) := hH.one hk 0 _ rfl
    refine W.last G.1 G.2.1 hP ((hK.2 1 _ rfl).1 n (fun j => .long (w.2 a j))) (fun q => by cases q) (by show ¬ (j < 0 ∨ (arrV _ _ _).slots.size ≤ _); rw [arrV_size]; exact inb_vp c) rfl rfl hd fun H1 e z oq => ?_
    refine kk c hf H1 _ ls (hH.put G.2.2.2.2.2.2.1 hk oq ?_ (fun b hb => cellOf_sl hb)) (hS.put z oq (G.2.2.2.2.2.2.2.1 a hk.1)) hL
    show H1[K.ks.ad a]? = some (vp_cell (K.ks.cA 1) (n, .inr (.inl ((sl w a j.toNatClampNeg x).2 a))))
    rw [e, vp_cell_l, vp_cell_l, arrV_store]
    congr 2
    funext q
    by_cases hq : q = j.toNatClampNeg
    · subst hq
      simp [updV, vp_updL, sl]
    · simp [updV, vp_updL, sl, hq]
  · rw [if_neg c] at hf; cases hf
theorem x_alenI (G : GK K cc own nL d) (hk : KD K.ks a (.inr (0, n, t))) (hd : decode cc pc = .ok (.arraylength, 1)) {v : Int32} (hv : Int32.ofNat n = v) (kk : XW K (pc + 1) lv (.int v :: st) w) : XW K pc lv (.ref a :: st) w := fun H locs ls hH hS hL => va_alen G.1 G.2.1 G.2.2.2.2.2.1.1 (hH.one hk) 0 0 rfl rfl hv hd (kk H locs ls hH hS hL)
end ROWS3
