-- keep: an image is made the first time a tape gets one (by hand; words printed by wip/whole/keep.py)
theorem dX11_keep_0 : decode cX11_keep 0 = .ok (.iload_n 1, 1) := by decide +kernel
theorem dX11_keep_1 : decode cX11_keep 1 = .ok (.invokestatic 146, 3) := by decide +kernel
theorem dX11_keep_4 : decode cX11_keep 4 = .ok (.ifCond .ne 5, 3) := by decide +kernel
theorem dX11_keep_7 : decode cX11_keep 7 = .ok (.iconst (-1), 1) := by decide +kernel
theorem dX11_keep_8 : decode cX11_keep 8 = .ok (.ireturn, 1) := by decide +kernel
theorem dX11_keep_9 : decode cX11_keep 9 = .ok (.aload_n 0, 1) := by decide +kernel
theorem dX11_keep_10 : decode cX11_keep 10 = .ok (.getfield 46, 3) := by decide +kernel
theorem dX11_keep_13 : decode cX11_keep 13 = .ok (.iload_n 1, 1) := by decide +kernel
theorem dX11_keep_14 : decode cX11_keep 14 = .ok (.aaload, 1) := by decide +kernel
theorem dX11_keep_15 : decode cX11_keep 15 = .ok (.astore_n 2, 1) := by decide +kernel
theorem dX11_keep_16 : decode cX11_keep 16 = .ok (.aload_n 2, 1) := by decide +kernel
theorem dX11_keep_17 : decode cX11_keep 17 = .ok (.getfield 405, 3) := by decide +kernel
theorem dX11_keep_20 : decode cX11_keep 20 = .ok (.ifnonnull 14, 3) := by decide +kernel
theorem dX11_keep_23 : decode cX11_keep 23 = .ok (.aload_n 2, 1) := by decide +kernel
theorem dX11_keep_24 : decode cX11_keep 24 = .ok (.new 7, 3) := by decide +kernel
theorem dX11_keep_27 : decode cX11_keep 27 = .ok (.dup, 1) := by decide +kernel
theorem dX11_keep_28 : decode cX11_keep 28 = .ok (.invokespecial 9, 3) := by decide +kernel
theorem dX11_keep_31 : decode cX11_keep 31 = .ok (.putfield 405, 3) := by decide +kernel
theorem dX11_keep_34 : decode cX11_keep 34 = .ok (.aload_n 2, 1) := by decide +kernel
theorem dX11_keep_35 : decode cX11_keep 35 = .ok (.getfield 405, 3) := by decide +kernel
theorem dX11_keep_38 : decode cX11_keep 38 = .ok (.aload_n 0, 1) := by decide +kernel
theorem dX11_keep_39 : decode cX11_keep 39 = .ok (.getfield 10, 3) := by decide +kernel
theorem dX11_keep_42 : decode cX11_keep 42 = .ok (.invokevirtual 408, 3) := by decide +kernel
theorem dX11_keep_45 : decode cX11_keep 45 = .ok (.aload_n 2, 1) := by decide +kernel
theorem dX11_keep_46 : decode cX11_keep 46 = .ok (.bipush 6, 2) := by decide +kernel
theorem dX11_keep_48 : decode cX11_keep 48 = .ok (.putfield 149, 3) := by decide +kernel
theorem dX11_keep_51 : decode cX11_keep 51 = .ok (.aload_n 2, 1) := by decide +kernel
theorem dX11_keep_52 : decode cX11_keep 52 = .ok (.iconst 0, 1) := by decide +kernel
theorem dX11_keep_53 : decode cX11_keep 53 = .ok (.putfield 155, 3) := by decide +kernel
theorem dX11_keep_56 : decode cX11_keep 56 = .ok (.aload_n 0, 1) := by decide +kernel
theorem dX11_keep_57 : decode cX11_keep 57 = .ok (.getfield 10, 3) := by decide +kernel
theorem dX11_keep_60 : decode cX11_keep 60 = .ok (.getfield 337, 3) := by decide +kernel
theorem dX11_keep_63 : decode cX11_keep 63 = .ok (.ireturn, 1) := by decide +kernel
theorem wcl_X11_7 : Cond.classLink RX11 7 RX0 ∈ gtbl := gq (by decide +kernel) (by decide +kernel)
theorem wins_X0 : Cond.instantiable RX0 13 ∈ gtbl := gq (by decide +kernel) (by decide +kernel)
theorem wi_X0_init : Cond.instanceMethod yX0_init ∈ gtbl := gq (by decide +kernel) (by decide +kernel)
theorem wk_X0_init : Cond.code yX0_init cX0_init 2 none ∈ gtbl := gq (by decide +kernel) (by decide +kernel)
theorem wm_X11_9 : Cond.methodLink RX11 9 yX0_init ∈ gtbl := gq (by decide +kernel) (by decide +kernel)
theorem mi_X11_9 : MIN RX11 9 yX0_init RX11 cX0_init 2 ∨ MIP RX11 9 yX0_init cX0_init 2 := Or.inr ⟨⟨wm_X11_9, wi_X0_init, wz_X0, wk_X0_init⟩, ⟨by decide +kernel, by decide +kernel, by decide +kernel⟩, rfl⟩
def fX11_keepC (T : Nat) (w : Wd) : Option (Int32 × Wd) :=
  (fX0_become (imZ T) 0 w).bind fun w_1 => (
  nw (si w_1 T 0 6) fun w_2 => (
  nw (si w_2 T 1 0) fun w_3 => (
  some (w_3.1 1 6, w_3))))
def fX11_keepN (T : Nat) (w : Wd) : Wd := if w.1 T 3 = 0 then si (Wcity (imZ T) (zi w (imZ T + 1))) T 3 1 else w
def fX11_keep (v1 : Int32) (w : Wd) : Option (Int32 × Wd) :=
  (fX11_isTape v1 w).bind fun v_1 => (
  if v_1 = true then (
    if inb v1 6 = true then fX11_keepC (135 + 2 * v1.toNatClampNeg) (fX11_keepN (135 + 2 * v1.toNatClampNeg) w) else none)
  else some ((-1 : Int32), w))
/-- where no image is made yet, its cells are free -/
def FR (S : KS) (w : Wd) : Prop := ∀ d, d < 6 → w.1 (135 + 2 * d) 3 = 0 → ∀ a, 201 + 100 * d ≤ a → a ≤ 291 + 100 * d → ¬ S.D a
/-- no reference that may be null -/
def n2 (k : Kd) : Prop := (∃ x, k = .inr x) ∨ ∃ ci ds, k = .inl (ci, ds) ∧ ∀ d ∈ ds, ¬ d.1 = 2
def KP (S S' : KS) (w' : Wd) (sz : Nat) : Prop := ∃ lo hi, (200 ≤ lo ∧ hi ≤ 891) ∧ EX S S' w' sz lo hi 9999 ∧ ((S'.D 9999 ↔ S.D 9999) ∧ S'.kd 9999 = S.kd 9999) ∧ Main S' ∧ IM S' w' ∧ FR S' w' ∧ ∀ a, lo ≤ a → a ≤ hi → n2 (S'.kd a)
theorem EX.b {S S' : KS} {w : Wd} {sz lo hi v0 : Nat} (h : EX S S' w sz lo hi v0) (h1 : lo ≤ v0 ∧ v0 ≤ hi ∧ hi < 9999) : EX S S' w sz lo hi 9999 ∧ ((S'.D 9999 ↔ S.D 9999) ∧ S'.kd 9999 = S.kd 9999) :=
  ⟨⟨h.1, fun a ha _ => h.2.1 a ha (fun e => ha (by omega)), h.2.2⟩, h.2.1 9999 (by omega) (by omega)⟩
theorem EX.self {S : KS} {w : Wd} {sz : Nat} (hI : Inj S) (hC : Clo S w) : EX S S w sz 300 200 9999 ∧ ((S.D 9999 ↔ S.D 9999) ∧ S.kd 9999 = S.kd 9999) :=
  ⟨⟨⟨rfl, rfl, rfl⟩, fun a _ _ => ⟨Iff.rfl, rfl⟩, fun a _ => rfl, fun a a1 a2 _ => absurd (Nat.le_trans a1 a2) (by omega), hI, hC⟩, Iff.rfl, rfl⟩
def RKe (K : KT) (S : KS) (sz c s : Nat) (w' : Wd) (r : Int32) : Prop := K.meth.sig.returnType = some .int ∧ K.Q = MQ K.below (va_Qi (fun (r' : Int32) (S' : KS) => r' = r ∧ KP S S' w' sz) (fun S' t => HH S' w' t.heap) K.A) K.args K.s c s K.A ∧ K.H0 = K.s.heap
theorem x_kret {K : KT} {cc : ByteArray} {own : String} {nL d pc c s sz : Nat} {lv : List (Option Value)} {w : Wd} {x : Int32} {S : KS} (G : GK K cc own nL d) (hR : RKe K S sz c s w x) (hc : K.cells ≤ c) (hs : K.slots ≤ s) (hP : KP S K.ks w sz) (hd : decode cc pc = .ok (.ireturn, 1)) : XW K pc lv [.int x] w := fun H locs ls hH hS hL => by
  obtain ⟨h1, h2, h3⟩ := hR
  have hlk : K.meth.locks = false := G.2.2.2.2.2.2.2.2.2.1
  rw [h2]
  refine W.widen (k := c) (n := s) hc hs ?_
  exact W.zret G.1 G.2.1 h1 rfl (fun t ht hW => ⟨⟨x, K.ks, rfl, ⟨rfl, hP⟩, by show HH K.ks w t.heap; rw [ht]; exact hH⟩, va_S.F (by rw [← h3]; exact hS) ht⟩) hS.2.2 hd (hlocks := hlk)
theorem fvs_siF {ad : Nat → Nat} {w : Wd} {a b : Nat} {x : Int32} (hx : ¬ x = 0) : ∀ (ds : List (Nat × Nat)) (j k : Nat), ds[k]? = some (2, b) → fvs ad (si w a (j + k) x) a j ds = (fvs ad w a j ds).set k (.ref (ad b))
  | [], _, _, h => by simp at h
  | e :: ds, j, 0, h => by
    simp at h
    subst h
    show fv ad (si w a (j + 0) x) a j (2, b) :: fvs ad (si w a (j + 0) x) a (j + 1) ds = .ref (ad b) :: fvs ad w a (j + 1) ds
    congr 1
    · show (if (si w a (j + 0) x).1 a j = 0 then Value.null else .ref (ad b)) = .ref (ad b)
      simp [si, upd, hx]
    · refine fvs_ext ds (j + 1) (fun k d _ => ?_)
      obtain ⟨n, t⟩ := d
      have hne : ¬ j + 1 + k = j := by omega
      rcases n with _ | _ | _ | n <;> simp [fv, si, upd, hne]
  | e :: ds, j, k + 1, h => by
    have h1 := fvs_siF (ad := ad) (w := w) (a := a) hx ds (j + 1) k (by simpa using h)
    rw [show j + 1 + k = j + (k + 1) by omega] at h1
    show fv ad (si w a (j + (k + 1)) x) a j e :: fvs ad (si w a (j + (k + 1)) x) a (j + 1) ds = fv ad w a j e :: (fvs ad w a (j + 1) ds).set k (.ref (ad b))
    rw [h1]
    congr 1
    obtain ⟨n, t⟩ := e
    have hne : ¬ j = j + (k + 1) := by omega
    rcases n with _ | _ | _ | n <;> simp [fv, si, upd, hne]
/-- a reference into a field that was null till then -/
theorem x_putF {K : KT} {cc : ByteArray} {own : String} {nL d pc i : Nat} {lv : List (Option Value)} {st : List Value} {w : Wd} (G : GK K cc own nL d) {a b ci : Nat} {C : String} {T : u_T} {N : Nat} {ty : Nat → FieldType} {ds : List (Nat × Nat)} (hk : KD K.ks a (.inl (ci, ds))) (k : Nat) (hdk : ds[k]? = some (2, b)) (hC : CLS ci C T N ty) (hkN : Nat.blt k N = true) (hq : Cond.fieldLink own i (T k).1 (T k).2.1 (T k).2.2.1 ∈ gtbl) (hfin : (T k).2.2.2 = false) (hn : ∀ q, narrow (ty k) (.ref q) = .ref q) (hfit : ∀ q, fits (ty k) (.ref q) = true) (hd : decode cc pc = .ok (.putfield i, 3)) (kk : XW K (pc + 3) lv st (si w a k 1)) : XW K pc lv (.ref b :: .ref a :: st) w := fun H locs ls hH hS hL => by
  have hkN : k < N := Nat.le_of_ble_eq_true hkN
  have hK : va_K K.ks.G vwCl (tysK K.ks.cA) K.s := G.2.2.2.2.2.1.1
  have hap := va_apart (own := own) G.2.2.2.2.1 hC.2.1 ty hC.2.2.1 hC.2.2.2 hK hC.1
  have hP := hH.one hk
  obtain ⟨r, h1, cell, q1, q2, q3, q4⟩ := hP 0 _ rfl
  have hr : r = (C, T, N) := Option.some.inj (h1.symm.trans hC.1)
  subst hr
  obtain ⟨hSl, hfc, kC, hkC, hkind⟩ := hK.1 ci _ hC.1
  obtain ⟨cf, kf, fi, f, hi, hsl⟩ := hSl k hkN
  have hlay := G.2.2.2.2.1 _ (hC.2.1 _ (u_in_lay hkN))
  unfold u_lay at hlay
  rw [if_neg (by rw [hfin]; decide)] at hlay
  have hst := (u_facts hfc hkC (u_lays G.2.2.2.2.1 hC.2.1 hkN) hi).1
  have h6 := u_store hfc hkC hkind hlay hi (hC.2.2.1 k hkN) (hn (K.ks.ad b)) (hfit (K.ks.ad b))
  refine W.putK G.1 G.2.1 (f := f) ⟨G.2.2.2.1, G.2.2.2.2.1 _ hq, ⟨_, _, _, hi⟩, hst⟩ (by rw [q2]; exact h6) q1 q3 (by rw [hsl]; exact k2_hasslot (q4 k hkN)) rfl rfl hd fun H' e1 e2 e3 => ?_
  rw [hsl] at e1 ⊢
  refine kk H' _ ls (hH.put G.2.2.2.2.2.2.1 hk e3 ?_ (fun b hb => cellOf_si hb)) (hS.put e2 e3 (G.2.2.2.2.2.2.2.1 a hk.1)) hL
  refine ⟨_, hC.1, t_OB.to (V := updV (vp_V (fvs K.ks.ad w a 0 ds)) k (.ref (K.ks.ad b))) ⟨_, e1, q2, q3, t_set q4 hap hkN (.ref (K.ks.ad b))⟩ (fun j _ => ?_)⟩
  have hs := fvs_siF (ad := K.ks.ad) (w := w) (a := a) (x := 1) (by decide) ds 0 k hdk
  rw [Nat.zero_add] at hs
  show _ = vp_V (fvs K.ks.ad (si w a k 1) a 0 ds) j
  rw [hs]
  exact vp_updV_set (by rw [fvs_len]; exact (List.getElem?_eq_some_iff.mp hdk).1) _ j
theorem cityL_fst (z : Nat) : (cityL z).map Prod.fst = (List.range 91).map (fun i => z + 1 + i) := rfl
def no2 (k : Kd) : Bool := match k with
  | .inl (ci, ds) => !(Nat.beq ci 8) && ds.all (fun d => !(Nat.beq d.1 2))
  | .inr _ => true
theorem no2_of {k : Kd} (h : no2 k = true) : (∃ x, k = .inr x) ∨ ∃ ci ds, k = .inl (ci, ds) ∧ (∀ d ∈ ds, ¬ d.1 = 2) ∧ ¬ ci = 8 := by
  rcases k with ⟨ci, ds⟩ | x
  · have h2 : (!(Nat.beq ci 8) && ds.all (fun d => !(Nat.beq d.1 2))) = true := h
    rw [Bool.and_eq_true, List.all_eq_true] at h2
    refine Or.inr ⟨ci, ds, rfl, fun d hd e => ?_, fun e => ?_⟩
    · have := h2.2 d hd
      rw [e] at this
      exact absurd this (by decide)
    · rw [e] at h2
      exact absurd h2.1 (by decide)
  · exact Or.inl ⟨x, rfl⟩
theorem cityL_no2a (z : Nat) : (cityL z).all (fun q => no2 q.2) = true := rfl
theorem cityL_no2 (z : Nat) : ∀ q ∈ cityL z, (∃ x, q.2 = .inr x) ∨ ∃ ci ds, q.2 = .inl (ci, ds) ∧ (∀ d ∈ ds, ¬ d.1 = 2) ∧ ¬ ci = 8 := fun q hq => no2_of (List.all_eq_true.mp (cityL_no2a z) q hq)
theorem cityL_all {S : KS} {z a : Nat} (h : IsCity S z) (h1 : z + 1 ≤ a) (h2 : a ≤ z + 91) : S.D a ∧ ((∃ x, S.kd a = .inr x) ∨ ∃ ci ds, S.kd a = .inl (ci, ds) ∧ (∀ d ∈ ds, ¬ d.1 = 2) ∧ ¬ ci = 8) := by
  have e : a ∈ (cityL z).map Prod.fst := by
    rw [cityL_fst]
    exact List.mem_map.mpr ⟨a - (z + 1), List.mem_range.mpr (by omega), by omega⟩
  obtain ⟨q, hq, rfl⟩ := List.mem_map.mp e
  have hk := h q hq
  refine ⟨hk.1, ?_⟩
  rw [hk.2]
  exact cityL_no2 z q hq
theorem cityL_rng (z : Nat) : ∀ q ∈ cityL z, z + 1 ≤ q.1 ∧ q.1 ≤ z + 91 := by
  intro q hq
  have e : q.1 ∈ (cityL z).map Prod.fst := List.mem_map.mpr ⟨q, hq, rfl⟩
  rw [cityL_fst] at e
  obtain ⟨i, h1, h2⟩ := List.mem_map.mp e
  have := List.mem_range.mp h1
  omega
theorem otherL_rng : ∀ q ∈ otherL, q.1 ≤ 168 := by simp [otherL]
theorem Main.ex {S S' : KS} {w : Wd} {sz z : Nat} (M : Main S) (hz : 200 ≤ z ∧ z ≤ 800) (hE : EX S S' w sz (z + 1) (z + 91) (z + 1)) : Main S' := by
  refine ⟨⟨fun q hq => ?_, fun A U H h => ?_⟩, fun q hq => ?_⟩
  · have h9 := M.1.1 q hq
    have := otherL_rng q hq
    obtain ⟨u1, u2⟩ := hE.2.1 q.1 (by omega) (by omega)
    exact ⟨u1.mpr h9.1, u2.trans h9.2⟩
  · have h8 := M.1.2 A U H (by rw [← hE.1.2.2]; exact h)
    have e1 := hE.2.2.1 9000 (by omega)
    have e2 := hE.2.2.1 9001 (by omega)
    unfold XG at h8 ⊢
    rw [e1, e2]
    exact h8
  · have h9 := M.2 q hq
    have := cityL_rng 0 q hq
    obtain ⟨u1, u2⟩ := hE.2.1 q.1 (by omega) (by omega)
    exact ⟨u1.mpr h9.1, u2.trans h9.2⟩
theorem imZ_d (d : Nat) : imZ (135 + 2 * d) = 200 + 100 * d := by
  unfold imZ
  omega
theorem IM.ex {S S' : KS} {w w' : Wd} {sz z T : Nat} (h : IM S w) (hz : 200 ≤ z ∧ z ≤ 800) (hf : ∀ a, z + 1 ≤ a → a ≤ z + 91 → ¬ S.D a) (hE : EX S S' w' sz (z + 1) (z + 91) (z + 1)) (hC : IsCity S' z) (hT : imZ T = z) (hfl : ∀ a, a ≠ T → S.D a → ¬ (z + 1 ≤ a ∧ a ≤ z + 91) → w'.1 a 3 = w.1 a 3) : IM S' w' := by
  intro T' hT' hn
  by_cases hb : z + 1 ≤ T' ∧ T' ≤ z + 91
  · rcases (cityL_all hC hb.1 hb.2).2 with ⟨x, e⟩ | ⟨ci, ds, e, -, e2⟩
    · rw [hT'.1.2] at e
      cases e
    · rw [hT'.1.2] at e
      cases e
      exact absurd rfl e2
  · obtain ⟨u1, u2⟩ := hE.2.1 T' hb (by omega)
    have hD := u1.mp hT'.1.1
    by_cases e : T' = T
    · rw [e, hT]
      exact hC
    · have hb2 : ¬ (z + 1 ≤ T' + 1 ∧ T' + 1 ≤ z + 91) := by
        intro hb2
        rcases (cityL_all hC hb2.1 hb2.2).2 with ⟨x, e⟩ | ⟨ci, ds, e, -, -⟩
        · have e9 : T' = z := by omega
          have h1 := (hC (z + 1, _) (List.mem_of_getElem? (i := 0) rfl)).2
          have h2 := hT'.2.2
          rw [e9] at h2
          exact absurd (h1.symm.trans h2) (by simp)
        · have h2 := hT'.2.2
          rw [h2] at e
          cases e
      obtain ⟨u3, u4⟩ := hE.2.1 (T' + 1) hb2 (by omega)
      have hTs : IsTape S T' := ⟨⟨hD, u2.symm.trans hT'.1.2⟩, ⟨u3.mp hT'.2.1, u4.symm.trans hT'.2.2⟩⟩
      have hc := h T' hTs (by rw [← hfl T' e hD hb]; exact hn)
      intro q hq
      have hk := hc q hq
      have hnb : ¬ (z + 1 ≤ q.1 ∧ q.1 ≤ z + 91) := fun hb => hf q.1 hb.1 hb.2 hk.1
      obtain ⟨u5, u6⟩ := hE.2.1 q.1 hnb (by omega)
      exact ⟨u5.mpr hk.1, u6.trans hk.2⟩
theorem FR.ex {S S' : KS} {w w' : Wd} {sz d : Nat} (h : FR S w) (hd : d < 6) (hE : EX S S' w' sz (200 + 100 * d + 1) (200 + 100 * d + 91) (200 + 100 * d + 1)) (hw : ¬ w'.1 (135 + 2 * d) 3 = 0) (hfl : ∀ e, e < 6 → e ≠ d → w'.1 (135 + 2 * e) 3 = w.1 (135 + 2 * e) 3) : FR S' w' := by
  intro e he hn a a1 a2 hD
  by_cases h1 : e = d
  · rw [h1] at hn
    exact hw hn
  · obtain ⟨u1, -⟩ := hE.2.1 a (by omega) (by omega)
    exact h e he (by rw [← hfl e he h1]; exact hn) a a1 a2 (u1.mp hD)
theorem EX.w {S S' : KS} {w w' : Wd} {sz lo hi v0 : Nat} (h : EX S S' w sz lo hi v0) (hC : Clo S' w') : EX S S' w' sz lo hi v0 := ⟨h.1, h.2.1, h.2.2.1, h.2.2.2.1, h.2.2.2.2.1, hC⟩
theorem noV_k {a b v : Nat} {x : Int32} (h : ¬ a = v) (h' : ¬ b = v) : noV v [some (.ref a), some (.int x), some (.ref b)] = true := by
  have h1 := noVs1 h
  have h2 := noVs1 h'
  simp [noVs] at h1 h2
  simp [noV, h1, h2]
theorem Wlns_at {z a : Nat} {w : Wd} : ∀ k, (a < z + 36 ∨ z + 36 + 7 * k ≤ a) → (Wlns z w k).1 a = w.1 a
  | 0, _ => rfl
  | k + 1, h => by
    have e : ∀ j, j < 7 → ¬ a = z + 36 + 7 * k + j := fun j hj => by omega
    have e0 : ¬ a = z + 36 + 7 * k := by omega
    rw [← Wlns_at (z := z) (w := w) k (by omega)]
    show (Wln (z + 36 + 7 * k) (zi (Wlns z w k) (z + 36 + 7 * k))).1 a = _
    simp [Wln, zi, si, e0, e 1, e 2, e 3, e 4, e 5, e 6]
theorem WcityA_at {z a : Nat} {w : Wd} (h : a < z + 1 ∨ z + 35 < a) : (WcityA z w).1 a = w.1 a := by
  have e : ∀ j, 1 ≤ j → j ≤ 35 → ¬ a = z + j := fun j h1 h2 => by omega
  simp [WcityA, Wcg, Wcwt, Wchs, Wcom, zi, si, e 1, e 2, e 3, e 4, e 5, e 6, e 7, e 8, e 9, e 10, e 11, e 12, e 13, e 14, e 15, e 16, e 17, e 18, e 19, e 20, e 21, e 22, e 23, e 24, e 25, e 26, e 27, e 28, e 29, e 30, e 31, e 32, e 33, e 34, e 35]
theorem Wcity_at {z a : Nat} {w : Wd} (h : ¬ (z + 1 ≤ a ∧ a ≤ z + 91)) : (Wcity z (zi w (z + 1))).1 a = w.1 a := by
  unfold Wcity
  rw [restG_at (by omega), Wlns_at 8 (by omega), WcityA_at (by omega)]
  have e : ¬ a = z + 1 := by omega
  simp [zi, e]
set_option maxHeartbeats 4000000 in
/-- the image stands: from place 34 on -/
theorem xX11_keepC {K : KT} {S : KS} {sz c s d : Nat} {v1 : Int32} {w : Wd} {r : Int32 × Wd} (G : GK K cX11_keep RX11 3 7) (hd : d < 6) (M : Main K.ks) (hz : IsCity K.ks (200 + 100 * d)) (hfl : ¬ w.1 (135 + 2 * d) 3 = 0) (hf : fX11_keepC (135 + 2 * d) w = some r) {lo hi : Nat} (hlo : 200 ≤ lo ∧ hi ≤ 891) (hE : EX S K.ks w sz lo hi 9999) (h9 : (K.ks.D 9999 ↔ S.D 9999) ∧ K.ks.kd 9999 = S.kd 9999) (hn2 : ∀ a, lo ≤ a → a ≤ hi → n2 (K.ks.kd a)) (hIM : IM K.ks w) (hFR : FR K.ks w) (hR : RKe K S sz c s r.2 r.1) (hc : K.cells ≤ c) (hs : K.slots ≤ s) : XW K 34 [some (.ref 0), some (.int v1), some (.ref (135 + 2 * d))] [] w := by
  have hT : IsTape K.ks (135 + 2 * d) := tapeAt M d hd
  unfold fX11_keepC at hf
  obtain ⟨w_1, e1, hf⟩ := bnd hf
  rw [imZ_d] at e1
  have hfr := frfX0_become e1
  have hfl1 : ∀ a, ¬ (200 + 100 * d + 1 ≤ a ∧ a ≤ 200 + 100 * d + 91) → w_1.1 a = w.1 a := fun a ha => (hfr a (by simp; omega)).1
  have ez : imZ (135 + 2 * d) + 1 = 200 + 100 * d + 1 := by rw [imZ_d]
  have hk := hT.1
  rw [ez] at hk
  refine x_aload_n G dX11_keep_34 rfl rfl ?_
  refine x_getNr G hk 3 (b := 200 + 100 * d + 1) rfl cl8 rfl wf_X11_405 dX11_keep_35 hfl ?_
  refine x_aload_n G dX11_keep_38 rfl rfl ?_
  refine x_getR G (kd0 M) 0 (b := 1) rfl cl11 rfl wf_X11_10 dX11_keep_39 ?_
  refine x_virV G (As := [.ref 1]) (mX0_become G.2.2.2.2.2.2.1 M hz M.2 e1) mv_X11_408 (ic1 hz) cl0 rfl rfl rfl rfl rfl dX11_keep_42 ?_
  replace hf : some ((si (si w_1 (135 + 2 * d) 0 6) (135 + 2 * d) 1 0).1 1 6, si (si w_1 (135 + 2 * d) 0 6) (135 + 2 * d) 1 0) = some r := hf
  refine x_aload_n G dX11_keep_45 rfl rfl ?_
  refine x_bipush G (v := 6) dX11_keep_46 (by decide) ?_
  refine x_putI G hk 0 rfl cl8 rfl wf_X11_149 rfl rfl rfl dX11_keep_48 ?_
  refine x_aload_n G dX11_keep_51 rfl rfl ?_
  refine x_iconst G (v := 0) dX11_keep_52 (by decide) ?_
  refine x_putI G hk 1 rfl cl8 rfl wf_X11_155 rfl rfl rfl dX11_keep_53 ?_
  refine x_aload_n G dX11_keep_56 rfl rfl ?_
  refine x_getR G (kd0 M) 0 (b := 1) rfl cl11 rfl wf_X11_10 dX11_keep_57 ?_
  refine x_getI G (kd1 M) 6 rfl cl0 rfl wf_X11_337 dX11_keep_60 ?_
  cases hf
  have h3 : ∀ a, ¬ (200 + 100 * d + 1 ≤ a ∧ a ≤ 200 + 100 * d + 91) → (si (si w_1 (135 + 2 * d) 0 6) (135 + 2 * d) 1 0).1 a 3 = w.1 a 3 := fun a ha => by
    rw [← hfl1 a ha]
    by_cases e : a = 135 + 2 * d
    · subst e
      simp [si, upd]
    · simp [si, e]
  have hCl : Clo K.ks (si (si w_1 (135 + 2 * d) 0 6) (135 + 2 * d) 1 0) := by
    intro a ha t ht
    by_cases e : a = 135 + 2 * d
    · subst e
      refine hE.2.2.2.2.2 _ ha t ?_
      rw [hT.1.2] at ht ⊢
      obtain ⟨j, q, g1, g2, g3⟩ := ht
      refine ⟨j, q, g1, g2, g3.imp id (fun g => ⟨g.1, ?_⟩)⟩
      have hj : j = 3 := by
        rcases j with _ | _ | _ | _ | j
        · simp at g1; subst g1; exact absurd (show 0 = 2 from g.1) (by decide)
        · simp at g1; subst g1; exact absurd (show 0 = 2 from g.1) (by decide)
        · simp at g1; subst g1; exact absurd (show 1 = 2 from g.1) (by decide)
        · rfl
        · simp at g1
      subst hj
      exact hfl
    · by_cases hb : 200 + 100 * d + 1 ≤ a ∧ a ≤ 200 + 100 * d + 91
      · rcases (cityL_all hz hb.1 hb.2).2 with ⟨x, e2⟩ | ⟨ci, ds, e2, h2, -⟩
        · refine hE.2.2.2.2.2 _ ha t ?_
          rw [e2] at ht ⊢
          exact ht
        · refine hE.2.2.2.2.2 _ ha t ?_
          rw [e2] at ht ⊢
          obtain ⟨j, q, g1, g2, g3⟩ := ht
          exact ⟨j, q, g1, g2, g3.imp id (fun g => absurd g.1 (h2 q (List.mem_of_getElem? g1)))⟩
      · refine hE.2.2.2.2.2 _ ha t ?_
        have e3 : (si (si w_1 (135 + 2 * d) 0 6) (135 + 2 * d) 1 0).1 a = w.1 a := by
          rw [← hfl1 a hb]
          simp [si, e]
        generalize K.ks.kd a = k at ht ⊢
        rcases k with ⟨ci, ds⟩ | ⟨n, m, f⟩
        · obtain ⟨j, q, g1, g2, g4⟩ := ht
          exact ⟨j, q, g1, g2, g4.imp id (fun g => ⟨g.1, fun e4 => g.2 (by rw [e3]; exact e4)⟩)⟩
        · exact ht
  refine x_kret G hR hc hs ⟨lo, hi, hlo, hE.w hCl, h9, M, fun T hT2 hn => ?_, fun e he hn => ?_, hn2⟩ dX11_keep_63
  · by_cases hb : 200 + 100 * d + 1 ≤ T ∧ T ≤ 200 + 100 * d + 91
    · rcases (cityL_all hz hb.1 hb.2).2 with ⟨x, e⟩ | ⟨ci, ds, e, -, e2⟩
      · rw [hT2.1.2] at e
        cases e
      · rw [hT2.1.2] at e
        cases e
        exact absurd rfl e2
    · exact hIM T hT2 (by rw [← h3 T hb]; exact hn)
  · exact hFR e he (by rw [← h3 _ (by omega)]; exact hn)
set_option maxHeartbeats 4000000 in
theorem xX11_keep_e {K : KT} {S : KS} {sz : Nat} {v1 : Int32} {w : Wd} {r : Int32 × Wd} (hX : XCs S) (hKs : K.ks = S) (hsz : K.H0.size = sz) (hc0 : K.cells = 0) (hs0 : K.slots = 0) (hcR : 91 ≤ K.R.cells) (hsR : 4358 ≤ K.R.slots) (G : GK K cX11_keep RX11 3 7) (M : Main K.ks) (hIM : IM K.ks w) (hFR : FR K.ks w) (hCl : Clo K.ks w) (hf : fX11_keep v1 w = some r) (hR : RKe K S sz 91 4358 r.2 r.1) : XW K 0 [some (.ref 0), some (.int v1), none] [] w := by
  subst hKs
  unfold fX11_keep at hf
  refine x_iload_n G dX11_keep_0 rfl rfl ?_
  obtain ⟨v_1, hv_1, hf⟩ := bnd hf
  refine x_staI G (As := [.int v1]) (mX11_isTape G.2.2.2.2.2.2.1 M hv_1) ms_X11_146 rfl rfl rfl rfl rfl dX11_keep_1 ?_
  refine x_ifneB G (tgt := 9) dX11_keep_4 (by decide) hf (fun c_2 hf => ?_) (fun c_2 hf => ?_)
  · refine x_aload_n G dX11_keep_9 rfl rfl ?_
    refine x_getR G (kd0 M) 5 (b := 134) rfl cl11 rfl wf_X11_46 dX11_keep_10 ?_
    refine x_iload_n G dX11_keep_13 rfl rfl ?_
    refine x_aald G (kd134 M) (kn := 1) (by decide) dX11_keep_14 hf (fun hb_3 hf => ?_)
    have hd := inb_lt hb_3
    generalize v1.toNatClampNeg = d at hf hd ⊢
    have hT : IsTape K.ks (135 + 2 * d) := tapeAt M d hd
    have hk := hT.1
    rw [imZ_d] at hk
    refine x_astore_n G (lv' := [some (.ref 0), some (.int v1), some (.ref (135 + 2 * d))]) dX11_keep_15 rfl rfl rfl rfl ?_
    refine x_aload_n G dX11_keep_16 rfl rfl ?_
    refine x_getN (r := ()) (A := some ()) (B := some ()) G hk 3 rfl cl8 rfl wf_X11_405 dX11_keep_17 (by split <;> rfl) (fun hn _ => ?_) (fun hn _ => ?_)
    · refine x_ifnonnullN G dX11_keep_20 ?_
      have hfree := hFR d hd hn
      rw [fX11_keepN, if_pos hn, imZ_d] at hf
      refine x_aload_n G dX11_keep_23 rfl rfl ?_
      refine x_newO G (v := 200 + 100 * d + 1) (ds := [(3, 0), (3, 0), (3, 0), (3, 0), (3, 0), (0, 0), (0, 0), (0, 0), (0, 0), (0, 0), (0, 0), (0, 0), (0, 0)]) cl0 wcl_X11_7 wins_X0 wz_X0 (fun j hj => match j, hj with | 0, _ => rfl | 1, _ => rfl | 2, _ => rfl | 3, _ => rfl | 4, _ => rfl | 5, _ => rfl | 6, _ => rfl | 7, _ => rfl | 8, _ => rfl | 9, _ => rfl | 10, _ => rfl | 11, _ => rfl | 12, _ => rfl | m + 13, h => absurd h (by omega)) (by decide) hCl (hfree _ (by omega) (by omega)) (by omega) (by omega) (noV_k (by omega) (by omega)) (noVs1 (by omega)) dX11_keep_24 (fun q hq9 G1 c1 => ?_)
      refine x_dup G1 dX11_keep_27 rfl ?_
      have hM1 := kX0_init (l := K.l) (S := KSx K.ks (200 + 100 * d + 1) q (.inl (0, [(3, 0), (3, 0), (3, 0), (3, 0), (3, 0), (0, 0), (0, 0), (0, 0), (0, 0), (0, 0), (0, 0), (0, 0), (0, 0)]))) (z := 200 + 100 * d) (w := zi w (200 + 100 * d + 1)) hX G1.2.2.2.2.2.2.1 ⟨Or.inr rfl, if_pos rfl⟩ (fun a a1 a2 h => (show K.ks.D a ∨ a = 200 + 100 * d + 1 from h).elim (hfree a (by omega) (by omega)) (by omega)) c1
      have key : ∀ (S' : KS) (z : Nat), K.H0.size ≤ z → EX (KSx K.ks (200 + 100 * d + 1) q (.inl (0, [(3, 0), (3, 0), (3, 0), (3, 0), (3, 0), (0, 0), (0, 0), (0, 0), (0, 0), (0, 0), (0, 0), (0, 0), (0, 0)]))) S' (Wcity (200 + 100 * d) (zi w (200 + 100 * d + 1))) z (200 + 100 * d + 2) (200 + 100 * d + 91) (200 + 100 * d + 1) → (∀ q ∈ cityL (200 + 100 * d), KD S' q.1 q.2) → GK (Kn K S' (K.cells + 1 + 90) (K.slots + 13 + 4345)) cX11_keep RX11 3 7 → XW (Kn K S' (K.cells + 1 + 90) (K.slots + 13 + 4345)) 31 [some (.ref 0), some (.int v1), some (.ref (135 + 2 * d))] [.ref (200 + 100 * d + 1), .ref (135 + 2 * d)] (Wcity (200 + 100 * d) (zi w (200 + 100 * d + 1))) := fun S' z hz E2 L2 G2 => by
        have hC : IsCity S' (200 + 100 * d) := L2
        have hEt : EX K.ks S' (Wcity (200 + 100 * d) (zi w (200 + 100 * d + 1))) sz (200 + 100 * d + 1) (200 + 100 * d + 91) (200 + 100 * d + 1) := by
          obtain ⟨⟨a1, a2, a3⟩, b, c, dd, e, f⟩ := E2
          refine ⟨⟨a1, a2, a3⟩, fun a ha h0 => ?_, fun a ha => ?_, fun a g1 g2 hD => ?_, e, f⟩
          · obtain ⟨u1, u2⟩ := b a (by omega) h0
            exact ⟨⟨fun h => (u1.mp h).resolve_right h0, fun h => u1.mpr (Or.inl h)⟩, u2.trans (if_neg h0)⟩
          · exact (c a (by omega)).trans (if_neg (by omega))
          · by_cases e9 : a = 200 + 100 * d + 1
            · subst e9
              rw [c _ (by omega)]
              show sz ≤ (if 200 + 100 * d + 1 = 200 + 100 * d + 1 then q else _)
              rw [if_pos rfl, ← hsz]
              exact hq9
            · exact Nat.le_trans (by rw [← hsz]; exact hz) (dd a (by omega) g2 hD)
        have M2 : Main S' := M.ex (by omega) hEt
        have hT2 : IsTape S' (135 + 2 * d) := tapeAt M2 d hd
        have hk2 := hT2.1
        rw [imZ_d] at hk2
        refine x_putF G2 hk2 3 rfl cl8 rfl wf_X11_405 rfl (fun _ => rfl) (fun _ => rfl) dX11_keep_31 ?_
        have hW : ∀ a, ¬ (200 + 100 * d + 1 ≤ a ∧ a ≤ 200 + 100 * d + 91) → (Wcity (200 + 100 * d) (zi w (200 + 100 * d + 1))).1 a = w.1 a := fun a ha => Wcity_at ha
        have hCl2 : Clo S' (si (Wcity (200 + 100 * d) (zi w (200 + 100 * d + 1))) (135 + 2 * d) 3 1) := by
          intro a ha t ht
          by_cases e : a = 135 + 2 * d
          · subst e
            rw [hk2.2] at ht
            obtain ⟨j, q, g1, g2, g3⟩ := ht
            rcases j with _ | _ | _ | _ | j
            · simp at g1; subst g1; simp at g3
            · simp at g1; subst g1; simp at g3
            · simp at g1
              subst g1
              rw [← g2]
              exact hT2.2.1
            · simp at g1
              subst g1
              rw [← g2]
              exact (ic1 hC).1
            · simp at g1
          · refine hEt.2.2.2.2.2 a ha t ?_
            generalize S'.kd a = k at ht ⊢
            rcases k with ⟨ci, ds⟩ | ⟨n, m, f⟩
            · obtain ⟨j, q, g1, g2, g4⟩ := ht
              exact ⟨j, q, g1, g2, g4.imp id (fun g => ⟨g.1, fun e4 => g.2 (by simp [si, e]; exact e4)⟩)⟩
            · exact ht
        have hne3 : ∀ a, a ≠ 135 + 2 * d → (si (Wcity (200 + 100 * d) (zi w (200 + 100 * d + 1))) (135 + 2 * d) 3 1).1 a = (Wcity (200 + 100 * d) (zi w (200 + 100 * d + 1))).1 a := fun a ha => by simp [si, ha]
        refine xX11_keepC G2 hd M2 hC (by simp [si, upd]) hf (lo := 200 + 100 * d + 1) (hi := 200 + 100 * d + 91) (by omega) ((hEt.w hCl2).b (by omega)).1 ((hEt.w hCl2).b (by omega)).2 (fun a a1 a2 => (cityL_all hC a1 a2).2.imp id (fun h => h.imp fun ci h => h.imp fun ds h => ⟨h.1, h.2.1⟩)) ?_ ?_ hR (by show K.cells + 1 + 90 ≤ 91; omega) (by show K.slots + 13 + 4345 ≤ 4358; omega)
        · refine IM.ex (T := 135 + 2 * d) hIM (by omega) (fun a a1 a2 => hfree a (by omega) (by omega)) (hEt.w hCl2) hC (imZ_d d) (fun a ha _ hb => ?_)
          rw [hne3 a ha, hW a hb]
        · refine FR.ex hFR hd (hEt.w hCl2) (by simp [si, upd]) (fun e he hne => ?_)
          rw [hne3 _ (by omega), hW _ (by omega)]
      rcases mi_X11_9 with hm | hm
      · exact x_ctorN G1 hM1 hm (Or.inr rfl) (by omega) rfl rfl rfl (by show K.cells + 1 + 90 ≤ K.R.cells; omega) (by show K.slots + 13 + 4345 ≤ K.R.slots; omega) (fun v a1 a2 => noV_k (by omega) (by omega)) (fun v a1 a2 => noVs2 (by omega) (by omega)) dX11_keep_28 key
      · exact x_ctorP G1 hM1 hm (Or.inr rfl) (by omega) rfl rfl rfl (by show K.cells + 1 + 90 ≤ K.R.cells; omega) (by show K.slots + 13 + 4345 ≤ K.R.slots; omega) (fun v a1 a2 => noV_k (by omega) (by omega)) (fun v a1 a2 => noVs2 (by omega) (by omega)) dX11_keep_28 key
    · refine x_ifnonnullR G (tgt := 34) dX11_keep_20 (by decide) ?_
      rw [fX11_keepN, if_neg hn] at hf
      have hC : IsCity K.ks (200 + 100 * d) := by
        have := hIM _ hT hn
        rwa [imZ_d] at this
      exact xX11_keepC G hd M hC hn hf (by omega) (EX.self G.2.2.2.2.2.2.1 hCl).1 ⟨Iff.rfl, rfl⟩ (fun a a1 a2 => absurd (Nat.le_trans a1 a2) (by omega)) hIM hFR hR (by omega) (by omega)
  · refine x_iconst G (v := -1) dX11_keep_7 (by decide) ?_
    cases hf
    exact x_kret G hR (by omega) (by omega) ⟨300, 200, by omega, (EX.self G.2.2.2.2.2.2.1 hCl).1, ⟨Iff.rfl, rfl⟩, M, hIM, hFR, fun a a1 a2 => absurd (Nat.le_trans a1 a2) (by omega)⟩ dX11_keep_8
theorem mX11_keep {l : Launch} {S : KS} {v1 : Int32} {w : Wd} {r : Int32 × Wd} (hX : XCs S) (hI : Inj S) (M : Main S) (hIM : IM S w) (hFR : FR S w) (hCl : Clo S w) (hf : fX11_keep v1 w = some r) (sz : Nat) :
    Met l yX11_keep (wsM yX11_keep cX11_keep 3 (some .int)) (rmC 7 91 4358) (va_Pc [.ref (S.ad 0), .int v1] (fun U => U.heap.size = sz ∧ HH S w U.heap ∧ KK S (AA S sz) U U.heap)) (va_Qi (fun (r' : Int32) (S' : KS) => r' = r.1 ∧ KP S S' r.2 sz) (fun S' t => HH S' r.2 t.heap) (AA S sz)) 91 4358 (AA S sz) := by
  refine Met.ofW (cc := cX11_keep) (maxL := 3) (ret := some .int) (by decide +kernel) rfl ?_
  intro p e s9 m' args below meth c9 s₁ B hml hv
  obtain ⟨rfl, hsz, hH, hK⟩ := hv
  have hts := atoms_spec (ws := wsM yX11_keep cX11_keep 3 (some .int)) B.pre
  have hown' : s9.vm.findClass RX11 = some m'.cls := findClass_of_methodNamed B.named
  have hsl' : (lg_sl [Value.ref (S.ad 0), .int v1]).length ≤ 3 := Nat.le_of_ble_eq_true rfl
  have hl := lv_entry [Value.ref (S.ad 0), .int v1] hsl'
  rw [lg_entry_eq]
  let K : KT := ((p, l, e, (headSpec (wsM yX11_keep cX11_keep 3 (some .int)) (rmC 7 91 4358)).room, s9, m', [Value.ref (S.ad 0), .int v1].toArray, below), (meth, c9, MQ below (va_Qi (fun (r' : Int32) (S' : KS) => r' = r.1 ∧ KP S S' r.2 sz) (fun S' t => HH S' r.2 t.heap) (AA S sz)) [Value.ref (S.ad 0), .int v1].toArray s9 91 4358 (AA S sz), 0, 0), S, AA S sz, s9.heap)
  have G : GK K cX11_keep RX11 3 7 := ⟨B.exec, B.bytes, hml, hown', fun w hw => hts w (List.mem_cons_of_mem _ hw), hK, hI, fun k hk => Or.inl ⟨k, hk, rfl⟩, fun q hq => Or.inr (by rw [← hsz]; exact hq), B.notSynchronized, Nat.le_refl 7, Nat.le_refl (60 * 7), Nat.zero_le 91, Nat.zero_le 4358⟩
  refine xX11_keep_e (K := K) (S := S) (sz := sz) hX rfl hsz rfl rfl (Nat.le_refl _) (Nat.le_refl _) G M hIM hFR hCl hf ⟨B.returns, rfl, rfl⟩ s9.heap [] _ hH va_S.rf ?_
  refine ⟨by rw [hl.1]; exact hml.symm, hl.2.1, fun i v hi => hl.2.2 (i, cv S.ad v) ?_⟩
  have := entL_args S.ad [.ref 0, .int v1] 0 i v (pad_get (l := [some (.ref 0), some (.int v1)]) (n := 1) hi)
  rwa [Nat.zero_add] at this

