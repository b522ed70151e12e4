-- MATHEMATICS: m11
theorem YC.lcell {w : Wd} {n m i : Nat} {S : Nat → Int32} (h : YC w 0 S n) (hm : (m : Int) < (S 4315).toInt) (hi : (i : Int) < (S (3300 + 125 * m)).toInt) : ∃ c, c < 100 ∧ S (3304 + 125 * m + 6 * i) = iN c := by
  obtain ⟨c, h1, h2⟩ := ((h.2.2.2.2.1.2 m hm).2.1 i hi).1
  refine ⟨c, h1, ?_⟩
  rw [show 3304 + 125 * m + 6 * i = 3300 + 125 * m + (4 + 6 * i) by omega]
  exact h2
theorem YC.lenB {w : Wd} {n m : Nat} {S : Nat → Int32} (h : YC w 0 S n) (hm : (m : Int) < (S 4315).toInt) : 2 ≤ (S (3300 + 125 * m)).toInt ∧ (S (3300 + 125 * m)).toInt ≤ 19 := (h.2.2.2.2.1.2 m hm).1.1
theorem onLine {n : Nat} {wc wm : Wd} {v1 v2 : Int32} (h : YY n wc wm) : (∃ m i : Nat, m < 8 ∧ i < 19 ∧ v1 = iN m ∧ v2 = iN i ∧ (m : Int) < (wm.1 149 4315).toInt ∧ (i : Int) < (wm.1 149 (3300 + 125 * m)).toInt ∧ fX11_isOnLine v1 v2 wc = some true ∧ fX12_isSpot v1 v2 wm = some true) ∨ (fX11_isOnLine v1 v2 wc = some false ∧ fX12_isSpot v1 v2 wm = some false) := by
  obtain ⟨m1, m2, m3⟩ := h.many0
  unfold fX11_isOnLine fX12_isSpot
  rw [isLine_c m1, isLine_m m2, h.1.many]
  simp only [nw_eq, Option.bind_some, isCell_c, isCell_m, isTape_c, isTape_m, within_eq, in_eq, Int32.toInt_toInt64, decide_eq_true_eq, Int32.reduceToInt, Int64.reduceToInt, tn128, tm128, if_true, if_false, Bool.false_eq_true]
  by_cases h1 : 0 ≤ v1.toInt ∧ v1.toInt < (wm.1 149 4315).toInt
  · rw [if_pos h1, if_pos h1]
    obtain ⟨m, hm, rfl, hm2⟩ := line_cases h1 (by rw [← h.1.many]; exact m3)
    obtain ⟨l1, l2⟩ := h.1.lenB hm2
    rw [inb_lt2 hm (by omega), if_pos rfl, ml_0 hm, iN_clamp (by omega), h.1.len hm2]
    simp only [nw_eq, Option.bind_some, isCell_c, isCell_m, isTape_c, isTape_m, within_eq, in_eq, Int32.toInt_toInt64, decide_eq_true_eq, Int32.reduceToInt, Int64.reduceToInt, tn128, tm128, if_true, if_false, Bool.false_eq_true]
    rw [sub1_I (by omega)]
    by_cases h2 : 0 ≤ v2.toInt ∧ v2.toInt ≤ (wm.1 149 (3300 + 125 * m)).toInt - 1
    · rw [if_pos h2]
      obtain ⟨i, hi, rfl⟩ := of_range (v := v2) 19 h2.1 (by omega)
      rw [iN_toInt (by omega)] at h2
      exact Or.inl ⟨m, i, hm, hi, rfl, rfl, hm2, by omega, rfl, rfl⟩
    · rw [if_neg h2]
      exact Or.inr ⟨rfl, rfl⟩
  · rw [if_neg h1, if_neg h1]
    exact Or.inr ⟨rfl, rfl⟩
theorem IL.put {S : Nat → Int32} {m r : Nat} {x : Int32} (h : IL S) (hm : m < 8) (hr : r < 125) (hx : ∀ D g, ln1 D g → ln1 D (upd g r x)) : IL (upd S (3300 + 125 * m + r) x) := by
  refine ⟨by rw [upd_ne (by omega)]; exact h.1, fun m' hm' => ?_⟩
  rw [upd_ne (by omega)] at hm'
  have hm8 := h.lt hm'
  rw [upd_ne (show 4300 ≠ 3300 + 125 * m + r by omega)]
  have h1 := h.2 m' hm'
  by_cases e : m' = m
  · subst e
    refine (hx _ _ h1).cong (fun r' hr' => ?_)
    by_cases e2 : r' = r
    · rw [e2, upd_eq, upd_eq]
    · rw [upd_ne (by omega), upd_ne e2]
  · exact h1.cong (fun r' hr' => upd_ne (by omega))
theorem Inv.line {S : Nat → Int32} {n m r : Nat} {x : Int32} (h : Inv S n) (hm : m < 8) (hr : r < 125) (hx : ∀ D g, ln1 D g → ln1 D (upd g r x)) : Inv (upd S (3300 + 125 * m + r) x) n := by
  obtain ⟨i1, i2, i3, i4, i5⟩ := h
  exact ⟨i1.cong (fun c j _ _ => upd_ne (by omega)), i2.cong (fun k _ _ => upd_ne (by omega)) (upd_ne (by omega)), i3.put hm hr hx, i4.cong (fun c _ => upd_ne (by omega)) (fun j _ => upd_ne (by omega)), i5.cong (fun c j _ _ _ => upd_ne (by omega)) (fun k _ _ => upd_ne (by omega)) (upd_ne (by omega))⟩
theorem YY.linep {n m r o i : Nat} {wc wm : Wd} {x : Int32} (h : YY n wc wm) (hm : m < 8) (hr : r < 125) (hl : loc (3300 + 125 * m + r) = (o, i)) (ho : 36 ≤ o ∧ o ≤ 91) (hk : plainK (3300 + 125 * m + r)) (hx : ∀ D g, ln1 D g → ln1 D (upd g r x)) : YY n (si wc o i x) (si wm 149 (3300 + 125 * m + r) x) := by
  refine h.city ?_ (fun a h1 _ => ⟨si_oth (by omega), rfl⟩) (fun a h1 _ _ _ _ => si_oth h1) rfl (fun j _ _ => by rw [si_oth (by omega)])
  have := h.1.put (o := o) (i := i) (x := x) hl hk (h.1.2.2.line hm hr hx)
  rw [Nat.zero_add] at this
  rw [si_row]
  exact this
theorem ln1.gangs {D : Int} {g : Nat → Int32} {x : Int32} (h : ln1 D g) (hx : bt 0 4 x) : ln1 D (upd g 3 x) := by
  obtain ⟨⟨a, b, c, -⟩, h2, h3, h4⟩ := h
  have e : ∀ r, r ≠ 3 → upd g 3 x r = g r := fun r hr => upd_ne hr
  refine ⟨⟨a, b, c, hx⟩, fun i hi => (h2 i hi).cong (fun j a1 a2 => e _ (by omega)), fun i c d hi a1 a2 a3 a4 => ?_, fun i j hij hj a1 => ?_⟩
  · rw [e _ (by omega)] at a1 a3
    exact h3 i c d hi a1 a2 a3 a4
  · rw [e _ (by omega), e _ (by omega)] at a1
    exact h4 i j hij hj a1
theorem gangs_ok {n : Nat} {wc wm : Wd} {v1 v2 : Int32} (h : YY n wc wm) : ∃ r wc' wm', fX11_gangs v1 v2 wc = some (r, wc') ∧ fX12_gangs v1 v2 wm = some (r, wm') ∧ YY n wc' wm' := by
  have h0 := h.thr (x := 0)
  obtain ⟨m1, m2, m3⟩ := h0.many0
  unfold fX11_gangs fX12_gangs
  simp only [nw_eq]
  rw [isLine_c m1, isLine_m m2, h0.1.many]
  simp only [nw_eq, Option.bind_some, isCell_c, isCell_m, isTape_c, isTape_m, within_eq, in_eq, Int32.toInt_toInt64, decide_eq_true_eq, Int32.reduceToInt, Int64.reduceToInt, tn128, tm128, if_true, if_false, Bool.false_eq_true]
  by_cases h1 : 0 ≤ v1.toInt ∧ v1.toInt < ((si wm 148 0 0).1 149 4315).toInt
  · rw [if_pos h1, if_pos h1]
    obtain ⟨m, hm, rfl, hm2⟩ := line_cases h1 (by rw [← h0.1.many]; exact m3)
    by_cases h2 : 0 ≤ v2.toInt ∧ v2.toInt ≤ 4
    · rw [if_pos h2, if_pos h2, inb_lt2 hm (by omega), if_pos rfl, ml_3 hm, iN_clamp (by omega), lit_mul, lit_add, add_lit, inb_lt2 (by omega) (by omega), wi_iN (by omega), h0.1.gangs hm2]
      simp only [nw_eq, Option.bind_some, isCell_c, isCell_m, isTape_c, isTape_m, within_eq, in_eq, Int32.toInt_toInt64, decide_eq_true_eq, Int32.reduceToInt, Int64.reduceToInt, tn128, tm128, if_true, if_false, Bool.false_eq_true]
      exact ⟨_, _, _, rfl, rfl, h0.linep (r := 3) hm (by omega) (loc_lnH hm (by omega)) (by omega) ⟨by omega, fun c _ => by omega, fun m' _ => ⟨by omega, fun i _ => by omega⟩, by omega, by omega⟩ (fun D g hg => hg.gangs h2)⟩
    · rw [if_neg h2, if_neg h2]
      exact ⟨_, _, _, rfl, rfl, h0⟩
  · rw [if_neg h1, if_neg h1]
    exact ⟨_, _, _, rfl, rfl, h0⟩
theorem ln1.bad {D : Int} {g : Nat → Int32} {x : Int32} {i0 : Nat} (h : ln1 D g) (hx : bt 0 1 x) : ln1 D (upd g (9 + 6 * i0) x) := by
  obtain ⟨a, h2, h3, h4⟩ := h
  have e : ∀ r, r ≠ 9 + 6 * i0 → upd g (9 + 6 * i0) x r = g r := fun r hr => upd_ne hr
  refine ⟨?_, fun i hi => ?_, fun i c d hi a1 a2 a3 a4 => ?_, fun i j hij hj a1 => ?_⟩
  · rw [e 0 (by omega), e 1 (by omega), e 2 (by omega), e 3 (by omega)]
    exact a
  · rw [e 0 (by omega)] at hi
    have := h2 i hi
    by_cases e9 : i = i0
    · subst e9
      obtain ⟨b1, b2, b3, b4, b5⟩ := this
      unfold lnS
      rw [e _ (by omega), e _ (by omega), e _ (by omega), e _ (by omega), upd_eq]
      exact ⟨b1, b2, b3, b4, hx⟩
    · exact this.cong (fun j a1 a2 => e _ (by omega))
  · rw [e 0 (by omega)] at hi
    rw [e _ (by omega)] at a1 a3
    exact h3 i c d hi a1 a2 a3 a4
  · rw [e 0 (by omega)] at hj
    rw [e _ (by omega), e _ (by omega)] at a1
    exact h4 i j hij hj a1
theorem bad_ok {n : Nat} {wc wm : Wd} {v1 v2 v3 : Int32} (h3 : v3 = 0 ∨ v3 = 1) (h : YY n wc wm) : ∃ r wc' wm', fX11_bad v1 v2 v3 wc = some (r, wc') ∧ fX12_bad v1 v2 v3 wm = some (r, wm') ∧ YY n wc' wm' := by
  have h0 := h.thr (x := 0)
  unfold fX11_bad fX12_bad
  rw [nw_eq]
  rcases onLine (v1 := v1) (v2 := v2) h0 with ⟨m, i, hm, hi, rfl, rfl, hm2, hi2, e1, e2⟩ | ⟨e1, e2⟩
  · rw [e1, e2, msp_eq]
    simp only [nw_eq, Option.bind_some, isCell_c, isCell_m, isTape_c, isTape_m, within_eq, in_eq, Int32.toInt_toInt64, decide_eq_true_eq, Int32.reduceToInt, Int64.reduceToInt, tn128, tm128, if_true, if_false, Bool.false_eq_true]
    have r3 : wc.1 (37 + 7 * m + 3) i = _ := h0.1.lnI hm2 hi2 (j := 3) (by omega)
    have r5 : wc.1 (37 + 7 * m + 5) i = _ := h0.1.lnI hm2 hi2 (j := 5) (by omega)
    have b5 := ((h0.1.2.2.2.2.1.2 m hm2).2.1 i hi2).2.2.2.2
    rw [inb_lt2 hm (by omega), inb_lt2 hi (by omega), if_pos rfl, if_pos rfl, iN_clamp (by omega), ri_iN (by omega), show 36 + 7 * m + 4 = 37 + 7 * m + 3 by omega, r3, add_lit, add_lit, inb_lt2 (by omega) (by omega), inb_lt2 (by omega) (by omega), if_pos rfl, if_pos rfl, ri_iN (by omega), ri_iN (by omega)]
    by_cases c1 : (si wm 148 0 0).1 149 (3304 + 125 * m + 6 * i + 3) = -9
    · rw [if_pos c1, if_pos c1]
      exact ⟨_, _, _, rfl, rfl, h0⟩
    rw [if_neg c1, if_neg c1]
    have hx5 : (si wm 148 0 0).1 149 (3304 + 125 * m + 6 * i + 5) = 0 ∨ (si wm 148 0 0).1 149 (3304 + 125 * m + 6 * i + 5) = 1 := by
      have b6 : bt 0 1 ((si wm 148 0 0).1 149 (3304 + 125 * m + 6 * i + 5)) := by
        rw [show 3304 + 125 * m + 6 * i + 5 = 3300 + 125 * m + (9 + 6 * i) by omega]
        exact b5
      obtain ⟨k, hk, e⟩ := int_cases 1 b6 (by omega)
      have hk2 : k = 0 ∨ k = 1 := by omega
      rcases hk2 with rfl | rfl
      · exact Or.inl e
      · exact Or.inr e
    have fin : ∀ x : Int32, bt 0 1 x → YY n (si wc (37 + 7 * m + 5) i x) (si (si wm 148 0 0) 149 (3304 + 125 * m + 6 * i + 5) x) := fun x hx => by
      have := h0.linep (x := x) (r := 4 + 6 * i + 5) (o := 37 + 7 * m + 5) (i := i) hm (by omega) (by rw [show 3300 + 125 * m + (4 + 6 * i + 5) = 3304 + 125 * m + 6 * i + 5 by omega]; exact loc_lnI hm hi (by omega)) (by omega) ⟨by omega, fun c _ => by omega, fun m' _ => ⟨by omega, fun i' _ => by omega⟩, by omega, by omega⟩ (fun D g hg => by rw [show 4 + 6 * i + 5 = 9 + 6 * i by omega]; exact hg.bad hx)
      rwa [show 3300 + 125 * m + (4 + 6 * i + 5) = 3304 + 125 * m + 6 * i + 5 by omega] at this
    unfold fX11_bad_46 fX12_bad_59 fX12_bad_82
    rw [inb_lt2 hi (by omega), ri_iN (by omega), wi_iN (by omega), wi_iN (by omega), add_lit, inb_lt2 (by omega) (by omega), show 36 + 7 * m + 6 = 37 + 7 * m + 5 by omega, r5]
    simp only [nw_eq, Option.bind_some, isCell_c, isCell_m, isTape_c, isTape_m, within_eq, in_eq, Int32.toInt_toInt64, decide_eq_true_eq, Int32.reduceToInt, Int64.reduceToInt, tn128, tm128, if_true, if_false, Bool.false_eq_true]
    rw [wi_iN (by omega), wi_iN (by omega)]
    rcases h3 with rfl | rfl <;> rcases hx5 with e | e <;> rw [e]
    · exact ⟨_, _, _, rfl, rfl, h0⟩
    · exact ⟨_, _, _, rfl, rfl, fin 0 (by unfold bt; decide)⟩
    · exact ⟨_, _, _, rfl, rfl, fin 1 (by unfold bt; decide)⟩
    · exact ⟨_, _, _, rfl, rfl, h0⟩
  · rw [e1, e2]
    simp only [nw_eq, Option.bind_some, isCell_c, isCell_m, isTape_c, isTape_m, within_eq, in_eq, Int32.toInt_toInt64, decide_eq_true_eq, Int32.reduceToInt, Int64.reduceToInt, tn128, tm128, if_true, if_false, Bool.false_eq_true]
    exact ⟨_, _, _, rfl, rfl, h0⟩
-- MATHEMATICS: m12
def digV (S : Nat → Int32) (c : Nat) (iv : Int32) : Int32 := if 0 < S (15 * c) - iv then (S (15 * c) - iv) * (2 + S (15 * c + 1)) else -9 * (S (15 * c) - iv)
theorem nine (d : Int32) : (9 : Int32) * (-d) = -9 * d := by
  rw [Int32.mul_neg, ← Int32.neg_mul]
theorem mc_0 {w : Wd} {c : Nat} (hc : c < 100) : fX12_c (iN c) 0 w = some (w.1 149 (15 * c)) := mc_eq (j := 0) hc (by omega)
theorem mc_1 {w : Wd} {c : Nat} (hc : c < 100) : fX12_c (iN c) 1 w = some (w.1 149 (15 * c + 1)) := mc_eq (j := 1) hc (by omega)
theorem YC.row0 {w : Wd} {n c : Nat} {S : Nat → Int32} (h : YC w 0 S n) (hc : c < 100) : w.1 3 c = S (15 * c) := h.row (j := 0) hc (by omega)
theorem dig_c {w : Wd} {n c : Nat} {S : Nat → Int32} {iv : Int32} (h : YC w 0 S n) (hc : c < 100) : fX2_digAt (iN c) iv w = some (digV S c iv) := by
  have r1 : w.1 4 c = S (15 * c + 1) := h.row (j := 1) hc (by omega)
  unfold fX2_digAt digV
  rw [inb_lt2 hc (by omega), if_pos rfl, ri_iN (by omega), ri_iN (by omega), h.row0 hc, r1, nine]
  split <;> rfl
theorem dig_m {w : Wd} {c : Nat} {iv : Int32} (hc : c < 100) : fX12_digOf (iN c) iv w = some (digV (w.1 149) c iv) := by
  unfold fX12_digOf digV
  rw [mc_0 hc, mc_1 hc, Option.bind_some, Option.bind_some]
  split <;> rfl
theorem lineCell {n m i : Nat} {wc wm : Wd} (h : YY n wc wm) (hm2 : (m : Int) < (wm.1 149 4315).toInt) (hi2 : (i : Int) < (wm.1 149 (3300 + 125 * m)).toInt) : ∃ c, c < 100 ∧ wm.1 149 (3304 + 125 * m + 6 * i) = iN c ∧ wc.1 (37 + 7 * m) i = iN c := by
  obtain ⟨c, hc, e⟩ := h.1.lcell hm2 hi2
  have r0 : wc.1 (37 + 7 * m) i = _ := h.1.lnI hm2 hi2 (j := 0) (by omega)
  exact ⟨c, hc, e, by rw [r0]; exact e⟩
theorem dig_line_m {w : Wd} {k c : Nat} (hk : k < 4300) (hc : c < 100) (e : w.1 149 k = iN c) : fX12_digAt (iN k) w = some (digV (w.1 149) c (w.1 149 (k + 1))) := by
  unfold fX12_digAt
  rw [add_lit, add_lit, inb_lt2 (by omega) (by omega), inb_lt2 (by omega) (by omega), if_pos rfl, if_pos rfl, ri_iN (by omega), ri_iN (by omega), show k + 0 = k from rfl, e, dig_m hc]
  rfl
theorem depth_m {w : Wd} {k c : Nat} (hk : k < 4300) (hc : c < 100) (e : w.1 149 k = iN c) : fX12_depthAt (iN k) w = some (w.1 149 (15 * c) - w.1 149 (k + 1)) := by
  unfold fX12_depthAt
  rw [add_lit, add_lit, inb_lt2 (by omega) (by omega), inb_lt2 (by omega) (by omega), if_pos rfl, ri_iN (by omega), ri_iN (by omega), show k + 0 = k from rfl, e, mc_0 hc, Option.bind_some, if_pos rfl]
theorem depth_c {n m i c : Nat} {wc wm : Wd} (h : YY n wc wm) (hm2 : (m : Int) < (wm.1 149 4315).toInt) (hi : i < 19) (hi2 : (i : Int) < (wm.1 149 (3300 + 125 * m)).toInt) (hc : c < 100) (e : wc.1 (37 + 7 * m) i = iN c) : fX0_depthOn (36 + 7 * m) (iN i) wc = some (wm.1 149 (15 * c) - wm.1 149 (3304 + 125 * m + 6 * i + 1)) := by
  have r1 : wc.1 (37 + 7 * m + 1) i = _ := h.1.lnI hm2 hi2 (j := 1) (by omega)
  unfold fX0_depthOn
  rw [inb_lt2 hi (by omega), if_pos rfl, ri_iN (by omega), ri_iN (by omega), show 36 + 7 * m + 1 = 37 + 7 * m by omega, e, inb_lt2 hc (by omega), if_pos rfl, ri_iN (by omega), h.1.row0 hc, show 36 + 7 * m + 2 = 37 + 7 * m + 1 by omega, r1]
theorem cross_ok {n : Nat} {wc wm : Wd} {v1 v2 v3 : Int32} (h : YY n wc wm) : ∃ r wm', fX11_cross v1 v2 v3 wc = some r ∧ fX12_cross v1 v2 v3 wm = some (r, wm') ∧ YY n wc wm' := by
  have h0 := h.thr (x := 0)
  have hT := h0.1.2.2.2.2.2.1.2.2.2.2.1
  unfold fX11_cross fX12_cross
  simp only [nw_eq]
  rcases onLine (v1 := v1) (v2 := v2) h0 with ⟨m, i, hm, hi, rfl, rfl, hm2, hi2, e1, e2⟩ | ⟨e1, e2⟩
  · rw [e1, e2, msp_eq]
    obtain ⟨c, hc, q1, q2⟩ := lineCell h0 hm2 hi2
    have r1 : wc.1 (37 + 7 * m + 1) i = _ := h0.1.lnI hm2 hi2 (j := 1) (by omega)
    simp only [nw_eq, Option.bind_some, isCell_c, isCell_m, isTape_c, isTape_m, within_eq, in_eq, Int32.toInt_toInt64, decide_eq_true_eq, Int32.reduceToInt, Int64.reduceToInt, tn128, tm128, if_true, if_false, Bool.false_eq_true]
    by_cases h3 : 0 ≤ v3.toInt ∧ v3.toInt ≤ 4999
    · rw [if_pos h3, if_pos h3, inb_lt2 hm (by omega), inb_lt2 hi (by omega), if_pos rfl, if_pos rfl, iN_clamp (by omega), ri_iN (by omega), ri_iN (by omega), show 36 + 7 * m + 1 = 37 + 7 * m by omega, q2, add_lit, add_lit, inb_lt2 (by omega) (by omega), if_pos rfl, ri_iN (by omega), show 3304 + 125 * m + 6 * i + 0 = 3304 + 125 * m + 6 * i from rfl, q1, telling_m hT, latest_c h0.1, show 36 + 7 * m + 2 = 37 + 7 * m + 1 by omega, r1]
      simp only [nw_eq, Option.bind_some, isCell_c, isCell_m, isTape_c, isTape_m, within_eq, in_eq, Int32.toInt_toInt64, decide_eq_true_eq, Int32.reduceToInt, Int64.reduceToInt, tn128, tm128, if_true, if_false, Bool.false_eq_true]
      cases hl : lastT ((si wm 148 0 0).1 149) (iN c) v3 ((si wm 148 0 0).1 149 4316).toNatClampNeg with
      | none =>
        rw [if_pos (by decide), if_pos (by decide)]
        exact ⟨_, _, rfl, rfl, h0⟩
      | some k =>
        have hk := lastT_lt hl
        have hT2 : ((si wm 148 0 0).1 149 4316).toInt ≤ 200 := hT.2
        have hT3 := cl_nat hT.1
        rw [if_neg (enc1_some (by omega)).1, if_neg (enc1_some (by omega)).2]
        unfold enc1 encM
        simp only []
        have t1 : wc.1 32 k = _ := h0.1.tel (t := k) (j := 1) (by omega) (by omega)
        have t2 : wc.1 33 k = _ := h0.1.tel (t := k) (j := 2) (by omega) (by omega)
        rw [add_lit, add_lit, inb_lt2 (c := k) (by omega) (by omega), inb_lt2 (by omega) (by omega), inb_lt2 (by omega) (by omega), inb_lt2 (by omega) (by omega), ri_iN (by omega), ri_iN (by omega), ri_iN (by omega), ri_iN (by omega), ri_iN (by omega), t1, t2]
        simp only [if_true]
        split
        · exact ⟨_, _, rfl, rfl, h0⟩
        · split
          · split
            · exact ⟨_, _, rfl, rfl, h0⟩
            · exact ⟨_, _, rfl, rfl, h0⟩
          · exact ⟨_, _, rfl, rfl, h0⟩
    · rw [if_neg h3, if_neg h3]
      exact ⟨_, _, rfl, rfl, h0⟩
  · rw [e1, e2]
    simp only [nw_eq, Option.bind_some, isCell_c, isCell_m, isTape_c, isTape_m, within_eq, in_eq, Int32.toInt_toInt64, decide_eq_true_eq, Int32.reduceToInt, Int64.reduceToInt, tn128, tm128, if_true, if_false, Bool.false_eq_true]
    exact ⟨_, _, rfl, rfl, h0⟩
theorem lineOf_ok {n : Nat} {wc wm : Wd} {v1 v2 v3 : Int32} (h : YY n wc wm) : ∃ (o : Int32 ⊕ Bool) (r : Int32) (wm' : Wd), fX11_lineOf v1 v2 v3 wc = some (o, wc) ∧ fX12_lineOf v1 v2 v3 wm = some (r, wm') ∧ YY n wc wm' ∧ wm'.1 148 0 = (oI (o, wc)).1 ∧ (∀ x, o = .inl x → r = x) := by
  have h0 := h.thr (x := 0)
  obtain ⟨m1, m2, m3⟩ := h0.many0
  have t0 : (si wm 148 0 0).1 148 0 = 0 := si_at
  have fin1 : ∃ (o : Int32 ⊕ Bool) (r : Int32) (wm' : Wd), fX11_lineOf_18 wc = some (o, wc) ∧ fX12_lineOf_25 (si wm 148 0 0) = some (r, wm') ∧ YY n wc wm' ∧ wm'.1 148 0 = (oI (o, wc)).1 ∧ (∀ x, o = .inl x → r = x) :=
    ⟨_, _, _, rfl, rfl, h0.thr, si_at, fun x hx => by cases hx⟩
  unfold fX11_lineOf fX12_lineOf
  simp only [nw_eq]
  rw [isLine_c m1, isLine_m m2, h0.1.many]
  simp only [nw_eq, Option.bind_some, isCell_c, isCell_m, isTape_c, isTape_m, within_eq, in_eq, Int32.toInt_toInt64, decide_eq_true_eq, Int32.reduceToInt, Int64.reduceToInt, tn128, tm128, if_true, if_false, Bool.false_eq_true]
  by_cases h1 : 0 ≤ v1.toInt ∧ v1.toInt < ((si wm 148 0 0).1 149 4315).toInt
  · rw [if_pos h1, if_pos h1]
    by_cases h3 : 0 ≤ v3.toInt ∧ v3.toInt ≤ 6
    · rw [if_pos h3, if_pos h3]
      rcases onLine (v1 := v1) (v2 := v2) h0 with ⟨m, i, hm, hi, rfl, rfl, hm2, hi2, e1, e2⟩ | ⟨e1, e2⟩
      · have e3 := e2
        unfold fX12_isSpot at e3
        rw [isLine_m m2] at e3
        simp only [Option.bind_some, decide_eq_true_eq, if_pos h1, ml_0 hm, in_eq, Int32.toInt_toInt64, Int64.reduceToInt] at e3
        have l := h0.1.lenB hm2
        have hd : 0 ≤ (iN i).toInt ∧ (iN i).toInt ≤ ((si wm 148 0 0).1 149 (3300 + 125 * m) - 1).toInt := by
          rw [sub1_I (by omega), iN_toInt (by omega)]
          omega
        rw [e1, ml_0 hm, msp_eq]
        simp only [nw_eq, Option.bind_some, isCell_c, isCell_m, isTape_c, isTape_m, within_eq, in_eq, Int32.toInt_toInt64, decide_eq_true_eq, Int32.reduceToInt, Int64.reduceToInt, tn128, tm128, if_true, if_false, Bool.false_eq_true]
        rw [if_pos hd, inb_lt2 hm (by omega), if_pos rfl, inb_lt2 hi (by omega), iN_clamp (by omega)]
        obtain ⟨c, hc, q1, q2⟩ := lineCell h0 hm2 hi2
        obtain ⟨j, hj, rfl⟩ := int_cases 6 h3 (by omega)
        have r : ∀ j, j < 6 → wc.1 (37 + 7 * m + j) i = _ := fun j hj => h0.1.lnI hm2 hi2 (j := j) hj
        have h9 : j = 0 ∨ j = 1 ∨ j = 2 ∨ j = 3 ∨ j = 4 ∨ j = 5 ∨ j = 6 := by omega
        simp only [ri_iN (show i < 2147483648 by omega), if_true]
        rcases h9 with rfl | rfl | rfl | rfl | rfl | rfl | rfl
        · rw [if_pos (by decide), if_pos (by decide), iN_add, inb_lt2 (by omega) (by omega), if_pos rfl, ri_iN (by omega), show 36 + 7 * m + 1 = 37 + 7 * m + 0 by omega, r 0 (by omega)]
          exact ⟨_, _, _, rfl, rfl, h0, t0, fun x hx => by cases hx; rfl⟩
        · rw [if_neg (by decide), if_pos (by decide), if_pos (by decide), iN_add, inb_lt2 (by omega) (by omega), if_pos rfl, ri_iN (by omega), show 36 + 7 * m + 2 = 37 + 7 * m + 1 by omega, r 1 (by omega)]
          exact ⟨_, _, _, rfl, rfl, h0, t0, fun x hx => by cases hx; rfl⟩
        · rw [if_neg (by decide), if_neg (by decide), if_pos (by decide), if_neg (by decide), if_pos (by decide), show 36 + 7 * m + 1 = 37 + 7 * m by omega, q2, dig_c h0.1 hc, dig_line_m (by omega) hc q1, show 36 + 7 * m + 2 = 37 + 7 * m + 1 by omega, r 1 (by omega)]
          exact ⟨_, _, _, rfl, rfl, h0, t0, fun x hx => by cases hx; rfl⟩
        · rw [if_neg (by decide), if_neg (by decide), if_neg (by decide), if_pos (by decide), if_neg (by decide), if_neg (by decide), iN_add, sub_lit (by simp), inb_lt2 (by simp; omega) (by omega), if_pos rfl, ri_iN (by simp; omega), show 36 + 7 * m + 3 = 37 + 7 * m + 2 by omega, r 2 (by omega)]
          exact ⟨_, _, _, rfl, rfl, h0, t0, fun x hx => by cases hx; rfl⟩
        · rw [if_neg (by decide), if_neg (by decide), if_neg (by decide), if_neg (by decide), if_pos (by decide), if_neg (by decide), if_neg (by decide), iN_add, sub_lit (by simp), inb_lt2 (by simp; omega) (by omega), if_pos rfl, ri_iN (by simp; omega), show 36 + 7 * m + 4 = 37 + 7 * m + 3 by omega, r 3 (by omega)]
          exact ⟨_, _, _, rfl, rfl, h0, t0, fun x hx => by cases hx; rfl⟩
        · rw [if_neg (by decide), if_neg (by decide), if_neg (by decide), if_neg (by decide), if_neg (by decide), if_pos (by decide), if_neg (by decide), if_neg (by decide), iN_add, sub_lit (by simp), inb_lt2 (by simp; omega) (by omega), if_pos rfl, ri_iN (by simp; omega), show 36 + 7 * m + 5 = 37 + 7 * m + 4 by omega, r 4 (by omega)]
          exact ⟨_, _, _, rfl, rfl, h0, t0, fun x hx => by cases hx; rfl⟩
        · rw [if_neg (by decide), if_neg (by decide), if_neg (by decide), if_neg (by decide), if_neg (by decide), if_neg (by decide), if_neg (by decide), if_neg (by decide), iN_add, sub_lit (by simp), inb_lt2 (by simp; omega) (by omega), if_pos rfl, ri_iN (by simp; omega), show 36 + 7 * m + 6 = 37 + 7 * m + 5 by omega, r 5 (by omega)]
          exact ⟨_, _, _, rfl, rfl, h0, t0, fun x hx => by cases hx; rfl⟩
      · obtain ⟨m, hm, rfl, hm2⟩ := line_cases h1 (by rw [← h0.1.many]; exact m3)
        have e3 := e2
        unfold fX12_isSpot at e3
        rw [isLine_m m2] at e3
        simp only [Option.bind_some, decide_eq_true_eq, if_pos h1, ml_0 hm, in_eq, Int32.toInt_toInt64, Int64.reduceToInt] at e3
        rw [e1, ml_0 hm]
        simp only [nw_eq, Option.bind_some, isCell_c, isCell_m, isTape_c, isTape_m, within_eq, in_eq, Int32.toInt_toInt64, decide_eq_true_eq, Int32.reduceToInt, Int64.reduceToInt, tn128, tm128, if_true, if_false, Bool.false_eq_true]
        by_cases hd : 0 ≤ v2.toInt ∧ v2.toInt ≤ ((si wm 148 0 0).1 149 (3300 + 125 * m) - 1).toInt
        · rw [if_pos hd] at e3
          cases e3
        · rw [if_neg hd]
          exact ⟨_, _, _, rfl, rfl, h0.thr, si_at, fun x hx => by cases hx⟩
    · rw [if_neg h3, if_neg h3]
      exact fin1
  · rw [if_neg h1, if_neg h1]
    exact fin1
-- MATHEMATICS: m13
theorem host_ok {n : Nat} {wc wm : Wd} {x : Int32} (h : YY n wc wm) : ∃ wc' wm', fX11_refuse x wc = some (x, wc') ∧ fX12_host x wm = some (x, wm') ∧ YY n wc' wm' := by
  obtain ⟨a, b, c, d, e, f, g⟩ := h
  refine ⟨_, _, rfl, rfl, ?_⟩
  have o : ∀ q, ¬ q = 148 → (si wm 148 2 (wm.1 148 2 + 1)).1 q = wm.1 q := fun q hq => si_oth hq
  have oc : ∀ q, ¬ q = 0 → (si wc 0 7 (wc.1 0 7 + 1)).1 q = wc.1 q := fun q hq => si_oth hq
  have oj : ∀ j, ¬ j = 2 → (si wm 148 2 (wm.1 148 2 + 1)).1 148 j = wm.1 148 j := fun j hj => by rw [si_1, if_neg (by omega)]
  refine ⟨?_, b.cong (fun a ha => oc a (by omega)) (o _ (by omega)) (o _ (by omega)), c.cong (fun a ha => ⟨oc a (by omega), rfl⟩) (o _ (by omega)) (o _ (by omega)) rfl, d.cong (oc _ (by omega)) (oc _ (by omega)) (oj _ (by omega)) (o _ (by omega)), e.cong (fun a ha => oc a (by omega)) (fun j hj => oj j (by omega)) (o _ (by omega)), f.cong (by rw [oc _ (by omega)]) (fun a ha => oc a (by omega)) (fun a ha => oc a (by omega)) (oj _ (by omega)) (fun a ha => o a (by omega)), ?_⟩
  · rw [o 149 (by omega)]
    exact a.cong (fun q hq => oc q (by omega))
  · rw [si_1, if_pos ⟨rfl, rfl⟩, si_1, if_pos ⟨rfl, rfl⟩, g]
theorem divI {a b : Int32} (ha : 0 ≤ a.toInt) (hb : 0 < b.toInt) : (a / b).toInt = a.toInt / b.toInt := by
  have h1 := toInt_lt a
  have h2 : a.toInt / b.toInt ≤ a.toInt := Int.ediv_le_self _ ha
  have h3 : 0 ≤ a.toInt / b.toInt := Int.ediv_nonneg ha (by omega)
  rw [Int32.toInt_div, Int.tdiv_eq_ediv_of_nonneg ha]
  exact Int.bmod_eq_of_le (by omega) (by omega)
theorem jrm_I {a b : Int32} (ha : 0 ≤ a.toInt) (hb : 0 < b.toInt) : (jrm a b).toInt = a.toInt % b.toInt := by
  have h1 := toInt_lt a
  have h2 := Int.emod_nonneg a.toInt (show b.toInt ≠ 0 by omega)
  have h9 : a.toInt % b.toInt < b.toInt := Int.emod_lt_of_pos _ hb
  have h10 := toInt_lt b
  have h3 := Int.mul_ediv_add_emod a.toInt b.toInt
  have h4 : (a / b * b).toInt = a.toInt - a.toInt % b.toInt := by
    have h5 : (a / b).toInt * b.toInt = a.toInt - a.toInt % b.toInt := by
      rw [divI ha hb, Int.mul_comm]
      omega
    have h7 : 0 ≤ a.toInt / b.toInt := Int.ediv_nonneg ha (by omega)
    have h6 : 0 ≤ b.toInt * (a.toInt / b.toInt) := Int.mul_nonneg (by omega) h7
    rw [mul_I (by omega) (by omega), h5]
  unfold jrm
  rw [sub_I (by omega) (by omega), h4]
  omega
theorem z_I : (0 : Int32).toInt = 0 := rfl
theorem level_eq {wc wm : Wd} (h : YD wc wm) {v : Int32} (hv : 0 ≤ v.toInt) : ∃ x, fX9_levelAt v wc = some x ∧ fX12_levelAt v wm = some x ∧ bt (-128) 127 x := by
  obtain ⟨h1, ⟨h2, h3⟩, h4⟩ := h
  unfold fX9_levelAt fX12_levelAt
  rw [h1]
  by_cases c : wm.1 148 4 = 0
  · rw [c, if_neg (by decide), if_pos rfl]
    exact ⟨_, rfl, rfl, by constructor <;> decide⟩
  · have c2 : 0 < (wm.1 148 4).toInt := by
      rw [eq_I, z_I] at c
      omega
    have j1 := jrm_I hv c2
    have j2 := Int.emod_nonneg v.toInt (show (wm.1 148 4).toInt ≠ 0 by omega)
    have j3 := Int.emod_lt_of_pos v.toInt c2
    obtain ⟨k, hk, e⟩ := of_range (v := jrm v (wm.1 148 4)) 60 (by omega) (by omega)
    rw [e, iN_toInt (by omega)] at j1
    obtain ⟨q1, q2⟩ := h4 k (by omega)
    rw [if_pos (by rw [lt_I, z_I]; exact c2), if_neg (by rw [lt_I, z_I]; omega), if_neg c, if_neg c, if_neg c, e, inb_lt2 hk (by omega), if_pos rfl, if_pos rfl, ri_iN (by omega), ri_iN (by omega), q1]
    exact ⟨_, rfl, rfl, q2⟩
theorem YD.thr {wc wm : Wd} (h : YD wc wm) {x : Int32} : YD wc (si wm 148 0 x) := h.cong rfl rfl (by rw [si_1, if_neg (by omega)]) (si_oth (by omega))
theorem level_ok {n : Nat} {wc wm : Wd} {v1 : Int32} (h : YY n wc wm) : ∃ (o : Int32 ⊕ Bool) (r : Int32) (wm' : Wd), fX11_level v1 wc = some (o, wc) ∧ fX12_level v1 wm = some (r, wm') ∧ YY n wc wm' ∧ wm'.1 148 0 = (oI (o, wc)).1 ∧ (∀ x, o = .inl x → r = x) := by
  have h0 := h.thr (x := 0)
  unfold fX11_level fX12_level
  rw [nw_eq]
  simp only [nw_eq, Option.bind_some, isCell_c, isCell_m, isTape_c, isTape_m, within_eq, in_eq, Int32.toInt_toInt64, decide_eq_true_eq, Int32.reduceToInt, Int64.reduceToInt, tn128, tm128, if_true, if_false, Bool.false_eq_true]
  by_cases h1 : 0 ≤ v1.toInt ∧ v1.toInt ≤ 100000
  · rw [if_pos h1, if_pos h1]
    obtain ⟨x, e1, e2, -⟩ := level_eq (h0.2.2.2.1) h1.1
    rw [e1, e2]
    exact ⟨_, _, _, rfl, rfl, h0, si_at, fun x hx => by cases hx; rfl⟩
  · rw [if_neg h1, if_neg h1]
    exact ⟨_, _, _, rfl, rfl, h0.thr, si_at, fun x hx => by cases hx⟩
theorem back_loop {wc wm : Wd} (h : YD wc wm) {v : Int32} (hv : 0 ≤ v.toInt) (hv2 : v.toInt ≤ 1000000) : ∀ (m k fuel : Nat), k + m = 13 → m < fuel → ∃ b, fX9_bringsBack_2 wc fuel v (iN k) = some b ∧ fX12_isBack_2 wm fuel v (iN k) = some b
  | 0, k, fuel + 1, hk, _ => by
    obtain rfl : k = 13 := by omega
    unfold fX9_bringsBack_2 fX12_isBack_2
    rw [if_pos (by decide), if_pos (by decide)]
    exact ⟨_, rfl, rfl⟩
  | m + 1, k, fuel + 1, hk, hf => by
    obtain ⟨b, ih1, ih2⟩ := back_loop h hv hv2 m (k + 1) fuel (by omega) (by omega)
    have hs : (v + iN k).toInt = v.toInt + k := by
      rw [add_I (by rw [iN_toInt (by omega)]; omega) (by rw [iN_toInt (by omega)]; omega), iN_toInt (by omega)]
    obtain ⟨x, e1, e2, b1, b2⟩ := level_eq h hv
    obtain ⟨y, e3, e4, b3, b4⟩ := level_eq h (v := v + iN k) (by omega)
    have hn : ¬ (12 : Int32) < iN k := by
      rw [lt_I, iN_toInt (by omega), show (12 : Int32).toInt = 12 from rfl]
      omega
    have hsub : (x - y < 0) = (x < y) := by
      rw [lt_I, lt_I, sub_I (by omega) (by omega), z_I]
      exact propext ⟨fun _ => by omega, fun _ => by omega⟩
    unfold fX9_bringsBack_2 fX12_isBack_2
    rw [if_neg hn, if_neg hn, e1, e2, e3, e4]
    simp only [nw_eq, Option.bind_some, isCell_c, isCell_m, isTape_c, isTape_m, within_eq, in_eq, Int32.toInt_toInt64, decide_eq_true_eq, Int32.reduceToInt, Int64.reduceToInt, tn128, tm128, if_true, if_false, Bool.false_eq_true]
    simp only [hsub]
    rw [add_lit, ih1, ih2]
    by_cases c : x < y
    · rw [if_pos c]
      exact ⟨_, rfl, rfl⟩
    · rw [if_neg c]
      exact ⟨_, rfl, rfl⟩
theorem back_eq {wc wm : Wd} (h : YD wc wm) {v : Int32} (hv : 0 ≤ v.toInt) (hv2 : v.toInt ≤ 1000000) : ∃ b, fX9_bringsBack v wc = some b ∧ fX12_isBack v wm = some b :=
  back_loop h hv hv2 12 1 FU (by omega) (by unfold FU; omega)
theorem comesBack_ok {n : Nat} {wc wm : Wd} {v1 : Int32} (h : YY n wc wm) : ∃ r wm', fX11_comesBack v1 wc = some r ∧ fX12_comesBack v1 wm = some (r, wm') ∧ YY n wc wm' := by
  have h0 := h.thr (x := 0)
  unfold fX11_comesBack fX12_comesBack
  rw [nw_eq]
  simp only [nw_eq, Option.bind_some, isCell_c, isCell_m, isTape_c, isTape_m, within_eq, in_eq, Int32.toInt_toInt64, decide_eq_true_eq, Int32.reduceToInt, Int64.reduceToInt, tn128, tm128, if_true, if_false, Bool.false_eq_true]
  by_cases h1 : 0 ≤ v1.toInt ∧ v1.toInt ≤ 99999
  · rw [if_pos h1, if_pos h1]
    obtain ⟨b, e1, e2⟩ := back_eq h0.2.2.2.1 h1.1 (by omega)
    rw [e1, e2]
    cases b
    · exact ⟨_, _, rfl, rfl, h0⟩
    · exact ⟨_, _, rfl, rfl, h0⟩
  · rw [if_neg h1, if_neg h1]
    exact ⟨_, _, rfl, rfl, h0⟩
theorem window_loop {wc wm : Wd} (h : YD wc wm) {v v2 : Int32} (hv : 0 ≤ v.toInt) (hv2 : v.toInt ≤ 100000) : ∀ (m k fuel : Nat), k + m = 100 → m < fuel → ∃ r, fX11_window_25 wc fuel v v2 (v + iN k) = some r ∧ fX12_window_35 fuel v v2 (v + iN k) wm = some (r, wm)
  | 0, k, fuel + 1, hk, _ => by
    obtain rfl : k = 100 := by omega
    have hn : ¬ v + iN 100 < v + 100 := by
      rw [lt_I]
      exact Int.lt_irrefl _
    unfold fX11_window_25 fX12_window_35
    rw [if_neg hn, if_neg hn]
    exact ⟨_, rfl, rfl⟩
  | m + 1, k, fuel + 1, hk, hf => by
    obtain ⟨r, ih1, ih2⟩ := window_loop (v2 := v2) h hv hv2 m (k + 1) fuel (by omega) (by omega)
    have hs : (v + iN k).toInt = v.toInt + k := by
      rw [add_I (by rw [iN_toInt (by omega)]; omega) (by rw [iN_toInt (by omega)]; omega), iN_toInt (by omega)]
    have hp : v + iN k < v + 100 := by
      have e : (v + 100).toInt = v.toInt + 100 := by
        rw [add_I (by rw [show (100 : Int32).toInt = 100 from rfl]; omega) (by rw [show (100 : Int32).toInt = 100 from rfl]; omega), show (100 : Int32).toInt = 100 from rfl]
      rw [lt_I, hs, e]
      omega
    obtain ⟨x, e1, e2, b1, b2⟩ := level_eq h (v := v + iN k) (by omega)
    obtain ⟨b, e3, e4⟩ := back_eq h (v := v + iN k) (by omega) (by omega)
    unfold fX11_window_25 fX12_window_35
    rw [if_pos hp, if_pos hp, e1, e2, e3, e4]
    simp only [nw_eq, Option.bind_some, isCell_c, isCell_m, isTape_c, isTape_m, within_eq, in_eq, Int32.toInt_toInt64, decide_eq_true_eq, Int32.reduceToInt, Int64.reduceToInt, tn128, tm128, if_true, if_false, Bool.false_eq_true]
    rw [Int32.add_assoc, add_lit, ih1, ih2]
    by_cases c : x < v2
    · rw [if_pos c, if_pos c]
      cases b
      · exact ⟨_, rfl, rfl⟩
      · exact ⟨_, rfl, rfl⟩
    · rw [if_neg c, if_neg c]
      exact ⟨_, rfl, rfl⟩
theorem window_ok {n : Nat} {wc wm : Wd} {v1 v2 : Int32} (h : YY n wc wm) : ∃ r wm', fX11_window v1 v2 wc = some r ∧ fX12_window v1 v2 wm = some (r, wm') ∧ YY n wc wm' := by
  have h0 := h.thr (x := 0)
  unfold fX11_window fX12_window
  rw [nw_eq]
  simp only [nw_eq, Option.bind_some, isCell_c, isCell_m, isTape_c, isTape_m, within_eq, in_eq, Int32.toInt_toInt64, decide_eq_true_eq, Int32.reduceToInt, Int64.reduceToInt, tn128, tm128, if_true, if_false, Bool.false_eq_true, tn128, tm128]
  by_cases h1 : 0 ≤ v1.toInt ∧ v1.toInt ≤ 99999
  · rw [if_pos h1, if_pos h1]
    by_cases h2 : -128 ≤ v2.toInt ∧ v2.toInt ≤ 127
    · rw [if_pos h2, if_pos h2]
      obtain ⟨r, e1, e2⟩ := window_loop (v2 := v2) h0.2.2.2.1 h1.1 (by omega) 100 0 FU (by omega) (by unfold FU; omega)
      rw [show v1 + iN 0 = v1 from Int32.add_zero v1] at e1 e2
      exact ⟨_, _, e1, e2, h0⟩
    · rw [if_neg h2, if_neg h2]
      exact ⟨_, _, rfl, rfl, h0⟩
  · rw [if_neg h1, if_neg h1]
    exact ⟨_, _, rfl, rfl, h0⟩
-- MATHEMATICS: m14
theorem YY.tapes {n : Nat} {wc wc' wm wm' : Wd} (h : YY n wc wm) (hT : YT wc' wm') (hI : YI n wc' wm') (e1 : ∀ a, ¬ (135 ≤ a ∧ a ≤ 146) → a < 200 ∨ a = 10000 → wc'.1 a = wc.1 a) (e2 : ∀ a, ¬ (165 ≤ a ∧ a ≤ 168) → wm'.1 a = wm.1 a) : YY n wc' wm' := by
  obtain ⟨a, -, -, d, e, f, g⟩ := h
  refine ⟨?_, hI, hT, d.cong (e1 _ (by omega) (by omega)) (e1 _ (by omega) (by omega)) (by rw [e2 _ (by omega)]) (e2 _ (by omega)), e.cong (fun a ha => e1 a (by omega) (by omega)) (fun j hj => by rw [e2 _ (by omega)]) (e2 _ (by omega)), f.cong (by rw [e1 _ (by omega) (by omega)]) (fun a ha => e1 a (by omega) (by omega)) (fun a ha => e1 a (by omega) (by omega)) (by rw [e2 _ (by omega)]) (fun a ha => e2 a (by omega)), ?_⟩
  · rw [e2 149 (by omega)]
    exact a.cong (fun q hq => e1 q (by omega) (by omega))
  · rw [e1 0 (by omega) (by omega), e2 148 (by omega), g]
theorem YI.kinds {n : Nat} {wc wc' wm wm' : Wd} (h : YI n wc wm) (e0 : ∀ d, d < 6 → wm'.1 165 d = 6 → wm.1 165 d = 6 ∧ wc'.1 (135 + 2 * d) 3 = wc.1 (135 + 2 * d) 3) (e1 : ∀ a, 200 ≤ a → wc'.1 a = wc.1 a) (e3 : wm'.1 168 = wm.1 168) : YI n wc' wm' := by
  intro d hd hk
  obtain ⟨k1, k2⟩ := e0 d hd hk
  obtain ⟨h1, h2⟩ := h d hd k1
  rw [k2, e3]
  exact ⟨h1, h2.cong (fun a ha => e1 a (by omega))⟩
theorem tape_cases {v : Int32} (h : 0 ≤ v.toInt ∧ v.toInt ≤ 5) : ∃ d, d < 6 ∧ v = iN d := of_range 6 h.1 (by omega)
def tp1 (wc wm : Wd) (d : Nat) : Prop := (wc.1 (135 + 2 * d) 0 = wm.1 165 d ∧ bt 0 6 (wm.1 165 d) ∧ wc.1 (135 + 2 * d) 1 = wm.1 166 d ∧ bt 0 100 (wm.1 166 d)) ∧ (∀ i, i < 100 → wc.2 (136 + 2 * d) i = wm.2 167 (100 * d + i)) ∧ (wm.1 165 d = 1 → ∀ i, i < 100 → -128 ≤ (wm.2 167 (100 * d + i)).toInt ∧ (wm.2 167 (100 * d + i)).toInt ≤ 127)
theorem tp1.cong {wc wc' wm wm' : Wd} {d : Nat} (h : tp1 wc wm d) (a1 : wc'.1 (135 + 2 * d) 0 = wc.1 (135 + 2 * d) 0) (a2 : wc'.1 (135 + 2 * d) 1 = wc.1 (135 + 2 * d) 1) (a3 : wm'.1 165 d = wm.1 165 d) (a4 : wm'.1 166 d = wm.1 166 d) (a5 : ∀ i, i < 100 → wc'.2 (136 + 2 * d) i = wc.2 (136 + 2 * d) i) (a6 : ∀ i, i < 100 → wm'.2 167 (100 * d + i) = wm.2 167 (100 * d + i)) : tp1 wc' wm' d := by
  obtain ⟨h1, h2, h3⟩ := h
  unfold tp1
  rw [a1, a2, a3, a4]
  refine ⟨h1, fun i hi => ?_, fun q i hi => ?_⟩
  · rw [a5 i hi, a6 i hi]
    exact h2 i hi
  · rw [a6 i hi]
    exact h3 q i hi
theorem YT.one {wc wc' wm wm' : Wd} {d0 : Nat} (h : YT wc wm) (hn : tp1 wc' wm' d0) (e1 : ∀ d, d < 6 → ¬ d = d0 → wc'.1 (135 + 2 * d) = wc.1 (135 + 2 * d) ∧ wc'.2 (136 + 2 * d) = wc.2 (136 + 2 * d) ∧ wm'.1 165 d = wm.1 165 d ∧ wm'.1 166 d = wm.1 166 d ∧ ∀ i, i < 100 → wm'.2 167 (100 * d + i) = wm.2 167 (100 * d + i)) : YT wc' wm' := by
  intro d hd
  show tp1 wc' wm' d
  by_cases e : d = d0
  · rw [e]
    exact hn
  · obtain ⟨a, b, c, x, y⟩ := e1 d hd e
    have ht : tp1 wc wm d := h d hd
    exact ht.cong (by rw [a]) (by rw [a]) c x (fun i _ => by rw [b]) y
theorem clear_ok {n : Nat} {wc wm : Wd} {v1 : Int32} (h : YY n wc wm) : ∃ r wc' wm', fX11_clear v1 wc = some (r, wc') ∧ fX12_clear v1 wm = some (r, wm') ∧ YY n wc' wm' := by
  have h0 := h.thr (x := 0)
  unfold fX11_clear fX12_clear
  simp only [nw_eq, Option.bind_some, isCell_c, isCell_m, isTape_c, isTape_m, within_eq, in_eq, Int32.toInt_toInt64, decide_eq_true_eq, Int32.reduceToInt, Int64.reduceToInt, tn128, tm128, if_true, if_false, Bool.false_eq_true]
  by_cases h1 : 0 ≤ v1.toInt ∧ v1.toInt ≤ 5
  · obtain ⟨d, hd, rfl⟩ := tape_cases h1
    rw [if_pos h1, if_pos h1, inb_lt2 hd (by omega), if_pos rfl, if_pos rfl, iN_clamp (by omega), wi_iN (by omega), wi_iN (by omega), ri_iN (by omega)]
    obtain ⟨⟨t1, -, -, -⟩, t2, t3⟩ := h0.2.2.1 d hd
    rw [t1]
    refine ⟨_, _, _, rfl, rfl, h0.tapes (h0.2.2.1.one (d0 := d) ⟨⟨?_, ?_, ?_, ?_⟩, t2, ?_⟩ ?_) (h0.2.1.kinds ?_ ?_ ?_) ?_ ?_⟩
    · rw [si_1, if_neg (by omega), si_1, if_pos ⟨rfl, rfl⟩, si_1, if_neg (by omega), si_1, if_pos ⟨rfl, rfl⟩]
    · rw [si_1, if_neg (by omega), si_1, if_pos ⟨rfl, rfl⟩]
      exact ⟨by decide, by decide⟩
    · rw [si_1, if_pos ⟨rfl, rfl⟩, si_1, if_pos ⟨rfl, rfl⟩]
    · rw [si_1, if_pos ⟨rfl, rfl⟩]
      exact ⟨by decide, by decide⟩
    · rw [si_1, if_neg (by omega), si_1, if_pos ⟨rfl, rfl⟩]
      intro q
      exact absurd q (by decide)
    · intro d' hd' hne
      refine ⟨by rw [si_oth (by omega), si_oth (by omega)], rfl, ?_, ?_, fun i hi => rfl⟩
      · rw [si_1, if_neg (by omega), si_1, if_neg (by omega)]
      · rw [si_1, if_neg (by omega), si_1, if_neg (by omega)]
    · intro d' hd' hk
      by_cases e : d' = d
      · subst e
        rw [si_1, if_neg (by omega), si_1, if_pos ⟨rfl, rfl⟩] at hk
        exact absurd hk (by decide)
      · rw [si_1, if_neg (by omega), si_1, if_neg (by omega)] at hk
        exact ⟨hk, by rw [si_oth (by omega), si_oth (by omega)]⟩
    · intro a ha
      rw [si_oth (by omega), si_oth (by omega)]
    · rw [si_oth (by omega), si_oth (by omega)]
    · intro a ha _
      rw [si_oth (by omega), si_oth (by omega)]
    · intro a ha
      rw [si_oth (by omega), si_oth (by omega)]
  · rw [if_neg h1, if_neg h1]
    exact ⟨_, _, _, rfl, rfl, h0⟩
theorem byte_rng (x : Int64) : -128 ≤ (x.toInt32.toInt8.toInt32.toInt64).toInt ∧ (x.toInt32.toInt8.toInt32.toInt64).toInt ≤ 127 := by
  rw [Int32.toInt_toInt64, Int8.toInt_toInt32]
  have h1 := Int8.le_toInt x.toInt32.toInt8
  have h2 := Int8.toInt_lt x.toInt32.toInt8
  omega
theorem len1_I {x : Int32} (h : bt 0 100 x) : (x - 1).toInt = x.toInt - 1 := by
  have := h.1
  exact sub1_I (by omega)
theorem put_core {n d i : Nat} {wc wm : Wd} {x : Int64} (h : YY n wc wm) (hd : d < 6) (hi : i < 100) (hb : wm.1 165 d = 1 → -128 ≤ x.toInt ∧ x.toInt ≤ 127) : YY n (sl wc (136 + 2 * d) i x) (sl wm 167 (100 * d + i) x) := by
  obtain ⟨t1, t2, t3⟩ := h.2.2.1 d hd
  refine h.tapes (h.2.2.1.one (d0 := d) ⟨t1, fun j hj => ?_, fun q j hj => ?_⟩ ?_) (h.2.1.kinds (fun d' _ hk => ⟨hk, rfl⟩) (fun a _ => rfl) rfl) (fun a _ _ => rfl) (fun a _ => rfl)
  · rw [sl_2, sl_2]
    by_cases e : j = i
    · rw [if_pos ⟨rfl, e⟩, if_pos ⟨rfl, by omega⟩]
    · rw [if_neg (by omega), if_neg (by omega)]
      exact t2 j hj
  · rw [sl_2]
    by_cases e : j = i
    · rw [if_pos ⟨rfl, by omega⟩]
      exact hb q
    · rw [if_neg (by omega)]
      exact t3 q j hj
  · intro d' hd' hne
    refine ⟨rfl, ?_, rfl, rfl, fun j hj => ?_⟩
    · funext j
      rw [sl_2, if_neg (by omega)]
    · rw [sl_2, if_neg (by omega)]
theorem put_ok {n : Nat} {wc wm : Wd} {v1 v2 : Int32} {v3 : Int64} (h : YY n wc wm) : ∃ r wc' wm', fX11_put v1 v2 v3 wc = some (r, wc') ∧ fX12_put v1 v2 v3 wm = some (r, wm') ∧ YY n wc' wm' := by
  have h0 := h.thr (x := 0)
  have hh : ∀ x, ∃ r wc' wm', ((fX11_refuse x wc).bind fun v => some (v.1, v.2)) = some (r, wc') ∧ ((fX12_host x (si wm 148 0 0)).bind fun v => some (v.1, v.2)) = some (r, wm') ∧ YY n wc' wm' := by
    intro x
    obtain ⟨wc', wm', e1, e2, e3⟩ := host_ok (x := x) h0
    rw [e1, e2]
    exact ⟨_, _, _, rfl, rfl, e3⟩
  unfold fX11_put fX12_put
  simp only [nw_eq, Option.bind_some, isCell_c, isCell_m, isTape_c, isTape_m, within_eq, in_eq, Int32.toInt_toInt64, decide_eq_true_eq, Int32.reduceToInt, Int64.reduceToInt, tn128, tm128, if_true, if_false, Bool.false_eq_true]
  by_cases h1 : 0 ≤ v1.toInt ∧ v1.toInt ≤ 5
  · obtain ⟨d, hd, rfl⟩ := tape_cases h1
    obtain ⟨⟨t1, t2, t3, t4⟩, t5, t6⟩ := h0.2.2.1 d hd
    rw [if_pos h1, if_pos h1, inb_lt2 hd (by omega), if_pos rfl, if_pos rfl, iN_clamp (by omega), ri_iN (by omega), ri_iN (by omega), t1, t3]
    by_cases c0 : (si wm 148 0 0).1 165 d = 0
    · rw [if_pos c0, if_pos c0]
      exact hh _
    · rw [if_neg c0, if_neg c0]
      by_cases c6 : (si wm 148 0 0).1 165 d = 6
      · rw [if_pos c6, if_pos c6]
        exact hh _
      · rw [if_neg c6, if_neg c6]
        simp only [len1_I t4, show (0 : Int32).toInt = 0 from rfl, show (0 : Int64).toInt = 0 from rfl]
        by_cases c2 : 0 ≤ v2.toInt ∧ v2.toInt ≤ ((si wm 148 0 0).1 166 d).toInt - 1
        · rw [if_pos c2, if_pos c2]
          have t42 := t4.2
          obtain ⟨i, hi, rfl⟩ := of_range (v := v2) 100 c2.1 (by omega)
          have key : ∀ x : Int64, ((si wm 148 0 0).1 165 d = 1 → -128 ≤ x.toInt ∧ x.toInt ≤ 127) → fX8_narrowed (135 + 2 * d) v3 wc = some x → ∃ r wc' wm', ((fX8_narrowed (135 + 2 * d) v3 wc).bind fun v_10 => if inb (iN i) 100 = true then some ((1 : Int32), wl wc (135 + 2 * d + 1) (iN i) v_10) else none) = some (r, wc') ∧ fX12_put_150 ((100 : Int32) * iN d + iN i) x (si wm 148 0 0) = some (r, wm') ∧ YY n wc' wm' := by
            intro x hb hx
            rw [hx, Option.bind_some, inb_lt2 hi (by omega), if_pos rfl, wl_iN (by omega)]
            unfold fX12_put_150
            rw [lit_mul, iN_add, inb_lt2 (by omega) (by omega), if_pos rfl, wl_iN (by omega)]
            rw [show 135 + 2 * d + 1 = 136 + 2 * d by omega]
            exact ⟨_, _, _, rfl, rfl, put_core h0 hd hi hb⟩
          have kb : 0 ≤ ((si wm 148 0 0).1 165 d).toInt ∧ ((si wm 148 0 0).1 165 d).toInt ≤ 6 := t2
          by_cases k1 : (si wm 148 0 0).1 165 d = 1
          · rw [if_pos k1]
            exact key _ (fun _ => byte_rng v3) (by unfold fX8_narrowed; rw [t1, if_pos k1])
          · by_cases k2 : (si wm 148 0 0).1 165 d = 2
            · rw [if_neg k1, if_pos k2]
              exact key _ (fun q => absurd q k1) (by unfold fX8_narrowed; rw [t1, if_neg k1, if_pos k2])
            · by_cases k3 : (si wm 148 0 0).1 165 d = 3
              · rw [if_neg k1, if_neg k2, if_pos k3]
                exact key _ (fun q => absurd q k1) (by unfold fX8_narrowed; rw [t1, if_neg k1, if_neg k2, if_pos k3])
              · by_cases k4 : (si wm 148 0 0).1 165 d = 4
                · rw [if_neg k1, if_neg k2, if_neg k3, if_pos k4]
                  exact key _ (fun q => absurd q k1) (by unfold fX8_narrowed; rw [t1, if_neg k1, if_neg k2, if_neg k3, if_pos k4])
                · rw [if_neg k1, if_neg k2, if_neg k3, if_neg k4]
                  by_cases k5 : v3 = 0
                  · rw [if_pos k5]
                    exact key _ (fun q => absurd q k1) (by unfold fX8_narrowed; rw [t1, if_neg k1, if_neg k2, if_neg k3, if_neg k4, if_pos k5])
                  · rw [if_neg k5]
                    exact key _ (fun q => absurd q k1) (by unfold fX8_narrowed; rw [t1, if_neg k1, if_neg k2, if_neg k3, if_neg k4, if_neg k5])
        · rw [if_neg c2, if_neg c2]
          exact hh _
  · rw [if_neg h1, if_neg h1]
    exact ⟨_, _, _, rfl, rfl, h0⟩
theorem holds_c {d : Nat} {wc : Wd} {x : Int32} (e : wc.1 (135 + 2 * d) 0 = x) : fX8_holdsRow (135 + 2 * d) wc = some (decide (1 ≤ x.toInt ∧ x.toInt ≤ 5)) := by
  unfold fX8_holdsRow
  rw [within_eq, e]
  rfl
theorem isRow_m {x : Int32} {w : Wd} : fX12_isRow x w = some (decide (1 ≤ x.toInt ∧ x.toInt ≤ 5)) := by
  unfold fX12_isRow
  rw [in_eq, Int32.toInt_toInt64]
  rfl
theorem at_ok {n : Nat} {wc wm : Wd} {v1 v2 : Int32} (h : YY n wc wm) : ∃ (o : Int64 ⊕ Bool) (r : Int64) (wm' : Wd), fX11_at v1 v2 wc = some (o, wc) ∧ fX12_at v1 v2 wm = some (r, wm') ∧ YY n wc wm' ∧ wm'.1 148 0 = (oJ (o, wc)).1 ∧ (∀ x, o = .inl x → r = x) := by
  have h0 := h.thr (x := 0)
  have no : ∃ (o : Int64 ⊕ Bool) (r : Int64) (wm' : Wd), fX11_at_46 wc = some (o, wc) ∧ fX12_at_49 (si wm 148 0 0) = some (r, wm') ∧ YY n wc wm' ∧ wm'.1 148 0 = (oJ (o, wc)).1 ∧ (∀ x, o = .inl x → r = x) :=
    ⟨_, _, _, rfl, rfl, h0.thr, si_at, fun x hx => by cases hx⟩
  unfold fX11_at fX12_at
  simp only [nw_eq, Option.bind_some, isCell_c, isCell_m, isTape_c, isTape_m, within_eq, in_eq, Int32.toInt_toInt64, decide_eq_true_eq, Int32.reduceToInt, Int64.reduceToInt, tn128, tm128, if_true, if_false, Bool.false_eq_true]
  by_cases h1 : 0 ≤ v1.toInt ∧ v1.toInt ≤ 5
  · obtain ⟨d, hd, rfl⟩ := tape_cases h1
    obtain ⟨⟨t1, t2, t3, t4⟩, t5, t6⟩ := h0.2.2.1 d hd
    rw [if_pos h1, if_pos h1, inb_lt2 hd (by omega), if_pos rfl, if_pos rfl, iN_clamp (by omega), ri_iN (by omega), ri_iN (by omega), holds_c t1, isRow_m, t3]
    simp only [nw_eq, Option.bind_some, isCell_c, isCell_m, isTape_c, isTape_m, within_eq, in_eq, Int32.toInt_toInt64, decide_eq_true_eq, Int32.reduceToInt, Int64.reduceToInt, tn128, tm128, if_true, if_false, Bool.false_eq_true, len1_I t4]
    by_cases k : 1 ≤ ((si wm 148 0 0).1 165 d).toInt ∧ ((si wm 148 0 0).1 165 d).toInt ≤ 5
    · rw [if_pos k, if_pos k]
      by_cases c2 : 0 ≤ v2.toInt ∧ v2.toInt ≤ ((si wm 148 0 0).1 166 d).toInt - 1
      · rw [if_pos c2, if_pos c2]
        have t42 := t4.2
        obtain ⟨i, hi, rfl⟩ := of_range (v := v2) 100 c2.1 (by omega)
        rw [inb_lt2 hi (by omega), if_pos rfl, lit_mul, iN_add, inb_lt2 (by omega) (by omega), if_pos rfl, rl_iN (by omega), rl_iN (by omega)]
        exact ⟨_, _, _, rfl, rfl, h0, si_at, fun x hx => by cases hx; rw [show 135 + 2 * d + 1 = 136 + 2 * d by omega]; exact (t5 i hi).symm⟩
      · rw [if_neg c2, if_neg c2]
        exact no
    · rw [if_neg k, if_neg k]
      exact no
  · rw [if_neg h1, if_neg h1]
    exact ⟨_, _, _, rfl, rfl, h0.thr, si_at, fun x hx => by cases hx⟩
-- MATHEMATICS: m15b
theorem tape_loop {v1 v3 : Int32} {d : Nat} (hd : d < 6) : ∀ (m k fuel : Nat) (w : Wd), k + m = 100 → m < fuel → ∃ w', fX12_tape_55 fuel (iN d) v3 (iN k) w = some (v3, w') ∧ w'.1 = w.1 ∧ (∀ a, ¬ a = 167 → w'.2 a = w.2 a) ∧ ∀ j, w'.2 167 j = if 100 * d + k ≤ j ∧ j < 100 * d + 100 then 0 else w.2 167 j
  | 0, k, fuel + 1, w, hk, _ => by
    obtain rfl : k = 100 := by omega
    unfold fX12_tape_55
    rw [if_neg (by decide)]
    refine ⟨_, rfl, rfl, fun a _ => rfl, fun j => ?_⟩
    rw [if_neg (by omega)]
  | m + 1, k, fuel + 1, w, hk, hf => by
    obtain ⟨w', e1, e2, e3, e4⟩ := tape_loop (v1 := v1) (v3 := v3) hd m (k + 1) fuel (sl w 167 (100 * d + k) 0) (by omega) (by omega)
    have hp : iN k < (100 : Int32) := by
      rw [lt_I, iN_toInt (by omega), show (100 : Int32).toInt = 100 from rfl]
      omega
    unfold fX12_tape_55
    rw [if_pos hp, lit_mul, iN_add, inb_lt2 (by omega) (by omega), if_pos rfl, wl_iN (by omega), add_lit]
    refine ⟨w', e1, e2, fun a ha => ?_, fun j => ?_⟩
    · rw [e3 a ha]
      simp [sl, ha]
    · rw [e4 j, sl_2]
      by_cases q : j = 100 * d + k
      · rw [if_neg (by omega), if_pos ⟨rfl, q⟩, if_pos (by omega)]
      · by_cases q2 : 100 * d + k ≤ j ∧ j < 100 * d + 100
        · rw [if_pos (by omega), if_pos q2]
        · rw [if_neg (by omega), if_neg (by omega), if_neg q2]
theorem tape_ok {n : Nat} {wc wm : Wd} {v1 v2 v3 : Int32} (h : YY n wc wm) : ∃ r wc' wm', fX11_tape v1 v2 v3 wc = some (r, wc') ∧ fX12_tape v1 v2 v3 wm = some (r, wm') ∧ YY n wc' wm' := by
  have h0 := h.thr (x := 0)
  unfold fX11_tape fX12_tape
  simp only [nw_eq, Option.bind_some, isCell_c, isCell_m, isTape_c, isTape_m, within_eq, in_eq, Int32.toInt_toInt64, decide_eq_true_eq, Int32.reduceToInt, Int64.reduceToInt, tn128, tm128, if_true, if_false, Bool.false_eq_true, isRow_m, show (1 : Int32).toInt = 1 from rfl, show (5 : Int32).toInt = 5 from rfl]
  by_cases h1 : 0 ≤ v1.toInt ∧ v1.toInt ≤ 5
  · obtain ⟨d, hd, rfl⟩ := tape_cases h1
    rw [if_pos h1, if_pos h1]
    by_cases h2 : 1 ≤ v2.toInt ∧ v2.toInt ≤ 5
    · rw [if_pos h2, if_pos h2]
      by_cases h3 : (100 : Int32) < v3
      · rw [if_pos h3, if_pos h3]
        exact ⟨_, _, _, rfl, rfl, h0⟩
      · rw [if_neg h3, if_neg h3]
        by_cases h4 : v3 < 0
        · rw [if_pos h4, if_pos h4]
          obtain ⟨wc', wm', e1, e2, e3⟩ := host_ok (x := -14) h0
          rw [e1, e2]
          exact ⟨_, _, _, rfl, rfl, e3⟩
        · rw [if_neg h4, if_neg h4, inb_lt2 hd (by omega), if_pos rfl, if_pos rfl, iN_clamp (by omega), wi_iN (by omega), wi_iN (by omega)]
          rw [lt_I, show (100 : Int32).toInt = 100 from rfl] at h3
          rw [lt_I, z_I] at h4
          obtain ⟨w', e1, e2, e3, e4⟩ := tape_loop (v1 := 0) (v3 := v3) hd 100 0 FU (si (si (si wm 148 0 0) 165 d v2) 166 d v3) (by omega) (by unfold FU; omega)
          rw [show iN 0 = 0 from rfl] at e1
          rw [e1]
          have e5 : ∀ j, w'.2 167 j = if 100 * d ≤ j ∧ j < 100 * d + 100 then 0 else (si wm 148 0 0).2 167 j := e4
          refine ⟨_, _, _, rfl, rfl, h0.tapes (h0.2.2.1.one (d0 := d) ⟨⟨?_, ?_, ?_, ?_⟩, ?_, ?_⟩ ?_) (h0.2.1.kinds ?_ ?_ ?_) ?_ ?_⟩
          · rw [e2, si_1 (a := 166), if_neg (by omega), si_1 (a := 165), if_pos ⟨rfl, rfl⟩]
            show (si (si wc (135 + 2 * d) 0 v2) (135 + 2 * d) 1 v3).1 (135 + 2 * d) 0 = v2
            rw [si_1, if_neg (by omega), si_1, if_pos ⟨rfl, rfl⟩]
          · rw [e2, si_1 (a := 166), if_neg (by omega), si_1 (a := 165), if_pos ⟨rfl, rfl⟩]
            exact ⟨by omega, by omega⟩
          · rw [e2, si_1 (a := 166), if_pos ⟨rfl, rfl⟩]
            show (si (si wc (135 + 2 * d) 0 v2) (135 + 2 * d) 1 v3).1 (135 + 2 * d) 1 = v3
            rw [si_1, if_pos ⟨rfl, rfl⟩]
          · rw [e2, si_1 (a := 166), if_pos ⟨rfl, rfl⟩]
            exact ⟨by omega, by omega⟩
          · intro i hi
            rw [e5, if_pos (by omega)]
            simp [flJ, show 136 + 2 * d = 135 + 2 * d + 1 by omega, hi]
          · intro _ i hi
            rw [e5, if_pos (by omega)]
            exact ⟨by decide, by decide⟩
          · intro d' hd' hne
            refine ⟨?_, ?_, ?_, ?_, fun i hi => ?_⟩
            · show (si (si wc (135 + 2 * d) 0 v2) (135 + 2 * d) 1 v3).1 (135 + 2 * d') = _
              rw [si_oth (by omega), si_oth (by omega)]
            · have : ¬ 136 + 2 * d' = 135 + 2 * d + 1 := by omega
              simp only [flJ, this, if_false]
              rfl
            · rw [e2, si_1 (a := 166), if_neg (by omega), si_1 (a := 165), if_neg (by omega)]
            · rw [e2, si_1 (a := 166), if_neg (by omega), si_1 (a := 165), if_neg (by omega)]
            · rw [e5, if_neg (by omega)]
          · intro d' hd' hk
            rw [e2, si_1 (a := 166), if_neg (by omega), si_1 (a := 165)] at hk
            by_cases e : d' = d
            · rw [if_pos ⟨rfl, e⟩] at hk
              rw [hk] at h2
              exact absurd h2.2 (by decide)
            · rw [if_neg (by omega)] at hk
              refine ⟨hk, ?_⟩
              show (si (si wc (135 + 2 * d) 0 v2) (135 + 2 * d) 1 v3).1 (135 + 2 * d') 3 = _
              rw [si_oth (by omega), si_oth (by omega)]
          · intro a ha
            show (si (si wc (135 + 2 * d) 0 v2) (135 + 2 * d) 1 v3).1 a = _
            rw [si_oth (by omega), si_oth (by omega)]
          · rw [e2, si_oth (by omega), si_oth (by omega)]
          · intro a ha _
            show (si (si wc (135 + 2 * d) 0 v2) (135 + 2 * d) 1 v3).1 a = _
            rw [si_oth (by omega), si_oth (by omega)]
          · intro a ha
            rw [e2, si_oth (by omega), si_oth (by omega)]
    · rw [if_neg h2, if_neg h2]
      exact ⟨_, _, _, rfl, rfl, h0⟩
  · rw [if_neg h1, if_neg h1]
    exact ⟨_, _, _, rfl, rfl, h0⟩
def cpW (w : Wd) (A B lo hi : Nat) : Wd := (w.1, fun q => if q = 167 then (fun j => if B + lo ≤ j ∧ j < B + hi then w.2 167 (A + (j - B)) else w.2 167 j) else w.2 q)
theorem cpW_0 {w : Wd} {A B k : Nat} : cpW w A B k k = w := by
  refine Prod.ext rfl ?_
  funext q
  show (if q = 167 then _ else _) = _
  split
  · rename_i e
    subst e
    funext j
    rw [if_neg (by omega)]
  · rfl
theorem cpW_f {w : Wd} {A B k : Nat} (h : A + k < B ∨ B ≤ A) : sl (cpW w A B 0 k) 167 (B + k) ((cpW w A B 0 k).2 167 (A + k)) = cpW w A B 0 (k + 1) := by
  refine Prod.ext rfl ?_
  funext q
  funext j
  rw [sl_2]
  have e : (cpW w A B 0 k).2 167 (A + k) = w.2 167 (A + k) := by
    show (if B + 0 ≤ A + k ∧ A + k < B + k then _ else _) = _
    rw [if_neg (by omega)]
  rw [e]
  by_cases hq : q = 167
  · subst hq
    show _ = if B + 0 ≤ j ∧ j < B + (k + 1) then w.2 167 (A + (j - B)) else w.2 167 j
    by_cases c : j = B + k
    · rw [if_pos ⟨rfl, c⟩, if_pos (by omega), c, show B + k - B = k by omega]
    · rw [if_neg (by omega)]
      show (if B + 0 ≤ j ∧ j < B + k then w.2 167 (A + (j - B)) else w.2 167 j) = _
      by_cases c2 : B + 0 ≤ j ∧ j < B + k
      · rw [if_pos c2, if_pos (by omega)]
      · rw [if_neg c2, if_neg (by omega)]
  · rw [if_neg (by omega)]
    simp [cpW, hq]
theorem cpW_b {w : Wd} {A B k m : Nat} (h : A < B) (hk : k < m) : sl (cpW w A B (k + 1) m) 167 (B + k) ((cpW w A B (k + 1) m).2 167 (A + k)) = cpW w A B k m := by
  refine Prod.ext rfl ?_
  funext q
  funext j
  rw [sl_2]
  have e : (cpW w A B (k + 1) m).2 167 (A + k) = w.2 167 (A + k) := by
    show (if B + (k + 1) ≤ A + k ∧ A + k < B + m then _ else _) = _
    rw [if_neg (by omega)]
  rw [e]
  by_cases hq : q = 167
  · subst hq
    show _ = if B + k ≤ j ∧ j < B + m then w.2 167 (A + (j - B)) else w.2 167 j
    by_cases c : j = B + k
    · rw [if_pos ⟨rfl, c⟩, if_pos (by omega), c, show B + k - B = k by omega]
    · rw [if_neg (by omega)]
      show (if B + (k + 1) ≤ j ∧ j < B + m then w.2 167 (A + (j - B)) else w.2 167 j) = _
      by_cases c2 : B + (k + 1) ≤ j ∧ j < B + m
      · rw [if_pos c2, if_pos (by omega)]
      · rw [if_neg c2, if_neg (by omega)]
  · rw [if_neg (by omega)]
    simp [cpW, hq]
theorem copy190_end {w : Wd} {a b x1 x2 L : Int32} (h : ¬ (a = b ∧ x1 < x2)) {x : Int32} {fuel : Nat} : fX12_copy_190 (fuel + 1) a x1 b x2 L x w = some (L, w) := by
  unfold fX12_copy_190
  by_cases c : x < 0
  · rw [if_pos c]
  · rw [if_neg c]
    by_cases c2 : a = b
    · rw [if_pos c2, if_neg (fun q => h ⟨c2, q⟩)]
    · rw [if_neg c2]
theorem copy_fwd {w : Wd} {d e s t L : Nat} (hd : d < 6) (he : e < 6) (hs : s + L ≤ 100) (ht : t + L ≤ 100) (h : ¬ (d = e ∧ s < t)) : ∀ (m k fuel : Nat), k + m = L → m < fuel → fX12_copy_131 fuel (iN d) (iN s) (iN e) (iN t) (iN L) (iN k) (cpW w (100 * d + s) (100 * e + t) 0 k) = some (iN L, cpW w (100 * d + s) (100 * e + t) 0 L)
  | 0, k, fuel + 1, hk, _ => by
    obtain rfl : k = L := by omega
    unfold fX12_copy_131
    rw [if_neg (by rw [lt_I]; omega)]
    unfold fX12_copy_184 FU
    refine copy190_end (fuel := 9999999) (fun q => h ⟨(iN_inj (by omega) (by omega)).mp q.1, (iN_lt (by omega) (by omega)).mp q.2⟩)
  | m + 1, k, fuel + 1, hk, hf => by
    have ih := copy_fwd (w := w) hd he hs ht h m (k + 1) fuel (by omega) (by omega)
    have st : fX12_copy_149 (fX12_copy_131 fuel) (iN d) (iN s) (iN e) (iN t) (iN L) (iN k) (cpW w (100 * d + s) (100 * e + t) 0 k) = some (iN L, cpW w (100 * d + s) (100 * e + t) 0 L) := by
      unfold fX12_copy_149
      rw [lit_mul, lit_mul, iN_add, iN_add, iN_add, iN_add, inb_lt2 (by omega) (by omega), inb_lt2 (by omega) (by omega), if_pos rfl, if_pos rfl, wl_iN (by omega), rl_iN (by omega), cpW_f (by omega), add_lit]
      exact ih
    unfold fX12_copy_131
    rw [if_pos ((iN_lt (by omega) (by omega)).mpr (by omega))]
    by_cases c : iN d = iN e
    · rw [if_pos c, if_neg (fun q => h ⟨(iN_inj (by omega) (by omega)).mp c, (iN_lt (by omega) (by omega)).mp q⟩)]
      exact st
    · rw [if_neg c]
      exact st
theorem copy_bwd {w : Wd} {d s t L : Nat} (hd : d < 6) (hs : s + L ≤ 100) (ht : t + L ≤ 100) (h : s < t) : ∀ (k fuel : Nat), k ≤ L → k < fuel → fX12_copy_190 fuel (iN d) (iN s) (iN d) (iN t) (iN L) (iN k - 1) (cpW w (100 * d + s) (100 * d + t) k L) = some (iN L, cpW w (100 * d + s) (100 * d + t) 0 L)
  | 0, fuel + 1, _, _ => by
    unfold fX12_copy_190
    rw [if_pos (by decide)]
  | k + 1, fuel + 1, hk, hf => by
    have ih := copy_bwd (w := w) hd hs ht h k fuel (by omega) (by omega)
    unfold fX12_copy_190
    rw [iN_s1, if_neg (iN_nneg (by omega)), if_pos rfl, if_pos ((iN_lt (by omega) (by omega)).mpr h), lit_mul, iN_add, iN_add, iN_add, iN_add, inb_lt2 (by omega) (by omega), inb_lt2 (by omega) (by omega), if_pos rfl, if_pos rfl, wl_iN (by omega), rl_iN (by omega), cpW_b (by omega) (by omega), add_neg1]
    exact ih
theorem copy_m {w : Wd} {d e s t L : Nat} (hd : d < 6) (he : e < 6) (hs : s + L ≤ 100) (ht : t + L ≤ 100) : fX12_copy_131 FU (iN d) (iN s) (iN e) (iN t) (iN L) 0 w = some (iN L, cpW w (100 * d + s) (100 * e + t) 0 L) := by
  by_cases h : d = e ∧ s < t
  · obtain ⟨rfl, h⟩ := h
    have hb := copy_bwd (w := w) hd hs ht h L FU (Nat.le_refl _) (by unfold FU; omega)
    rw [cpW_0] at hb
    have key : ∀ fuel, fX12_copy_131 (fuel + 1) (iN d) (iN s) (iN d) (iN t) (iN L) 0 w = some (iN L, cpW w (100 * d + s) (100 * d + t) 0 L) := by
      intro fuel
      unfold fX12_copy_131
      by_cases c : 0 < iN L
      · rw [if_pos c, if_pos rfl, if_pos ((iN_lt (by omega) (by omega)).mpr h)]
        exact hb
      · rw [if_neg c]
        exact hb
    exact key 9999999
  · have := copy_fwd (w := w) hd he hs ht h L 0 FU (by omega) (by unfold FU; omega)
    rw [cpW_0] at this
    exact this
-- MATHEMATICS: m16b
theorem copy_ok {n : Nat} {wc wm : Wd} {v1 v2 v3 v4 v5 : Int32} (h : YY n wc wm) : ∃ r wc' wm', fX11_copy v1 v2 v3 v4 v5 wc = some (r, wc') ∧ fX12_copy v1 v2 v3 v4 v5 wm = some (r, wm') ∧ YY n wc' wm' := by
  have h0 := h.thr (x := 0)
  have hh : ∀ x, ∃ r wc' wm', ((fX11_refuse x wc).bind fun v => some (v.1, v.2)) = some (r, wc') ∧ ((fX12_host x (si wm 148 0 0)).bind fun v => some (v.1, v.2)) = some (r, wm') ∧ YY n wc' wm' := by
    intro x
    obtain ⟨wc', wm', e1, e2, e3⟩ := host_ok (x := x) h0
    rw [e1, e2]
    exact ⟨_, _, _, rfl, rfl, e3⟩
  have hh1 : ∃ r wc' wm', fX11_copy_48 wc = some (r, wc') ∧ fX12_copy_39 (si wm 148 0 0) = some (r, wm') ∧ YY n wc' wm' := hh _
  have hh2 : ∃ r wc' wm', fX11_copy_76 wc = some (r, wc') ∧ fX12_copy_73 (si wm 148 0 0) = some (r, wm') ∧ YY n wc' wm' := hh _
  have hh3 : ∃ r wc' wm', fX11_copy_122 wc = some (r, wc') ∧ fX12_copy_121 (si wm 148 0 0) = some (r, wm') ∧ YY n wc' wm' := hh _
  unfold fX11_copy fX12_copy
  simp only [nw_eq, Option.bind_some, isCell_c, isCell_m, isTape_c, isTape_m, within_eq, in_eq, Int32.toInt_toInt64, decide_eq_true_eq, Int32.reduceToInt, Int64.reduceToInt, tn128, tm128, if_true, if_false, Bool.false_eq_true]
  by_cases h1 : 0 ≤ v1.toInt ∧ v1.toInt ≤ 5
  · obtain ⟨d, hd, rfl⟩ := tape_cases h1
    rw [if_pos h1, if_pos h1]
    by_cases h3 : 0 ≤ v3.toInt ∧ v3.toInt ≤ 5
    · obtain ⟨e, he, rfl⟩ := tape_cases h3
      obtain ⟨⟨t1, t2, t3, t4⟩, t5, t6⟩ := h0.2.2.1 d hd
      obtain ⟨⟨u1, u2, u3, u4⟩, u5, u6⟩ := h0.2.2.1 e he
      rw [if_pos h3, if_pos h3, inb_lt2 hd (by omega), inb_lt2 he (by omega), if_pos rfl, if_pos rfl, if_pos rfl, iN_clamp (by omega), iN_clamp (by omega), ri_iN (by omega), ri_iN (by omega), ri_iN (by omega), ri_iN (by omega), t1, t3, u1, u3, holds_c t1, isRow_m]
      simp only [nw_eq, Option.bind_some, isCell_c, isCell_m, isTape_c, isTape_m, within_eq, in_eq, Int32.toInt_toInt64, decide_eq_true_eq, Int32.reduceToInt, Int64.reduceToInt, tn128, tm128, if_true, if_false, Bool.false_eq_true]
      by_cases c0 : (si wm 148 0 0).1 165 d = 0
      · rw [if_pos c0, if_pos c0]
        exact hh1
      · rw [if_neg c0, if_neg c0]
        by_cases d0 : (si wm 148 0 0).1 165 e = 0
        · rw [if_pos d0, if_pos d0]
          exact hh1
        · rw [if_neg d0, if_neg d0]
          by_cases k : 1 ≤ ((si wm 148 0 0).1 165 d).toInt ∧ ((si wm 148 0 0).1 165 d).toInt ≤ 5
          · rw [if_pos k, if_pos k]
            by_cases k2 : (si wm 148 0 0).1 165 d = (si wm 148 0 0).1 165 e
            · rw [if_pos k2, if_pos k2]
              by_cases a1 : v5 < 0
              · rw [if_pos a1, if_pos a1]
                exact hh3
              · rw [if_neg a1, if_neg a1]
                by_cases a2 : v2 < 0
                · rw [if_pos a2, if_pos a2]
                  exact hh3
                · rw [if_neg a2, if_neg a2]
                  by_cases a3 : v4 < 0
                  · rw [if_pos a3, if_pos a3]
                    exact hh3
                  · rw [if_neg a3, if_neg a3]
                    by_cases a4 : (si wm 148 0 0).1 166 d - v5 < v2
                    · rw [if_pos a4, if_pos a4]
                      exact hh3
                    · rw [if_neg a4, if_neg a4]
                      by_cases a5 : (si wm 148 0 0).1 166 e - v5 < v4
                      · rw [if_pos a5, if_pos a5]
                        exact hh3
                      · rw [if_neg a5, if_neg a5]
                        rw [lt_I, z_I] at a1 a2 a3
                        have b1 := toInt_lt v5
                        have b2 := t4.1
                        have b3 := t4.2
                        have b4 := u4.1
                        have b5 := u4.2
                        rw [lt_I, sub_I (by omega) (by omega)] at a4 a5
                        obtain ⟨L, hL, rfl⟩ := of_range (v := v5) 101 (by omega) (by omega)
                        obtain ⟨s, hs, rfl⟩ := of_range (v := v2) 101 (by omega) (by omega)
                        obtain ⟨t, ht, rfl⟩ := of_range (v := v4) 101 (by omega) (by omega)
                        rw [iN_toInt (by omega), iN_toInt (by omega)] at a4 a5
                        rw [copy_m hd he (by omega) (by omega), if_pos (c := cpok _ _ _ _ _ = true) (by
                          unfold cpok
                          rw [decide_eq_true_iff, iN_clamp (by omega), iN_clamp (by omega), iN_clamp (by omega)]
                          exact ⟨iN_nneg (by omega), iN_nneg (by omega), iN_nneg (by omega), by omega, by omega⟩)]
                        refine ⟨_, _, _, rfl, rfl, h0.tapes (h0.2.2.1.one (d0 := e) ⟨⟨u1, u2, u3, u4⟩, fun i hi => ?_, fun q i hi => ?_⟩ ?_) (h0.2.1.kinds (fun d' _ hk => ⟨hk, rfl⟩) (fun a _ => rfl) rfl) (fun a _ _ => rfl) (fun a _ => rfl)⟩
                        · show (if 136 + 2 * e = 135 + 2 * e + 1 then va_cpy (wc.2 (135 + 2 * d + 1)) (wc.2 (135 + 2 * e + 1)) (iN s).toNatClampNeg (iN t).toNatClampNeg (iN L).toNatClampNeg else wc.2 (136 + 2 * e)) i = if 100 * e + t + 0 ≤ 100 * e + i ∧ 100 * e + i < 100 * e + t + L then (si wm 148 0 0).2 167 (100 * d + s + (100 * e + i - (100 * e + t))) else (si wm 148 0 0).2 167 (100 * e + i)
                          rw [if_pos (by omega), iN_clamp (by omega), iN_clamp (by omega), iN_clamp (by omega)]
                          show (if t ≤ i ∧ i < t + L then wc.2 (135 + 2 * d + 1) (s + (i - t)) else wc.2 (135 + 2 * e + 1) i) = _
                          by_cases z : t ≤ i ∧ i < t + L
                          · rw [if_pos z, if_pos (by omega), show 135 + 2 * d + 1 = 136 + 2 * d by omega, t5 _ (by omega), show 100 * d + s + (100 * e + i - (100 * e + t)) = 100 * d + (s + (i - t)) by omega]
                          · rw [if_neg z, if_neg (by omega), show 135 + 2 * e + 1 = 136 + 2 * e by omega, u5 i hi]
                        · have q' : (si wm 148 0 0).1 165 e = 1 := q
                          show -128 ≤ (if 100 * e + t + 0 ≤ 100 * e + i ∧ 100 * e + i < 100 * e + t + L then (si wm 148 0 0).2 167 (100 * d + s + (100 * e + i - (100 * e + t))) else (si wm 148 0 0).2 167 (100 * e + i)).toInt ∧ (if 100 * e + t + 0 ≤ 100 * e + i ∧ 100 * e + i < 100 * e + t + L then (si wm 148 0 0).2 167 (100 * d + s + (100 * e + i - (100 * e + t))) else (si wm 148 0 0).2 167 (100 * e + i)).toInt ≤ 127
                          by_cases z : t ≤ i ∧ i < t + L
                          · rw [if_pos (by omega), show 100 * d + s + (100 * e + i - (100 * e + t)) = 100 * d + (s + (i - t)) by omega]
                            exact t6 (k2.trans q') _ (by omega)
                          · rw [if_neg (by omega)]
                            exact u6 q' i hi
                        · intro d' hd' hne
                          refine ⟨rfl, ?_, rfl, rfl, fun i hi => ?_⟩
                          · show (if 136 + 2 * d' = 135 + 2 * e + 1 then _ else _) = _
                            rw [if_neg (by omega)]
                          · show (if 100 * e + t + 0 ≤ 100 * d' + i ∧ 100 * d' + i < 100 * e + t + L then _ else (si wm 148 0 0).2 167 (100 * d' + i)) = _
                            rw [if_neg (by omega)]
            · rw [if_neg k2, if_neg k2]
              exact hh2
          · rw [if_neg k, if_neg k]
            exact hh2
    · rw [if_neg h3, if_neg h3]
      exact ⟨_, _, _, rfl, rfl, h0⟩
  · rw [if_neg h1, if_neg h1]
    exact ⟨_, _, _, rfl, rfl, h0⟩
theorem learn_loop {v1 L : Nat} (hL : L ≤ 60) : ∀ (m k fuel : Nat) (w : Wd), k + m = L → m < fuel → w.1 100 0 = iN L → ∃ w', fX9_learn_15 fuel v1 (iN k) w = some w' ∧ (∀ a, ¬ a = 101 → w'.1 a = w.1 a) ∧ w'.2 = w.2 ∧ ∀ i, w'.1 101 i = if k ≤ i ∧ i < L then (w.2 (v1 + 1) i).toInt32 else w.1 101 i
  | 0, k, fuel + 1, w, hk, _, hw => by
    obtain rfl : k = L := by omega
    unfold fX9_learn_15
    rw [hw, if_neg (by rw [lt_I]; omega)]
    exact ⟨_, rfl, fun a _ => rfl, rfl, fun i => by rw [if_neg (by omega)]⟩
  | m + 1, k, fuel + 1, w, hk, hf, hw => by
    obtain ⟨w', e1, e2, e3, e4⟩ := learn_loop (v1 := v1) hL m (k + 1) fuel (si w 101 k ((w.2 (v1 + 1) k).toInt32)) (by omega) (by omega) (by rw [si_oth (by omega)]; exact hw)
    unfold fX9_learn_15
    rw [hw, if_pos ((iN_lt (by omega) (by omega)).mpr (by omega)), inb_lt2 (by omega) (by omega), inb_lt2 (by omega) (by omega), if_pos rfl, if_pos rfl, rl_iN (by omega), wi_iN (by omega), add_lit]
    refine ⟨w', e1, fun a ha => by rw [e2 a ha, si_oth ha], by rw [e3]; rfl, fun i => ?_⟩
    rw [e4, si_1, si_2]
    by_cases c : i = k
    · rw [if_neg (by omega), if_pos ⟨rfl, c⟩, if_pos (by omega), c]
    · by_cases c2 : k ≤ i ∧ i < L
      · rw [if_pos (by omega), if_pos c2]
      · rw [if_neg (by omega), if_neg (by omega), if_neg c2]
theorem tide_loop {d L : Nat} (hd : d < 6) (hL : L ≤ 60) : ∀ (m k fuel : Nat) (w : Wd), k + m = L → m < fuel → w.1 148 4 = iN L → ∃ w', fX12_tide_79 fuel (iN d) (iN k) w = some (iN L, w') ∧ (∀ a, ¬ a = 150 → w'.1 a = w.1 a) ∧ w'.2 = w.2 ∧ ∀ i, w'.1 150 i = if k ≤ i ∧ i < L then (w.2 167 (100 * d + i)).toInt32 else w.1 150 i
  | 0, k, fuel + 1, w, hk, _, hw => by
    obtain rfl : k = L := by omega
    unfold fX12_tide_79
    rw [hw, if_neg (by rw [lt_I]; omega)]
    exact ⟨_, rfl, fun a _ => rfl, rfl, fun i => by rw [if_neg (by omega)]⟩
  | m + 1, k, fuel + 1, w, hk, hf, hw => by
    obtain ⟨w', e1, e2, e3, e4⟩ := tide_loop hd hL m (k + 1) fuel (si w 150 k ((w.2 167 (100 * d + k)).toInt32)) (by omega) (by omega) (by rw [si_oth (by omega)]; exact hw)
    unfold fX12_tide_79
    rw [hw, if_pos ((iN_lt (by omega) (by omega)).mpr (by omega)), lit_mul, iN_add, inb_lt2 (by omega) (by omega), inb_lt2 (by omega) (by omega), if_pos rfl, if_pos rfl, rl_iN (by omega), wi_iN (by omega), add_lit]
    refine ⟨w', e1, fun a ha => by rw [e2 a ha, si_oth ha], by rw [e3]; rfl, fun i => ?_⟩
    rw [e4, si_1, si_2]
    by_cases c : i = k
    · rw [if_neg (by omega), if_pos ⟨rfl, c⟩, if_pos (by omega), c]
    · by_cases c2 : k ≤ i ∧ i < L
      · rw [if_pos (by omega), if_pos c2]
      · rw [if_neg (by omega), if_neg (by omega), if_neg c2]
theorem tide_ok {n : Nat} {wc wm : Wd} {v1 : Int32} (h : YY n wc wm) : ∃ r wc' wm', fX11_tide v1 wc = some (r, wc') ∧ fX12_tide v1 wm = some (r, wm') ∧ YY n wc' wm' := by
  have h0 := h.thr (x := 0)
  have hh : ∀ x, ∃ r wc' wm', ((fX11_refuse x wc).bind fun v => some (v.1, v.2)) = some (r, wc') ∧ ((fX12_host x (si wm 148 0 0)).bind fun v => some (v.1, v.2)) = some (r, wm') ∧ YY n wc' wm' := by
    intro x
    obtain ⟨wc', wm', e1, e2, e3⟩ := host_ok (x := x) h0
    rw [e1, e2]
    exact ⟨_, _, _, rfl, rfl, e3⟩
  unfold fX11_tide fX12_tide
  simp only [nw_eq, Option.bind_some, isCell_c, isCell_m, isTape_c, isTape_m, within_eq, in_eq, Int32.toInt_toInt64, decide_eq_true_eq, Int32.reduceToInt, Int64.reduceToInt, tn128, tm128, if_true, if_false, Bool.false_eq_true, show (60 : Int32).toInt = 60 from rfl]
  by_cases h1 : 0 ≤ v1.toInt ∧ v1.toInt ≤ 5
  · obtain ⟨d, hd, rfl⟩ := tape_cases h1
    obtain ⟨⟨t1, t2, t3, t4⟩, t5, t6⟩ := h0.2.2.1 d hd
    rw [if_pos h1, if_pos h1, inb_lt2 hd (by omega), if_pos rfl, if_pos rfl, iN_clamp (by omega), ri_iN (by omega), ri_iN (by omega), t1, t3]
    by_cases c0 : (si wm 148 0 0).1 165 d = 0
    · rw [if_pos c0, if_pos c0]
      exact hh _
    · rw [if_neg c0, if_neg c0]
      by_cases c1 : (si wm 148 0 0).1 165 d = 1
      · rw [if_pos c1, if_pos c1]
        by_cases c2 : 1 ≤ ((si wm 148 0 0).1 166 d).toInt ∧ ((si wm 148 0 0).1 166 d).toInt ≤ 60
        · rw [if_pos c2, if_pos c2]
          obtain ⟨L, hL, eL⟩ := of_range (v := (si wm 148 0 0).1 166 d) 61 (by omega) (by omega)
          rw [eL, iN_toInt (by omega)] at c2
          unfold fX9_learn
          have hmin : mmin (wc.1 (135 + 2 * d) 1) 60 = iN L := by
            unfold mmin
            rw [t3, eL, if_neg]
            rw [lt_I, iN_toInt (by omega), show (60 : Int32).toInt = 60 from rfl]
            omega
          rw [eL, hmin]
          obtain ⟨wc', e1, e2, e3, e4⟩ := learn_loop (v1 := 135 + 2 * d) (L := L) (by omega) L 0 FU (si wc 100 0 (iN L)) (by omega) (by unfold FU; omega) (by rw [si_1, if_pos ⟨rfl, rfl⟩])
          obtain ⟨wm', f1, f2, f3, f4⟩ := tide_loop (d := d) (L := L) hd (by omega) L 0 FU (si (si wm 148 0 0) 148 4 (iN L)) (by omega) (by unfold FU; omega) (by rw [si_1, if_pos ⟨rfl, rfl⟩])
          rw [show iN 0 = 0 from rfl] at e1 f1
          rw [nw_eq, e1, f1]
          have z1 : wc'.1 100 0 = iN L := by rw [e2 _ (by omega), si_1, if_pos ⟨rfl, rfl⟩]
          have oc : ∀ a, ¬ a = 101 → ¬ a = 100 → wc'.1 a = wc.1 a := fun a h1 h2 => by rw [e2 a h1, si_oth h2]
          have om : ∀ a, ¬ a = 150 → ¬ a = 148 → wm'.1 a = (si wm 148 0 0).1 a := fun a h1 h2 => by rw [f2 a h1, si_oth h2]
          have oj : ∀ j, ¬ j = 4 → wm'.1 148 j = (si wm 148 0 0).1 148 j := fun j hj => by rw [f2 _ (by omega), si_1, if_neg (by omega)]
          refine ⟨_, wc', wm', rfl, by rw [z1], ?_⟩
          obtain ⟨a, b, c, d1, e, f, g⟩ := h0
          refine ⟨?_, b.cong (fun q hq => oc q (by omega) (by omega)) (om _ (by omega) (by omega)) (om _ (by omega) (by omega)), c.cong (fun q hq => ⟨oc q (by omega) (by omega), by rw [e3]; rfl⟩) (om _ (by omega) (by omega)) (om _ (by omega) (by omega)) (by rw [f3]; rfl), ?_, e.cong (fun q hq => oc q (by omega) (by omega)) (fun j hj => oj j (by omega)) (om _ (by omega) (by omega)), f.cong (by rw [oc _ (by omega) (by omega)]) (fun q hq => oc q (by omega) (by omega)) (fun q hq => oc q (by omega) (by omega)) (oj _ (by omega)) (fun q hq => om q (by omega) (by omega)), ?_⟩
          · rw [om 149 (by omega) (by omega)]
            exact a.cong (fun q hq => oc q (by omega) (by omega))
          · have z2 : wm'.1 148 4 = iN L := by rw [f2 _ (by omega), si_1, if_pos ⟨rfl, rfl⟩]
            unfold YD
            rw [z1, z2]
            refine ⟨rfl, ⟨by rw [iN_toInt (by omega)]; omega, by rw [iN_toInt (by omega)]; omega⟩, fun i hi => ?_⟩
            rw [iN_toInt (by omega)] at hi
            rw [e4, f4, if_pos (by omega), if_pos (by omega)]
            show (wc.2 (135 + 2 * d + 1) i).toInt32 = ((si wm 148 0 0).2 167 (100 * d + i)).toInt32 ∧ _
            rw [show 135 + 2 * d + 1 = 136 + 2 * d by omega, t5 i (by omega)]
            refine ⟨rfl, ?_⟩
            have hb := t6 c1 i (by omega)
            show -128 ≤ (((si wm 148 0 0).2 167 (100 * d + i)).toInt32).toInt ∧ (((si wm 148 0 0).2 167 (100 * d + i)).toInt32).toInt ≤ 127
            rw [Int64.toInt_toInt32, Int.bmod_eq_of_le (by omega) (by omega)]
            exact hb
          · rw [oc 0 (by omega) (by omega), oj 2 (by omega)]
            exact g
        · rw [if_neg c2, if_neg c2]
          exact ⟨_, _, _, rfl, rfl, h0⟩
      · rw [if_neg c1, if_neg c1]
        exact hh _
  · rw [if_neg h1, if_neg h1]
    exact ⟨_, _, _, rfl, rfl, h0⟩
-- MATHEMATICS: m17
theorem IW.up {S : Nat → Int32} {n n' : Nat} (h : IW S n) (hn : n ≤ n') : IW S n' := by
  intro c hc
  obtain ⟨h1, h2, h3⟩ := h c hc
  exact ⟨h1, h2, by omega⟩
theorem Inv.up {S : Nat → Int32} {n n' : Nat} (h : Inv S n) (hn : n ≤ n') : Inv S n' := ⟨h.1, h.2.1, h.2.2.1, h.2.2.2.1, h.2.2.2.2.up hn⟩
theorem YC.up {w : Wd} {z n n' : Nat} {S : Nat → Int32} (h : YC w z S n) (hn : n ≤ n') : YC w z S n' := ⟨h.1, h.2.1, h.2.2.up hn⟩
theorem YY.up {n n' : Nat} {wc wm : Wd} (h : YY n wc wm) (hn : n ≤ n') : YY n' wc wm := ⟨h.1.up hn, fun d hd hk => ⟨(h.2.1 d hd hk).1, (h.2.1 d hd hk).2.up hn⟩, h.2.2⟩
theorem sumN_add (f g : Nat → Int32) : ∀ n, sumN (fun i => f i + g i) n = sumN f n + sumN g n
  | 0 => rfl
  | n + 1 => by
    show sumN (fun i => f i + g i) n + (f n + g n) = (sumN f n + f n) + (sumN g n + g n)
    rw [sumN_add f g n, Int32.add_assoc, Int32.add_assoc, ← Int32.add_assoc (sumN g n), Int32.add_comm (sumN g n) (f n), Int32.add_assoc]
theorem sumOf_loop {w : Wd} {a : Nat} {f : Nat → Int32} (hf : ∀ i, i < 100 → w.1 a i = f i) : ∀ (m k fuel : Nat), k + m = 100 → m < fuel → fX11_sumOf_10 100 w fuel (sumN f k) a (Int32.ofNat 100) (iN k) = some (sumN f 100)
  | 0, k, fuel + 1, hk, _ => by
    obtain rfl : k = 100 := by omega
    unfold fX11_sumOf_10
    rw [if_neg (by decide)]
  | m + 1, k, fuel + 1, hk, hfu => by
    have ih := sumOf_loop hf m (k + 1) fuel (by omega) (by omega)
    have hp : iN k < Int32.ofNat 100 := (iN_lt (by omega) (by omega)).mpr (by omega)
    unfold fX11_sumOf_10
    rw [if_pos hp, inb_lt2 (by omega) (by omega), if_pos rfl, ri_iN (by omega), hf k (by omega), add_lit]
    exact ih
theorem sumOf_c {w : Wd} {a : Nat} {f : Nat → Int32} (hf : ∀ i, i < 100 → w.1 a i = f i) : fX11_sumOf a 100 w = some (sumN f 100) := sumOf_loop hf 100 0 FU (by omega) (by unfold FU; omega)
theorem cracked_loop {w : Wd} : ∀ (m k fuel : Nat), k + m = 100 → m < fuel → fX12_crackedMany_4 w fuel (sumN (fun i => w.1 149 (15 * i + 13)) k) (iN k) = some (sumN (fun i => w.1 149 (15 * i + 13)) 100)
  | 0, k, fuel + 1, hk, _ => by
    obtain rfl : k = 100 := by omega
    unfold fX12_crackedMany_4
    rw [if_neg (by decide)]
  | m + 1, k, fuel + 1, hk, hfu => by
    have ih := cracked_loop (w := w) m (k + 1) fuel (by omega) (by omega)
    have hp : iN k < (100 : Int32) := (iN_lt (b := 100) (by omega) (by omega)).mpr (by omega)
    unfold fX12_crackedMany_4
    rw [if_pos hp, show fX12_c (iN k) 13 w = _ from mc_eq (j := 13) (by omega) (by omega), Option.bind_some, add_lit]
    exact ih
theorem held_loop {w : Wd} {a b e : Nat} (ha : a < 15) (hb : b < 15) (he : e < 10) : ∀ (m k fuel : Nat), k + m = 100 → m < fuel → fX12_heldIn_6 w fuel (iN a) (iN b) (iN e) (sumN (fun i => w.1 149 (15 * i + a) + w.1 149 (15 * i + b) + w.1 149 (1500 + 10 * i + e)) k) (iN k) = some (sumN (fun i => w.1 149 (15 * i + a) + w.1 149 (15 * i + b) + w.1 149 (1500 + 10 * i + e)) 100)
  | 0, k, fuel + 1, hk, _ => by
    obtain rfl : k = 100 := by omega
    unfold fX12_heldIn_6
    rw [if_neg (by decide)]
  | m + 1, k, fuel + 1, hk, hfu => by
    have ih := held_loop (w := w) ha hb he m (k + 1) fuel (by omega) (by omega)
    have hp : iN k < (100 : Int32) := (iN_lt (b := 100) (by omega) (by omega)).mpr (by omega)
    unfold fX12_heldIn_6
    rw [if_pos hp, mc_eq (by omega) ha, mc_eq (by omega) hb, mh_eq (by omega) he, Option.bind_some, Option.bind_some, Option.bind_some, add_lit]
    exact ih
theorem YC.hse {w : Wd} {n c j : Nat} {S : Nat → Int32} (h : YC w 0 S n) (hc : c < 100) (hj : j = 0 ∨ (8 ≤ j ∧ j < 10) ∨ (j < 5 ∧ S (1500 + 10 * c) = 1) ∨ (5 ≤ j ∧ j < 10 ∧ S (1500 + 10 * c) = 2)) : w.1 (20 + j) c = S (1500 + 10 * c + j) := by
  have hj10 : j < 10 := by omega
  have := h.1 (1500 + 10 * c + j) (by omega) ((val_hse hc hj10).mpr (by
    rcases hj with h | h | h | h
    · exact Or.inl h
    · exact Or.inr (Or.inl h.1)
    · exact Or.inr (Or.inr (Or.inl h))
    · exact Or.inr (Or.inr (Or.inr ⟨h.1, h.2.2⟩))))
  unfold V at this
  rwa [loc_hse hc hj10, Nat.zero_add] at this
theorem foulAll {w : Wd} {n : Nat} {S : Nat → Int32} (h : YC w 0 S n) : fX0_foulInAll w = some (sumN (fun i => S (15 * i + 9) + S (15 * i + 11) + S (1500 + 10 * i + 8)) 100) := by
  unfold fX0_foulInAll
  rw [sumOf_c (a := 15) (f := fun i => S (15 * i + 9)) (fun i hi => h.row (j := 9) hi (by omega)), sumOf_c (a := 17) (f := fun i => S (15 * i + 11)) (fun i hi => h.row (j := 11) hi (by omega)), sumOf_c (a := 28) (f := fun i => S (1500 + 10 * i + 8)) (fun i hi => h.hse (j := 8) hi (by omega))]
  rw [sumN_add, sumN_add]
  rfl
theorem rainAll {w : Wd} {n : Nat} {S : Nat → Int32} (h : YC w 0 S n) : fX0_rainInAll w = some (sumN (fun i => S (15 * i + 10) + S (15 * i + 12) + S (1500 + 10 * i + 9)) 100) := by
  unfold fX0_rainInAll
  rw [sumOf_c (a := 16) (f := fun i => S (15 * i + 10)) (fun i hi => h.row (j := 10) hi (by omega)), sumOf_c (a := 18) (f := fun i => S (15 * i + 12)) (fun i hi => h.row (j := 12) hi (by omega)), sumOf_c (a := 29) (f := fun i => S (1500 + 10 * i + 9)) (fun i hi => h.hse (j := 9) hi (by omega))]
  rw [sumN_add, sumN_add]
  rfl
theorem held_m {w : Wd} {a b e : Nat} (ha : a < 15) (hb : b < 15) (he : e < 10) : fX12_heldIn (iN a) (iN b) (iN e) w = some (sumN (fun i => w.1 149 (15 * i + a) + w.1 149 (15 * i + b) + w.1 149 (1500 + 10 * i + e)) 100) := held_loop ha hb he 100 0 FU (by omega) (by unfold FU; omega)
theorem count_ok {n : Nat} {wc wm : Wd} {v1 : Int32} (h : YY n wc wm) : ∃ r wm', fX11_count v1 wc = some r ∧ fX12_count v1 wm = some (r, wm') ∧ YY n wc wm' := by
  have h0 := h.thr (x := 0)
  have g : ∀ j, j < 40 → fX12_g (iN j) (si wm 148 0 0) = some ((si wm 148 0 0).1 149 (4300 + j)) := fun j hj => mg_eq hj
  have sc : ∀ j : Nat, (j < 18 ∧ j ≠ 14 ∧ j ≠ 17) → ∃ r wm', some (wc.1 (scA j).1 (scA j).2) = some r ∧ ((fX12_g (iN j) (si wm 148 0 0)).bind fun v => some (v, si wm 148 0 0)) = some (r, wm') ∧ YY n wc wm' := by
    intro j hj
    rw [g j (by omega), h0.1.scal hj]
    exact ⟨_, _, rfl, rfl, h0⟩
  unfold fX11_count fX12_count
  rw [nw_eq]
  by_cases c0 : v1 = 0
  · rw [if_pos c0, if_pos c0]
    exact sc 0 (by omega)
  rw [if_neg c0, if_neg c0]
  by_cases c1 : v1 = 1
  · rw [if_pos c1, if_pos c1]
    exact sc 5 (by omega)
  rw [if_neg c1, if_neg c1]
  by_cases c2 : v1 = 2
  · rw [if_pos c2, if_pos c2]
    exact sc 6 (by omega)
  rw [if_neg c2, if_neg c2]
  by_cases c3 : v1 = 3
  · rw [if_pos c3, if_pos c3]
    exact sc 7 (by omega)
  rw [if_neg c3, if_neg c3]
  by_cases c4 : v1 = 4
  · rw [if_pos c4, if_pos c4]
    exact sc 8 (by omega)
  rw [if_neg c4, if_neg c4]
  by_cases c5 : v1 = 5
  · rw [if_pos c5, if_pos c5]
    exact sc 9 (by omega)
  rw [if_neg c5, if_neg c5]
  by_cases c6 : v1 = 6
  · rw [if_pos c6, if_pos c6]
    exact sc 10 (by omega)
  rw [if_neg c6, if_neg c6]
  by_cases c7 : v1 = 7
  · rw [if_pos c7, if_pos c7, foulAll h0.1, show fX12_heldIn 9 11 8 (si wm 148 0 0) = _ from held_m (a := 9) (b := 11) (e := 8) (by omega) (by omega) (by omega)]
    exact ⟨_, _, rfl, rfl, h0⟩
  rw [if_neg c7, if_neg c7]
  by_cases c8 : v1 = 8
  · rw [if_pos c8, if_pos c8, rainAll h0.1, show fX12_heldIn 10 12 9 (si wm 148 0 0) = _ from held_m (a := 10) (b := 12) (e := 9) (by omega) (by omega) (by omega)]
    exact ⟨_, _, rfl, rfl, h0⟩
  rw [if_neg c8, if_neg c8]
  by_cases c9 : v1 = 9
  · rw [if_pos c9, if_pos c9]
    exact sc 1 (by omega)
  rw [if_neg c9, if_neg c9]
  by_cases c10 : v1 = 10
  · rw [if_pos c10, if_pos c10]
    exact sc 11 (by omega)
  rw [if_neg c10, if_neg c10]
  by_cases c11 : v1 = 11
  · rw [if_pos c11, if_pos c11]
    exact sc 12 (by omega)
  rw [if_neg c11, if_neg c11]
  by_cases c12 : v1 = 12
  · rw [if_pos c12, if_pos c12]
    exact sc 13 (by omega)
  rw [if_neg c12, if_neg c12]
  by_cases c13 : v1 = 13
  · rw [if_pos c13, if_pos c13, sumOf_c (a := 12) (f := fun i => (si wm 148 0 0).1 149 (15 * i + 13)) (fun i hi => h0.1.row (j := 13) hi (by omega)), show fX12_crackedMany (si wm 148 0 0) = _ from cracked_loop 100 0 FU (by omega) (by unfold FU; omega)]
    exact ⟨_, _, rfl, rfl, h0⟩
  rw [if_neg c13, if_neg c13]
  by_cases c14 : v1 = 14
  · rw [if_pos c14, if_pos c14, sumOf_c (a := 13) (f := fun i => (si wm 148 0 0).1 149 (15 * i + 14)) (fun i hi => h0.1.row (j := 14) hi (by omega)), show fX12_g 14 (si wm 148 0 0) = _ from g 14 (by omega), Option.bind_some, Option.bind_some, h0.1.2.2.2.2.2.1.2.2.2.2.2]
    exact ⟨_, _, rfl, rfl, h0⟩
  rw [if_neg c14, if_neg c14]
  by_cases c15 : v1 = 15
  · rw [if_pos c15, if_pos c15]
    exact sc 15 (by omega)
  rw [if_neg c15, if_neg c15]
  by_cases c16 : v1 = 16
  · rw [if_pos c16, if_pos c16, h0.2.2.2.2.2.1.1]
    exact ⟨_, _, rfl, rfl, h0⟩
  rw [if_neg c16, if_neg c16]
  by_cases c17 : v1 = 17
  · rw [if_pos c17, if_pos c17]
    exact sc 16 (by omega)
  rw [if_neg c17, if_neg c17]
  by_cases c18 : v1 = 18
  · rw [if_pos c18, if_pos c18, h0.2.2.2.2.2.2]
    exact ⟨_, _, rfl, rfl, h0⟩
  rw [if_neg c18, if_neg c18]
  exact ⟨_, _, rfl, rfl, h0⟩
theorem isHouse_c {w : Wd} {n c : Nat} {S : Nat → Int32} {x : Int32} (h : YC w 0 S n) (hc : c < 100) : fX11_isHouse (iN c) x w = some (decide (S (1500 + 10 * c) = x)) := by
  unfold fX11_isHouse
  rw [isCell_c, iN_toInt (by omega), Option.bind_some, if_pos (by simp; omega), inb_lt2 hc (by omega), if_pos rfl, ri_iN (by omega), show w.1 20 c = S (1500 + 10 * c) from h.hse (j := 0) hc (Or.inl rfl)]
  by_cases e : S (1500 + 10 * c) = x
  · rw [if_pos e, decide_eq_true e]
  · rw [if_neg e, decide_eq_false e]
theorem mh_0 {w : Wd} {c : Nat} (hc : c < 100) : fX12_h (iN c) 0 w = some (w.1 149 (1500 + 10 * c)) := mh_eq (j := 0) hc (by omega)
theorem h88 {w : Wd} {c j : Nat} (hc : c < 100) (hj : j < 10) : fX12_house_88 (iN c) (iN j) w = some (w.1 149 (1500 + 10 * c + j), w) := by
  unfold fX12_house_88
  rw [mh_eq hc hj]
  rfl
theorem house_ok {n : Nat} {wc wm : Wd} {v1 v2 : Int32} (h : YY n wc wm) : ∃ (o : Int32 ⊕ Bool) (r : Int32) (wm' : Wd), fX11_house v1 v2 wc = some (o, wc) ∧ fX12_house v1 v2 wm = some (r, wm') ∧ YY n wc wm' ∧ wm'.1 148 0 = (oI (o, wc)).1 ∧ (∀ x, o = .inl x → r = x) := by
  have h0 := h.thr (x := 0)
  have no : ∃ (o : Int32 ⊕ Bool) (r : Int32) (wm' : Wd), fX11_house_16 wc = some (o, wc) ∧ fX12_house_24 (si wm 148 0 0) = some (r, wm') ∧ YY n wc wm' ∧ wm'.1 148 0 = (oI (o, wc)).1 ∧ (∀ x, o = .inl x → r = x) :=
    ⟨_, _, _, rfl, rfl, h0.thr, si_at, fun x hx => by cases hx⟩
  have no2 : ∃ (o : Int32 ⊕ Bool) (r : Int32) (wm' : Wd), some ((Sum.inr true : Int32 ⊕ Bool), wc) = some (o, wc) ∧ some ((0 : Int32), si (si wm 148 0 0) 148 0 2) = some (r, wm') ∧ YY n wc wm' ∧ wm'.1 148 0 = (oI (o, wc)).1 ∧ (∀ x, o = .inl x → r = x) :=
    ⟨_, _, _, rfl, rfl, h0.thr, si_at, fun x hx => by cases hx⟩
  unfold fX11_house fX12_house
  simp only [nw_eq, Option.bind_some, isCell_c, isCell_m, isTape_c, isTape_m, within_eq, in_eq, Int32.toInt_toInt64, decide_eq_true_eq, Int32.reduceToInt, Int64.reduceToInt, tn128, tm128, if_true, if_false, Bool.false_eq_true, show (3 : Int32).toInt = 3 from rfl]
  by_cases h1 : 0 ≤ v1.toInt ∧ v1.toInt ≤ 99
  · obtain ⟨c, hc, rfl⟩ := of_range (v := v1) 100 h1.1 (by omega)
    rw [if_pos h1, if_pos h1]
    by_cases h2 : 0 ≤ v2.toInt ∧ v2.toInt ≤ 3
    · rw [if_pos h2, if_pos h2, mh_0 hc]
      simp only [nw_eq, Option.bind_some, isCell_c, isCell_m, isTape_c, isTape_m, within_eq, in_eq, Int32.toInt_toInt64, decide_eq_true_eq, Int32.reduceToInt, Int64.reduceToInt, tn128, tm128, if_true, if_false, Bool.false_eq_true]
      have key : ∀ j : Nat, j < 10 → (j = 0 ∨ (8 ≤ j ∧ j < 10) ∨ (j < 5 ∧ (si wm 148 0 0).1 149 (1500 + 10 * c) = 1) ∨ (5 ≤ j ∧ j < 10 ∧ (si wm 148 0 0).1 149 (1500 + 10 * c) = 2)) → ∃ (o : Int32 ⊕ Bool) (r : Int32) (wm' : Wd), some ((Sum.inl (ri wc (20 + j) (iN c)) : Int32 ⊕ Bool), wc) = some (o, wc) ∧ fX12_house_88 (iN c) (iN j) (si wm 148 0 0) = some (r, wm') ∧ YY n wc wm' ∧ wm'.1 148 0 = (oI (o, wc)).1 ∧ (∀ x, o = .inl x → r = x) := by
        intro j hj hv
        rw [h88 hc hj, ri_iN (by omega), h0.1.hse hc hv]
        exact ⟨_, _, _, rfl, rfl, h0, si_at, fun x hx => by cases hx; rfl⟩
      obtain ⟨j, hj, rfl⟩ := int_cases 3 h2 (by omega)
      have h9 : j = 0 ∨ j = 1 ∨ j = 2 ∨ j = 3 := by omega
      unfold fX11_house_39 fX12_house_47
      rw [isHouse_c h0.1 hc, isHouse_c h0.1 hc, inb_lt2 hc (by omega)]
      simp only [nw_eq, Option.bind_some, isCell_c, isCell_m, isTape_c, isTape_m, within_eq, in_eq, Int32.toInt_toInt64, decide_eq_true_eq, Int32.reduceToInt, Int64.reduceToInt, tn128, tm128, if_true, if_false, Bool.false_eq_true]
      by_cases k2 : (si wm 148 0 0).1 149 (1500 + 10 * c) = 2
      · have k1 : ¬ (si wm 148 0 0).1 149 (1500 + 10 * c) = 1 := by rw [k2]; decide
        rcases h9 with rfl | rfl | rfl | rfl
        · rw [if_pos (c := iN 0 < (2 : Int32)) (by decide), if_pos (c := iN 0 < (2 : Int32)) (by decide), if_pos k2, if_pos k2, if_pos (c := iN 0 = (0 : Int32)) (by decide), if_pos (c := iN 0 = (0 : Int32)) (by decide)]
          exact key 8 (by omega) (by omega)
        · rw [if_pos (c := iN 1 < (2 : Int32)) (by decide), if_pos (c := iN 1 < (2 : Int32)) (by decide), if_pos k2, if_pos k2, if_neg (c := iN 1 = (0 : Int32)) (by decide), if_neg (c := iN 1 = (0 : Int32)) (by decide), if_pos (c := iN 1 = (1 : Int32)) (by decide), if_pos (c := iN 1 = (1 : Int32)) (by decide)]
          exact key 9 (by omega) (by omega)
        · rw [if_neg (c := iN 2 < (2 : Int32)) (by decide), if_neg (c := iN 2 < (2 : Int32)) (by decide), if_neg k1, if_neg k1]
          exact no2
        · rw [if_neg (c := iN 3 < (2 : Int32)) (by decide), if_neg (c := iN 3 < (2 : Int32)) (by decide), if_neg k1, if_neg k1]
          exact no2
      · by_cases k1 : (si wm 148 0 0).1 149 (1500 + 10 * c) = 1
        · rcases h9 with rfl | rfl | rfl | rfl
          · rw [if_pos (c := iN 0 < (2 : Int32)) (by decide), if_pos (c := iN 0 < (2 : Int32)) (by decide), if_neg k2, if_neg k2]
            exact no2
          · rw [if_pos (c := iN 1 < (2 : Int32)) (by decide), if_pos (c := iN 1 < (2 : Int32)) (by decide), if_neg k2, if_neg k2]
            exact no2
          · rw [if_neg (c := iN 2 < (2 : Int32)) (by decide), if_neg (c := iN 2 < (2 : Int32)) (by decide), if_pos k1, if_pos k1, if_neg (c := iN 2 = (0 : Int32)) (by decide), if_neg (c := iN 2 = (0 : Int32)) (by decide), if_neg (c := iN 2 = (1 : Int32)) (by decide), if_neg (c := iN 2 = (1 : Int32)) (by decide), if_pos (c := iN 2 = (2 : Int32)) (by decide), if_pos (c := iN 2 = (2 : Int32)) (by decide)]
            exact key 3 (by omega) (Or.inr (Or.inr (Or.inl ⟨by omega, k1⟩)))
          · rw [if_neg (c := iN 3 < (2 : Int32)) (by decide), if_neg (c := iN 3 < (2 : Int32)) (by decide), if_pos k1, if_pos k1, if_neg (c := iN 3 = (0 : Int32)) (by decide), if_neg (c := iN 3 = (0 : Int32)) (by decide), if_neg (c := iN 3 = (1 : Int32)) (by decide), if_neg (c := iN 3 = (1 : Int32)) (by decide), if_neg (c := iN 3 = (2 : Int32)) (by decide), if_neg (c := iN 3 = (2 : Int32)) (by decide)]
            exact key 4 (by omega) (Or.inr (Or.inr (Or.inl ⟨by omega, k1⟩)))
        · rcases h9 with rfl | rfl | rfl | rfl
          · rw [if_pos (c := iN 0 < (2 : Int32)) (by decide), if_pos (c := iN 0 < (2 : Int32)) (by decide), if_neg k2, if_neg k2]
            exact no2
          · rw [if_pos (c := iN 1 < (2 : Int32)) (by decide), if_pos (c := iN 1 < (2 : Int32)) (by decide), if_neg k2, if_neg k2]
            exact no2
          · rw [if_neg (c := iN 2 < (2 : Int32)) (by decide), if_neg (c := iN 2 < (2 : Int32)) (by decide), if_neg k1, if_neg k1]
            exact no2
          · rw [if_neg (c := iN 3 < (2 : Int32)) (by decide), if_neg (c := iN 3 < (2 : Int32)) (by decide), if_neg k1, if_neg k1]
            exact no2
    · rw [if_neg h2, if_neg h2]
      exact no
  · rw [if_neg h1, if_neg h1]
    exact no
