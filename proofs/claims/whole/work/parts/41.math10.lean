-- MATHEMATICS: m73
def CX (cnt : Nat) (cb : Nat → Bool) (fl : Nat → Option (Nat × Nat)) (wc wm : Wd) : Prop := wm.1 149 4315 = iN cnt ∧ cnt ≤ 8 ∧ (∀ i, i < cnt → wm.1 153 i = if cb i = true then 1 else 0) ∧ (∀ c, c < 100 → firstL (wm.1 149) cb c cnt cnt = fl c) ∧ ∀ c, c < 100 → wc.1 93 c = (LdV (wm.1 149) (fl c) c).1 ∧ wc.1 94 c = (LdV (wm.1 149) (fl c) c).2.1 ∧ wc.1 95 c = (LdV (wm.1 149) (fl c) c).2.2
theorem CX.lt {cnt : Nat} {cb : Nat → Bool} {fl : Nat → Option (Nat × Nat)} {n : Nat} {wc wm : Wd} (h : CX cnt cb fl wc wm) (hY : YY n wc wm) {c m i : Nat} (hc : c < 100) (e : fl c = some (m, i)) : m < cnt ∧ i < lenS (wm.1 149) m ∧ lenS (wm.1 149) m ≤ 19 ∧ (m : Int) < (wm.1 149 4315).toInt ∧ wm.1 149 (3304 + 125 * m + 6 * i) = iN c := by
  obtain ⟨h1, h2, h3, h4, h5⟩ := h
  rw [← h4 c hc] at e
  obtain ⟨q1, q2, q3, -⟩ := firstL_lt (Nat.le_refl _) e
  have hm : (m : Int) < (wm.1 149 4315).toInt := by
    rw [h1, iN_toInt (by omega)]
    omega
  exact ⟨q1, q2, (lenS_eq hY.1 hm).2.2, hm, q3⟩
theorem CX.keep {cnt : Nat} {cb : Nat → Bool} {fl : Nat → Option (Nat × Nat)} {n : Nat} {wc wm wc' wm' : Wd} (h : CX cnt cb fl wc wm) (hY : YY n wc wm) (hf : HF wc wm wc' wm') (sw : sameW (wm.1 149) (wm'.1 149)) : CX cnt cb fl wc' wm' := by
  have h0 := h
  obtain ⟨h1, h2, h3, h4, h5⟩ := h
  have sl := sw.l
  have hm : ∀ m, m < cnt → (m : Int) < (wm.1 149 4315).toInt := fun m hm => by
    rw [h1, iN_toInt (by omega)]
    omega
  refine ⟨by rw [sl.2.2.1]; exact h1, h2, fun i hi => by rw [hf.2.2.1 153 (by omega) (by omega) (by omega) (by omega)]; exact h3 i hi, fun c hc => ?_, fun c hc => ?_⟩
  · rw [firstL_cong (S := wm.1 149) (cb := cb) h2 (fun m q => (lenS_eq hY.1 (hm m q)).2.2) (fun _ _ => rfl) sl.1 cnt (Nat.le_refl _)]
    exact h4 c hc
  · rw [LdV_cong (S := wm.1 149) hc h2 (fun m i q => by
      obtain ⟨q1, q2, q3, -⟩ := h0.lt hY hc q
      exact ⟨q1, q2, q3⟩) sl, hf.1 93 (by omega) (by omega), hf.1 94 (by omega) (by omega), hf.1 95 (by omega) (by omega)]
    exact h5 c hc
theorem sq_rng {x : Int32} {k : Nat} (hk : k ≤ 30) (h0 : 0 ≤ x.toInt) (h9 : x.toInt ≤ 9) : 0 ≤ (iN k * x * x).toInt ∧ (iN k * x * x).toInt ≤ 81 * k := by
  have e1 : (iN k * x).toInt = k * x.toInt := mulc_I (b := 9) (by omega) h0 h9 (by omega)
  have b1 : 0 ≤ (k : Int) * x.toInt := Int.mul_nonneg (by omega) h0
  have b2 : (k : Int) * x.toInt ≤ k * 9 := Int.mul_le_mul_of_nonneg_left h9 (by omega)
  have b3 : 0 ≤ (k : Int) * x.toInt * x.toInt := Int.mul_nonneg b1 h0
  have b4 : (k : Int) * x.toInt * x.toInt ≤ (k * 9) * 9 := Int.mul_le_mul b2 h9 h0 (by omega)
  rw [mul_I (by rw [e1]; omega) (by rw [e1]; omega), e1]
  omega
theorem LdV_to {cnt : Nat} {cb : Nat → Bool} {fl : Nat → Option (Nat × Nat)} {n c : Nat} {wc wm : Wd} (h : CX cnt cb fl wc wm) (hY : YY n wc wm) (hc : c < 100) : ((LdV (wm.1 149) (fl c) c).1 = -1 ∨ ∃ t, t < 100 ∧ (LdV (wm.1 149) (fl c) c).1 = iN t ∧ adj c t) ∧ 0 ≤ (LdV (wm.1 149) (fl c) c).2.1.toInt ∧ (LdV (wm.1 149) (fl c) c).2.1.toInt ≤ 2430 := by
  have hA := hY.1.2.2.1 c hc
  have hdn := hA.2.1
  obtain ⟨w0, w9⟩ := hA.2.2.2.1
  have m20 := sq_rng (k := 20) (by omega) w0 w9
  cases e : fl c with
  | none =>
    refine ⟨hdn, ?_, ?_⟩
    · exact m20.1
    · have := m20.2
      show (iN 20 * wm.1 149 (15 * c + 8) * wm.1 149 (15 * c + 8)).toInt ≤ 2430
      omega
  | some p =>
    obtain ⟨m, i⟩ := p
    obtain ⟨q1, q2, q3, q4, q5⟩ := h.lt hY hc e
    have h8 := h.2.1
    obtain ⟨l1, l2, l3⟩ := lenS_eq hY.1 q4
    have hln := hY.1.2.2.2.2.1.2 m q4
    obtain ⟨x0, x9⟩ := hln.1.2.1
    have x0' : 0 ≤ (wm.1 149 (3301 + 125 * m)).toInt := by
      rw [show 3301 + 125 * m = 3300 + 125 * m + 1 by omega]
      have x0'' : 1 ≤ (wm.1 149 (3300 + 125 * m + 1)).toInt := x0
      omega
    have x9' : (wm.1 149 (3301 + 125 * m)).toInt ≤ 9 := by
      rw [show 3301 + 125 * m = 3300 + 125 * m + 1 by omega]
      exact x9
    have m30 := sq_rng (k := 30) (by omega) x0' x9'
    show ((if i + 1 < lenS (wm.1 149) m then wm.1 149 (3304 + 125 * m + 6 * (i + 1)) else wm.1 149 (15 * c + 6)) = -1 ∨ ∃ t, t < 100 ∧ (if i + 1 < lenS (wm.1 149) m then wm.1 149 (3304 + 125 * m + 6 * (i + 1)) else wm.1 149 (15 * c + 6)) = iN t ∧ adj c t) ∧ 0 ≤ (if i + 1 < lenS (wm.1 149) m then 30 * wm.1 149 (3301 + 125 * m) * wm.1 149 (3301 + 125 * m) else 20 * wm.1 149 (15 * c + 8) * wm.1 149 (15 * c + 8)).toInt ∧ (if i + 1 < lenS (wm.1 149) m then 30 * wm.1 149 (3301 + 125 * m) * wm.1 149 (3301 + 125 * m) else 20 * wm.1 149 (15 * c + 8) * wm.1 149 (15 * c + 8)).toInt ≤ 2430
    by_cases q : i + 1 < lenS (wm.1 149) m
    · rw [if_pos q, if_pos q]
      have hi1 : ((i + 1 : Nat) : Int) < (wm.1 149 (3300 + 125 * m)).toInt := by
        rw [l1, iN_toInt (by omega)]
        omega
      obtain ⟨d, hd, ed⟩ := hY.1.lcell q4 hi1
      refine ⟨Or.inr ⟨d, hd, ed, ?_⟩, m30.1, ?_⟩
      · refine hln.2.2.1 i c d hi1 ?_ hc ?_ hd
        · show wm.1 149 (3300 + 125 * m + (4 + 6 * i)) = iN c
          rw [show 3300 + 125 * m + (4 + 6 * i) = 3304 + 125 * m + 6 * i by omega]
          exact q5
        · show wm.1 149 (3300 + 125 * m + (10 + 6 * i)) = iN d
          rw [show 3300 + 125 * m + (10 + 6 * i) = 3304 + 125 * m + 6 * (i + 1) by omega]
          exact ed
      · have := m30.2
        show (iN 30 * wm.1 149 (3301 + 125 * m) * wm.1 149 (3301 + 125 * m)).toInt ≤ 2430
        omega
    · rw [if_neg q, if_neg q]
      refine ⟨hdn, m20.1, ?_⟩
      have := m20.2
      show (iN 20 * wm.1 149 (15 * c + 8) * wm.1 149 (15 * c + 8)).toInt ≤ 2430
      omega
theorem least_eq (a b : Int32) (w : Wd) : fX12_least a b w = some (mmin a b) := by
  rw [← mmin_flip]
  unfold fX12_least
  by_cases q : a < b
  · rw [if_pos q, if_pos q]
  · rw [if_neg q, if_neg q]
theorem mmin_I (a b : Int32) : (mmin a b).toInt = if b.toInt < a.toInt then b.toInt else a.toInt := by
  unfold mmin
  by_cases q : b < a
  · rw [if_pos q, if_pos (lt_I.mp q)]
  · rw [if_neg q, if_neg (fun e => q (lt_I.mpr e))]
theorem lets_m {cnt : Nat} {cb : Nat → Bool} {fl : Nat → Option (Nat × Nat)} {n c : Nat} {wc wm : Wd} (h : CX cnt cb fl wc wm) (hY : YY n wc wm) (hc : c < 100) (hk : wm.1 149 (1500 + 10 * c) = 0) : ∃ w', fX12_letsOn (iN c) wm = fX12_letsOn_119 (iN c) (LdV (wm.1 149) (fl c) c).2.1 w' ∧ HF wc wm wc w' ∧ w'.1 149 = wm.1 149 ∧ w'.1 156 c = (LdV (wm.1 149) (fl c) c).1 ∧ (∀ i, ¬ i = c → w'.1 156 i = wm.1 156 i) ∧ w'.1 154 = wm.1 154 ∧ w'.1 155 = wm.1 155 := by
  have h0 := h
  obtain ⟨h1, h2, h3, h4, h5⟩ := h
  have hf1 : HF wc wm wc (si wm 156 c (-1)) := HF.mput (by omega)
  have o149 : (si wm 156 c (-1)).1 149 = wm.1 149 := si_oth (by omega)
  have hY1 : YY n wc (si wm 156 c (-1)) := hY.hf hf1 (by rw [o149]; exact hY.1)
  have hcar := carrying_m (c := c) hY1 (by rw [o149]; exact h1) h2 (fun i hi => by rw [si_oth (by omega)]; exact h3 i hi) cnt 0 FU (by omega) (by unfold FU; omega)
  rw [show iN 0 = 0 from rfl, o149, h4 c hc] at hcar
  have hcar' : fX12_carrying (iN c) (si wm 156 c (-1)) = _ := hcar
  unfold fX12_letsOn
  rw [inb_lt2 hc (by omega), if_pos rfl, nw_eq, wi_iN (by omega), mh_0 hc, Option.bind_some, o149, if_pos hk, hcar', Option.bind_some]
  have down : ∀ w : Wd, w.1 149 = wm.1 149 → fX12_letsOn_87 (iN c) w = fX12_letsOn_119 (iN c) (20 * wm.1 149 (15 * c + 8) * wm.1 149 (15 * c + 8)) (si w 156 c (wm.1 149 (15 * c + 6))) := fun w hw => by
    have o : (si w 156 c (wm.1 149 (15 * c + 6))).1 149 = wm.1 149 := (si_oth (by omega)).trans hw
    unfold fX12_letsOn_87
    rw [mc_j hc (by decide), Option.bind_some, inb_lt2 hc (by omega), if_pos rfl, nw_eq, wi_iN (by omega), hw]
    show ((fX12_c (iN c) 8 (si w 156 c (wm.1 149 (15 * c + 6)))).bind _) = _
    rw [mc_8 hc, Option.bind_some, Option.bind_some, o]
  cases e : fl c with
  | none =>
    show ∃ w', (if (-1 : Int32) = -1 then fX12_letsOn_87 (iN c) (si wm 156 c (-1)) else _) = _ ∧ _
    rw [if_pos rfl, down _ o149]
    refine ⟨_, rfl, hf1.trans (HF.mput (by omega)), by rw [si_oth (by omega), o149], si_at, fun i hi => by rw [si_1, if_neg (by omega), si_1, if_neg (by omega)], by rw [si_oth (by omega), si_oth (by omega)], by rw [si_oth (by omega), si_oth (by omega)]⟩
  | some p =>
    obtain ⟨m, i⟩ := p
    obtain ⟨q1, q2, q3, q4, q5⟩ := h0.lt hY hc e
    obtain ⟨l1, l2, l3⟩ := lenS_eq hY.1 q4
    have o2 : (si (si wm 156 c (-1)) 148 10 (iN i)).1 149 = wm.1 149 := (si_oth (by omega)).trans o149
    have hne : ¬ iN m = -1 := iN_ne1 (by omega)
    have hf2 : HF wc wm wc (si (si wm 156 c (-1)) 148 10 (iN i)) := hf1.trans (HF.mput (by omega))
    show ∃ w', (if iN m = -1 then _ else _) = fX12_letsOn_119 (iN c) (if i + 1 < lenS (wm.1 149) m then 30 * wm.1 149 (3301 + 125 * m) * wm.1 149 (3301 + 125 * m) else 20 * wm.1 149 (15 * c + 8) * wm.1 149 (15 * c + 8)) w' ∧ _ ∧ _ ∧ w'.1 156 c = (if i + 1 < lenS (wm.1 149) m then wm.1 149 (3304 + 125 * m + 6 * (i + 1)) else wm.1 149 (15 * c + 6)) ∧ _
    rw [if_neg hne, ml_0 (by omega), Option.bind_some, o2, l1, si_at, show iN (lenS (wm.1 149) m) - 1 = iN (lenS (wm.1 149) m - 1) from sub_lit (n := 1) (by show 1 ≤ _; omega)]
    by_cases q : i + 1 < lenS (wm.1 149) m
    · have o3 : ∀ x, (si (si (si wm 156 c (-1)) 148 10 (iN i)) 156 c x).1 149 = wm.1 149 := fun x => (si_oth (by omega)).trans o2
      rw [if_pos q, if_pos ((iN_lt (by omega) (by omega)).mpr (by omega)), if_pos q, add_lit, msp_eq, Option.bind_some, add_lit, inb_lt2 (by omega) (by omega), if_pos rfl, nw_eq, wi_iN (by omega), ri_iN (by omega), o2]
      show ∃ w', ((fX12_l (iN m) 1 (si (si (si wm 156 c (-1)) 148 10 (iN i)) 156 c (wm.1 149 (3304 + 125 * m + 6 * (i + 1) + 0)))).bind _) = _ ∧ _
      rw [ml_1 (by omega), Option.bind_some, Option.bind_some, o3]
      exact ⟨_, rfl, hf2.trans (HF.mput (by omega)), o3 _, si_at, fun j hj => by rw [si_1, if_neg (by omega), si_oth (by omega), si_1, if_neg (by omega)], by rw [si_oth (by omega), si_oth (by omega), si_oth (by omega)], by rw [si_oth (by omega), si_oth (by omega), si_oth (by omega)]⟩
    · rw [if_neg q, if_neg (fun e2 => by have := (iN_lt (by omega) (by omega)).mp e2; omega), if_neg q, down _ o2]
      exact ⟨_, rfl, hf2.trans (HF.mput (by omega)), by rw [si_oth (by omega), o2], si_at, fun j hj => by rw [si_1, if_neg (by omega), si_oth (by omega), si_1, if_neg (by omega)], by rw [si_oth (by omega), si_oth (by omega), si_oth (by omega)], by rw [si_oth (by omega), si_oth (by omega), si_oth (by omega)]⟩
-- MATHEMATICS: m74
def frS (S : Nat → Int32) (c : Nat) (x y : Int32) : Nat → Int32 := upd (upd S (15 * c + 9) x) (15 * c + 10) y
theorem frS_9 {S : Nat → Int32} {c q : Nat} {x y : Int32} : frS S c x y (15 * q + 9) = if q = c then x else S (15 * q + 9) := by
  unfold frS
  rw [upd_ne (by omega)]
  by_cases e : q = c
  · rw [if_pos e, e, upd_eq]
  · rw [if_neg e, upd_ne (by omega)]
theorem frS_10 {S : Nat → Int32} {c q : Nat} {x y : Int32} : frS S c x y (15 * q + 10) = if q = c then y else S (15 * q + 10) := by
  unfold frS
  by_cases e : q = c
  · rw [if_pos e, e, upd_eq]
  · rw [if_neg e, upd_ne (by omega), upd_ne (by omega)]
theorem frS_o {S : Nat → Int32} {c k : Nat} {x y : Int32} (h1 : ¬ k = 15 * c + 9) (h2 : ¬ k = 15 * c + 10) : frS S c x y k = S k := by
  unfold frS
  rw [upd_ne h2, upd_ne h1]
theorem frS_w {S : Nat → Int32} {c : Nat} {x y : Int32} (hc : c < 100) : sameW S (frS S c x y) := (sameW.refl.put (by unfold wk; omega)).put (by unfold wk; omega)
theorem frS_pot {S : Nat → Int32} {c q : Nat} {x y : Int32} (hc : c < 100) (hq : q < 100) : pot (frS S c x y) q = pot S q + (if q = c then (x.toInt - (S (15 * c + 9)).toInt) + (y.toInt - (S (15 * c + 10)).toInt) else 0) := by
  have hco : coalZ (frS S c x y) = coalZ S := coalZ_cong (fun k _ _ => frS_o (by omega) (by omega))
  unfold pot wtr
  rw [hco, frS_9, frS_10, frS_o (k := 15 * q + 11) (by omega) (by omega), frS_o (k := 15 * q + 12) (by omega) (by omega), frS_o (k := 1508 + 10 * q) (by omega) (by omega), frS_o (k := 1509 + 10 * q) (by omega) (by omega)]
  by_cases e : q = c
  · rw [if_pos e, if_pos e, if_pos e, e]
    omega
  · rw [if_neg e, if_neg e, if_neg e]
    omega
theorem frS_inv {S : Nat → Int32} {n c : Nat} {x y : Int32} (h : Inv S n) (hn : n ≤ 512) (hc : c < 100) (hx : 0 ≤ x.toInt) (hy : 0 ≤ y.toInt) (hp : pot S c + ((x.toInt - (S (15 * c + 9)).toInt) + (y.toInt - (S (15 * c + 10)).toInt)) ≤ 10019 * (S 4300).toInt + 999900 * (n : Int)) : Inv (frS S c x y) n := h.wat (frS_w hc) hn (fun q hq => (h.2.1.1 q hq).cong (fun j hj => frS_o (by omega) (by omega))) (fun q hq => by
    obtain ⟨⟨m1, m2, m3, m4⟩, m5, m6⟩ := h.pot hq
    rw [frS_pot hc hq]
    unfold nnW
    rw [frS_9, frS_10, frS_o (k := 15 * q + 11) (by omega) (by omega), frS_o (k := 15 * q + 12) (by omega) (by omega)]
    by_cases e : q = c
    · rw [if_pos e, if_pos e, if_pos e]
      subst e
      exact ⟨⟨hx, hy, m3, m4⟩, hp⟩
    · rw [if_neg e, if_neg e, if_neg e]
      exact ⟨⟨m1, m2, m3, m4⟩, by omega⟩)
theorem AU.fr {w : Wd} {S : Nat → Int32} {c : Nat} {x y : Int32} (h : AU w S) (hc : c < 100) : AU (si (si w 15 c x) 16 c y) (frS S c x y) := (h.put (by unfold softK; omega) (loc_row (j := 9) hc (by omega))).put (by unfold softK; omega) (loc_row (j := 10) hc (by omega))
theorem frS_row {w : Wd} {c : Nat} {x y : Int32} : (si (si w 149 (15 * c + 9) x) 149 (15 * c + 10) y).1 149 = frS (w.1 149) c x y := by
  rw [si_row, si_row]
  rfl
def tSum (wm : Wd) (a t k : Nat) : Int32 := sumN (fun c => if wm.1 156 c = iN t then wm.1 a c else 0) k
def LO (wc wm : Wd) (k : Nat) : Prop := (∀ c, c < k → wm.1 156 c = -1 ∨ ∃ t, t < 100 ∧ wm.1 156 c = iN t ∧ adj c t ∧ 0 ≤ (wm.1 154 c).toInt ∧ 0 ≤ (wm.1 155 c).toInt ∧ (wm.1 154 c).toInt + (wm.1 155 c).toInt ≤ 2430) ∧ ∀ t, t < 100 → wc.1 96 t = tSum wm 154 t k ∧ wc.1 97 t = tSum wm 155 t k
theorem tSum_cong {wm wm' : Wd} {a t : Nat} : ∀ k, (∀ c, c < k → wm'.1 156 c = wm.1 156 c ∧ wm'.1 a c = wm.1 a c) → tSum wm' a t k = tSum wm a t k := fun k h => sumN_cong k (fun c hc => by rw [(h c hc).1, (h c hc).2])
theorem tSum_s {wm : Wd} {a t k : Nat} : tSum wm a t (k + 1) = tSum wm a t k + (if wm.1 156 k = iN t then wm.1 a k else 0) := rfl
theorem lo_loop {cnt : Nat} {cb : Nat → Bool} {fl : Nat → Option (Nat × Nat)} {n : Nat} (hn : n ≤ 512) : ∀ (m k fuel : Nat) (wc wm : Wd), k + m = 100 → m < fuel → YY n wc wm → CX cnt cb fl wc wm → LO wc wm k → ∃ wc' wm', fX1_letOn_23 fuel (iN k) wc = fX1_letOn_151 FU 0 wc' ∧ fX12_hour_125 fuel (iN k) wm = fX12_hour_144 FU 0 wm' ∧ YY n wc' wm' ∧ HF wc wm wc' wm' ∧ sameW (wm.1 149) (wm'.1 149) ∧ LO wc' wm' 100 ∧ ∀ c, c < 100 → pot (wm'.1 149) c ≤ pot (wm.1 149) c := by
  intro m
  induction m with
  | zero =>
    intro k fuel wc wm hk hf h hx hl
    obtain ⟨fuel, rfl⟩ : ∃ g, fuel = g + 1 := ⟨fuel - 1, by omega⟩
    obtain rfl : k = 100 := by omega
    refine ⟨wc, wm, ?_, ?_, h, HF.refl, sameW.refl, hl, fun _ _ => Int.le_refl _⟩
    · rw [fX1_letOn_23, if_neg (show ¬ iN 100 < 100 by decide)]
    · rw [fX12_hour_125, if_neg (show ¬ iN 100 < 100 by decide)]
  | succ m ih =>
    intro k fuel wc wm hk hf h hx hl
    obtain ⟨fuel, rfl⟩ : ∃ g, fuel = g + 1 := ⟨fuel - 1, by omega⟩
    have hk' : k < 100 := by omega
    obtain ⟨l1, l2⟩ := hl
    have k20 : wc.1 20 k = wm.1 149 (1500 + 10 * k) := h.1.hse (j := 0) hk' (Or.inl rfl)
    obtain ⟨⟨n1, n2, n3, n4⟩, n5, n6⟩ := h.1.2.2.pot hk'
    have nothing : ∀ (wm1 : Wd), HF wc wm wc wm1 → wm1.1 149 = wm.1 149 → wm1.1 156 k = -1 → (∀ i, ¬ i = k → wm1.1 156 i = wm.1 156 i) → wm1.1 154 = wm.1 154 → wm1.1 155 = wm.1 155 → fX12_letsOn (iN k) wm = some wm1 → fX1_letOn_23 (fuel + 1) (iN k) wc = fX1_letOn_23 fuel (iN (k + 1)) wc → ∃ wc' wm', fX1_letOn_23 (fuel + 1) (iN k) wc = fX1_letOn_151 FU 0 wc' ∧ fX12_hour_125 (fuel + 1) (iN k) wm = fX12_hour_144 FU 0 wm' ∧ YY n wc' wm' ∧ HF wc wm wc' wm' ∧ sameW (wm.1 149) (wm'.1 149) ∧ LO wc' wm' 100 ∧ ∀ c, c < 100 → pot (wm'.1 149) c ≤ pot (wm.1 149) c := by
      intro wm1 f1 f2 f3 f4 f5 f6 f7 f8
      have h1 : YY n wc wm1 := h.hf f1 (by rw [f2]; exact h.1)
      have x1 : CX cnt cb fl wc wm1 := hx.keep h f1 (by rw [f2]; exact sameW.refl)
      have lo1 : LO wc wm1 (k + 1) := by
        refine ⟨fun c hc => ?_, fun t ht => ?_⟩
        · by_cases e : c = k
          · exact Or.inl (e ▸ f3)
          · rw [f4 c e, f5, f6]
            exact l1 c (by omega)
        · have nk : ¬ wm1.1 156 k = iN t := by
            rw [f3]
            exact fun q => iN_ne1 (d := t) (by omega) q.symm
          rw [tSum_s, tSum_s, if_neg nk, if_neg nk, Int32.add_zero, Int32.add_zero, tSum_cong k (fun c hc => ⟨f4 c (by omega), by rw [f5]⟩), tSum_cong k (fun c hc => ⟨f4 c (by omega), by rw [f6]⟩)]
          exact l2 t ht
      obtain ⟨wc', wm', e1, e2, e3, e4, e5, e6, e7⟩ := ih (k + 1) fuel wc wm1 (by omega) (by omega) h1 x1 lo1
      rw [f2] at e5 e7
      refine ⟨wc', wm', f8.trans e1, ?_, e3, f1.trans e4, e5, e6, e7⟩
      rw [fX12_hour_125, if_pos ((iN_lt_lit (by omega) (by omega)).mpr hk'), f7, Option.bind_some, add_lit]
      exact e2
    have top : fX1_letOn_23 (fuel + 1) (iN k) wc = if wm.1 149 (1500 + 10 * k) = 0 then (fX11_isCell (wc.1 93 k) wc).bind fun v_4 => (
      if v_4 = true then (
        nw (si wc 15 k ((wc.1 15 k) - (mmin (wc.1 15 k) (wc.1 94 k)))) fun w_6 => (
        nw (si w_6 16 k ((w_6.1 16 k) - (mmin (wc.1 16 k) ((wc.1 94 k) - (mmin (wc.1 15 k) (wc.1 94 k)))))) fun w_7 => (
        if inb (wc.1 93 k) 100 = true then (
        nw (wi w_7 96 (wc.1 93 k) ((ri w_7 96 (wc.1 93 k)) + (mmin (wc.1 15 k) (wc.1 94 k)))) fun w_9 => (
        nw (wi w_9 97 (wc.1 93 k) ((ri w_9 97 (wc.1 93 k)) + (mmin (wc.1 16 k) ((wc.1 94 k) - (mmin (wc.1 15 k) (wc.1 94 k)))))) fun w_10 => (
        fX1_letOn_23 fuel (iN (k + 1)) w_10))) else none)))
      else fX1_letOn_23 fuel (iN (k + 1)) wc) else fX1_letOn_23 fuel (iN (k + 1)) wc := by
      rw [fX1_letOn_23, if_pos ((iN_lt_lit (by omega) (by omega)).mpr hk'), inb_lt2 hk' (by omega), if_pos rfl, ri_iN (by omega), k20, add_lit]
      simp only [ri_iN (show k < 2147483648 by omega), wi_iN (show k < 2147483648 by omega)]
    by_cases q : wm.1 149 (1500 + 10 * k) = 0
    · obtain ⟨w1, a1, a2, a3, a4, a5, a6, a7⟩ := lets_m hx h hk' q
      obtain ⟨t1, t2, t3⟩ := LdV_to hx h hk'
      obtain ⟨d1, d2, d3⟩ := hx.2.2.2.2 k hk'
      rcases t1 with t1 | ⟨t, t4, t5, t6⟩
      · refine nothing w1 a2 a3 (a4.trans t1) a5 a6 a7 ?_ ?_
        · rw [a1]
          unfold fX12_letsOn_119
          rw [inb_lt2 hk' (by omega), if_pos rfl, ri_iN (by omega), a4, if_pos t1]
        · rw [top, if_pos q, d1, t1, isCell_c, Option.bind_some, if_neg (by decide)]
      · have r15 : wc.1 15 k = wm.1 149 (15 * k + 9) := h.1.row (j := 9) hk' (by omega)
        have r16 : wc.1 16 k = wm.1 149 (15 * k + 10) := h.1.row (j := 10) hk' (by omega)
        obtain ⟨F, hF⟩ : ∃ F, F = mmin (wm.1 149 (15 * k + 9)) (LdV (wm.1 149) (fl k) k).2.1 := ⟨_, rfl⟩
        obtain ⟨R, hR⟩ : ∃ R, R = mmin (wm.1 149 (15 * k + 10)) ((LdV (wm.1 149) (fl k) k).2.1 - F) := ⟨_, rfl⟩
        have F1 : 0 ≤ F.toInt ∧ F.toInt ≤ (wm.1 149 (15 * k + 9)).toInt ∧ F.toInt ≤ (LdV (wm.1 149) (fl k) k).2.1.toInt := by
          rw [hF, mmin_I]
          split <;> omega
        have mF : ((LdV (wm.1 149) (fl k) k).2.1 - F).toInt = (LdV (wm.1 149) (fl k) k).2.1.toInt - F.toInt := sub_I (by omega) (by omega)
        have R1 : 0 ≤ R.toInt ∧ R.toInt ≤ (wm.1 149 (15 * k + 10)).toInt ∧ R.toInt ≤ (LdV (wm.1 149) (fl k) k).2.1.toInt - F.toInt := by
          rw [hR, mmin_I, mF]
          split <;> omega
        have lt9 := (toInt_lt (wm.1 149 (15 * k + 9))).2
        have lt10 := (toInt_lt (wm.1 149 (15 * k + 10))).2
        have s1 : (wm.1 149 (15 * k + 9) - F).toInt = (wm.1 149 (15 * k + 9)).toInt - F.toInt := sub_I (by omega) (by omega)
        have s2 : (wm.1 149 (15 * k + 10) - R).toInt = (wm.1 149 (15 * k + 10)).toInt - R.toInt := sub_I (by omega) (by omega)
        have hinv := frS_inv (x := wm.1 149 (15 * k + 9) - F) (y := wm.1 149 (15 * k + 10) - R) h.1.2.2 hn hk' (by rw [s1]; omega) (by rw [s2]; omega) (by rw [s1, s2]; omega)
        obtain ⟨wc2, hwc2⟩ : ∃ wc2, wc2 = si (si (si (si wc 15 k (wm.1 149 (15 * k + 9) - F)) 16 k (wm.1 149 (15 * k + 10) - R)) 96 t (wc.1 96 t + F)) 97 t (wc.1 97 t + R) := ⟨_, rfl⟩
        obtain ⟨wm2, hwm2⟩ : ∃ wm2, wm2 = si (si (si (si w1 154 k F) 155 k R) 149 (15 * k + 9) (wm.1 149 (15 * k + 9) - F)) 149 (15 * k + 10) (wm.1 149 (15 * k + 10) - R) := ⟨_, rfl⟩
        have row2 : wm2.1 149 = frS (wm.1 149) k (wm.1 149 (15 * k + 9) - F) (wm.1 149 (15 * k + 10) - R) := by
          rw [hwm2, frS_row, si_oth (by omega), si_oth (by omega), a3]
        have f2 : HF wc wm wc2 wm2 := by
          rw [hwc2, hwm2]
          exact ((a2.trans (HF.mput (by omega))).trans ((HF.mput (by omega)).trans ((HF.mput (by omega)).trans (HF.mput (by omega))))).trans ((HF.cput (by omega)).trans ((HF.cput (by omega)).trans ((HF.cput (by omega)).trans (HF.cput (by omega)))))
        have au2 : AU wc2 (wm2.1 149) := by
          rw [hwc2, row2]
          exact ((h.1.au.fr hk').same (fun a q1 q2 => by rw [si_oth (by omega), si_oth (by omega)]))
        have h2 : YY n wc2 wm2 := h.hf f2 (au2.yc (by rw [row2]; exact hinv))
        have sw2 : sameW (wm.1 149) (wm2.1 149) := by
          rw [row2]
          exact frS_w hk'
        have o156 : ∀ i, wm2.1 156 i = w1.1 156 i := fun i => by
          rw [hwm2, si_oth (by omega), si_oth (by omega), si_oth (by omega), si_oth (by omega)]
        have o154 : ∀ i, wm2.1 154 i = if i = k then F else wm.1 154 i := fun i => by
          rw [hwm2, si_oth (by omega), si_oth (by omega), si_oth (by omega), si_1, a6]
          by_cases e : i = k
          · rw [if_pos ⟨rfl, e⟩, if_pos e]
          · rw [if_neg (by omega), if_neg e]
        have o155 : ∀ i, wm2.1 155 i = if i = k then R else wm.1 155 i := fun i => by
          rw [hwm2, si_oth (by omega), si_oth (by omega), si_1, si_oth (by omega), a7]
          by_cases e : i = k
          · rw [if_pos ⟨rfl, e⟩, if_pos e]
          · rw [if_neg (by omega), if_neg e]
        have c96 : ∀ i, wc2.1 96 i = if i = t then wc.1 96 t + F else wc.1 96 i := fun i => by
          rw [hwc2, si_oth (by omega), si_1, si_oth (by omega), si_oth (by omega)]
          by_cases e : i = t
          · rw [if_pos ⟨rfl, e⟩, if_pos e]
          · rw [if_neg (by omega), if_neg e]
        have c97 : ∀ i, wc2.1 97 i = if i = t then wc.1 97 t + R else wc.1 97 i := fun i => by
          rw [hwc2, si_1, si_oth (by omega), si_oth (by omega), si_oth (by omega)]
          by_cases e : i = t
          · rw [if_pos ⟨rfl, e⟩, if_pos e]
          · rw [if_neg (by omega), if_neg e]
        have lo2 : LO wc2 wm2 (k + 1) := by
          refine ⟨fun c hc => ?_, fun t' ht' => ?_⟩
          · rw [o156, o154, o155]
            by_cases e : c = k
            · subst e
              rw [if_pos rfl, if_pos rfl, a4, t5]
              exact Or.inr ⟨t, t4, rfl, t6, F1.1, R1.1, by omega⟩
            · rw [if_neg e, if_neg e, a5 c e]
              exact l1 c (by omega)
          · obtain ⟨u1, u2⟩ := l2 t' ht'
            have eqs : ∀ a, (a = 154 ∨ a = 155) → tSum wm2 a t' k = tSum wm a t' k := fun a ha => tSum_cong k (fun c hc => ⟨by rw [o156, a5 c (by omega)], by
              rcases ha with rfl | rfl
              · rw [o154, if_neg (by omega)]
              · rw [o155, if_neg (by omega)]⟩)
            rw [tSum_s, tSum_s, eqs 154 (Or.inl rfl), eqs 155 (Or.inr rfl), o156, a4, t5, o154, o155, if_pos rfl, if_pos rfl, c96, c97]
            by_cases e : t' = t
            · subst e
              rw [if_pos rfl, if_pos rfl, if_pos rfl, if_pos rfl, u1, u2]
              exact ⟨rfl, rfl⟩
            · have ne : ¬ iN t = iN t' := fun q => e ((iN_inj (by omega) (by omega)).mp q).symm
              rw [if_neg e, if_neg e, if_neg ne, if_neg ne, Int32.add_zero, Int32.add_zero]
              exact ⟨u1, u2⟩
        obtain ⟨wc', wm', e1, e2, e3, e4, e5, e6, e7⟩ := ih (k + 1) fuel wc2 wm2 (by omega) (by omega) h2 (hx.keep h f2 sw2) lo2
        refine ⟨wc', wm', ?_, ?_, e3, f2.trans e4, sw2.trans e5, e6, fun c hc => ?_⟩
        · rw [top, if_pos q, d1, d2, r15, r16, t5, ← hF, ← hR, isCell_c, Option.bind_some, if_pos (decide_eq_true (by rw [iN_toInt (by omega)]; omega)), nw_eq, nw_eq, inb_lt2 t4 (by omega), if_pos rfl, nw_eq, nw_eq, wi_iN (by omega), wi_iN (by omega), ri_iN (by omega), ri_iN (by omega), ← e1, hwc2]
          refine congrArg (fX1_letOn_23 fuel (iN (k + 1))) ?_
          simp only [si_1, Nat.reduceEqDiff, false_and, and_false, true_and, if_false, if_true, r16]
        · have ec9 : ∀ w : Wd, w.1 149 = wm.1 149 → fX12_c (iN k) 9 w = some (wm.1 149 (15 * k + 9)) := fun w hw => by rw [← hw]; exact mc_j hk' (by decide)
          have ec10 : ∀ w : Wd, w.1 149 = wm.1 149 → fX12_c (iN k) 10 w = some (wm.1 149 (15 * k + 10)) := fun w hw => by rw [← hw]; exact mc_j hk' (by decide)
          have tne : ¬ w1.1 156 k = -1 := by
            rw [a4, t5]
            exact iN_ne1 (by omega)
          have el : fX12_letsOn (iN k) wm = some wm2 := by
            rw [a1]
            unfold fX12_letsOn_119
            rw [inb_lt2 hk' (by omega), if_pos rfl, ri_iN (by omega), if_neg tne, ec9 w1 a3, Option.bind_some, least_eq, Option.bind_some, nw_eq, wi_iN (by omega), ← hF, ec10 _ (by rw [si_oth (by omega)]; exact a3), Option.bind_some, ri_iN (by omega), si_at, least_eq, Option.bind_some, ← hR, nw_eq, wi_iN (by omega), mci hk' (by decide), if_pos rfl, nw_eq, mcw (by decide) hk', mcr (by decide) hk', mci hk' (by decide), if_pos rfl, nw_eq, mcw (by decide) hk', mcr (by decide) hk', ri_iN (by omega), ri_iN (by omega), hwm2]
            have z1 : ¬ 15 * k + 10 = 15 * k + 9 := by omega
            have z2 : ¬ 15 * k + 9 = 15 * k + 10 := by omega
            simp only [si_1, Nat.reduceEqDiff, false_and, and_false, true_and, if_false, if_true, a3, z1, z2, Option.some.injEq]
          rw [fX12_hour_125, if_pos ((iN_lt_lit (by omega) (by omega)).mpr hk'), el, Option.bind_some, add_lit]
          exact e2
        · have := e7 c hc
          rw [row2, frS_pot hk' hc, s1, s2] at this
          by_cases e : c = k
          · rw [if_pos e] at this
            omega
          · rw [if_neg e] at this
            omega
    · refine nothing (si wm 156 k (-1)) (HF.mput (by omega)) (si_oth (by omega)) si_at (fun i hi => by rw [si_1, if_neg (by omega)]) (si_oth (by omega)) (si_oth (by omega)) ?_ ?_
      · unfold fX12_letsOn
        rw [inb_lt2 hk' (by omega), if_pos rfl, nw_eq, wi_iN (by omega), mh_0 hk', Option.bind_some, si_oth (by omega), if_neg q]
      · rw [top, if_neg q]
-- MATHEMATICS: m75
theorem AU.row {w : Wd} {S : Nat → Int32} {c j : Nat} (h : AU w S) (hc : c < 100) (hj : j < 15) : w.1 (rowA j) c = S (15 * c + j) := by
  have := h.1 (15 * c + j) (by omega) (val_row hc hj)
  unfold V at this
  rw [loc_row hc hj, Nat.zero_add] at this
  exact this
theorem AU.scal {w : Wd} {S : Nat → Int32} {j : Nat} (h : AU w S) (hj : j < 18 ∧ j ≠ 14 ∧ j ≠ 17) : w.1 (scA j).1 (scA j).2 = S (4300 + j) := by
  have := h.1 (4300 + j) (by omega) (val_sc hj.1 hj.2.1 hj.2.2)
  unfold V at this
  rw [loc_sc (by omega), Nat.zero_add] at this
  exact this
def arS (riv : Nat → Bool) (S : Nat → Int32) (t : Nat) (x y : Int32) : Nat → Int32 := if riv t = true then upd (upd S 4307 (S 4307 + x)) 4308 (S 4308 + y) else frS S t (S (15 * t + 9) + x) (S (15 * t + 10) + y)
theorem arS_9 {riv : Nat → Bool} {S : Nat → Int32} {t q : Nat} {x y : Int32} (hq : q < 100) : arS riv S t x y (15 * q + 9) = if q = t ∧ riv t = false then S (15 * q + 9) + x else S (15 * q + 9) := by
  unfold arS
  by_cases c : riv t = true
  · rw [if_pos c, if_neg (by rw [c]; simp), upd_ne (by omega), upd_ne (by omega)]
  · rw [if_neg c, frS_9]
    by_cases e : q = t
    · rw [if_pos e, if_pos ⟨e, by simpa using c⟩, e]
    · rw [if_neg e, if_neg (fun q => e q.1)]
theorem arS_10 {riv : Nat → Bool} {S : Nat → Int32} {t q : Nat} {x y : Int32} (hq : q < 100) : arS riv S t x y (15 * q + 10) = if q = t ∧ riv t = false then S (15 * q + 10) + y else S (15 * q + 10) := by
  unfold arS
  by_cases c : riv t = true
  · rw [if_pos c, if_neg (by rw [c]; simp), upd_ne (by omega), upd_ne (by omega)]
  · rw [if_neg c, frS_10]
    by_cases e : q = t
    · rw [if_pos e, if_pos ⟨e, by simpa using c⟩, e]
    · rw [if_neg e, if_neg (fun q => e q.1)]
theorem arS_d {riv : Nat → Bool} {S : Nat → Int32} {t : Nat} {x y : Int32} (ht : t < 100) : arS riv S t x y 4307 = S 4307 + (if riv t = true then x else 0) ∧ arS riv S t x y 4308 = S 4308 + (if riv t = true then y else 0) := by
  unfold arS
  by_cases c : riv t = true
  · rw [if_pos c, if_pos c, if_pos c, upd_ne (by omega), upd_eq, upd_eq]
    exact ⟨rfl, rfl⟩
  · rw [if_neg c, if_neg c, if_neg c, frS_o (by omega) (by omega), frS_o (by omega) (by omega), Int32.add_zero, Int32.add_zero]
    exact ⟨rfl, rfl⟩
theorem arS_o {riv : Nat → Bool} {S : Nat → Int32} {t k : Nat} {x y : Int32} (ht : t < 100) (h1 : ¬ (k < 1500 ∧ (k % 15 = 9 ∨ k % 15 = 10))) (h2 : ¬ k = 4307) (h3 : ¬ k = 4308) : arS riv S t x y k = S k := by
  unfold arS
  by_cases c : riv t = true
  · rw [if_pos c, upd_ne h3, upd_ne h2]
  · rw [if_neg c, frS_o (by omega) (by omega)]
theorem arS_w {riv : Nat → Bool} {S : Nat → Int32} {t : Nat} {x y : Int32} (ht : t < 100) : sameW S (arS riv S t x y) := by
  unfold arS
  by_cases c : riv t = true
  · rw [if_pos c]
    exact (sameW.refl.put (by unfold wk; omega)).put (by unfold wk; omega)
  · rw [if_neg c]
    exact frS_w ht
def ArF (w w' : Wd) : Prop := (∀ a, ¬ (a = 14 ∨ a = 15 ∨ a = 16) → w'.1 a = w.1 a) ∧ w'.2 = w.2
theorem arrive_c {w : Wd} {S : Nat → Int32} {riv : Nat → Bool} {t : Nat} {x y : Int32} (h : AU w S) (ht : t < 100) (hr : riv t = decide (S (15 * t + 4) = 1)) : ∃ w', fX10_arrive (iN t) x y w = some w' ∧ AU w' (arS riv S t x y) ∧ ArF w w' := by
  have r7 : w.1 7 t = S (15 * t + 4) := h.row (j := 4) ht (by omega)
  have r15 : w.1 15 t = S (15 * t + 9) := h.row (j := 9) ht (by omega)
  have r16 : w.1 16 t = S (15 * t + 10) := h.row (j := 10) ht (by omega)
  have s7 : w.1 14 7 = S 4307 := h.scal (j := 7) (by omega)
  have s8 : w.1 14 8 = S 4308 := h.scal (j := 8) (by omega)
  unfold fX10_arrive arS
  rw [inb_lt2 ht (by omega), if_pos rfl, ri_iN (by omega), r7, hr]
  by_cases c : S (15 * t + 4) = 1
  · rw [if_pos c, decide_eq_true c, if_pos rfl, nw_eq, nw_eq, si_1, if_neg (by omega), s7, s8]
    exact ⟨_, rfl, (h.put (by unfold softK; omega) (loc_sc (j := 7) (by omega))).put (by unfold softK; omega) (loc_sc (j := 8) (by omega)), fun a ha => by rw [si_oth (by omega), si_oth (by omega)], rfl⟩
  · rw [if_neg c, decide_eq_false c, if_neg (by simp), nw_eq, nw_eq, wi_iN (by omega), wi_iN (by omega), ri_iN (by omega), ri_iN (by omega), si_oth (by omega), r15, r16]
    exact ⟨_, rfl, h.fr ht, fun a ha => by rw [si_oth (by omega), si_oth (by omega)], rfl⟩
theorem comes_m {w : Wd} {riv : Nat → Bool} {t : Nat} {x y : Int32} (ht : t < 100) (hr : riv t = decide (w.1 149 (15 * t + 4) = 1)) : ∃ w', fX12_comes (iN t) x y w = some w' ∧ w'.1 149 = arS riv (w.1 149) t x y ∧ (∀ a, ¬ a = 149 → w'.1 a = w.1 a) ∧ w'.2 = w.2 := by
  have hc4 : fX12_c (iN t) 4 w = some (w.1 149 (15 * t + 4)) := mc_j ht (by decide)
  unfold fX12_comes arS
  rw [hc4, Option.bind_some, hr]
  by_cases c : w.1 149 (15 * t + 4) = 1
  · rw [if_pos c, decide_eq_true c, if_pos rfl, nw_eq, nw_eq, wi_lit (by decide), wi_lit (by decide), ri_lit (by decide), ri_lit (by decide)]
    refine ⟨_, rfl, ?_, fun a ha => by rw [si_oth ha, si_oth ha], rfl⟩
    rw [si_row, si_row]
    show upd (upd (w.1 149) 4307 (w.1 149 4307 + x)) 4308 ((si w 149 4307 (w.1 149 4307 + x)).1 149 4308 + y) = _
    rw [si_1, if_neg (by omega)]
  · rw [if_neg c, decide_eq_false c, if_neg (show ¬ (false = true) by simp), mci ht (by decide), if_pos rfl, nw_eq, mcw (by decide) ht, mcr (by decide) ht, mci ht (by decide), if_pos rfl, nw_eq, mcw (by decide) ht, mcr (by decide) ht]
    refine ⟨_, rfl, ?_, fun a ha => by rw [si_oth ha, si_oth ha], rfl⟩
    have z1 : ¬ 15 * t + 10 = 15 * t + 9 := by omega
    rw [frS_row]
    simp only [si_1, z1, and_false, if_false]
def arA (riv : Nat → Bool) (S A D : Nat → Int32) : Nat → Nat → Int32
  | 0 => S
  | T + 1 => arS riv (arA riv S A D T) T (A T) (D T)
theorem arA_o {riv : Nat → Bool} {S A D : Nat → Int32} {k : Nat} (h1 : ¬ (k < 1500 ∧ (k % 15 = 9 ∨ k % 15 = 10))) (h2 : ¬ k = 4307) (h3 : ¬ k = 4308) : ∀ T, T ≤ 100 → arA riv S A D T k = S k
  | 0, _ => rfl
  | T + 1, h => (arS_o (by omega) h1 h2 h3).trans (arA_o h1 h2 h3 T (by omega))
theorem arA_9 {riv : Nat → Bool} {S A D : Nat → Int32} {q : Nat} (hq : q < 100) : ∀ T, T ≤ 100 → arA riv S A D T (15 * q + 9) = (if q < T ∧ riv q = false then S (15 * q + 9) + A q else S (15 * q + 9)) ∧ arA riv S A D T (15 * q + 10) = (if q < T ∧ riv q = false then S (15 * q + 10) + D q else S (15 * q + 10))
  | 0, _ => by
    rw [if_neg (by omega), if_neg (by omega)]
    exact ⟨rfl, rfl⟩
  | T + 1, h => by
    obtain ⟨i1, i2⟩ := arA_9 (riv := riv) (S := S) (A := A) (D := D) hq T (by omega)
    show arS riv (arA riv S A D T) T (A T) (D T) (15 * q + 9) = _ ∧ arS riv (arA riv S A D T) T (A T) (D T) (15 * q + 10) = _
    rw [arS_9 hq, arS_10 hq, i1, i2]
    by_cases e : q = T
    · subst e
      cases riv q <;> simp
    · have ne : ¬ (q = T ∧ riv T = false) := fun p => e p.1
      rw [if_neg ne, if_neg ne]
      by_cases q2 : q < T ∧ riv q = false
      · rw [if_pos q2, if_pos q2, if_pos ⟨by omega, q2.2⟩, if_pos ⟨by omega, q2.2⟩]
        exact ⟨rfl, rfl⟩
      · have q3 : ¬ (q < T + 1 ∧ riv q = false) := fun p => q2 ⟨by omega, p.2⟩
        rw [if_neg q2, if_neg q2, if_neg q3, if_neg q3]
        exact ⟨rfl, rfl⟩
theorem arA_d {riv : Nat → Bool} {S A D : Nat → Int32} : ∀ T, T ≤ 100 → arA riv S A D T 4307 = S 4307 + sumN (fun t => if riv t = true then A t else 0) T ∧ arA riv S A D T 4308 = S 4308 + sumN (fun t => if riv t = true then D t else 0) T
  | 0, _ => ⟨(Int32.add_zero _).symm, (Int32.add_zero _).symm⟩
  | T + 1, h => by
    obtain ⟨i1, i2⟩ := arA_d (riv := riv) (S := S) (A := A) (D := D) T (by omega)
    obtain ⟨j1, j2⟩ := arS_d (riv := riv) (S := arA riv S A D T) (x := A T) (y := D T) (show T < 100 by omega)
    refine ⟨?_, ?_⟩
    · show arS riv (arA riv S A D T) T (A T) (D T) 4307 = S 4307 + (sumN _ T + _)
      rw [j1, i1, Int32.add_assoc]
    · show arS riv (arA riv S A D T) T (A T) (D T) 4308 = S 4308 + (sumN _ T + _)
      rw [j2, i2, Int32.add_assoc]
theorem ar_loop {riv : Nat → Bool} {S A D : Nat → Int32} (hr : ∀ t, t < 100 → riv t = decide (S (15 * t + 4) = 1)) {w0 : Wd} : ∀ (m T fuel : Nat) (w : Wd), T + m = 100 → m < fuel → AU w (arA riv S A D T) → ArF w0 w → (∀ t, t < 100 → w0.1 96 t = A t ∧ w0.1 97 t = D t) → ∃ w', fX1_letOn_151 fuel (iN T) w = some w' ∧ AU w' (arA riv S A D 100) ∧ ArF w0 w' := by
  intro m
  induction m with
  | zero =>
    intro T fuel w hT hf h ha hAD
    obtain ⟨fuel, rfl⟩ : ∃ g, fuel = g + 1 := ⟨fuel - 1, by omega⟩
    obtain rfl : T = 100 := by omega
    rw [fX1_letOn_151, if_neg (show ¬ iN 100 < 100 by decide)]
    exact ⟨w, rfl, h, ha⟩
  | succ m ih =>
    intro T fuel w hT hf h ha hAD
    obtain ⟨fuel, rfl⟩ : ∃ g, fuel = g + 1 := ⟨fuel - 1, by omega⟩
    obtain ⟨w1, e1, e2, e3⟩ := arrive_c (riv := riv) (x := A T) (y := D T) h (show T < 100 by omega) (by rw [hr T (by omega), arA_o (by omega) (by omega) (by omega) T (by omega)])
    obtain ⟨p1, p2⟩ := hAD T (by omega)
    rw [fX1_letOn_151, if_pos ((iN_lt_lit (by omega) (by omega)).mpr (show T < 100 by omega)), inb_lt2 (by omega) (by omega), if_pos rfl, ri_iN (by omega), ri_iN (by omega), ha.1 96 (by omega), ha.1 97 (by omega), p1, p2, e1, Option.bind_some, add_lit]
    exact ih (T + 1) fuel w1 (by omega) (by omega) e2 ⟨fun a q => (e3.1 a q).trans (ha.1 a q), e3.2.trans ha.2⟩ hAD
def tgC (wm : Wd) (c : Nat) : Option Nat := if wm.1 156 c = -1 then none else some (wm.1 156 c).toNatClampNeg
def arB (riv : Nat → Bool) (S : Nat → Int32) (wm : Wd) : Nat → Nat → Int32
  | 0 => S
  | c + 1 => match tgC wm c with
    | none => arB riv S wm c
    | some t => arS riv (arB riv S wm c) t (wm.1 154 c) (wm.1 155 c)
def TG (wm : Wd) : Prop := ∀ c, c < 100 → wm.1 156 c = -1 ∨ ∃ t, t < 100 ∧ wm.1 156 c = iN t
theorem tgC_cases {wm : Wd} {c : Nat} (h : TG wm) (hc : c < 100) : (wm.1 156 c = -1 ∧ tgC wm c = none) ∨ ∃ t, t < 100 ∧ wm.1 156 c = iN t ∧ tgC wm c = some t := by
  unfold tgC
  rcases h c hc with q | ⟨t, t1, t2⟩
  · rw [if_pos q]
    exact Or.inl ⟨q, rfl⟩
  · rw [t2, if_neg (iN_ne1 (by omega)), iN_clamp (by omega)]
    exact Or.inr ⟨t, t1, rfl, rfl⟩
theorem arB_o {riv : Nat → Bool} {S : Nat → Int32} {wm : Wd} {k : Nat} (hT : TG wm) (h1 : ¬ (k < 1500 ∧ (k % 15 = 9 ∨ k % 15 = 10))) (h2 : ¬ k = 4307) (h3 : ¬ k = 4308) : ∀ c, c ≤ 100 → arB riv S wm c k = S k
  | 0, _ => rfl
  | c + 1, h => by
    have ih := arB_o (riv := riv) (S := S) hT h1 h2 h3 c (by omega)
    unfold arB
    rcases tgC_cases hT (show c < 100 by omega) with ⟨-, q⟩ | ⟨t, t1, -, q⟩
    · rw [q]
      exact ih
    · rw [q]
      exact (arS_o t1 h1 h2 h3).trans ih
theorem arB_9 {riv : Nat → Bool} {S : Nat → Int32} {wm : Wd} {q : Nat} (hT : TG wm) (hq : q < 100) : ∀ c, c ≤ 100 → arB riv S wm c (15 * q + 9) = (if riv q = false then S (15 * q + 9) + tSum wm 154 q c else S (15 * q + 9)) ∧ arB riv S wm c (15 * q + 10) = (if riv q = false then S (15 * q + 10) + tSum wm 155 q c else S (15 * q + 10))
  | 0, _ => by
    rw [show tSum wm 154 q 0 = 0 from rfl, show tSum wm 155 q 0 = 0 from rfl, Int32.add_zero, Int32.add_zero, ite_self, ite_self]
    exact ⟨rfl, rfl⟩
  | c + 1, h => by
    obtain ⟨i1, i2⟩ := arB_9 (riv := riv) (S := S) hT hq c (by omega)
    rw [tSum_s, tSum_s]
    unfold arB
    rcases tgC_cases hT (show c < 100 by omega) with ⟨p, p2⟩ | ⟨t, t1, p, p2⟩
    · rw [p2, p]
      show arB riv S wm c (15 * q + 9) = _ ∧ arB riv S wm c (15 * q + 10) = _
      have ne : ¬ (-1 : Int32) = iN q := fun e => iN_ne1 (d := q) (by omega) e.symm
      rw [i1, i2, if_neg ne, if_neg ne, Int32.add_zero, Int32.add_zero]
      exact ⟨rfl, rfl⟩
    · rw [p2, p]
      show arS riv (arB riv S wm c) t (wm.1 154 c) (wm.1 155 c) (15 * q + 9) = _ ∧ arS riv (arB riv S wm c) t (wm.1 154 c) (wm.1 155 c) (15 * q + 10) = _
      rw [arS_9 hq, arS_10 hq, i1, i2]
      by_cases e : q = t
      · subst e
        rw [if_pos (show iN q = iN q from rfl), if_pos (show iN q = iN q from rfl)]
        cases riv q
        · simp [Int32.add_assoc]
        · simp
      · have ne : ¬ iN t = iN q := fun p => e ((iN_inj (by omega) (by omega)).mp p).symm
        have ne1 : ¬ (q = t ∧ riv t = false) := fun p => e p.1
        rw [if_neg ne1, if_neg ne1, if_neg ne, if_neg ne, Int32.add_zero, Int32.add_zero]
        exact ⟨rfl, rfl⟩
def rvT (riv : Nat → Bool) (wm : Wd) (a c : Nat) : Int32 := match tgC wm c with
  | none => 0
  | some t => if riv t = true then wm.1 a c else 0
theorem arB_d {riv : Nat → Bool} {S : Nat → Int32} {wm : Wd} (hT : TG wm) : ∀ c, c ≤ 100 → arB riv S wm c 4307 = S 4307 + sumN (rvT riv wm 154) c ∧ arB riv S wm c 4308 = S 4308 + sumN (rvT riv wm 155) c
  | 0, _ => ⟨(Int32.add_zero _).symm, (Int32.add_zero _).symm⟩
  | c + 1, h => by
    obtain ⟨i1, i2⟩ := arB_d (riv := riv) (S := S) hT c (by omega)
    rw [show sumN (rvT riv wm 154) (c + 1) = sumN (rvT riv wm 154) c + rvT riv wm 154 c from rfl, show sumN (rvT riv wm 155) (c + 1) = sumN (rvT riv wm 155) c + rvT riv wm 155 c from rfl, ← Int32.add_assoc, ← Int32.add_assoc, ← i1, ← i2]
    unfold rvT
    rcases tgC_cases hT (show c < 100 by omega) with ⟨p, p2⟩ | ⟨t, t1, p, p2⟩
    · rw [show arB riv S wm (c + 1) = arB riv S wm c by rw [arB, p2], p2]
      exact ⟨(Int32.add_zero _).symm, (Int32.add_zero _).symm⟩
    · rw [show arB riv S wm (c + 1) = arS riv (arB riv S wm c) t (wm.1 154 c) (wm.1 155 c) by rw [arB, p2], p2]
      exact arS_d t1
theorem sumN_one {t0 : Nat} {x : Int32} : ∀ n, sumN (fun t => if t = t0 then x else 0) n = if t0 < n then x else 0
  | 0 => by rw [if_neg (by omega)]; rfl
  | n + 1 => by
    have ih := sumN_one (t0 := t0) (x := x) n
    show sumN _ n + (if n = t0 then x else 0) = _
    rw [ih]
    by_cases e : n = t0
    · rw [if_pos e, if_neg (by omega), if_pos (by omega), Int32.zero_add]
    · rw [if_neg e, Int32.add_zero]
      by_cases q : t0 < n
      · rw [if_pos q, if_pos (by omega)]
      · rw [if_neg q, if_neg (by omega)]
theorem exch {riv : Nat → Bool} {wm : Wd} {a : Nat} (hT : TG wm) : ∀ k, k ≤ 100 → sumN (fun t => if riv t = true then tSum wm a t k else 0) 100 = sumN (rvT riv wm a) k := by
  intro k
  induction k with
  | zero =>
    intro _
    rw [sumN_0 100 (fun t _ => by rw [show tSum wm a t 0 = 0 from rfl, ite_self])]
    rfl
  | succ k ih' =>
    intro h
    have ih := ih' (by omega)
    rw [show sumN (rvT riv wm a) (k + 1) = sumN (rvT riv wm a) k + rvT riv wm a k from rfl, ← ih]
    have e1 : sumN (fun t => if riv t = true then tSum wm a t (k + 1) else 0) 100 = sumN (fun t => (if riv t = true then tSum wm a t k else 0) + (if riv t = true then (if wm.1 156 k = iN t then wm.1 a k else 0) else 0)) 100 := sumN_cong 100 (fun t _ => by
      rw [tSum_s]
      by_cases q : riv t = true
      · rw [if_pos q, if_pos q, if_pos q]
      · rw [if_neg q, if_neg q, if_neg q, Int32.add_zero])
    rw [e1, sumN_add]
    refine congrArg (sumN (fun t => if riv t = true then tSum wm a t k else 0) 100 + ·) ?_
    unfold rvT
    rcases tgC_cases hT (show k < 100 by omega) with ⟨p, p2⟩ | ⟨t0, t1, p, p2⟩
    · rw [p2]
      refine sumN_0 100 (fun t ht => ?_)
      rw [p, if_neg (show ¬ (-1 : Int32) = iN t from fun e => iN_ne1 (d := t) (by omega) e.symm), ite_self]
    · rw [p2]
      have e2 : sumN (fun t => if riv t = true then (if wm.1 156 k = iN t then wm.1 a k else 0) else 0) 100 = sumN (fun t => if t = t0 then (if riv t0 = true then wm.1 a k else 0) else 0) 100 := sumN_cong 100 (fun t ht => by
        rw [p]
        by_cases e : t = t0
        · rw [if_pos e, e, if_pos rfl]
        · rw [if_neg e, if_neg (fun q => e ((iN_inj (by omega) (by omega)).mp q).symm), ite_self])
      rw [e2, sumN_one, if_pos t1]
theorem arAB {riv : Nat → Bool} {S A D : Nat → Int32} {wm : Wd} (hT : TG wm) (hA : ∀ t, t < 100 → A t = tSum wm 154 t 100 ∧ D t = tSum wm 155 t 100) : arA riv S A D 100 = arB riv S wm 100 := by
  funext k
  by_cases h1 : k < 1500 ∧ (k % 15 = 9 ∨ k % 15 = 10)
  · obtain ⟨h1, h2⟩ := h1
    obtain ⟨p1, p2⟩ := hA (k / 15) (by omega)
    obtain ⟨a1, a2⟩ := arA_9 (riv := riv) (S := S) (A := A) (D := D) (show k / 15 < 100 by omega) 100 (Nat.le_refl _)
    obtain ⟨b1, b2⟩ := arB_9 (riv := riv) (S := S) hT (show k / 15 < 100 by omega) 100 (Nat.le_refl _)
    rcases h2 with h2 | h2
    · rw [show k = 15 * (k / 15) + 9 by omega, a1, b1, p1]
      cases riv (k / 15)
      · rw [if_pos ⟨by omega, rfl⟩, if_pos rfl]
      · simp
    · rw [show k = 15 * (k / 15) + 10 by omega, a2, b2, p2]
      cases riv (k / 15)
      · rw [if_pos ⟨by omega, rfl⟩, if_pos rfl]
      · simp
  · by_cases h2 : k = 4307
    · rw [h2, (arA_d 100 (Nat.le_refl _)).1, (arB_d hT 100 (Nat.le_refl _)).1, ← exch hT 100 (Nat.le_refl _)]
      exact congrArg (S 4307 + ·) (sumN_cong 100 (fun t ht => by rw [(hA t ht).1]))
    · by_cases h3 : k = 4308
      · rw [h3, (arA_d 100 (Nat.le_refl _)).2, (arB_d hT 100 (Nat.le_refl _)).2, ← exch hT 100 (Nat.le_refl _)]
        exact congrArg (S 4308 + ·) (sumN_cong 100 (fun t ht => by rw [(hA t ht).2]))
      · rw [arA_o h1 h2 h3 100 (Nat.le_refl _), arB_o hT h1 h2 h3 100 (Nat.le_refl _)]
theorem cm_loop {riv : Nat → Bool} {wb : Wd} (hT : TG wb) (hr : ∀ t, t < 100 → riv t = decide (wb.1 149 (15 * t + 4) = 1)) : ∀ (m c fuel : Nat) (w : Wd), c + m = 100 → m < fuel → w.1 149 = arB riv (wb.1 149) wb c → (∀ a, ¬ a = 149 → w.1 a = wb.1 a) → w.2 = wb.2 → ∃ w', fX12_hour_144 fuel (iN c) w = fX12_hour_190 FU 0 w' ∧ w'.1 149 = arB riv (wb.1 149) wb 100 ∧ (∀ a, ¬ a = 149 → w'.1 a = wb.1 a) ∧ w'.2 = wb.2 := by
  intro m
  induction m with
  | zero =>
    intro c fuel w hc hf h1 h2 h3
    obtain ⟨fuel, rfl⟩ : ∃ g, fuel = g + 1 := ⟨fuel - 1, by omega⟩
    obtain rfl : c = 100 := by omega
    rw [fX12_hour_144, if_neg (show ¬ iN 100 < 100 by decide)]
    exact ⟨w, rfl, h1, h2, h3⟩
  | succ m ih =>
    intro c fuel w hc hf h1 h2 h3
    obtain ⟨fuel, rfl⟩ : ∃ g, fuel = g + 1 := ⟨fuel - 1, by omega⟩
    rw [fX12_hour_144, if_pos ((iN_lt_lit (by omega) (by omega)).mpr (show c < 100 by omega)), inb_lt2 (by omega) (by omega), if_pos rfl, ri_iN (by omega), ri_iN (by omega), ri_iN (by omega), h2 156 (by omega), h2 154 (by omega), h2 155 (by omega), add_lit]
    rcases tgC_cases hT (show c < 100 by omega) with ⟨p, p2⟩ | ⟨t, t1, p, p2⟩
    · rw [if_pos p]
      exact ih (c + 1) fuel w (by omega) (by omega) (by rw [h1, arB, p2]) h2 h3
    · rw [p, if_neg (iN_ne1 (by omega))]
      obtain ⟨w1, e1, e2, e3, e4⟩ := comes_m (riv := riv) (w := w) (x := wb.1 154 c) (y := wb.1 155 c) t1 (by rw [hr t t1, h1, arB_o hT (by omega) (by omega) (by omega) c (by omega)])
      rw [e1, Option.bind_some]
      exact ih (c + 1) fuel w1 (by omega) (by omega) (by rw [e2, h1, arB, p2]) (fun a ha => (e3 a ha).trans (h2 a ha)) (e4.trans h3)
def adB (c q : Nat) : Bool := decide (q = c + 10 ∨ c = q + 10 ∨ (q = c + 1 ∧ c % 10 ≠ 9) ∨ (c = q + 1 ∧ q % 10 ≠ 9))
theorem adB_4 : ∀ q, q < 100 → cntN (fun c => adB c q) 100 ≤ 4 := by decide +kernel
theorem tS_rng {wc wm : Wd} {t : Nat} (h : LO wc wm 100) (ht : t < 100) : ∀ k, k ≤ 100 → 0 ≤ (tSum wm 154 t k).toInt ∧ 0 ≤ (tSum wm 155 t k).toInt ∧ (tSum wm 154 t k).toInt + (tSum wm 155 t k).toInt ≤ 2430 * (cntN (fun c => adB c t) k : Int)
  | 0, _ => ⟨by show 0 ≤ (0 : Int32).toInt; decide, by show 0 ≤ (0 : Int32).toInt; decide, by show (0 : Int32).toInt + (0 : Int32).toInt ≤ 2430 * ((0 : Nat) : Int); decide⟩
  | k + 1, hk => by
    obtain ⟨i1, i2, i3⟩ := tS_rng h ht k (by omega)
    have hcn := cntN_le (fun c => adB c t) k
    rw [tSum_s, tSum_s, show cntN (fun c => adB c t) (k + 1) = cntN (fun c => adB c t) k + (if adB k t = true then 1 else 0) from rfl]
    rcases h.1 k (by omega) with p | ⟨t', t1, p, p3, p4, p5, p6⟩
    · have ne : ¬ wm.1 156 k = iN t := by
        rw [p]
        exact fun e => iN_ne1 (d := t) (by omega) e.symm
      rw [if_neg ne, if_neg ne, Int32.add_zero, Int32.add_zero]
      refine ⟨i1, i2, ?_⟩
      split <;> omega
    · by_cases e : t' = t
      · subst e
        have ab : adB k t' = true := decide_eq_true p3
        rw [if_pos p, if_pos p, if_pos ab]
        have e1 : (tSum wm 154 t' k + wm.1 154 k).toInt = (tSum wm 154 t' k).toInt + (wm.1 154 k).toInt := add_I (by omega) (by omega)
        have e2 : (tSum wm 155 t' k + wm.1 155 k).toInt = (tSum wm 155 t' k).toInt + (wm.1 155 k).toInt := add_I (by omega) (by omega)
        rw [e1, e2]
        omega
      · have ne : ¬ wm.1 156 k = iN t := by
          rw [p]
          exact fun q => e ((iN_inj (by omega) (by omega)).mp q)
        rw [if_neg ne, if_neg ne, Int32.add_zero, Int32.add_zero]
        refine ⟨i1, i2, ?_⟩
        split <;> omega
theorem come_eq {n : Nat} {wc wm : Wd} (h : YY n wc wm) (hn : n ≤ 512) (hl : LO wc wm 100) (hb : ∀ c, c < 100 → pot (wm.1 149) c + 9720 ≤ 10019 * (wm.1 149 4300).toInt + 999900 * (n : Int)) : ∃ wc' wm', fX1_letOn_151 FU 0 wc = some wc' ∧ fX12_hour_144 FU 0 wm = fX12_hour_190 FU 0 wm' ∧ YY n wc' wm' ∧ HF wc wm wc' wm' ∧ sameW (wm.1 149) (wm'.1 149) := by
  have hT : TG wm := fun c hc => by
    rcases hl.1 c hc with p | ⟨t, t1, p, -⟩
    · exact Or.inl p
    · exact Or.inr ⟨t, t1, p⟩
  obtain ⟨wc', e1, e2, e3⟩ := ar_loop (riv := rvB (wm.1 149)) (S := wm.1 149) (A := fun t => wc.1 96 t) (D := fun t => wc.1 97 t) (w0 := wc) (fun _ _ => rfl) 100 0 FU wc (by omega) (by unfold FU; omega) h.1.au ⟨fun _ _ => rfl, rfl⟩ (fun _ _ => ⟨rfl, rfl⟩)
  obtain ⟨wm', f1, f2, f3, f4⟩ := cm_loop (riv := rvB (wm.1 149)) hT (fun _ _ => rfl) 100 0 FU wm (by omega) (by unfold FU; omega) rfl (fun _ _ => rfl) rfl
  rw [show iN 0 = 0 from rfl] at e1 f1
  have eq : arA (rvB (wm.1 149)) (wm.1 149) (fun t => wc.1 96 t) (fun t => wc.1 97 t) 100 = wm'.1 149 := by rw [f2]; exact arAB hT hl.2
  rw [eq] at e2
  have hf : HF wc wm wc' wm' := ⟨fun a q1 q2 => e3.1 a (by omega), fun a _ => by rw [e3.2], fun a q1 q2 q3 q4 => f3 a q1, f4, fun j _ _ => by rw [f3 148 (by omega)]⟩
  have o : ∀ k, ¬ (k < 1500 ∧ (k % 15 = 9 ∨ k % 15 = 10)) → ¬ k = 4307 → ¬ k = 4308 → wm'.1 149 k = wm.1 149 k := fun k q1 q2 q3 => by rw [f2]; exact arB_o hT q1 q2 q3 100 (Nat.le_refl _)
  have sw : sameW (wm.1 149) (wm'.1 149) := fun k hk => o k (by unfold wk at hk; omega) (by unfold wk at hk; omega) (by unfold wk at hk; omega)
  refine ⟨wc', wm', e1, f1, h.hf hf (e2.yc (h.1.2.2.wat sw hn (fun c hc => (h.1.2.2.2.1.1 c hc).cong (fun j hj => o _ (by omega) (by omega) (by omega))) (fun c hc => ?_))), hf, sw⟩
  obtain ⟨⟨m1, m2, m3, m4⟩, m5, m6⟩ := h.1.2.2.pot hc
  obtain ⟨r1, r2, r3⟩ := tS_rng hl hc 100 (Nat.le_refl _)
  have r4 := adB_4 c hc
  obtain ⟨b1, b2⟩ := arB_9 (riv := rvB (wm.1 149)) (S := wm.1 149) hT hc 100 (Nat.le_refl _)
  rw [← f2] at b1 b2
  have hbc := hb c hc
  have hour := h.1.2.2.2.2.2.1.1.2
  have hcoal := coal_nn h.1.2.2.2.1
  have hco : coalZ (wm'.1 149) = coalZ (wm.1 149) := coalZ_cong (fun k _ _ => o k (by omega) (by omega) (by omega))
  have hpd := hbc
  have t8 : 0 ≤ (wm.1 149 (1508 + 10 * c)).toInt := by
    have := (h.1.2.2.2.1.1 c hc).2.1.1
    rw [show 1508 + 10 * c = 1500 + 10 * c + 8 by omega]
    exact this
  have t9 : 0 ≤ (wm.1 149 (1509 + 10 * c)).toInt := by
    have := (h.1.2.2.2.1.1 c hc).2.2.1.1
    rw [show 1509 + 10 * c = 1500 + 10 * c + 9 by omega]
    exact this
  unfold pot wtr at hpd
  unfold nnW pot wtr
  rw [hco, o (15 * c + 11) (by omega) (by omega) (by omega), o (15 * c + 12) (by omega) (by omega) (by omega), o (1508 + 10 * c) (by omega) (by omega) (by omega), o (1509 + 10 * c) (by omega) (by omega) (by omega), b1, b2]
  cases rvB (wm.1 149) c
  · rw [if_pos rfl, if_pos rfl]
    have a1 : (wm.1 149 (15 * c + 9) + tSum wm 154 c 100).toInt = (wm.1 149 (15 * c + 9)).toInt + (tSum wm 154 c 100).toInt := add_I (by omega) (by omega)
    have a2 : (wm.1 149 (15 * c + 10) + tSum wm 155 c 100).toInt = (wm.1 149 (15 * c + 10)).toInt + (tSum wm 155 c 100).toInt := add_I (by omega) (by omega)
    rw [a1, a2]
    omega
  · rw [if_neg (by simp), if_neg (by simp)]
    exact ⟨⟨m1, m2, m3, m4⟩, by omega⟩
-- MATHEMATICS: m76
theorem cells {C M : Nat → Int32 → Wd → Option Wd} {P : Wd → Wd → Prop} (step : ∀ k, k < 100 → ∀ wc wm, P wc wm → ∀ f g, ∃ wc' wm', C (f + 1) (iN k) wc = C f (iN (k + 1)) wc' ∧ M (g + 1) (iN k) wm = M g (iN (k + 1)) wm' ∧ P wc' wm') : ∀ (m k f g : Nat) (wc wm : Wd), k + m = 100 → m < f → m < g → P wc wm → ∃ wc' wm' f' g', C f (iN k) wc = C (f' + 1) (iN 100) wc' ∧ M g (iN k) wm = M (g' + 1) (iN 100) wm' ∧ P wc' wm' := by
  intro m
  induction m with
  | zero =>
    intro k f g wc wm hk hf hg hP
    obtain ⟨f, rfl⟩ : ∃ x, f = x + 1 := ⟨f - 1, by omega⟩
    obtain ⟨g, rfl⟩ : ∃ x, g = x + 1 := ⟨g - 1, by omega⟩
    obtain rfl : k = 100 := by omega
    exact ⟨wc, wm, f, g, rfl, rfl, hP⟩
  | succ m ih =>
    intro k f g wc wm hk hf hg hP
    obtain ⟨f, rfl⟩ : ∃ x, f = x + 1 := ⟨f - 1, by omega⟩
    obtain ⟨g, rfl⟩ : ∃ x, g = x + 1 := ⟨g - 1, by omega⟩
    obtain ⟨w1, m1, e1, e2, e3⟩ := step k (by omega) wc wm hP f g
    obtain ⟨wc', wm', f', g', e4, e5, e6⟩ := ih (k + 1) f g w1 m1 (by omega) (by omega) (by omega) e3
    exact ⟨wc', wm', f', g', e1.trans e4, e2.trans e5, e6⟩
theorem upd_comm {f : Nat → Int32} {i j : Nat} {x y : Int32} (h : ¬ i = j) : upd (upd f i x) j y = upd (upd f j y) i x := by
  funext k
  unfold upd
  by_cases e1 : k = j
  · rw [if_pos e1, if_neg (by omega), if_pos e1]
  · rw [if_neg e1]
    by_cases e2 : k = i
    · rw [if_pos e2, if_pos e2]
    · rw [if_neg e2, if_neg e2, if_neg e1]
theorem arS_upd {riv : Nat → Bool} {S : Nat → Int32} {t k : Nat} {x y z : Int32} (ht : t < 100) (h1 : ¬ (k < 1500 ∧ (k % 15 = 9 ∨ k % 15 = 10))) (h2 : ¬ k = 4307) (h3 : ¬ k = 4308) : arS riv (upd S k z) t x y = upd (arS riv S t x y) k z := by
  unfold arS
  by_cases c : riv t = true
  · rw [if_pos c, if_pos c, upd_ne (f := S) (Ne.symm h2), upd_ne (f := S) (Ne.symm h3), upd_comm (show ¬ k = 4307 from h2), upd_comm (show ¬ k = 4308 from h3)]
  · rw [if_neg c, if_neg c, upd_ne (f := S) (by omega), upd_ne (f := S) (by omega)]
    unfold frS
    rw [upd_comm (i := k) (j := 15 * t + 9) (by omega), upd_comm (i := k) (j := 15 * t + 10) (by omega)]
theorem sumZ_put {f g : Nat → Int} {c : Nat} : ∀ n, (∀ i, i < n → ¬ i = c → f i = g i) → sumZ f n = sumZ g n + (if c < n then f c - g c else 0)
  | 0, _ => by rw [if_neg (by omega)]; rfl
  | n + 1, h => by
    have ih := sumZ_put n (fun i hi => h i (by omega))
    show sumZ f n + f n = sumZ g n + g n + _
    by_cases e : n = c
    · subst e
      rw [ih, if_neg (by omega), if_pos (by omega)]
      omega
    · rw [ih, h n (by omega) e]
      by_cases q : c < n
      · rw [if_pos q, if_pos (by omega)]
        omega
      · rw [if_neg q, if_neg (by omega)]
        omega
theorem coal_put {S S' : Nat → Int32} {c : Nat} (hc : c < 100) (hk : S (1500 + 10 * c) = 1) (e : ∀ k, 1500 ≤ k → k < 2500 → ¬ k = 1500 + 10 * c + 3 → S' k = S k) : coalZ S' = coalZ S + ((S' (1500 + 10 * c + 3)).toInt - (S (1500 + 10 * c + 3)).toInt) := by
  unfold coalZ
  rw [sumZ_put (c := c) (g := fun c => if S (1500 + 10 * c) = 1 then (S (1503 + 10 * c)).toInt else 0) 100 (fun i hi hne => by
    show (if S' (1500 + 10 * i) = 1 then (S' (1503 + 10 * i)).toInt else 0) = if S (1500 + 10 * i) = 1 then (S (1503 + 10 * i)).toInt else 0
    rw [e _ (by omega) (by omega) (by omega), e (1503 + 10 * i) (by omega) (by omega) (by omega)]), if_pos hc]
  show _ + ((if S' (1500 + 10 * c) = 1 then (S' (1503 + 10 * c)).toInt else 0) - (if S (1500 + 10 * c) = 1 then (S (1503 + 10 * c)).toInt else 0)) = _
  rw [e (1500 + 10 * c) (by omega) (by omega) (by omega), if_pos hk, if_pos hk, show 1503 + 10 * c = 1500 + 10 * c + 3 by omega]
def PW (n : Nat) (wc0 wm0 wc wm : Wd) : Prop := YY n wc wm ∧ HF wc0 wm0 wc wm ∧ sameW (wm0.1 149) (wm.1 149)
theorem lift_step {n k : Nat} {wc wm : Wd} (h : YY n wc wm) (hn : n ≤ 512) (hk : k < 100) (f g : Nat) : ∃ wc' wm', fX1_liftWater_13 (f + 1) (iN k) wc = fX1_liftWater_13 f (iN (k + 1)) wc' ∧ fX12_hour_190 (g + 1) (iN k) wm = fX12_hour_190 g (iN (k + 1)) wm' ∧ YY n wc' wm' ∧ HF wc wm wc' wm' ∧ sameW (wm.1 149) (wm'.1 149) := by
  have hI := h.1.2.2
  have k20 : wc.1 20 k = wm.1 149 (1500 + 10 * k) := h.1.hse (j := 0) hk (Or.inl rfl)
  have lk : iN k < 100 := (iN_lt_lit (by omega) (by omega)).mpr hk
  have m0 : ∀ w : Wd, ri w 149 (((1500 : Int32) + ((10 : Int32) * iN k)) + (0 : Int32)) = w.1 149 (1500 + 10 * k) := fun w => hri' hk (by decide)
  have i0 : inb (((1500 : Int32) + ((10 : Int32) * iN k)) + (0 : Int32)) 4340 = true := hwr' (w := wm) hk (by decide)
  have stayM : fX12_lifts (iN k) wm = some wm → fX12_hour_190 (g + 1) (iN k) wm = fX12_hour_190 g (iN (k + 1)) wm := fun e => by
    rw [fX12_hour_190, if_pos lk, e, Option.bind_some, add_lit]
  by_cases q1 : wm.1 149 (1500 + 10 * k) = 1
  · have k24 : wc.1 24 k = wm.1 149 (1500 + 10 * k + 4) := h.1.hse (j := 4) hk (Or.inr (Or.inr (Or.inl ⟨by omega, q1⟩)))
    have hhs := (hI.2.1.1 k hk).1.2.1 q1
    by_cases q2 : wm.1 149 (1500 + 10 * k + 4) = 1
    · refine ⟨wc, wm, ?_, stayM ?_, h, HF.refl, sameW.refl⟩
      · rw [fX1_liftWater_13, if_pos lk, inb_lt2 hk (by omega), if_pos rfl, ri_iN (by omega), ri_iN (by omega), k20, k24, if_pos q1, if_pos q2, add_lit]
      · unfold fX12_lifts
        rw [i0, if_pos rfl, m0, if_pos q1, hwr' (w := wm) hk (by decide), if_pos rfl, hri' hk (by decide), if_pos q2]
    · obtain ⟨⟨t, t1, t2, t3⟩, ⟨P1, P2⟩, ⟨K1, K2⟩, -⟩ := hhs
      have t2' : wm.1 149 (1500 + 10 * k + 1) = iN t := t2
      have P1' : 1 ≤ (wm.1 149 (1500 + 10 * k + 2)).toInt := P1
      have P2' : (wm.1 149 (1500 + 10 * k + 2)).toInt ≤ 9999 := P2
      have K1' : 0 ≤ (wm.1 149 (1500 + 10 * k + 3)).toInt := K1
      have K2' : (wm.1 149 (1500 + 10 * k + 3)).toInt ≤ 99999 := K2
      have k21 : wc.1 21 k = iN t := (h.1.hse (j := 1) hk (Or.inr (Or.inr (Or.inl ⟨by omega, q1⟩)))).trans t2'
      have k22 : wc.1 22 k = wm.1 149 (1500 + 10 * k + 2) := h.1.hse (j := 2) hk (Or.inr (Or.inr (Or.inl ⟨by omega, q1⟩)))
      have k23 : wc.1 23 k = wm.1 149 (1500 + 10 * k + 3) := h.1.hse (j := 3) hk (Or.inr (Or.inr (Or.inl ⟨by omega, q1⟩)))
      have r15 : wc.1 15 k = wm.1 149 (15 * k + 9) := h.1.row (j := 9) hk (by omega)
      have r16 : wc.1 16 k = wm.1 149 (15 * k + 10) := h.1.row (j := 10) hk (by omega)
      obtain ⟨⟨n1, n2, n3, n4⟩, n5, n6⟩ := hI.pot hk
      obtain ⟨T, hT⟩ : ∃ T, T = mmin (wm.1 149 (1500 + 10 * k + 2)) ((100 : Int32) * wm.1 149 (1500 + 10 * k + 3)) := ⟨_, rfl⟩
      obtain ⟨F, hF⟩ : ∃ F, F = mmin (wm.1 149 (15 * k + 9)) T := ⟨_, rfl⟩
      obtain ⟨R, hR⟩ : ∃ R, R = mmin (wm.1 149 (15 * k + 10)) (T - F) := ⟨_, rfl⟩
      have eK : ((100 : Int32) * wm.1 149 (1500 + 10 * k + 3)).toInt = 100 * (wm.1 149 (1500 + 10 * k + 3)).toInt := mulc_I (k := 100) (b := 99999) (by omega) K1' K2' (by omega)
      have T1 : 0 ≤ T.toInt ∧ T.toInt ≤ 9999 ∧ T.toInt ≤ 100 * (wm.1 149 (1500 + 10 * k + 3)).toInt := by
        rw [hT, mmin_I, eK]
        split <;> omega
      have F1 : 0 ≤ F.toInt ∧ F.toInt ≤ (wm.1 149 (15 * k + 9)).toInt ∧ F.toInt ≤ T.toInt := by
        rw [hF, mmin_I]
        split <;> omega
      have mF : (T - F).toInt = T.toInt - F.toInt := sub_I (by omega) (by omega)
      have R1 : 0 ≤ R.toInt ∧ R.toInt ≤ (wm.1 149 (15 * k + 10)).toInt ∧ R.toInt ≤ T.toInt - F.toInt := by
        rw [hR, mmin_I, mF]
        split <;> omega
      have lt9 := (toInt_lt (wm.1 149 (15 * k + 9))).2
      have lt10 := (toInt_lt (wm.1 149 (15 * k + 10))).2
      have s1 : (wm.1 149 (15 * k + 9) - F).toInt = (wm.1 149 (15 * k + 9)).toInt - F.toInt := sub_I (by omega) (by omega)
      have s2 : (wm.1 149 (15 * k + 10) - R).toInt = (wm.1 149 (15 * k + 10)).toInt - R.toInt := sub_I (by omega) (by omega)
      have s3 : (F + R).toInt = F.toInt + R.toInt := add_I (by omega) (by omega)
      have s4 : (F + R + 99).toInt = F.toInt + R.toInt + 99 := by
        rw [add_I (by rw [s3, show (99 : Int32).toInt = 99 from rfl]; omega) (by rw [s3, show (99 : Int32).toInt = 99 from rfl]; omega), s3]
        rfl
      have s5 : ((F + R + 99) / 100).toInt = (F.toInt + R.toInt + 99) / 100 := by
        rw [div_I (by rw [s4]; omega) (by decide), s4]
        rfl
      obtain ⟨Q, hQ⟩ : ∃ Q, Q = (F + R + 99) / 100 := ⟨_, rfl⟩
      rw [← hQ] at s5
      have s6 : (wm.1 149 (1500 + 10 * k + 3) - Q).toInt = (wm.1 149 (1500 + 10 * k + 3)).toInt - Q.toInt := sub_I (by omega) (by omega)
      let S := wm.1 149
      let S1 := frS S k (S (15 * k + 9) - F) (S (15 * k + 10) - R)
      let S2 := arS (rvB S) S1 t F R
      let S3 := upd S2 (1500 + 10 * k + 3) (S (1500 + 10 * k + 3) - Q)
      have au1 : AU (si (si wc 15 k (S (15 * k + 9) - F)) 16 k (S (15 * k + 10) - R)) S1 := h.1.au.fr hk
      obtain ⟨w2, a1, a2, a3⟩ := arrive_c (riv := rvB S) (x := F) (y := R) au1 t1 (by
        show decide _ = decide (S1 (15 * t + 4) = 1)
        rw [show S1 (15 * t + 4) = S (15 * t + 4) from frS_o (by omega) (by omega)])
      have w23 : w2.1 23 k = S (1500 + 10 * k + 3) := by
        rw [a3.1 23 (by omega), si_oth (by omega), si_oth (by omega)]
        exact k23
      have au3 : AU (si w2 23 k (S (1500 + 10 * k + 3) - Q)) S3 := a2.put (by unfold softK; omega) (loc_hse (j := 3) hk (by omega))
      let m1 := si (si (si wm 149 (15 * k + 9) (S (15 * k + 9) - F)) 149 (15 * k + 10) (S (15 * k + 10) - R)) 149 (1500 + 10 * k + 3) (S (1500 + 10 * k + 3) - Q)
      have row1 : m1.1 149 = upd S1 (1500 + 10 * k + 3) (S (1500 + 10 * k + 3) - Q) := by
        show (si _ 149 _ _).1 149 = _
        rw [si_row, frS_row]
      obtain ⟨m2, b1, b2, b3, b4⟩ := comes_m (w := m1) (riv := rvB S) (x := F) (y := R) t1 (by
        rw [row1, upd_ne (by omega), show S1 (15 * t + 4) = S (15 * t + 4) from frS_o (by omega) (by omega)]
        rfl)
      have row2 : m2.1 149 = S3 := by
        rw [b2, row1]
        exact arS_upd t1 (by omega) (by omega) (by omega)
      have hf : HF wc wm (si w2 23 k (S (1500 + 10 * k + 3) - Q)) m2 := by
        refine ⟨fun a q1 q2 => ?_, fun a _ => ?_, fun a q1 q2 q3 q4 => ?_, b4, fun j _ _ => ?_⟩
        · rw [si_oth (by omega), a3.1 a (by omega), si_oth (by omega), si_oth (by omega)]
        · show w2.2 a = _
          rw [a3.2]
          rfl
        · rw [b3 a q1]
          show (si (si (si wm 149 _ _) 149 _ _) 149 _ _).1 a = _
          rw [si_oth q1, si_oth q1, si_oth q1]
        · rw [b3 148 (by omega)]
          show (si (si (si wm 149 _ _) 149 _ _) 149 _ _).1 148 j = _
          rw [si_oth (by omega), si_oth (by omega), si_oth (by omega)]
      have sw : sameW S S3 := ((frS_w hk).trans (arS_w t1)).put (by unfold wk; omega)
      have o3 : ∀ q, ¬ (q < 1500 ∧ (q % 15 = 9 ∨ q % 15 = 10)) → ¬ q = 4307 → ¬ q = 4308 → ¬ q = 1500 + 10 * k + 3 → S3 q = S q := fun q q1 q2 q3 q4 => by
        show upd S2 _ _ q = _
        rw [upd_ne q4, show S2 q = S1 q from arS_o t1 q1 q2 q3, show S1 q = S q from frS_o (by omega) (by omega)]
      have c3 : S3 (1500 + 10 * k + 3) = S (1500 + 10 * k + 3) - Q := upd_eq
      have hco : coalZ S3 = coalZ (wm.1 149) - Q.toInt := by
        rw [coal_put hk q1 (fun q q1 q2 q3 => o3 q (by omega) (by omega) (by omega) q3), c3, s6]
        show coalZ (wm.1 149) + ((wm.1 149 (1500 + 10 * k + 3)).toInt - Q.toInt - (wm.1 149 (1500 + 10 * k + 3)).toInt) = _
        omega
      have v9 : ∀ q, q < 100 → S3 (15 * q + 9) = (if q = t ∧ rvB S t = false then (if q = k then S (15 * k + 9) - F else S (15 * q + 9)) + F else (if q = k then S (15 * k + 9) - F else S (15 * q + 9))) := fun q hq => by
        show upd S2 _ _ _ = _
        rw [upd_ne (by omega), show S2 (15 * q + 9) = _ from arS_9 hq, show S1 (15 * q + 9) = _ from frS_9]
      have v10 : ∀ q, q < 100 → S3 (15 * q + 10) = (if q = t ∧ rvB S t = false then (if q = k then S (15 * k + 10) - R else S (15 * q + 10)) + R else (if q = k then S (15 * k + 10) - R else S (15 * q + 10))) := fun q hq => by
        show upd S2 _ _ _ = _
        rw [upd_ne (by omega), show S2 (15 * q + 10) = _ from arS_10 hq, show S1 (15 * q + 10) = _ from frS_10]
      have inv : Inv S3 n := hI.wat sw hn (fun c hc => by
        by_cases e : c = k
        · subst e
          have h0 := hI.2.1.1 c hc
          have g : ∀ j, j < 10 → ¬ j = 3 → S3 (1500 + 10 * c + j) = S (1500 + 10 * c + j) := fun j hj q => o3 _ (by omega) (by omega) (by omega) (by omega)
          unfold hs at h0 ⊢
          show ((S3 (1500 + 10 * c + 0) = 0 ∨ S3 (1500 + 10 * c + 0) = 1 ∨ S3 (1500 + 10 * c + 0) = 2) ∧ (S3 (1500 + 10 * c + 0) = 1 → (∃ t, t < 100 ∧ S3 (1500 + 10 * c + 1) = iN t ∧ t ≠ c) ∧ bt 1 9999 (S3 (1500 + 10 * c + 2)) ∧ bt 0 99999 (S3 (1500 + 10 * c + 3)) ∧ bt 0 1 (S3 (1500 + 10 * c + 4))) ∧ (S3 (1500 + 10 * c + 0) = 2 → bt 1 9999 (S3 (1500 + 10 * c + 5)) ∧ bt 1 9999 (S3 (1500 + 10 * c + 6)) ∧ bt (-128) 127 (S3 (1500 + 10 * c + 7)))) ∧ bt 0 9999 (S3 (1500 + 10 * c + 8)) ∧ bt 0 9999 (S3 (1500 + 10 * c + 9)) ∧ (¬ S3 (1500 + 10 * c + 0) = 2 → S3 (1500 + 10 * c + 8) = 0 ∧ S3 (1500 + 10 * c + 9) = 0) ∧ (S3 (1500 + 10 * c + 0) = 2 → (S3 (1500 + 10 * c + 8)).toInt + (S3 (1500 + 10 * c + 9)).toInt ≤ (S3 (1500 + 10 * c + 5)).toInt)
          rw [g 0 (by omega) (by omega), g 1 (by omega) (by omega), g 2 (by omega) (by omega), g 4 (by omega) (by omega), g 5 (by omega) (by omega), g 6 (by omega) (by omega), g 7 (by omega) (by omega), g 8 (by omega) (by omega), g 9 (by omega) (by omega), c3]
          refine ⟨⟨h0.1.1, fun q => ?_, h0.1.2.2⟩, h0.2⟩
          obtain ⟨z1, z2, z3, z4⟩ := h0.1.2.1 q
          refine ⟨z1, z2, ⟨?_, ?_⟩, z4⟩ <;> show _ ≤ _ <;> rw [show (S (1500 + 10 * c + 3) - Q).toInt = _ from s6] <;> omega
        · exact (hI.2.1.1 c hc).cong (fun j hj => o3 _ (by omega) (by omega) (by omega) (by omega))) (fun c hc => by
        obtain ⟨⟨m1, m2, m3, m4⟩, m5, m6⟩ := hI.pot hc
        have hour := hI.2.2.2.1.1.2
        have hcoal := coal_nn hI.2.1
        have t8 : 0 ≤ (wm.1 149 (1508 + 10 * c)).toInt := by
          have := (hI.2.1.1 c hc).2.1.1
          rw [show 1508 + 10 * c = 1500 + 10 * c + 8 by omega]
          exact this
        have t9 : 0 ≤ (wm.1 149 (1509 + 10 * c)).toInt := by
          have := (hI.2.1.1 c hc).2.2.1.1
          rw [show 1509 + 10 * c = 1500 + 10 * c + 9 by omega]
          exact this
        have hpd := m5
        unfold pot wtr at hpd
        unfold nnW pot wtr
        rw [hco, o3 (15 * c + 11) (by omega) (by omega) (by omega) (by omega), o3 (15 * c + 12) (by omega) (by omega) (by omega) (by omega), o3 (1508 + 10 * c) (by omega) (by omega) (by omega) (by omega), o3 (1509 + 10 * c) (by omega) (by omega) (by omega) (by omega), v9 c hc, v10 c hc]
        by_cases e : c = k
        · subst e
          have ne : ¬ (c = t ∧ rvB S t = false) := fun q => t3 q.1.symm
          rw [if_neg ne, if_neg ne, if_pos rfl, if_pos rfl]
          show (0 ≤ (wm.1 149 (15 * c + 9) - F).toInt ∧ 0 ≤ (wm.1 149 (15 * c + 10) - R).toInt ∧ _ ∧ _) ∧ (wm.1 149 (15 * c + 9) - F).toInt + (wm.1 149 (15 * c + 10) - R).toInt + (wm.1 149 (1508 + 10 * c)).toInt + (wm.1 149 (1509 + 10 * c)).toInt + (wm.1 149 (15 * c + 11)).toInt + (wm.1 149 (15 * c + 12)).toInt + 100 * (coalZ (wm.1 149) - Q.toInt) ≤ _
          rw [s1, s2]
          exact ⟨⟨by omega, by omega, m3, m4⟩, by omega⟩
        · rw [if_neg e, if_neg e]
          by_cases e2 : c = t ∧ rvB S t = false
          · rw [if_pos e2, if_pos e2]
            have b1 : (wm.1 149 (15 * c + 9) + F).toInt = (wm.1 149 (15 * c + 9)).toInt + F.toInt := add_I (by omega) (by omega)
            have b2 : (wm.1 149 (15 * c + 10) + R).toInt = (wm.1 149 (15 * c + 10)).toInt + R.toInt := add_I (by omega) (by omega)
            show (0 ≤ (wm.1 149 (15 * c + 9) + F).toInt ∧ 0 ≤ (wm.1 149 (15 * c + 10) + R).toInt ∧ _ ∧ _) ∧ (wm.1 149 (15 * c + 9) + F).toInt + (wm.1 149 (15 * c + 10) + R).toInt + (wm.1 149 (1508 + 10 * c)).toInt + (wm.1 149 (1509 + 10 * c)).toInt + (wm.1 149 (15 * c + 11)).toInt + (wm.1 149 (15 * c + 12)).toInt + 100 * (coalZ (wm.1 149) - Q.toInt) ≤ _
            rw [b1, b2]
            exact ⟨⟨by omega, by omega, m3, m4⟩, by omega⟩
          · rw [if_neg e2, if_neg e2]
            exact ⟨⟨m1, m2, m3, m4⟩, by show (wm.1 149 (15 * c + 9)).toInt + (wm.1 149 (15 * c + 10)).toInt + (wm.1 149 (1508 + 10 * c)).toInt + (wm.1 149 (1509 + 10 * c)).toInt + (wm.1 149 (15 * c + 11)).toInt + (wm.1 149 (15 * c + 12)).toInt + 100 * (coalZ (wm.1 149) - Q.toInt) ≤ _; omega⟩)
      refine ⟨_, m2, ?_, ?_, h.hf hf (by rw [row2]; exact au3.yc inv), hf, by rw [row2]; exact sw⟩
      · rw [fX1_liftWater_13, if_pos lk, inb_lt2 hk (by omega), if_pos rfl, ri_iN (by omega), k20, if_pos q1]
        simp only [ri_iN (show k < 2147483648 by omega), wi_iN (show k < 2147483648 by omega)]
        rw [k24, if_neg q2, k21, k22, k23, r15, r16, ← hT, ← hF, ← hR, ← hQ, isCell_c, Option.bind_some, if_pos (decide_eq_true (by rw [iN_toInt (by omega)]; omega)), nw_eq, nw_eq, si_oth (show ¬ 16 = 15 by omega), r16, si_oth (show ¬ 21 = 16 by omega), si_oth (show ¬ 21 = 15 by omega), k21]
        show (((fX10_arrive (iN t) F R (si (si wc 15 k (S (15 * k + 9) - F)) 16 k (S (15 * k + 10) - R))).bind _)) = _
        rw [a1, Option.bind_some, nw_eq, w23, add_lit]
      · have ec9 : fX12_c (iN k) 9 wm = some (wm.1 149 (15 * k + 9)) := mc_j hk (by decide)
        have ec10 : fX12_c (iN k) 10 wm = some (wm.1 149 (15 * k + 10)) := mc_j hk (by decide)
        have el : fX12_lifts (iN k) wm = some m2 := by
          unfold fX12_lifts
          rw [i0, if_pos rfl, m0, if_pos q1, hwr' (w := wm) hk (by decide), if_pos rfl, hri' hk (by decide), if_neg q2, hwr' (w := wm) hk (by decide), if_pos rfl, hwr' (w := wm) hk (by decide), if_pos rfl, hri' hk (by decide), hri' hk (by decide), least_eq, Option.bind_some, ec9, Option.bind_some]
          show ((fX12_least _ (mmin (wm.1 149 (1500 + 10 * k + 2)) (100 * wm.1 149 (1500 + 10 * k + 3))) wm).bind _) = _
          rw [← hT, least_eq, Option.bind_some, ec10, Option.bind_some, ← hF, least_eq, Option.bind_some, ← hR, mci hk (by decide), if_pos rfl, nw_eq, mcw (by decide) hk, mcr (by decide) hk, mci hk (by decide), if_pos rfl, nw_eq, mcw (by decide) hk, mcr (by decide) hk, nw_eq, hwi' hk (by decide), hri' hk (by decide), ← hQ, hwr' (w := wm) hk (by decide), if_pos rfl, hri' hk (by decide)]
          have z1 : ¬ 15 * k + 10 = 15 * k + 9 := by omega
          have z2 : ¬ 1500 + 10 * k + 3 = 15 * k + 9 := by omega
          have z3 : ¬ 1500 + 10 * k + 3 = 15 * k + 10 := by omega
          have z4 : ¬ 1500 + 10 * k + 1 = 1500 + 10 * k + 3 := by omega
          have z5 : ¬ 1500 + 10 * k + 1 = 15 * k + 9 := by omega
          have z6 : ¬ 1500 + 10 * k + 1 = 15 * k + 10 := by omega
          have z7 : ∀ (w : Wd) (i j : Nat) (x : Int32), ¬ j = i → (si w 149 i x).1 149 j = w.1 149 j := fun w i j x q => by rw [si_1, if_neg (by omega)]
          rw [z7 _ _ _ _ z1, z7 _ _ _ _ z3, z7 _ _ _ _ z2]
          show ((fX12_comes (m1.1 149 (1500 + 10 * k + 1)) F R m1).bind _) = _
          have z8 : m1.1 149 (1500 + 10 * k + 1) = iN t := by
            show (si _ 149 _ _).1 149 _ = _
            rw [z7 _ _ _ _ z4, z7 _ _ _ _ z6, z7 _ _ _ _ z5]
            exact t2'
          rw [z8, b1]
          rfl
        rw [fX12_hour_190, if_pos lk, el, Option.bind_some, add_lit]
  · refine ⟨wc, wm, ?_, stayM ?_, h, HF.refl, sameW.refl⟩
    · rw [fX1_liftWater_13, if_pos lk, inb_lt2 hk (by omega), if_pos rfl, ri_iN (by omega), k20, if_neg q1, add_lit]
    · unfold fX12_lifts
      rw [i0, if_pos rfl, m0, if_neg q1]
-- MATHEMATICS: m77
theorem inv_tank {S S' : Nat → Int32} {n c : Nat} (h : Inv S n) (hn : n ≤ 512) (hc : c < 100) (hk : S (1500 + 10 * c) = 2) (o : ∀ q, ¬ q = 15 * c + 9 → ¬ q = 15 * c + 10 → ¬ q = 1500 + 10 * c + 8 → ¬ q = 1500 + 10 * c + 9 → ¬ (4305 ≤ q ∧ q ≤ 4313) → S' q = S q) (h8 : 0 ≤ (S' (1500 + 10 * c + 8)).toInt) (h9 : 0 ≤ (S' (1500 + 10 * c + 9)).toInt) (hs5 : (S' (1500 + 10 * c + 8)).toInt + (S' (1500 + 10 * c + 9)).toInt ≤ (S (1500 + 10 * c + 5)).toInt) (hf : 0 ≤ (S' (15 * c + 9)).toInt) (hr : 0 ≤ (S' (15 * c + 10)).toInt) (hp : (S' (15 * c + 9)).toInt + (S' (15 * c + 10)).toInt + (S' (1500 + 10 * c + 8)).toInt + (S' (1500 + 10 * c + 9)).toInt ≤ (S (15 * c + 9)).toInt + (S (15 * c + 10)).toInt + (S (1500 + 10 * c + 8)).toInt + (S (1500 + 10 * c + 9)).toInt) : Inv S' n ∧ sameW S S' := by
  have sw : sameW S S' := fun q hq => by
    unfold wk at hq
    exact o q (by omega) (by omega) (by omega) (by omega) (by omega)
  have g5 := ((h.2.1.1 c hc).1.2.2 hk).1.2
  refine ⟨h.wat sw hn (fun q hq => ?_) (fun q hq => ?_), sw⟩
  · by_cases e : q = c
    · subst e
      have h0 := h.2.1.1 q hc
      have g : ∀ j, j < 8 → S' (1500 + 10 * q + j) = S (1500 + 10 * q + j) := fun j hj => o _ (by omega) (by omega) (by omega) (by omega) (by omega)
      unfold hs at h0 ⊢
      show ((S' (1500 + 10 * q + 0) = 0 ∨ S' (1500 + 10 * q + 0) = 1 ∨ S' (1500 + 10 * q + 0) = 2) ∧ (S' (1500 + 10 * q + 0) = 1 → (∃ t, t < 100 ∧ S' (1500 + 10 * q + 1) = iN t ∧ t ≠ q) ∧ bt 1 9999 (S' (1500 + 10 * q + 2)) ∧ bt 0 99999 (S' (1500 + 10 * q + 3)) ∧ bt 0 1 (S' (1500 + 10 * q + 4))) ∧ (S' (1500 + 10 * q + 0) = 2 → bt 1 9999 (S' (1500 + 10 * q + 5)) ∧ bt 1 9999 (S' (1500 + 10 * q + 6)) ∧ bt (-128) 127 (S' (1500 + 10 * q + 7)))) ∧ bt 0 9999 (S' (1500 + 10 * q + 8)) ∧ bt 0 9999 (S' (1500 + 10 * q + 9)) ∧ (¬ S' (1500 + 10 * q + 0) = 2 → S' (1500 + 10 * q + 8) = 0 ∧ S' (1500 + 10 * q + 9) = 0) ∧ (S' (1500 + 10 * q + 0) = 2 → (S' (1500 + 10 * q + 8)).toInt + (S' (1500 + 10 * q + 9)).toInt ≤ (S' (1500 + 10 * q + 5)).toInt)
      rw [g 0 (by omega), g 1 (by omega), g 2 (by omega), g 3 (by omega), g 4 (by omega), g 5 (by omega), g 6 (by omega), g 7 (by omega)]
      have g5' : (S (1500 + 10 * q + 5)).toInt ≤ 9999 := g5
      exact ⟨h0.1, ⟨h8, by omega⟩, ⟨h9, by omega⟩, fun z => (z hk).elim, fun _ => hs5⟩
    · exact (h.2.1.1 q hq).cong (fun j hj => o _ (by omega) (by omega) (by omega) (by omega) (by omega))
  · obtain ⟨⟨m1, m2, m3, m4⟩, m5, m6⟩ := h.pot hq
    have hco : coalZ S' = coalZ S := by
      unfold coalZ
      exact sumZ_cong 100 (fun i hi => by rw [o (1500 + 10 * i) (by omega) (by omega) (by omega) (by omega) (by omega), o (1503 + 10 * i) (by omega) (by omega) (by omega) (by omega) (by omega)])
    unfold pot wtr at m5
    unfold nnW pot wtr
    rw [hco, o (15 * q + 11) (by omega) (by omega) (by omega) (by omega) (by omega), o (15 * q + 12) (by omega) (by omega) (by omega) (by omega) (by omega)]
    by_cases e : q = c
    · subst e
      rw [show 1508 + 10 * q = 1500 + 10 * q + 8 by omega, show 1509 + 10 * q = 1500 + 10 * q + 9 by omega] at m5 ⊢
      exact ⟨⟨hf, hr, m3, m4⟩, by omega⟩
    · rw [o (15 * q + 9) (by omega) (by omega) (by omega) (by omega) (by omega), o (15 * q + 10) (by omega) (by omega) (by omega) (by omega) (by omega), o (1508 + 10 * q) (by omega) (by omega) (by omega) (by omega) (by omega), o (1509 + 10 * q) (by omega) (by omega) (by omega) (by omega) (by omega)]
      exact ⟨⟨m1, m2, m3, m4⟩, m5⟩
theorem z149 {w : Wd} {i j : Nat} {x : Int32} (q : ¬ j = i) : (si w 149 i x).1 149 j = w.1 149 j := by rw [si_1, if_neg (by omega)]
theorem fill_eq {n k : Nat} {wc wm : Wd} (h : YY n wc wm) (hn : n ≤ 512) (hk : k < 100) (q1 : wm.1 149 (1500 + 10 * k) = 2) : ∃ F R wc1 wm1, F = mmin (wm.1 149 (15 * k + 9)) (wm.1 149 (1500 + 10 * k + 5) - wm.1 149 (1500 + 10 * k + 8) - wm.1 149 (1500 + 10 * k + 9)) ∧ R = mmin (wm.1 149 (15 * k + 10)) (wm.1 149 (1500 + 10 * k + 5) - wm.1 149 (1500 + 10 * k + 8) - wm.1 149 (1500 + 10 * k + 9) - F) ∧ fX1_fillTank (iN k) wc = some wc1 ∧ wm1 = si (si (si (si wm 149 (15 * k + 9) (wm.1 149 (15 * k + 9) - F)) 149 (15 * k + 10) (wm.1 149 (15 * k + 10) - R)) 149 (1500 + 10 * k + 8) (wm.1 149 (1500 + 10 * k + 8) + F)) 149 (1500 + 10 * k + 9) (wm.1 149 (1500 + 10 * k + 9) + R) ∧ YY n wc1 wm1 ∧ HF wc wm wc1 wm1 ∧ sameW (wm.1 149) (wm1.1 149) := by
  have hI := h.1.2.2
  have r15 : wc.1 15 k = wm.1 149 (15 * k + 9) := h.1.row (j := 9) hk (by omega)
  have r16 : wc.1 16 k = wm.1 149 (15 * k + 10) := h.1.row (j := 10) hk (by omega)
  have k25 : wc.1 25 k = wm.1 149 (1500 + 10 * k + 5) := h.1.hse (j := 5) hk (Or.inr (Or.inr (Or.inr ⟨by omega, by omega, q1⟩)))
  have k28 : wc.1 28 k = wm.1 149 (1500 + 10 * k + 8) := h.1.hse (j := 8) hk (Or.inr (Or.inl ⟨by omega, by omega⟩))
  have k29 : wc.1 29 k = wm.1 149 (1500 + 10 * k + 9) := h.1.hse (j := 9) hk (Or.inr (Or.inl ⟨by omega, by omega⟩))
  obtain ⟨⟨n1, n2, n3, n4⟩, n5, n6⟩ := hI.pot hk
  have hh := hI.2.1.1 k hk
  have g5 : 1 ≤ (wm.1 149 (1500 + 10 * k + 5)).toInt ∧ (wm.1 149 (1500 + 10 * k + 5)).toInt ≤ 9999 := (hh.1.2.2 q1).1
  have g8 : 0 ≤ (wm.1 149 (1500 + 10 * k + 8)).toInt ∧ (wm.1 149 (1500 + 10 * k + 8)).toInt ≤ 9999 := hh.2.1
  have g9 : 0 ≤ (wm.1 149 (1500 + 10 * k + 9)).toInt ∧ (wm.1 149 (1500 + 10 * k + 9)).toInt ≤ 9999 := hh.2.2.1
  have gs : (wm.1 149 (1500 + 10 * k + 8)).toInt + (wm.1 149 (1500 + 10 * k + 9)).toInt ≤ (wm.1 149 (1500 + 10 * k + 5)).toInt := hh.2.2.2.2 q1
  obtain ⟨M, hM⟩ : ∃ M, M = wm.1 149 (1500 + 10 * k + 5) - wm.1 149 (1500 + 10 * k + 8) - wm.1 149 (1500 + 10 * k + 9) := ⟨_, rfl⟩
  have eM : M.toInt = (wm.1 149 (1500 + 10 * k + 5)).toInt - (wm.1 149 (1500 + 10 * k + 8)).toInt - (wm.1 149 (1500 + 10 * k + 9)).toInt := by
    have e1 : (wm.1 149 (1500 + 10 * k + 5) - wm.1 149 (1500 + 10 * k + 8)).toInt = (wm.1 149 (1500 + 10 * k + 5)).toInt - (wm.1 149 (1500 + 10 * k + 8)).toInt := sub_I (by omega) (by omega)
    rw [hM, sub_I (by rw [e1]; omega) (by rw [e1]; omega), e1]
  obtain ⟨F, hF⟩ : ∃ F, F = mmin (wm.1 149 (15 * k + 9)) M := ⟨_, rfl⟩
  obtain ⟨R, hR⟩ : ∃ R, R = mmin (wm.1 149 (15 * k + 10)) (M - F) := ⟨_, rfl⟩
  have F1 : 0 ≤ F.toInt ∧ F.toInt ≤ (wm.1 149 (15 * k + 9)).toInt ∧ F.toInt ≤ M.toInt := by
    rw [hF, mmin_I]
    split <;> omega
  have mF : (M - F).toInt = M.toInt - F.toInt := sub_I (by omega) (by omega)
  have R1 : 0 ≤ R.toInt ∧ R.toInt ≤ (wm.1 149 (15 * k + 10)).toInt ∧ R.toInt ≤ M.toInt - F.toInt := by
    rw [hR, mmin_I, mF]
    split <;> omega
  have lt9 := (toInt_lt (wm.1 149 (15 * k + 9))).2
  have lt10 := (toInt_lt (wm.1 149 (15 * k + 10))).2
  have s1 : (wm.1 149 (15 * k + 9) - F).toInt = (wm.1 149 (15 * k + 9)).toInt - F.toInt := sub_I (by omega) (by omega)
  have s2 : (wm.1 149 (15 * k + 10) - R).toInt = (wm.1 149 (15 * k + 10)).toInt - R.toInt := sub_I (by omega) (by omega)
  have s3 : (wm.1 149 (1500 + 10 * k + 8) + F).toInt = (wm.1 149 (1500 + 10 * k + 8)).toInt + F.toInt := add_I (by omega) (by omega)
  have s4 : (wm.1 149 (1500 + 10 * k + 9) + R).toInt = (wm.1 149 (1500 + 10 * k + 9)).toInt + R.toInt := add_I (by omega) (by omega)
  let S := wm.1 149
  let wm1 := si (si (si (si wm 149 (15 * k + 9) (S (15 * k + 9) - F)) 149 (15 * k + 10) (S (15 * k + 10) - R)) 149 (1500 + 10 * k + 8) (S (1500 + 10 * k + 8) + F)) 149 (1500 + 10 * k + 9) (S (1500 + 10 * k + 9) + R)
  have row : wm1.1 149 = upd (upd (frS S k (S (15 * k + 9) - F) (S (15 * k + 10) - R)) (1500 + 10 * k + 8) (S (1500 + 10 * k + 8) + F)) (1500 + 10 * k + 9) (S (1500 + 10 * k + 9) + R) := by
    show (si (si (si (si wm 149 _ _) 149 _ _) 149 _ _) 149 _ _).1 149 = _
    rw [si_row, si_row, frS_row]
  have au : AU (si (si (si (si wc 15 k (S (15 * k + 9) - F)) 16 k (S (15 * k + 10) - R)) 28 k (S (1500 + 10 * k + 8) + F)) 29 k (S (1500 + 10 * k + 9) + R)) (wm1.1 149) := by
    rw [row]
    exact ((h.1.au.fr hk).put (by unfold softK; omega) (loc_hse (j := 8) hk (by omega))).put (by unfold softK; omega) (loc_hse (j := 9) hk (by omega))
  have hf : HF wc wm (si (si (si (si wc 15 k (S (15 * k + 9) - F)) 16 k (S (15 * k + 10) - R)) 28 k (S (1500 + 10 * k + 8) + F)) 29 k (S (1500 + 10 * k + 9) + R)) wm1 := (((HF.cput (by omega)).trans (HF.cput (by omega))).trans ((HF.cput (by omega)).trans (HF.cput (by omega)))).trans (((HF.mput (by omega)).trans (HF.mput (by omega))).trans ((HF.mput (by omega)).trans (HF.mput (by omega))))
  have w9 : wm1.1 149 (1500 + 10 * k + 9) = S (1500 + 10 * k + 9) + R := by rw [row, upd_eq]
  have w8 : wm1.1 149 (1500 + 10 * k + 8) = S (1500 + 10 * k + 8) + F := by rw [row, upd_ne (by omega), upd_eq]
  have wf : wm1.1 149 (15 * k + 9) = S (15 * k + 9) - F := by rw [row, upd_ne (by omega), upd_ne (by omega), frS_9, if_pos rfl]
  have wr : wm1.1 149 (15 * k + 10) = S (15 * k + 10) - R := by rw [row, upd_ne (by omega), upd_ne (by omega), frS_10, if_pos rfl]
  have inv := inv_tank (S' := wm1.1 149) hI hn hk q1 (fun q a1 a2 a3 a4 _ => by rw [row, upd_ne a4, upd_ne a3, frS_o a1 a2]) (by rw [w8]; show 0 ≤ (wm.1 149 (1500 + 10 * k + 8) + F).toInt; rw [s3]; omega) (by rw [w9]; show 0 ≤ (wm.1 149 (1500 + 10 * k + 9) + R).toInt; rw [s4]; omega) (by rw [w8, w9]; show (wm.1 149 (1500 + 10 * k + 8) + F).toInt + (wm.1 149 (1500 + 10 * k + 9) + R).toInt ≤ _; rw [s3, s4]; omega) (by rw [wf]; show 0 ≤ (wm.1 149 (15 * k + 9) - F).toInt; rw [s1]; omega) (by rw [wr]; show 0 ≤ (wm.1 149 (15 * k + 10) - R).toInt; rw [s2]; omega) (by
    rw [w8, w9, wf, wr]
    show (wm.1 149 (15 * k + 9) - F).toInt + (wm.1 149 (15 * k + 10) - R).toInt + (wm.1 149 (1500 + 10 * k + 8) + F).toInt + (wm.1 149 (1500 + 10 * k + 9) + R).toInt ≤ _
    rw [s1, s2, s3, s4]
    omega)
  refine ⟨F, R, _, wm1, by rw [← hM]; exact hF, by rw [← hM]; exact hR, ?_, rfl, h.hf hf (au.yc inv.1), hf, inv.2⟩
  unfold fX1_fillTank
  rw [inb_lt2 hk (by omega), if_pos rfl]
  simp only [ri_iN (show k < 2147483648 by omega), wi_iN (show k < 2147483648 by omega), nw_eq]
  rw [r15, r16, k25, k28, k29, ← hM, ← hF, ← hR, si_oth (show ¬ 16 = 15 by omega), r16, si_oth (show ¬ 28 = 16 by omega), si_oth (show ¬ 28 = 15 by omega), k28, si_oth (show ¬ 29 = 28 by omega), si_oth (show ¬ 29 = 16 by omega), si_oth (show ¬ 29 = 15 by omega), k29]
theorem gate_eq {n k : Nat} {wc wm : Wd} {b : Bool} (h : YY n wc wm) (hn : n ≤ 512) (hk : k < 100) (q1 : wm.1 149 (1500 + 10 * k) = 2) : ∃ F R wc1 wm1, F = mmin (wm.1 149 (1500 + 10 * k + 8)) (wm.1 149 (1500 + 10 * k + 6)) ∧ R = mmin (wm.1 149 (1500 + 10 * k + 9)) (wm.1 149 (1500 + 10 * k + 6) - F) ∧ wc1 = si (si (si (si wc 28 k (wm.1 149 (1500 + 10 * k + 8) - F)) 29 k (wm.1 149 (1500 + 10 * k + 9) - R)) 14 8 (wm.1 149 4308 + R)) 14 (if b = true then 10 else 9) (wm.1 149 (if b = true then 4310 else 4309) + F) ∧ wm1 = si (si (si (si wm 149 (1500 + 10 * k + 8) (wm.1 149 (1500 + 10 * k + 8) - F)) 149 (1500 + 10 * k + 9) (wm.1 149 (1500 + 10 * k + 9) - R)) 149 4308 (wm.1 149 4308 + R)) 149 (if b = true then 4310 else 4309) (wm.1 149 (if b = true then 4310 else 4309) + F) ∧ YY n wc1 wm1 ∧ HF wc wm wc1 wm1 ∧ sameW (wm.1 149) (wm1.1 149) := by
  have hI := h.1.2.2
  have hh := hI.2.1.1 k hk
  obtain ⟨⟨n1, n2, n3, n4⟩, n5, n6⟩ := hI.pot hk
  have g5 : 1 ≤ (wm.1 149 (1500 + 10 * k + 5)).toInt ∧ (wm.1 149 (1500 + 10 * k + 5)).toInt ≤ 9999 := (hh.1.2.2 q1).1
  have g6 : 1 ≤ (wm.1 149 (1500 + 10 * k + 6)).toInt ∧ (wm.1 149 (1500 + 10 * k + 6)).toInt ≤ 9999 := (hh.1.2.2 q1).2.1
  have g8 : 0 ≤ (wm.1 149 (1500 + 10 * k + 8)).toInt ∧ (wm.1 149 (1500 + 10 * k + 8)).toInt ≤ 9999 := hh.2.1
  have g9 : 0 ≤ (wm.1 149 (1500 + 10 * k + 9)).toInt ∧ (wm.1 149 (1500 + 10 * k + 9)).toInt ≤ 9999 := hh.2.2.1
  have gs : (wm.1 149 (1500 + 10 * k + 8)).toInt + (wm.1 149 (1500 + 10 * k + 9)).toInt ≤ (wm.1 149 (1500 + 10 * k + 5)).toInt := hh.2.2.2.2 q1
  obtain ⟨F, hF⟩ : ∃ F, F = mmin (wm.1 149 (1500 + 10 * k + 8)) (wm.1 149 (1500 + 10 * k + 6)) := ⟨_, rfl⟩
  obtain ⟨R, hR⟩ : ∃ R, R = mmin (wm.1 149 (1500 + 10 * k + 9)) (wm.1 149 (1500 + 10 * k + 6) - F) := ⟨_, rfl⟩
  have F1 : 0 ≤ F.toInt ∧ F.toInt ≤ (wm.1 149 (1500 + 10 * k + 8)).toInt ∧ F.toInt ≤ (wm.1 149 (1500 + 10 * k + 6)).toInt := by
    rw [hF, mmin_I]
    split <;> omega
  have mF : (wm.1 149 (1500 + 10 * k + 6) - F).toInt = (wm.1 149 (1500 + 10 * k + 6)).toInt - F.toInt := sub_I (by omega) (by omega)
  have R1 : 0 ≤ R.toInt ∧ R.toInt ≤ (wm.1 149 (1500 + 10 * k + 9)).toInt := by
    rw [hR, mmin_I, mF]
    split <;> omega
  have s3 : (wm.1 149 (1500 + 10 * k + 8) - F).toInt = (wm.1 149 (1500 + 10 * k + 8)).toInt - F.toInt := sub_I (by omega) (by omega)
  have s4 : (wm.1 149 (1500 + 10 * k + 9) - R).toInt = (wm.1 149 (1500 + 10 * k + 9)).toInt - R.toInt := sub_I (by omega) (by omega)
  obtain ⟨K, hK⟩ : ∃ K : Nat, K = if b = true then 4310 else 4309 := ⟨_, rfl⟩
  obtain ⟨J, hJ⟩ : ∃ J : Nat, J = if b = true then 10 else 9 := ⟨_, rfl⟩
  have hKJ : (K = 4310 ∧ J = 10) ∨ (K = 4309 ∧ J = 9) := by
    rw [hK, hJ]
    cases b
    · exact Or.inr ⟨rfl, rfl⟩
    · exact Or.inl ⟨rfl, rfl⟩
  have lK : loc K = (14, J) := by
    rcases hKJ with ⟨q, q2⟩ | ⟨q, q2⟩
    · rw [q, q2]
      exact loc_sc (j := 10) (by omega)
    · rw [q, q2]
      exact loc_sc (j := 9) (by omega)
  let S := wm.1 149
  obtain ⟨wm1, hw1⟩ : ∃ wm1, wm1 = si (si (si (si wm 149 (1500 + 10 * k + 8) (S (1500 + 10 * k + 8) - F)) 149 (1500 + 10 * k + 9) (S (1500 + 10 * k + 9) - R)) 149 4308 (S 4308 + R)) 149 K (S K + F) := ⟨_, rfl⟩
  have row : wm1.1 149 = upd (upd (upd (upd S (1500 + 10 * k + 8) (S (1500 + 10 * k + 8) - F)) (1500 + 10 * k + 9) (S (1500 + 10 * k + 9) - R)) 4308 (S 4308 + R)) K (S K + F) := by
    rw [hw1, si_row, si_row, si_row, si_row]
  have au : AU (si (si (si (si wc 28 k (S (1500 + 10 * k + 8) - F)) 29 k (S (1500 + 10 * k + 9) - R)) 14 8 (S 4308 + R)) 14 J (S K + F)) (wm1.1 149) := by
    rw [row]
    exact (((h.1.au.put (by unfold softK; omega) (loc_hse (j := 8) hk (by omega))).put (by unfold softK; omega) (loc_hse (j := 9) hk (by omega))).put (by unfold softK; omega) (loc_sc (j := 8) (by omega))).put (by unfold softK; omega) lK
  have hf : HF wc wm (si (si (si (si wc 28 k (S (1500 + 10 * k + 8) - F)) 29 k (S (1500 + 10 * k + 9) - R)) 14 8 (S 4308 + R)) 14 J (S K + F)) wm1 := by
    rw [hw1]
    exact (((HF.cput (by omega)).trans (HF.cput (by omega))).trans ((HF.cput (by omega)).trans (HF.cput (by omega)))).trans (((HF.mput (by omega)).trans (HF.mput (by omega))).trans ((HF.mput (by omega)).trans (HF.mput (by omega))))
  have w9 : wm1.1 149 (1500 + 10 * k + 9) = S (1500 + 10 * k + 9) - R := by rw [row, upd_ne (by omega), upd_ne (by omega), upd_eq]
  have w8 : wm1.1 149 (1500 + 10 * k + 8) = S (1500 + 10 * k + 8) - F := by rw [row, upd_ne (by omega), upd_ne (by omega), upd_ne (by omega), upd_eq]
  have wo : ∀ q, ¬ q = 1500 + 10 * k + 8 → ¬ q = 1500 + 10 * k + 9 → ¬ (4305 ≤ q ∧ q ≤ 4313) → wm1.1 149 q = S q := fun q a1 a2 a3 => by rw [row, upd_ne (by omega), upd_ne (by omega), upd_ne a2, upd_ne a1]
  have inv := inv_tank (S' := wm1.1 149) hI hn hk q1 (fun q a1 a2 a3 a4 a5 => wo q a3 a4 a5) (by rw [w8]; show 0 ≤ (wm.1 149 (1500 + 10 * k + 8) - F).toInt; rw [s3]; omega) (by rw [w9]; show 0 ≤ (wm.1 149 (1500 + 10 * k + 9) - R).toInt; rw [s4]; omega) (by rw [w8, w9]; show (wm.1 149 (1500 + 10 * k + 8) - F).toInt + (wm.1 149 (1500 + 10 * k + 9) - R).toInt ≤ _; rw [s3, s4]; omega) (by rw [wo _ (by omega) (by omega) (by omega)]; exact n1) (by rw [wo _ (by omega) (by omega) (by omega)]; exact n2) (by
    rw [w8, w9, wo (15 * k + 9) (by omega) (by omega) (by omega), wo (15 * k + 10) (by omega) (by omega) (by omega)]
    show (wm.1 149 (15 * k + 9)).toInt + (wm.1 149 (15 * k + 10)).toInt + (wm.1 149 (1500 + 10 * k + 8) - F).toInt + (wm.1 149 (1500 + 10 * k + 9) - R).toInt ≤ _
    rw [s3, s4]
    omega)
  exact ⟨F, R, _, wm1, hF, hR, by rw [← hJ, ← hK], by rw [← hK]; exact hw1, h.hf hf (au.yc inv.1), hf, inv.2⟩
theorem hf_allow {wc wm wc' wm' : Wd} (h1 : CF wc wc') (h2 : ∀ a, ¬ a = 148 → ¬ a = 163 → wm'.1 a = wm.1 a) (h3 : wm'.2 = wm.2) (h4 : ∀ j, ¬ (23 ≤ j ∧ j ≤ 27) → wm'.1 148 j = wm.1 148 j) : HF wc wm wc' wm' := ⟨fun a _ _ => by rw [h1.1], h1.2, fun a _ _ q3 q4 => h2 a q3 q4, h3, fun j _ q => h4 j q⟩
def outK (v1 : Int32) (v_16 : Bool × Wd) : Option Wd :=

    if v_16.1 = true then (
      (fX12_g (0 : Int32) v_16.2).bind fun v_18 => (
      (fX12_levelAt v_18 v_16.2).bind fun v_19 => (
      if inb (((1500 : Int32) + ((10 : Int32) * v1)) + (7 : Int32)) 4340 = true then (
      if v_19 < (ri v_16.2 149 (((1500 : Int32) + ((10 : Int32) * v1)) + (7 : Int32))) then (
        if inb (((1500 : Int32) + ((10 : Int32) * v1)) + (6 : Int32)) 4340 = true then (
        (fX12_least (ri v_16.2 149 (((1500 : Int32) + ((10 : Int32) * v1)) + (8 : Int32))) (ri v_16.2 149 (((1500 : Int32) + ((10 : Int32) * v1)) + (6 : Int32))) v_16.2).bind fun v_23 => (
        (fX12_least (ri v_16.2 149 (((1500 : Int32) + ((10 : Int32) * v1)) + (9 : Int32))) ((ri v_16.2 149 (((1500 : Int32) + ((10 : Int32) * v1)) + (6 : Int32))) - v_23) v_16.2).bind fun v_24 => (
        nw (wi v_16.2 149 (((1500 : Int32) + ((10 : Int32) * v1)) + (8 : Int32)) ((ri v_16.2 149 (((1500 : Int32) + ((10 : Int32) * v1)) + (8 : Int32))) - v_23)) fun w_25 => (
        nw (wi w_25 149 (((1500 : Int32) + ((10 : Int32) * v1)) + (9 : Int32)) ((ri w_25 149 (((1500 : Int32) + ((10 : Int32) * v1)) + (9 : Int32))) - v_24)) fun w_26 => (
        nw (wi w_26 149 (4308 : Int32) ((ri w_26 149 (4308 : Int32)) + v_24)) fun w_27 => (
        (fX12_g (0 : Int32) w_27).bind fun v_28 => (
        (fX12_isBack v_28 w_27).bind fun v_29 => (
        if v_29 = true then (
          nw (wi w_27 149 (4310 : Int32) ((ri w_27 149 (4310 : Int32)) + v_23)) fun w_31 => (
          some w_31))
        else (
          nw (wi w_27 149 (4309 : Int32) ((ri w_27 149 (4309 : Int32)) + v_23)) fun w_32 => (
          some w_32)))))))))) else none)
      else (
        some v_16.2)) else none)))
    else (
      some v_16.2)
theorem outs_pre {k : Nat} {wm : Wd} {F R : Int32} (hk : k < 100) (q1 : wm.1 149 (1500 + 10 * k) = 2) (hF : F = mmin (wm.1 149 (15 * k + 9)) (wm.1 149 (1500 + 10 * k + 5) - wm.1 149 (1500 + 10 * k + 8) - wm.1 149 (1500 + 10 * k + 9))) (hR : R = mmin (wm.1 149 (15 * k + 10)) (wm.1 149 (1500 + 10 * k + 5) - wm.1 149 (1500 + 10 * k + 8) - wm.1 149 (1500 + 10 * k + 9) - F)) : fX12_outs (iN k) wm = (fX12_isHeld 2 (iN k) (si (si (si (si wm 149 (15 * k + 9) (wm.1 149 (15 * k + 9) - F)) 149 (15 * k + 10) (wm.1 149 (15 * k + 10) - R)) 149 (1500 + 10 * k + 8) (wm.1 149 (1500 + 10 * k + 8) + F)) 149 (1500 + 10 * k + 9) (wm.1 149 (1500 + 10 * k + 9) + R))).bind (outK (iN k)) := by
  have m0 : ∀ w : Wd, ri w 149 (((1500 : Int32) + ((10 : Int32) * iN k)) + (0 : Int32)) = w.1 149 (1500 + 10 * k) := fun w => hri' hk (by decide)
  have i0 : inb (((1500 : Int32) + ((10 : Int32) * iN k)) + (0 : Int32)) 4340 = true := hwr' (w := wm) hk (by decide)
  have ec9 : fX12_c (iN k) 9 wm = some (wm.1 149 (15 * k + 9)) := mc_j hk (by decide)
  have ec10 : fX12_c (iN k) 10 wm = some (wm.1 149 (15 * k + 10)) := mc_j hk (by decide)
  unfold fX12_outs
  rw [i0, if_pos rfl, m0, if_pos q1, hwr' (w := wm) hk (by decide), if_pos rfl, hwr' (w := wm) hk (by decide), if_pos rfl, hwr' (w := wm) hk (by decide), if_pos rfl, hri' hk (by decide), hri' hk (by decide), hri' hk (by decide), ec9, ec10, Option.bind_some, least_eq, Option.bind_some, Option.bind_some, ← hF, least_eq, Option.bind_some, ← hR, mci hk (by decide), if_pos rfl, nw_eq, mci hk (by decide), if_pos rfl, nw_eq, nw_eq, nw_eq, mcw (by decide) hk, mcr (by decide) hk, mcw (by decide) hk, mcr (by decide) hk, hwi' hk (by decide), hri' hk (by decide), hwi' hk (by decide), hri' hk (by decide), z149 (show ¬ 15 * k + 10 = 15 * k + 9 by omega), z149 (show ¬ 1500 + 10 * k + 8 = 15 * k + 10 by omega), z149 (show ¬ 1500 + 10 * k + 8 = 15 * k + 9 by omega), z149 (show ¬ 1500 + 10 * k + 9 = 1500 + 10 * k + 8 by omega), z149 (show ¬ 1500 + 10 * k + 9 = 15 * k + 10 by omega), z149 (show ¬ 1500 + 10 * k + 9 = 15 * k + 9 by omega)]
  rfl
