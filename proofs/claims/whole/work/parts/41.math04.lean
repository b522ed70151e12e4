-- MATHEMATICS: m24
theorem restG_at2 {z : Nat} {w : Wd} : (restG z w).2 = w.2 := rfl
theorem Wlns_at2 {z a : Nat} {w : Wd} : ∀ k, (a < z + 36 ∨ z + 36 + 7 * k ≤ a) → (Wlns z w k).2 a = w.2 a
  | 0, _ => rfl
  | k + 1, h => by
    have e : ∀ j, j < 7 → ¬ a = z + 36 + 7 * k + j := fun j hj => by omega
    have e0 : ¬ a = z + 36 + 7 * k := by omega
    rw [← Wlns_at2 (z := z) (w := w) k (by omega)]
    show (Wln (z + 36 + 7 * k) (zi (Wlns z w k) (z + 36 + 7 * k))).2 a = _
    simp [Wln, zi, si, e0, e 1, e 2, e 3, e 4, e 5, e 6]
theorem WcityA_at2 {z a : Nat} {w : Wd} (h : a < z + 1 ∨ z + 35 < a) : (WcityA z w).2 a = w.2 a := by
  have e : ∀ j, 1 ≤ j → j ≤ 35 → ¬ a = z + j := fun j h1 h2 => by omega
  simp [WcityA, Wcg, Wcwt, Wchs, Wcom, zi, si, e 1, e 2, e 3, e 4, e 5, e 6, e 7, e 8, e 9, e 10, e 11, e 12, e 13, e 14, e 15, e 16, e 17, e 18, e 19, e 20, e 21, e 22, e 23, e 24, e 25, e 26, e 27, e 28, e 29, e 30, e 31, e 32, e 33, e 34, e 35]
theorem Wcity_at2 {z a : Nat} {w : Wd} (h : ¬ (z + 1 ≤ a ∧ a ≤ z + 91)) : (Wcity z (zi w (z + 1))).2 a = w.2 a := by
  unfold Wcity
  rw [restG_at2, Wlns_at2 8 (by omega), WcityA_at2 (by omega)]
  have e : ¬ a = z + 1 := by omega
  simp [zi, e]
theorem keepN_eq {d : Nat} {w : Wd} (hd : d < 6) : (∀ a, ¬ (200 + 100 * d + 1 ≤ a ∧ a ≤ 200 + 100 * d + 91) → ¬ a = 135 + 2 * d → (fX11_keepN (135 + 2 * d) w).1 a = w.1 a) ∧ ¬ (fX11_keepN (135 + 2 * d) w).1 (135 + 2 * d) 3 = 0 ∧ (∀ a, ¬ (200 + 100 * d + 1 ≤ a ∧ a ≤ 200 + 100 * d + 91) → (fX11_keepN (135 + 2 * d) w).2 a = w.2 a) := by
  unfold fX11_keepN
  rw [imZ_d']
  by_cases c : w.1 (135 + 2 * d) 3 = 0
  · rw [if_pos c]
    refine ⟨fun a h1 h2 => ?_, ?_, fun a h1 => ?_⟩
    · rw [si_oth h2, Wcity_at (by omega)]
    · rw [si_1, if_pos ⟨rfl, rfl⟩]
      decide
    · rw [si_2, Wcity_at2 (by omega)]
  · rw [if_neg c]
    exact ⟨fun _ _ _ => rfl, c, fun _ _ => rfl⟩
theorem keep_ok {n : Nat} {wc wm : Wd} {v1 : Int32} (h : YY n wc wm) : ∃ r wc' wm', fX11_keep v1 wc = some (r, wc') ∧ fX12_keep v1 wm = some (r, wm') ∧ YY n wc' wm' := by
  have h0 := h.thr (x := 0)
  unfold fX11_keep fX12_keep
  simp only [nw_eq, Option.bind_some, isCell_c, isCell_m, isTape_c, isTape_m, within_eq, in_eq, Int32.toInt_toInt64, decide_eq_true_eq, Int32.reduceToInt, Int64.reduceToInt, tn128, tm128, if_true, if_false, Bool.false_eq_true]
  by_cases h1 : 0 ≤ v1.toInt ∧ v1.toInt ≤ 5
  · obtain ⟨d, hd, rfl⟩ := tape_cases h1
    obtain ⟨⟨t1, t2, t3, t4⟩, t5, t6⟩ := h0.2.2.1 d hd
    obtain ⟨k1, k2, k3⟩ := keepN_eq (w := wc) hd
    rw [if_pos h1, if_pos h1, inb_lt2 hd (by omega), if_pos rfl, if_pos rfl, iN_clamp (by omega), wi_iN (by omega), wi_iN (by omega)]
    unfold fX11_keepC
    rw [imZ_d']
    have hN : YC (fX11_keepN (135 + 2 * d) wc) 0 ((si wm 148 0 0).1 149) n := h0.1.cong (fun a ha => k1 a (by omega) (by omega))
    obtain ⟨w1, e1, e2, e3, e4⟩ := become_ok (z := 200 + 100 * d) hN (Or.inr (by omega))
    obtain ⟨wm', g1, g2, g3, g4⟩ := keep_loop hd 4340 0 FU (si (si (si wm 148 0 0) 165 d 6) 166 d 0) (by omega) (by unfold FU; omega)
    rw [show iN 0 = 0 from rfl] at g1
    rw [e1, g1]
    simp only [Option.bind_some, nw_eq]
    have o149 : (si (si (si wm 148 0 0) 165 d 6) 166 d 0).1 149 = (si wm 148 0 0).1 149 := by rw [si_oth (by omega), si_oth (by omega)]
    have m165 : ∀ j, wm'.1 165 j = if j = d then 6 else (si wm 148 0 0).1 165 j := fun j => by
      rw [g2 _ (by omega), si_1, if_neg (by omega), si_1]
      simp
    have m166 : ∀ j, wm'.1 166 j = if j = d then 0 else (si wm 148 0 0).1 166 j := fun j => by
      rw [g2 _ (by omega), si_1, si_oth (by omega)]
      simp
    have cT : ∀ a, (si (si w1 (135 + 2 * d) 0 6) (135 + 2 * d) 1 0).1 a = if a = 135 + 2 * d then upd (upd (w1.1 a) 0 6) 1 0 else w1.1 a := fun a => by
      by_cases c : a = 135 + 2 * d
      · rw [if_pos c, c, si_row, si_row]
      · rw [if_neg c, si_oth c, si_oth c]
    have hour : (si (si w1 (135 + 2 * d) 0 6) (135 + 2 * d) 1 0).1 1 6 = (si (si (si wm 148 0 0) 165 d 6) 166 d 0).1 149 4300 := by
      rw [cT, if_neg (by omega), e3 _ (by omega), o149, hN.hour]
    refine ⟨_, _, _, rfl, by rw [hour], h0.tapes (h0.2.2.1.one (d0 := d) ⟨⟨?_, ?_, ?_, ?_⟩, fun i hi => ?_, fun q => ?_⟩ fun d' hd' hne => ⟨?_, ?_, ?_, ?_, fun i hi => ?_⟩) (fun d' hd' hk => ?_) (fun a ha hb => ?_) (fun a ha => ?_)⟩
    · rw [m165, if_pos rfl, cT, if_pos rfl, upd_ne (by omega), upd_eq]
    · rw [m165, if_pos rfl]
      exact ⟨by decide, by decide⟩
    · rw [m166, if_pos rfl, cT, if_pos rfl, upd_eq]
    · rw [m166, if_pos rfl]
      exact ⟨by decide, by decide⟩
    · rw [g3]
      show w1.2 (136 + 2 * d) i = _
      rw [e4, k3 _ (by omega)]
      exact t5 i hi
    · rw [m165, if_pos rfl] at q
      exact absurd q (by decide)
    · rw [cT, if_neg (by omega), e3 _ (by omega), k1 _ (by omega) (by omega)]
    · show w1.2 (136 + 2 * d') = _
      rw [e4, k3 _ (by omega)]
    · rw [m165, if_neg hne]
    · rw [m166, if_neg hne]
    · rw [g3]
      rfl
    · by_cases e : d' = d
      · subst e
        refine ⟨?_, ?_⟩
        · rw [cT, if_pos rfl, upd_ne (by omega), upd_ne (by omega), e3 _ (by omega)]
          exact k2
        · have hc : YC (si (si w1 (135 + 2 * d') 0 6) (135 + 2 * d') 1 0) (200 + 100 * d') ((si wm 148 0 0).1 149) n := e2.cong (fun a ha => by rw [cT, if_neg (by omega)])
          refine hc.congS (fun k hk => ?_)
          rw [g4, if_pos (by omega), o149, show 4340 * d' + k - 4340 * d' = k by omega]
      · rw [m165, if_neg e] at hk
        obtain ⟨f1, f2⟩ := h0.2.1 d' hd' hk
        refine ⟨?_, ?_⟩
        · rw [cT, if_neg (by omega), e3 _ (by omega), k1 _ (by omega) (by omega)]
          exact f1
        · have hc : YC (si (si w1 (135 + 2 * d) 0 6) (135 + 2 * d) 1 0) (200 + 100 * d') (fun k => (si wm 148 0 0).1 168 (4340 * d' + k)) n := f2.cong (fun a ha => by rw [cT, if_neg (by omega), e3 _ (by omega), k1 _ (by omega) (by omega)])
          refine hc.congS (fun k hk => ?_)
          rw [g4, if_neg (by omega), si_oth (by omega), si_oth (by omega)]
    · rw [cT, if_neg (by omega), e3 _ (by omega), k1 _ (by omega) (by omega)]
    · rw [g2 _ (by omega), si_oth (by omega), si_oth (by omega)]
  · rw [if_neg h1, if_neg h1]
    exact ⟨_, _, _, rfl, rfl, h0⟩
theorem foul_loop {w : Wd} {z n : Nat} {S : Nat → Int32} (h : YC w z S n) : ∀ (m k fuel : Nat), k + m = 100 → m < fuel → fX10_foulCellars_4 z w fuel (iN (cntN (fun i => decide (0 < S (15 * i + 11))) k)) (iN k) = some (iN (cntN (fun i => decide (0 < S (15 * i + 11))) 100))
  | 0, k, fuel + 1, hk, _ => by
    obtain rfl : k = 100 := by omega
    unfold fX10_foulCellars_4
    rw [if_neg (by decide)]
  | m + 1, k, fuel + 1, hk, hf => by
    have ih := foul_loop h m (k + 1) fuel (by omega) (by omega)
    have hp : iN k < (100 : Int32) := (iN_lt (b := 100) (by omega) (by omega)).mpr (by omega)
    have hv : w.1 (z + 17) k = S (15 * k + 11) := by
      have := h.1 (15 * k + 11) (by omega) (val_row (by omega) (by omega))
      unfold V at this
      rwa [loc_row (by omega) (by omega)] at this
    have hn : cntN (fun i => decide (0 < S (15 * i + 11))) (k + 1) = cntN (fun i => decide (0 < S (15 * i + 11))) k + (if decide (0 < S (15 * k + 11)) = true then 1 else 0) := rfl
    unfold fX10_foulCellars_4
    rw [if_pos hp, inb_lt2 (by omega) (by omega), if_pos rfl, ri_iN (by omega), hv]
    by_cases c : 0 < S (15 * k + 11)
    · rw [if_pos c, add_lit, add_lit]
      rw [hn, if_pos (decide_eq_true c)] at ih
      exact ih
    · rw [if_neg c, add_lit]
      rw [hn, if_neg (by simp [c])] at ih
      exact ih
theorem toss_loop {w : Wd} {d : Nat} (hd : d < 6) : ∀ (m k fuel : Nat), k + m = 100 → m < fuel → fX12_toss_52 fuel (iN d) (iN (cntN (fun i => decide (0 < w.1 168 (4340 * d + (15 * i + 11)))) k)) (iN k) w = if iN (cntN (fun i => decide (0 < w.1 168 (4340 * d + (15 * i + 11)))) 100) = 0 then ((fX12_host (-15 : Int32) w).bind fun v => some (v.1, v.2)) else some (iN (cntN (fun i => decide (0 < w.1 168 (4340 * d + (15 * i + 11)))) 100), w)
  | 0, k, fuel + 1, hk, _ => by
    obtain rfl : k = 100 := by omega
    unfold fX12_toss_52
    rw [if_neg (by decide)]
  | m + 1, k, fuel + 1, hk, hf => by
    have ih := toss_loop (w := w) hd m (k + 1) fuel (by omega) (by omega)
    have hp : iN k < (100 : Int32) := (iN_lt (b := 100) (by omega) (by omega)).mpr (by omega)
    have hn : cntN (fun i => decide (0 < w.1 168 (4340 * d + (15 * i + 11)))) (k + 1) = cntN (fun i => decide (0 < w.1 168 (4340 * d + (15 * i + 11)))) k + (if decide (0 < w.1 168 (4340 * d + (15 * k + 11))) = true then 1 else 0) := rfl
    unfold fX12_toss_52
    rw [if_pos hp, lit_mul, lit_mul, iN_add, add_lit, inb_lt2 (by omega) (by omega), if_pos rfl, ri_iN (by omega), show 4340 * d + 15 * k + 11 = 4340 * d + (15 * k + 11) by omega]
    by_cases c : 0 < w.1 168 (4340 * d + (15 * k + 11))
    · rw [if_pos c, add_lit, add_lit]
      rw [hn, if_pos (decide_eq_true c)] at ih
      exact ih
    · rw [if_neg c, Int32.add_zero, add_lit]
      rw [hn, if_neg (by simp [c])] at ih
      exact ih
theorem toss_ok {n : Nat} {wc wm : Wd} {v1 : Int32} (h : YY n wc wm) : ∃ r wc' wm', fX11_toss v1 wc = some (r, wc') ∧ fX12_toss v1 wm = some (r, wm') ∧ YY n wc' wm' := by
  have h0 := h.thr (x := 0)
  have hh : ∀ x, ∃ r wc' wm', ((fX11_refuse x wc).bind fun v => some (v.1, v.2)) = some (r, wc') ∧ ((fX12_host x (si wm 148 0 0)).bind fun v => some (v.1, v.2)) = some (r, wm') ∧ YY n wc' wm' := by
    intro x
    obtain ⟨wc', wm', e1, e2, e3⟩ := host_ok (x := x) h0
    rw [e1, e2]
    exact ⟨_, _, _, rfl, rfl, e3⟩
  unfold fX11_toss fX12_toss
  simp only [nw_eq, Option.bind_some, isCell_c, isCell_m, isTape_c, isTape_m, within_eq, in_eq, Int32.toInt_toInt64, decide_eq_true_eq, Int32.reduceToInt, Int64.reduceToInt, tn128, tm128, if_true, if_false, Bool.false_eq_true]
  by_cases h1 : 0 ≤ v1.toInt ∧ v1.toInt ≤ 5
  · obtain ⟨d, hd, rfl⟩ := tape_cases h1
    obtain ⟨⟨t1, t2, t3, t4⟩, t5, t6⟩ := h0.2.2.1 d hd
    rw [if_pos h1, if_pos h1, inb_lt2 hd (by omega), if_pos rfl, if_pos rfl, iN_clamp (by omega), ri_iN (by omega), t1]
    by_cases c0 : (si wm 148 0 0).1 165 d = 0
    · rw [if_pos c0, if_pos c0]
      exact hh _
    · rw [if_neg c0, if_neg c0]
      by_cases c6 : (si wm 148 0 0).1 165 d = 6
      · rw [if_pos c6, if_pos c6]
        obtain ⟨f1, f2⟩ := h0.2.1 d hd c6
        rw [if_neg f1, imZ_d', show fX10_foulCellars (200 + 100 * d) wc = _ from foul_loop f2 100 0 FU (by omega) (by unfold FU; omega), show fX12_toss_52 FU (iN d) 0 0 (si wm 148 0 0) = _ from toss_loop hd 100 0 FU (by omega) (by unfold FU; omega)]
        simp only [Option.bind_some]
        by_cases z : iN (cntN (fun i => decide (0 < (si wm 148 0 0).1 168 (4340 * d + (15 * i + 11)))) 100) = 0
        · rw [if_pos z, if_pos z]
          exact hh _
        · rw [if_neg z, if_neg z]
          exact ⟨_, _, _, rfl, rfl, h0⟩
      · rw [if_neg c6, if_neg c6]
        exact hh _
  · rw [if_neg h1, if_neg h1]
    exact ⟨_, _, _, rfl, rfl, h0⟩
-- MATHEMATICS: m25
def S0 (k : Nat) : Int32 := if k < 1500 then (if k % 15 = 0 then 100 else if k % 15 = 3 then 50 else if k % 15 = 6 then -1 else 0) else 0
theorem S0_row {c j : Nat} (hc : c < 100) (hj : j < 15) : S0 (15 * c + j) = if j = 0 then 100 else if j = 3 then 50 else if j = 6 then -1 else 0 := by
  unfold S0
  rw [if_pos (by omega), show (15 * c + j) % 15 = j by omega]
theorem S0_hi {k : Nat} (h : 1500 ≤ k) : S0 k = 0 := if_neg (by omega)
theorem start2_loop : ∀ (m k fuel : Nat) (w : Wd), k + m = 4340 → m < fuel → ∃ w1, fX12_start_2 fuel (iN k) w = fX12_start_24 FU 0 w1 ∧ (∀ a, ¬ a = 149 → w1.1 a = w.1 a) ∧ w1.2 = w.2 ∧ ∀ i, w1.1 149 i = if k ≤ i ∧ i < 4340 then 0 else w.1 149 i
  | 0, k, fuel + 1, w, hk, _ => by
    obtain rfl : k = 4340 := by omega
    unfold fX12_start_2
    rw [if_neg (by decide)]
    exact ⟨w, rfl, fun _ _ => rfl, rfl, fun i => by rw [if_neg (by omega)]⟩
  | m + 1, k, fuel + 1, w, hk, hf => by
    obtain ⟨w1, e1, e2, e3, e4⟩ := start2_loop m (k + 1) fuel (si w 149 k 0) (by omega) (by omega)
    have hp : iN k < (4340 : Int32) := (iN_lt (b := 4340) (by omega) (by omega)).mpr (by omega)
    unfold fX12_start_2
    rw [if_pos hp, inb_lt2 (by omega) (by omega), if_pos rfl, wi_iN (by omega), add_lit]
    refine ⟨w1, e1, fun a ha => by rw [e2 a ha, si_oth ha], by rw [e3]; rfl, fun i => ?_⟩
    rw [e4, si_1]
    by_cases c : i = k
    · rw [if_neg (by omega), if_pos ⟨rfl, c⟩, if_pos (by omega)]
    · by_cases c2 : k ≤ i ∧ i < 4340
      · rw [if_pos (by omega), if_pos c2]
      · rw [if_neg (by omega), if_neg (by omega), if_neg c2]
theorem start24_loop : ∀ (m k fuel : Nat) (w : Wd), k + m = 100 → m < fuel → ∃ w1, fX12_start_24 fuel (iN k) w = some w1 ∧ (∀ a, ¬ a = 149 → ¬ a = 148 → w1.1 a = w.1 a) ∧ w1.2 = w.2 ∧ (w1.1 148 21 = 0 ∧ w1.1 148 4 = 0 ∧ w1.1 148 6 = 0 ∧ w1.1 148 2 = 0) ∧ ∀ i, w1.1 149 i = if 15 * k ≤ i ∧ i < 1500 then (if i % 15 = 0 then 100 else if i % 15 = 3 then 50 else if i % 15 = 6 then -1 else w.1 149 i) else w.1 149 i
  | 0, k, fuel + 1, w, hk, _ => by
    obtain rfl : k = 100 := by omega
    unfold fX12_start_24
    rw [if_neg (by decide)]
    refine ⟨_, rfl, fun a h1 h2 => by rw [si_oth h2, si_oth h2, si_oth h2, si_oth h2], rfl, ⟨?_, ?_, ?_, ?_⟩, fun i => ?_⟩
    · rw [si_1, if_neg (by omega), si_1, if_neg (by omega), si_1, if_neg (by omega), si_1, if_pos ⟨rfl, rfl⟩]
    · rw [si_1, if_neg (by omega), si_1, if_neg (by omega), si_1, if_pos ⟨rfl, rfl⟩]
    · rw [si_1, if_neg (by omega), si_1, if_pos ⟨rfl, rfl⟩]
    · rw [si_1, if_pos ⟨rfl, rfl⟩]
    · rw [si_oth (by omega), si_oth (by omega), si_oth (by omega), si_oth (by omega), if_neg (by omega)]
  | m + 1, k, fuel + 1, w, hk, hf => by
    obtain ⟨w1, e1, e2, e3, e5, e4⟩ := start24_loop m (k + 1) fuel (si (si (si w 149 (15 * k + 0) 100) 149 (15 * k + 3) 50) 149 (15 * k + 6) (-1)) (by omega) (by omega)
    have hp : iN k < (100 : Int32) := (iN_lt (b := 100) (by omega) (by omega)).mpr (by omega)
    unfold fX12_start_24
    simp only [nw_eq]
    rw [if_pos hp, if_pos (mci (by omega) (by decide)), if_pos (mci (by omega) (by decide)), if_pos (mci (by omega) (by decide)), mcw (by decide) (by omega), mcw (by decide) (by omega), mcw (by decide) (by omega), add_lit]
    refine ⟨w1, e1, fun a h1 h2 => by rw [e2 a h1 h2, si_oth h1, si_oth h1, si_oth h1], by rw [e3]; rfl, e5, fun i => ?_⟩
    rw [e4, si_1, si_1, si_1]
    simp only [true_and]
    by_cases c : 15 * k ≤ i ∧ i < 15 * k + 15
    · rw [if_neg (by omega), if_pos (show 15 * k ≤ i ∧ i < 1500 by omega)]
      by_cases c0 : i = 15 * k + 0
      · rw [if_neg (by omega), if_neg (by omega), if_pos c0, if_pos (by omega)]
      · by_cases c3 : i = 15 * k + 3
        · rw [if_neg (by omega), if_pos c3, if_neg (by omega), if_pos (by omega)]
        · by_cases c6 : i = 15 * k + 6
          · rw [if_pos c6, if_neg (by omega), if_neg (by omega), if_pos (by omega)]
          · rw [if_neg c6, if_neg c3, if_neg c0, if_neg (by omega), if_neg (by omega), if_neg (by omega)]
    · rw [if_neg (show ¬ i = 15 * k + 6 by omega), if_neg (show ¬ i = 15 * k + 3 by omega), if_neg (show ¬ i = 15 * k + 0 by omega)]
      by_cases c2 : 15 * (k + 1) ≤ i ∧ i < 1500
      · rw [if_pos c2, if_pos (show 15 * k ≤ i ∧ i < 1500 by omega)]
      · rw [if_neg c2, if_neg (show ¬ (15 * k ≤ i ∧ i < 1500) by omega)]
theorem cntN_0 {p : Nat → Bool} : ∀ n, (∀ i, i < n → p i = false) → cntN p n = 0
  | 0, _ => rfl
  | n + 1, h => by
    show cntN p n + _ = 0
    rw [cntN_0 n (fun i hi => h i (by omega)), h n (by omega)]
    rfl
theorem sumN_0 {f : Nat → Int32} : ∀ n, (∀ i, i < n → f i = 0) → sumN f n = 0
  | 0, _ => rfl
  | n + 1, h => by
    show sumN f n + f n = 0
    rw [sumN_0 n (fun i hi => h i (by omega)), h n (by omega)]
    rfl
theorem sumZ_0 {f : Nat → Int} : ∀ n, (∀ i, i < n → f i = 0) → sumZ f n = 0
  | 0, _ => rfl
  | n + 1, h => by
    show sumZ f n + f n = 0
    rw [sumZ_0 n (fun i hi => h i (by omega)), h n (by omega)]
    rfl
theorem Inv_S0 {n : Nat} : Inv S0 n := by
  refine ⟨fun c hc => ?_, ⟨fun c hc => ?_, ?_, ?_⟩, ⟨?_, fun m hm => ?_⟩, ⟨?_, ?_, ?_, ?_, ?_, ?_⟩, fun c hc => ?_⟩
  · rw [show S0 (15 * c) = 100 from S0_row (j := 0) hc (by omega), S0_row hc (by omega), S0_row hc (by omega), S0_row hc (by omega), S0_row hc (by omega), S0_row hc (by omega), S0_row hc (by omega), S0_row hc (by omega), S0_row hc (by omega), S0_row hc (by omega)]
    exact ⟨⟨⟨by decide, by decide⟩, ⟨by decide, by decide⟩, ⟨by decide, by decide⟩, ⟨by decide, by decide⟩, ⟨by decide, by decide⟩, ⟨by decide, by decide⟩⟩, Or.inl rfl, ⟨by decide, by decide⟩, ⟨by decide, by decide⟩, ⟨by decide, by decide⟩⟩
  · unfold hs
    dsimp only
    rw [S0_hi (by omega), S0_hi (by omega), S0_hi (by omega), S0_hi (by omega), S0_hi (by omega), S0_hi (by omega), S0_hi (by omega), S0_hi (by omega), S0_hi (by omega), S0_hi (by omega)]
    exact ⟨⟨Or.inl rfl, fun q => absurd q (by decide), fun q => absurd q (by decide)⟩, ⟨by decide, by decide⟩, ⟨by decide, by decide⟩, fun _ => ⟨rfl, rfl⟩, fun q => absurd q (by decide)⟩
  · rw [cntN_0 100 (fun i _ => by rw [S0_hi (by omega)]; rfl)]
    rfl
  · rw [cntN_0 100 (fun i _ => by rw [S0_hi (by omega)]; rfl)]
    omega
  · rw [S0_hi (by omega)]
    exact ⟨by decide, by decide⟩
  · rw [S0_hi (by omega), z_I] at hm
    omega
  · rw [S0_hi (by omega)]
    exact ⟨by decide, by decide⟩
  · rw [S0_hi (by omega)]
    exact ⟨by decide, by decide⟩
  · rw [S0_hi (by omega)]
    exact ⟨by decide, by decide⟩
  · rw [S0_hi (by omega)]
    exact ⟨0, by omega, rfl⟩
  · rw [S0_hi (by omega)]
    exact ⟨by decide, by decide⟩
  · rw [S0_hi (by omega), sumN_0 100 (fun i hi => by rw [S0_row hi (by omega)]; rfl)]
  · unfold wtr
    have hz : coalZ S0 = 0 := sumZ_0 100 (fun i _ => by rw [S0_hi (by omega)]; rfl)
    rw [hz, S0_row hc (by omega), S0_row hc (by omega), S0_row hc (by omega), S0_row hc (by omega), S0_hi (by omega), S0_hi (by omega), S0_hi (by omega)]
    have z1 : (if (9 : Nat) = 0 then (100 : Int32) else if 9 = 3 then 50 else if 9 = 6 then -1 else 0).toInt = 0 := rfl
    have z2 : (if (10 : Nat) = 0 then (100 : Int32) else if 10 = 3 then 50 else if 10 = 6 then -1 else 0).toInt = 0 := rfl
    have z3 : (if (11 : Nat) = 0 then (100 : Int32) else if 11 = 3 then 50 else if 11 = 6 then -1 else 0).toInt = 0 := rfl
    have z4 : (if (12 : Nat) = 0 then (100 : Int32) else if 12 = 3 then 50 else if 12 = 6 then -1 else 0).toInt = 0 := rfl
    rw [z1, z2, z3, z4, z_I]
    omega
def beginW (w : Wd) : Wd := si (si (si (si ((fX0_restart w).getD w) 100 0 0) 102 0 0) 106 0 0) 0 7 0
theorem begin_c (w : Wd) : fX11_begin w = some (0, beginW w) := rfl
theorem beginW_oth {w : Wd} {a : Nat} (h : 92 ≤ a) (h0 : ¬ a = 100) (h2 : ¬ a = 102) (h6 : ¬ a = 106) : (beginW w).1 a = w.1 a := by
  have e : ∀ j, j ≤ 91 → ¬ a = j := fun j hj => by omega
  unfold beginW
  rw [si_oth (by omega), si_oth h6, si_oth h2, si_oth h0]
  simp [fX0_restart, fX2_restart, fX10_restart, fX3_restart, nw, flI, si, e]
theorem begin_row {w : Wd} {c j : Nat} (hc : c < 100) (hj : j < 15) : (beginW w).1 (rowA j) c = S0 (15 * c + j) := by
  rw [S0_row hc hj]
  have h9 : j = 0 ∨ j = 1 ∨ j = 2 ∨ j = 3 ∨ j = 4 ∨ j = 5 ∨ j = 6 ∨ j = 7 ∨ j = 8 ∨ j = 9 ∨ j = 10 ∨ j = 11 ∨ j = 12 ∨ j = 13 ∨ j = 14 := by omega
  rcases h9 with rfl | rfl | rfl | rfl | rfl | rfl | rfl | rfl | rfl | rfl | rfl | rfl | rfl | rfl | rfl <;> simp [beginW, rowA, fX0_restart, fX2_restart, fX10_restart, fX3_restart, nw, flI, si, upd, hc]
theorem begin_hse {w : Wd} {c : Nat} (hc : c < 100) : (beginW w).1 20 c = 0 ∧ (beginW w).1 28 c = 0 ∧ (beginW w).1 29 c = 0 := by
  refine ⟨?_, ?_, ?_⟩ <;> simp [beginW, fX0_restart, fX2_restart, fX10_restart, fX3_restart, nw, flI, si, upd, hc]
theorem begin_sc {w : Wd} {j : Nat} (hj : j < 18 ∧ j ≠ 14 ∧ j ≠ 17) : (beginW w).1 (scA j).1 (scA j).2 = 0 := by
  have h9 : j = 0 ∨ j = 1 ∨ j = 2 ∨ j = 3 ∨ j = 4 ∨ j = 5 ∨ j = 6 ∨ j = 7 ∨ j = 8 ∨ j = 9 ∨ j = 10 ∨ j = 11 ∨ j = 12 ∨ j = 13 ∨ j = 15 ∨ j = 16 := by omega
  rcases h9 with rfl | rfl | rfl | rfl | rfl | rfl | rfl | rfl | rfl | rfl | rfl | rfl | rfl | rfl | rfl | rfl <;> simp [beginW, scA, fX0_restart, fX2_restart, fX10_restart, fX3_restart, nw, flI, si, upd]
theorem begin_city {w : Wd} {n : Nat} : YC (beginW w) 0 S0 n := by
  refine ⟨fun k hk hv => ?_, fun m hm => ?_, Inv_S0⟩
  · by_cases d1 : k < 1500
    · obtain ⟨c, j, hc, hj, rfl⟩ : ∃ c j, c < 100 ∧ j < 15 ∧ k = 15 * c + j := ⟨k / 15, k % 15, by omega, by omega, by omega⟩
      unfold V
      rw [loc_row hc hj, Nat.zero_add]
      exact begin_row hc hj
    · by_cases d2 : k < 2500
      · obtain ⟨c, j, hc, hj, rfl⟩ : ∃ c j, c < 100 ∧ j < 10 ∧ k = 1500 + 10 * c + j := ⟨(k - 1500) / 10, (k - 1500) % 10, by omega, by omega, by omega⟩
        have hv2 := (val_hse hc hj).mp hv
        rw [S0_hi (by omega)] at hv2
        unfold V
        rw [loc_hse hc hj, Nat.zero_add, S0_hi (by omega)]
        obtain ⟨b1, b2, b3⟩ := begin_hse (w := w) hc
        rcases hv2 with rfl | q | q | q
        · exact b1
        · have h9 : j = 8 ∨ j = 9 := by omega
          rcases h9 with rfl | rfl
          · exact b2
          · exact b3
        · exact absurd q.2 (by decide)
        · exact absurd q.2 (by decide)
      · by_cases d3 : k < 3300
        · unfold val at hv
          rw [if_neg d1, if_neg d2, if_pos d3, S0_hi (by omega)] at hv
          exact absurd hv (Nat.not_lt_zero _)
        · by_cases d4 : k < 4300
          · unfold val at hv
            rw [if_neg d1, if_neg d2, if_neg d3, if_pos d4, S0_hi (k := 4315) (by omega)] at hv
            exact absurd hv.1 (Nat.not_lt_zero _)
          · obtain ⟨j, rfl⟩ : ∃ j, k = 4300 + j := ⟨k - 4300, by omega⟩
            unfold val at hv
            rw [if_neg d1, if_neg d2, if_neg d3, if_neg d4] at hv
            unfold V
            rw [loc_sc (by omega), Nat.zero_add, S0_hi (by omega)]
            exact begin_sc (by omega)
  · rw [S0_hi (by omega), z_I] at hm
    omega
theorem begin_ok {n : Nat} {wc wm : Wd} (h : YY n wc wm) : ∃ r wc' wm', fX11_begin wc = some (r, wc') ∧ fX12_begin wm = some (r, wm') ∧ YY n wc' wm' := by
  have h0 := h.thr (x := 0)
  rw [begin_c]
  unfold fX12_begin fX12_start
  rw [nw_eq]
  obtain ⟨w1, a1, a2, a3, a4⟩ := start2_loop 4340 0 FU (si wm 148 0 0) (by omega) (by unfold FU; omega)
  obtain ⟨w2, b1, b2, b3, b4, b5⟩ := start24_loop 100 0 FU w1 (by omega) (by unfold FU; omega)
  rw [show iN 0 = 0 from rfl] at a1 b1
  rw [a1, b1]
  have om : ∀ a, ¬ a = 149 → ¬ a = 148 → w2.1 a = (si wm 148 0 0).1 a := fun a h1 h2 => by rw [b2 a h1 h2, a2 a h1]
  have o2 : w2.2 = (si wm 148 0 0).2 := by rw [b3, a3]
  obtain ⟨-, b, c, -, -, -, -⟩ := h0
  obtain ⟨z21, z4, z6, z2⟩ := b4
  refine ⟨_, _, _, rfl, rfl, ?_, b.cong (fun a ha => beginW_oth (by omega) (by omega) (by omega) (by omega)) (om _ (by omega) (by omega)) (om _ (by omega) (by omega)), c.cong (fun a ha => ⟨beginW_oth (by omega) (by omega) (by omega) (by omega), rfl⟩) (om _ (by omega) (by omega)) (om _ (by omega) (by omega)) (by rw [o2]), ⟨?_, ?_, fun i hi => ?_⟩, ⟨?_, Or.inl z6, fun i hi => ?_, fun i c d hi => ?_, fun i j hij hj => ?_⟩, ⟨?_, ?_, fun k hk => ?_⟩, ?_⟩
  · refine begin_city.congS (fun k hk => ?_)
    rw [b5]
    unfold S0
    by_cases d1 : k < 1500
    · rw [if_pos (show 15 * 0 ≤ k ∧ k < 1500 by omega), if_pos d1, a4, if_pos (show 0 ≤ k ∧ k < 4340 by omega)]
    · rw [if_neg (show ¬ (15 * 0 ≤ k ∧ k < 1500) by omega), if_neg d1, a4, if_pos (show 0 ≤ k ∧ k < 4340 by omega)]
  · rw [z4]
    simp [beginW, si, upd]
  · rw [z4]
    exact ⟨by decide, by decide⟩
  · rw [z4, z_I] at hi
    omega
  · rw [z6]
    simp [beginW, si, upd]
  · rw [z6, z_I] at hi
    omega
  · rw [z6, z_I] at hi
    omega
  · rw [z6, z_I] at hj
    omega
  · rw [z21]
    simp [beginW, si, upd]
  · rw [z21]
    exact ⟨by decide, by decide⟩
  · rw [z21, z_I] at hk
    omega
  · rw [z2]
    simp [beginW, si, upd]
-- MATHEMATICS: m27
def strZ (cem wet bad age : Int32) : Int32 :=
  let b := if cem = 0 then (if wet = 1 then (mmin 100 (2 * age)) / 2 else mmin 100 (2 * age)) else mmin 300 (10 + 6 * age)
  if bad = 1 then b / 2 else b
theorem mmin_flip (x y : Int32) : (if x < y then x else y) = mmin x y := by
  unfold mmin
  by_cases h : x < y
  · have h2 : ¬ y < x := by
      rw [lt_I] at h ⊢
      omega
    rw [if_pos h, if_neg h2]
  · by_cases h2 : y < x
    · rw [if_neg h, if_pos h2]
    · rw [if_neg h, if_neg h2, eq_I]
      rw [lt_I] at h h2
      omega
theorem str_c {n m i : Nat} {w : Wd} {S : Nat → Int32} {age : Int32} (h : YC w 0 S n) (hm : (m : Int) < (S 4315).toInt) (hi : (i : Int) < (S (3300 + 125 * m)).toInt) : fX5_strength (36 + 7 * m) (iN i) age w = some (strZ (S (3302 + 125 * m)) (S (3304 + 125 * m + 6 * i + 4)) (S (3304 + 125 * m + 6 * i + 5)) age) := by
  have hl := (h.lenB hm).2
  have r4 : w.1 (36 + 7 * m + 5) i = S (3304 + 125 * m + 6 * i + 4) := by
    rw [show 36 + 7 * m + 5 = 37 + 7 * m + 4 by omega]
    exact h.lnI hm hi (by omega)
  have r5 : w.1 (36 + 7 * m + 6) i = S (3304 + 125 * m + 6 * i + 5) := by
    rw [show 36 + 7 * m + 6 = 37 + 7 * m + 5 by omega]
    exact h.lnI hm hi (by omega)
  have e53 : ∀ s, fX5_strength_53 (36 + 7 * m) (iN i) s w = some (if S (3304 + 125 * m + 6 * i + 5) = 1 then s / 2 else s) := fun s => by
    unfold fX5_strength_53
    rw [inb_lt2 (by omega) (by omega), if_pos rfl, ri_iN (by omega), r5]
    split <;> rfl
  unfold fX5_strength fX5_strength_31 strZ
  rw [h.cem hm, inb_lt2 (by omega) (by omega), ri_iN (by omega), r4, e53, e53, e53, e53]
  by_cases c : S (3302 + 125 * m) = 0
  · rw [if_pos c, if_pos c, if_pos rfl, if_pos c]
    split
    · split <;> rfl
    · split <;> rfl
  · rw [if_neg c, if_neg c, if_neg c]
theorem ml_2' {w : Wd} {n : Nat} (hn : n < 8) : fX12_l (iN n) 2 w = some (w.1 149 (3302 + 125 * n)) := ml_2 hn
theorem bear_m {n m i c : Nat} {wc w : Wd} {v3 : Int32} (h : YY n wc w) (hm : (m : Int) < (w.1 149 4315).toInt) (hi : (i : Int) < (w.1 149 (3300 + 125 * m)).toInt) (hc : c < 100) (e : w.1 149 (3304 + 125 * m + 6 * i) = iN c) : fX12_isBearing (iN m) (iN (3304 + 125 * m + 6 * i)) v3 w = some (decide (¬ strZ (w.1 149 (3302 + 125 * m)) (w.1 149 (3304 + 125 * m + 6 * i + 4)) (w.1 149 (3304 + 125 * m + 6 * i + 5)) (v3 - w.1 149 (3304 + 125 * m + 6 * i + 3)) < w.1 149 (15 * c) - w.1 149 (3304 + 125 * m + 6 * i + 1))) := by
  have hm8 := h.1.2.2.2.2.1.lt hm
  have hl := (h.1.lenB hm).2
  have e118 : ∀ s, fX12_isBearing_118 (iN (3304 + 125 * m + 6 * i)) s w = some (decide (¬ s < w.1 149 (15 * c) - w.1 149 (3304 + 125 * m + 6 * i + 1))) := fun s => by
    unfold fX12_isBearing_118
    rw [depth_m (by omega) hc e, Option.bind_some]
    by_cases q : s < w.1 149 (15 * c) - w.1 149 (3304 + 125 * m + 6 * i + 1)
    · rw [if_pos q, decide_eq_false (by simpa using q)]
    · rw [if_neg q, decide_eq_true q]
  have e97 : ∀ s, fX12_isBearing_97 (iN (3304 + 125 * m + 6 * i)) s w = some (decide (¬ (if w.1 149 (3304 + 125 * m + 6 * i + 5) = 1 then s / 2 else s) < w.1 149 (15 * c) - w.1 149 (3304 + 125 * m + 6 * i + 1))) := fun s => by
    unfold fX12_isBearing_97
    rw [add_lit, inb_lt2 (by omega) (by omega), if_pos rfl, ri_iN (by omega), e118, e118]
    split <;> rfl
  have e39 : ∀ s, fX12_isBearing_39 (iN (3304 + 125 * m + 6 * i)) s w = some (decide (¬ (if w.1 149 (3304 + 125 * m + 6 * i + 5) = 1 then (if w.1 149 (3304 + 125 * m + 6 * i + 4) = 1 then s / 2 else s) / 2 else (if w.1 149 (3304 + 125 * m + 6 * i + 4) = 1 then s / 2 else s)) < w.1 149 (15 * c) - w.1 149 (3304 + 125 * m + 6 * i + 1))) := fun s => by
    unfold fX12_isBearing_39
    rw [add_lit, inb_lt2 (by omega) (by omega), if_pos rfl, ri_iN (by omega), e97, e97]
    by_cases q : w.1 149 (3304 + 125 * m + 6 * i + 4) = 1
    · rw [if_pos q, if_pos q]
    · rw [if_neg q, if_neg q]
  unfold fX12_isBearing fX12_isBearing_95 strZ
  rw [add_lit, inb_lt2 (by omega) (by omega), if_pos rfl, ri_iN (by omega), ml_2 hm8, Option.bind_some, e39, e39, e97, e97]
  by_cases q : w.1 149 (3302 + 125 * m) = 0
  · rw [if_pos q, ← mmin_flip]
    simp only [q, if_true]
    by_cases q2 : (100 : Int32) < 2 * (v3 - w.1 149 (3304 + 125 * m + 6 * i + 3))
    · simp only [q2, if_true]
    · simp only [q2, if_false]
  · rw [if_neg q, ← mmin_flip]
    simp only [q, if_false]
    rw [← mmin_flip]
    by_cases q2 : (300 : Int32) < 10 + 6 * (v3 - w.1 149 (3304 + 125 * m + 6 * i + 3))
    · simp only [q2, if_true]
    · simp only [q2, if_false]
theorem today_eq {n : Nat} {wc wm : Wd} (h : YY n wc wm) : fX0_today wc = some (wm.1 149 4300 / 24) ∧ fX12_day wm = some (wm.1 149 4300 / 24) := by
  unfold fX0_today fX12_day
  rw [h.1.hour, mg_0]
  exact ⟨rfl, rfl⟩
theorem carry_loop {n m : Nat} {wc wm : Wd} (h : YY n wc wm) (hm : (m : Int) < (wm.1 149 4315).toInt) (hu : ∀ i : Nat, (i : Int) < (wm.1 149 (3300 + 125 * m)).toInt → ¬ wm.1 149 (3307 + 125 * m + 6 * i) = -9) : ∀ (q i fuel : Nat), ((i + q : Nat) : Int) = (wm.1 149 (3300 + 125 * m)).toInt → q < fuel → ∃ b, fX0_lineCarries_16 wc fuel (36 + 7 * m) (wm.1 149 4300 / 24) (iN i) = some b ∧ fX12_isCarrying_2 wm fuel (iN m) (iN i) = some b
  | 0, i, fuel + 1, hk, _ => by
    have hm8 := h.1.2.2.2.2.1.lt hm
    have hn : ¬ iN i < wm.1 149 (3300 + 125 * m) := by
      have := (h.1.lenB hm).2
      rw [lt_I, iN_toInt (by omega)]
      omega
    unfold fX0_lineCarries_16 fX12_isCarrying_2
    rw [h.1.len hm, ml_0 hm8, Option.bind_some, if_neg hn, if_neg hn]
    exact ⟨_, rfl, rfl⟩
  | q + 1, i, fuel + 1, hk, hf => by
    have hm8 := h.1.2.2.2.2.1.lt hm
    have hl := (h.1.lenB hm).2
    have hi : (i : Int) < (wm.1 149 (3300 + 125 * m)).toInt := by omega
    obtain ⟨b, ih1, ih2⟩ := carry_loop h hm hu q (i + 1) fuel (by omega) (by omega)
    have hp : iN i < wm.1 149 (3300 + 125 * m) := by
      rw [lt_I, iN_toInt (by omega)]
      omega
    obtain ⟨c, hc, q1, q2⟩ := lineCell h hm hi
    have r3 : wc.1 (36 + 7 * m + 4) i = wm.1 149 (3304 + 125 * m + 6 * i + 3) := by
      rw [show 36 + 7 * m + 4 = 37 + 7 * m + 3 by omega]
      exact h.1.lnI hm hi (by omega)
    have hu' := hu i hi
    rw [show 3307 + 125 * m + 6 * i = 3304 + 125 * m + 6 * i + 3 by omega] at hu'
    unfold fX0_lineCarries_16 fX12_isCarrying_2
    rw [h.1.len hm, ml_0 hm8, Option.bind_some, if_pos hp, if_pos hp, inb_lt2 (by omega) (by omega), if_pos rfl, ri_iN (by omega), str_c h.1 hm hi, depth_c h hm (by omega) hi hc q2, msp_eq]
    simp only [Option.bind_some]
    rw [add_lit, add_lit, inb_lt2 (by omega) (by omega), if_pos rfl, ri_iN (by omega), if_neg hu', (today_eq h).2, Option.bind_some, bear_m h hm hi hc q1, Option.bind_some, r3, ih1, ih2]
    by_cases z : strZ (wm.1 149 (3302 + 125 * m)) (wm.1 149 (3304 + 125 * m + 6 * i + 4)) (wm.1 149 (3304 + 125 * m + 6 * i + 5)) (wm.1 149 4300 / 24 - wm.1 149 (3304 + 125 * m + 6 * i + 3)) < wm.1 149 (15 * c) - wm.1 149 (3304 + 125 * m + 6 * i + 1)
    · rw [if_pos z, if_neg (by simpa using z)]
      exact ⟨_, rfl, rfl⟩
    · rw [if_neg z, if_pos (by simpa using z)]
      exact ⟨_, rfl, rfl⟩
theorem carrying_eq {n m : Nat} {wc wm : Wd} (h : YY n wc wm) (hm : (m : Int) < (wm.1 149 4315).toInt) : ∃ b, fX0_lineCarries (36 + 7 * m) wc = some b ∧ fX12_isCarrying (iN m) wm = some b := by
  have hm8 := h.1.2.2.2.2.1.lt hm
  have hl := h.1.lenB hm
  obtain ⟨u, u1, u2, u3, u4⟩ := h.1.2.1 m hm
  rw [Nat.zero_add] at u2
  unfold fX0_lineCarries
  rw [u2, (today_eq h).1]
  by_cases z : u = 0
  · subst z
    rw [if_neg (by decide)]
    have hk : ((0 + (wm.1 149 (3300 + 125 * m)).toNatClampNeg : Nat) : Int) = (wm.1 149 (3300 + 125 * m)).toInt := by
      have := cl_nat (x := wm.1 149 (3300 + 125 * m)) (by omega)
      omega
    have hz := carry_loop h hm (fun i hi => u4 i (Nat.zero_le _) hi) _ 0 FU hk (by unfold FU; omega)
    rw [show iN 0 = 0 from rfl] at hz
    unfold fX12_isCarrying
    rw [Option.bind_some]
    exact hz
  · have hp : 0 < iN u := by
      rw [lt_I, iN_toInt (by omega), z_I]
      omega
    rw [if_pos hp]
    refine ⟨false, rfl, ?_⟩
    have key : ∀ fuel, fX12_isCarrying_2 wm (fuel + 1) (iN m) 0 = some false := fun fuel => by
      rw [show (0 : Int32) = iN 0 from rfl]
      unfold fX12_isCarrying_2
      have h3 := u3 0 (by omega)
      rw [ml_0 hm8, Option.bind_some, if_pos (by rw [lt_I, iN_toInt (by omega)]; omega), msp_eq, Option.bind_some, add_lit, inb_lt2 (by omega) (by omega), if_pos rfl, ri_iN (by omega), show 3304 + 125 * m + 6 * 0 + 3 = 3307 + 125 * m + 6 * 0 by omega, if_pos h3]
    unfold fX12_isCarrying
    exact key 9999999
theorem carries_ok {n : Nat} {wc wm : Wd} {v1 : Int32} (h : YY n wc wm) : ∃ r wm', fX11_carries v1 wc = some r ∧ fX12_carries v1 wm = some (r, wm') ∧ YY n wc wm' := by
  have h0 := h.thr (x := 0)
  obtain ⟨m1, m2, m3⟩ := h0.many0
  unfold fX11_carries fX12_carries
  rw [nw_eq, isLine_c m1, isLine_m m2, h0.1.many]
  simp only [nw_eq, Option.bind_some, isCell_c, isCell_m, isTape_c, isTape_m, within_eq, in_eq, Int32.toInt_toInt64, decide_eq_true_eq, Int32.reduceToInt, Int64.reduceToInt, tn128, tm128, if_true, if_false, Bool.false_eq_true]
  by_cases h1 : 0 ≤ v1.toInt ∧ v1.toInt < ((si wm 148 0 0).1 149 4315).toInt
  · rw [if_pos h1, if_pos h1]
    obtain ⟨m, hm, rfl, hm2⟩ := line_cases h1 (by rw [← h0.1.many]; exact m3)
    obtain ⟨b, e1, e2⟩ := carrying_eq h0 hm2
    rw [inb_lt2 hm (by omega), iN_clamp (by omega), if_pos rfl, e1, e2]
    cases b
    · exact ⟨_, _, rfl, rfl, h0⟩
    · exact ⟨_, _, rfl, rfl, h0⟩
  · rw [if_neg h1, if_neg h1]
    exact ⟨_, _, rfl, rfl, h0⟩
-- MATHEMATICS: m28
theorem iN_sI {k : Nat} {x : Int32} (h0 : 0 ≤ x.toInt) (h1 : x.toInt + k < 2147483648) : (x + iN k).toInt = x.toInt + k := by
  have hk : k < 2147483648 := by omega
  rw [add_I (by rw [iN_toInt hk]; omega) (by rw [iN_toInt hk]; omega), iN_toInt hk]
theorem add_sub_x (x k : Int32) : x + k - x = k := by
  rw [Int32.add_comm, Int32.add_sub_cancel]
theorem half_mono : True := trivial
theorem strZ_50 {cem wet bad : Int32} {k : Nat} (hk : 50 ≤ k) (hk2 : k < 20000) : strZ cem wet bad (iN k) = strZ cem wet bad (iN 50) := by
  have e1 : mmin 100 (2 * iN k) = mmin 100 (2 * iN 50) := by
    have q : mmin 100 (2 * iN k) = 100 := by
      unfold mmin
      rw [show (2 : Int32) * iN k = iN (2 * k) from lit_mul 2 k, if_neg (by rw [lt_I, iN_toInt (by omega), show (100 : Int32).toInt = 100 from rfl]; omega)]
    rw [q]
    rfl
  have e2 : mmin 300 (10 + 6 * iN k) = mmin 300 (10 + 6 * iN 50) := by
    have q : mmin 300 (10 + 6 * iN k) = 300 := by
      unfold mmin
      rw [show (6 : Int32) * iN k = iN (6 * k) from lit_mul 6 k, show (10 : Int32) + iN (6 * k) = iN (10 + 6 * k) from lit_add 10 _, if_neg (by rw [lt_I, iN_toInt (by omega), show (300 : Int32).toInt = 300 from rfl]; omega)]
    rw [q]
    rfl
  unfold strZ
  rw [e1, e2]
theorem bears_c {n m i c : Nat} {wc wm : Wd} (h : YY n wc wm) (hm : (m : Int) < (wm.1 149 4315).toInt) (hi : (i : Int) < (wm.1 149 (3300 + 125 * m)).toInt) (dep : Int32) : ∀ (q k fuel : Nat), k + q = 51 → q < fuel → (∃ j, k ≤ j ∧ j ≤ 50 ∧ (∀ j', k ≤ j' → j' < j → strZ (wm.1 149 (3302 + 125 * m)) (wm.1 149 (3304 + 125 * m + 6 * i + 4)) (wm.1 149 (3304 + 125 * m + 6 * i + 5)) (iN j') < dep) ∧ ¬ strZ (wm.1 149 (3302 + 125 * m)) (wm.1 149 (3304 + 125 * m + 6 * i + 4)) (wm.1 149 (3304 + 125 * m + 6 * i + 5)) (iN j) < dep ∧ fX5_firstBearing_2 wc fuel (36 + 7 * m) (iN i) dep (iN k) = some (wm.1 149 (3304 + 125 * m + 6 * i + 3) + iN j)) ∨ ((∀ j', k ≤ j' → j' ≤ 50 → strZ (wm.1 149 (3302 + 125 * m)) (wm.1 149 (3304 + 125 * m + 6 * i + 4)) (wm.1 149 (3304 + 125 * m + 6 * i + 5)) (iN j') < dep) ∧ fX5_firstBearing_2 wc fuel (36 + 7 * m) (iN i) dep (iN k) = some (-1))
  | 0, k, fuel + 1, hk, _ => by
    obtain rfl : k = 51 := by omega
    refine Or.inr ⟨fun j' h1 h2 => by omega, ?_⟩
    unfold fX5_firstBearing_2
    rw [if_pos (by decide)]
  | q + 1, k, fuel + 1, hk, hf => by
    have hm8 := h.1.2.2.2.2.1.lt hm
    have hl := (h.1.lenB hm).2
    have hn : ¬ (50 : Int32) < iN k := by
      rw [lt_I, iN_toInt (by omega), show (50 : Int32).toInt = 50 from rfl]
      omega
    have r3 : wc.1 (36 + 7 * m + 4) i = wm.1 149 (3304 + 125 * m + 6 * i + 3) := by
      rw [show 36 + 7 * m + 4 = 37 + 7 * m + 3 by omega]
      exact h.1.lnI hm hi (by omega)
    have ih := bears_c h hm hi dep q (k + 1) fuel (by omega) (by omega) (c := c)
    unfold fX5_firstBearing_2
    rw [if_neg hn, str_c h.1 hm hi, Option.bind_some, inb_lt2 (by omega) (by omega), if_pos rfl, ri_iN (by omega), r3, add_lit]
    by_cases z : strZ (wm.1 149 (3302 + 125 * m)) (wm.1 149 (3304 + 125 * m + 6 * i + 4)) (wm.1 149 (3304 + 125 * m + 6 * i + 5)) (iN k) < dep
    · rw [if_pos z]
      rcases ih with ⟨j, j1, j2, j3, j4, j5⟩ | ⟨j3, j5⟩
      · refine Or.inl ⟨j, by omega, j2, fun j' a1 a2 => ?_, j4, j5⟩
        by_cases e : j' = k
        · rw [e]
          exact z
        · exact j3 j' (by omega) a2
      · refine Or.inr ⟨fun j' a1 a2 => ?_, j5⟩
        by_cases e : j' = k
        · rw [e]
          exact z
        · exact j3 j' (by omega) a2
    · rw [if_neg z]
      exact Or.inl ⟨k, Nat.le_refl _, by omega, fun j' a1 a2 => by omega, z, rfl⟩
theorem bears_m {n m i c L : Nat} {wc w : Wd} (h : YY n wc w) (hm : (m : Int) < (w.1 149 4315).toInt) (hi : (i : Int) < (w.1 149 (3300 + 125 * m)).toInt) (hc : c < 100) (e : w.1 149 (3304 + 125 * m + 6 * i) = iN c) (hL : w.1 149 (3304 + 125 * m + 6 * i + 3) = iN L) (hL2 : L < 9900) {j : Nat} (hj : L + j ≤ 10000) (hbad : ∀ j', j' < j → strZ (w.1 149 (3302 + 125 * m)) (w.1 149 (3304 + 125 * m + 6 * i + 4)) (w.1 149 (3304 + 125 * m + 6 * i + 5)) (iN j') < w.1 149 (15 * c) - w.1 149 (3304 + 125 * m + 6 * i + 1)) (hgood : L + j < 10000 → ¬ strZ (w.1 149 (3302 + 125 * m)) (w.1 149 (3304 + 125 * m + 6 * i + 4)) (w.1 149 (3304 + 125 * m + 6 * i + 5)) (iN j) < w.1 149 (15 * c) - w.1 149 (3304 + 125 * m + 6 * i + 1)) : ∀ (q k fuel : Nat), k + q = j → q < fuel → fX12_bears_49 fuel (iN m) (iN (3304 + 125 * m + 6 * i)) (iN (L + k)) w = some (if L + j < 10000 then iN (L + j) else -3, w)
  | 0, k, fuel + 1, hk, _ => by
    obtain rfl : k = j := by omega
    unfold fX12_bears_49
    by_cases z : L + k < 10000
    · have hn : ¬ (9999 : Int32) < iN (L + k) := by
        rw [lt_I, iN_toInt (by omega), show (9999 : Int32).toInt = 9999 from rfl]
        omega
      rw [if_neg hn, bear_m h hm hi hc e, Option.bind_some, hL, iN_sub (by omega), show L + k - L = k by omega, if_pos (by simpa using hgood z), if_pos z]
    · have hp : (9999 : Int32) < iN (L + k) := by
        rw [lt_I, iN_toInt (by omega), show (9999 : Int32).toInt = 9999 from rfl]
        omega
      rw [if_pos hp, if_neg z]
  | q + 1, k, fuel + 1, hk, hf => by
    have ih := bears_m h hm hi hc e hL hL2 hj hbad hgood q (k + 1) fuel (by omega) (by omega)
    have hn : ¬ (9999 : Int32) < iN (L + k) := by
      rw [lt_I, iN_toInt (by omega), show (9999 : Int32).toInt = 9999 from rfl]
      omega
    unfold fX12_bears_49
    rw [if_neg hn, bear_m h hm hi hc e, Option.bind_some, hL, iN_sub (by omega), show L + k - L = k by omega, if_neg (by simpa using hbad k (by omega)), add_lit]
    exact ih
theorem day_rng {x : Int32} (h : bt 0 99999 x) : x.toInt / 24 ≤ 4166 := by
  have := h.2
  omega
theorem bears_ok {n : Nat} {wc wm : Wd} {v1 v2 : Int32} (h : YY n wc wm) : ∃ r wm', fX11_bears v1 v2 wc = some r ∧ fX12_bears v1 v2 wm = some (r, wm') ∧ YY n wc wm' := by
  have h0 := h.thr (x := 0)
  unfold fX11_bears fX12_bears
  simp only [nw_eq]
  rcases onLine (v1 := v1) (v2 := v2) h0 with ⟨m, i, hm, hi, rfl, rfl, hm2, hi2, e1, e2⟩ | ⟨e1, e2⟩
  · rw [e1, e2, msp_eq]
    obtain ⟨c, hc, q1, q2⟩ := lineCell h0 hm2 hi2
    have r3 : wc.1 (36 + 7 * m + 4) i = (si wm 148 0 0).1 149 (3304 + 125 * m + 6 * i + 3) := by
      rw [show 36 + 7 * m + 4 = 37 + 7 * m + 3 by omega]
      exact h0.1.lnI hm2 hi2 (by omega)
    simp only [nw_eq, Option.bind_some, isCell_c, isCell_m, isTape_c, isTape_m, within_eq, in_eq, Int32.toInt_toInt64, decide_eq_true_eq, Int32.reduceToInt, Int64.reduceToInt, tn128, tm128, if_true, if_false, Bool.false_eq_true]
    rw [inb_lt2 hm (by omega), inb_lt2 hi (by omega), if_pos rfl, if_pos rfl, iN_clamp (by omega), ri_iN (by omega), add_lit, inb_lt2 (by omega) (by omega), if_pos rfl, ri_iN (by omega), r3]
    by_cases z : (si wm 148 0 0).1 149 (3304 + 125 * m + 6 * i + 3) = -9
    · rw [if_pos z, if_pos z]
      exact ⟨_, _, rfl, rfl, h0⟩
    · rw [if_neg z, if_neg z, depth_c h0 hm2 hi hi2 hc q2]
      simp only [Option.bind_some]
      have hb := ((h0.1.2.2.2.2.1.2 m hm2).2.1 i hi2).2.2.1
      rw [show (fun r => (si wm 148 0 0).1 149 (3300 + 125 * m + r)) (7 + 6 * i) = (si wm 148 0 0).1 149 (3304 + 125 * m + 6 * i + 3) from congrArg _ (by omega)] at hb
      have hg := h0.1.2.2.2.2.2.1.1
      have hb2 : bt 0 (((si wm 148 0 0).1 149 4300).toInt / 24) ((si wm 148 0 0).1 149 (3304 + 125 * m + 6 * i + 3)) := by
        rcases hb with hb | hb
        · exact absurd hb z
        · exact hb
      have hd := day_rng hg
      obtain ⟨L, hL, eL⟩ := of_range (v := (si wm 148 0 0).1 149 (3304 + 125 * m + 6 * i + 3)) 4167 hb2.1 (by have := hb2.2; omega)
      unfold fX5_firstBearing
      rcases bears_c (c := c) h0 hm2 hi2 ((si wm 148 0 0).1 149 (15 * c) - (si wm 148 0 0).1 149 (3304 + 125 * m + 6 * i + 1)) 51 0 FU (by omega) (by unfold FU; omega) with ⟨j, j1, j2, j3, j4, j5⟩ | ⟨j3, j5⟩
      · rw [show iN 0 = 0 from rfl] at j5
        have f : fX12_bears_49 FU (iN m) (iN (3304 + 125 * m + 6 * i)) (iN L) (si wm 148 0 0) = _ := bears_m h0 hm2 hi2 hc q1 eL (by omega) (j := j) (by omega) (fun j' a => j3 j' (Nat.zero_le _) a) (fun _ => j4) j 0 FU (by omega) (by unfold FU; omega)
        rw [j5, eL, Option.bind_some, iN_add, f, if_neg (iN_nneg (a := L + j) (by omega)), if_pos (show L + j < 10000 by omega)]
        exact ⟨_, _, rfl, rfl, h0⟩
      · rw [show iN 0 = 0 from rfl] at j5
        have f : fX12_bears_49 FU (iN m) (iN (3304 + 125 * m + 6 * i)) (iN L) (si wm 148 0 0) = _ := bears_m h0 hm2 hi2 hc q1 eL (by omega) (j := 10000 - L) (by omega) (fun j' a => by
          by_cases q : j' ≤ 50
          · exact j3 j' (Nat.zero_le _) q
          · rw [strZ_50 (by omega) (by omega)]
            exact j3 50 (by omega) (by omega)) (fun q => by omega) (10000 - L) 0 FU (by omega) (by unfold FU; omega)
        rw [j5, eL, Option.bind_some, f, if_pos (c := (-1 : Int32) < 0) (by decide), if_neg (show ¬ L + (10000 - L) < 10000 by omega)]
        exact ⟨_, _, rfl, rfl, h0⟩
  · rw [e1, e2]
    simp only [nw_eq, Option.bind_some, isCell_c, isCell_m, isTape_c, isTape_m, within_eq, in_eq, Int32.toInt_toInt64, decide_eq_true_eq, Int32.reduceToInt, Int64.reduceToInt, tn128, tm128, if_true, if_false, Bool.false_eq_true]
    exact ⟨_, _, rfl, rfl, h0⟩
theorem work_loop {w : Wd} {m u : Nat} (hm : m < 8) (h3 : ∀ i, i < u → w.1 149 (3307 + 125 * m + 6 * i) = -9) : ∀ (t fuel : Nat), u ≤ t → t ≤ 19 → t < fuel → (∀ i, u ≤ i → i < t → ¬ w.1 149 (3307 + 125 * m + 6 * i) = -9) → fX12_inWork_9 w fuel (iN m) (iN t - 1) = some (iN u - 1)
  | 0, fuel + 1, hu, _, _, _ => by
    obtain rfl : u = 0 := by omega
    unfold fX12_inWork_9
    rw [if_pos (by decide)]
    rfl
  | t + 1, fuel + 1, hu, ht, hf, h4 => by
    unfold fX12_inWork_9
    rw [iN_s1, if_neg (iN_nneg (by omega)), msp_eq, Option.bind_some, add_lit, inb_lt2 (by omega) (by omega), if_pos rfl, ri_iN (by omega), show 3304 + 125 * m + 6 * t + 3 = 3307 + 125 * m + 6 * t by omega, add_neg1]
    by_cases e : u = t + 1
    · rw [if_pos (h3 t (by omega)), e, iN_s1]
    · rw [if_neg (h4 t (by omega) (by omega))]
      exact work_loop hm h3 t fuel (by omega) (by omega) (by omega) (fun i a b => h4 i a (by omega))
theorem inWork_eq {n m : Nat} {wc wm : Wd} (h : YY n wc wm) (hm : (m : Int) < (wm.1 149 4315).toInt) : ∃ u : Nat, (u : Int) ≤ (wm.1 149 (3300 + 125 * m)).toInt ∧ wc.1 (36 + 7 * m) 4 = iN u ∧ (∀ i, i < u → wm.1 149 (3307 + 125 * m + 6 * i) = -9) ∧ (∀ i : Nat, u ≤ i → (i : Int) < (wm.1 149 (3300 + 125 * m)).toInt → ¬ wm.1 149 (3307 + 125 * m + 6 * i) = -9) ∧ fX5_inWork (36 + 7 * m) wc = some (iN u - 1) ∧ fX12_inWork (iN m) wm = some (iN u - 1) := by
  have hm8 := h.1.2.2.2.2.1.lt hm
  obtain ⟨l1, l2⟩ := h.1.lenB hm
  obtain ⟨u, u1, u2, u3, u4⟩ := h.1.2.1 m hm
  rw [Nat.zero_add] at u2
  refine ⟨u, u1, u2, u3, u4, ?_, ?_⟩
  · unfold fX5_inWork
    rw [u2, if_neg (by rw [lt_I, iN_toInt (by omega), show (19 : Int32).toInt = 19 from rfl]; omega)]
  · obtain ⟨t, ht, et⟩ := of_range (v := wm.1 149 (3300 + 125 * m)) 20 (by omega) (by omega)
    rw [et, iN_toInt (by omega)] at u1 u4
    unfold fX12_inWork
    rw [ml_0 hm8, Option.bind_some, et]
    exact work_loop hm8 u3 t FU (by omega) (by omega) (by unfold FU; omega) (fun i a b => u4 i a (by omega))
theorem shut_loop {n : Nat} {wc wm : Wd} {c : Nat} (hc : c < 100) (h : YY n wc wm) : ∀ (q m fuel : Nat), ((m + q : Nat) : Int) = (wm.1 149 4315).toInt → q < fuel → ∃ b, fX0_isShut_2 wc fuel (iN c) (iN m) = some b ∧ fX12_isShut_2 wm fuel (iN c) (iN m) = some b
  | 0, m, fuel + 1, hk, _ => by
    have h8 := h.1.2.2.2.2.1.1.2
    have hn : ¬ iN m < wm.1 149 4315 := by
      rw [lt_I, iN_toInt (by omega)]
      omega
    unfold fX0_isShut_2 fX12_isShut_2
    rw [h.1.many, mg_15, Option.bind_some, if_neg hn, if_neg hn]
    exact ⟨_, rfl, rfl⟩
  | q + 1, m, fuel + 1, hk, hf => by
    have h8 := h.1.2.2.2.2.1.1.2
    have hm : (m : Int) < (wm.1 149 4315).toInt := by omega
    obtain ⟨b, ih1, ih2⟩ := shut_loop hc h q (m + 1) fuel (by omega) (by omega)
    have hp : iN m < wm.1 149 4315 := by
      rw [lt_I, iN_toInt (by omega)]
      omega
    obtain ⟨l1, l2⟩ := h.1.lenB hm
    obtain ⟨u, u1, u2, u3, u4, w1, w2⟩ := inWork_eq h hm
    unfold fX0_isShut_2 fX12_isShut_2
    rw [h.1.many, mg_15, Option.bind_some, if_pos hp, if_pos hp, inb_lt2 (by omega) (by omega), if_pos rfl, iN_clamp (by omega), w1, ml_3 (by omega), Option.bind_some, Option.bind_some, h.1.gangs hm, w2, Option.bind_some]
    by_cases g : 0 < wm.1 149 (3303 + 125 * m)
    · rw [if_pos g, if_pos g]
      unfold fX12_isShut_30
      by_cases z : u = 0
      · subst z
        rw [if_pos (by decide), if_pos (by decide), add_lit]
        exact ⟨b, ih1, ih2⟩
      · have eu : iN u - 1 = iN (u - 1) := sub_lit (n := 1) (by show 1 ≤ u; omega)
        have hi : ((u - 1 : Nat) : Int) < (wm.1 149 (3300 + 125 * m)).toInt := by omega
        obtain ⟨d, hd, q1, q2⟩ := lineCell h hm hi
        have hne : ¬ iN (u - 1) = -1 := fun q => iN_nneg (a := u - 1) (by omega) (by rw [q]; decide)
        rw [eu, if_neg (iN_nneg (by omega)), if_neg hne, inb_lt2 (by omega) (by omega), if_pos rfl, ri_iN (by omega), show 36 + 7 * m + 1 = 37 + 7 * m by omega, q2, msp_eq, Option.bind_some, add_lit, add_lit, inb_lt2 (by omega) (by omega), if_pos rfl, ri_iN (by omega), show 3304 + 125 * m + 6 * (u - 1) + 0 = 3304 + 125 * m + 6 * (u - 1) from rfl, q1, ih1, ih2]
        by_cases e : iN d = iN c
        · rw [if_pos e]
          exact ⟨_, rfl, rfl⟩
        · rw [if_neg e]
          exact ⟨_, rfl, rfl⟩
    · rw [if_neg g, if_neg g]
      unfold fX12_isShut_30
      rw [if_pos rfl, add_lit]
      exact ⟨b, ih1, ih2⟩
theorem shut_eq {n : Nat} {wc wm : Wd} {c : Nat} (h : YY n wc wm) (hc : c < 100) : ∃ b, fX0_isShut (iN c) wc = some b ∧ fX12_isShut (iN c) wm = some b := by
  have h0 := cl_nat h.1.2.2.2.2.1.1.1
  have := shut_loop hc h (wm.1 149 4315).toNatClampNeg 0 FU (by omega) (by have := h.1.2.2.2.2.1.1.2; unfold FU; omega)
  rw [show iN 0 = 0 from rfl] at this
  exact this
-- MATHEMATICS: m29
def popS (S : Nat → Int32) (i : Nat) : Int32 := sumN (fun j => S (15 * (10 * i + j) + 2)) 10
theorem pop_c {w : Wd} {n i : Nat} {S : Nat → Int32} (h : YC w 0 S n) (hi : i < 10) : ∀ (q k fuel : Nat), k + q = 10 → q < fuel → fX2_peopleOf_4 w fuel (iN i) (sumN (fun j => S (15 * (10 * i + j) + 2)) k) (iN k) = some (popS S i)
  | 0, k, fuel + 1, hk, _ => by
    obtain rfl : k = 10 := by omega
    unfold fX2_peopleOf_4
    rw [if_neg (by decide)]
    rfl
  | q + 1, k, fuel + 1, hk, hf => by
    have ih := pop_c h hi q (k + 1) fuel (by omega) (by omega)
    have hp : iN k < (10 : Int32) := (iN_lt (b := 10) (by omega) (by omega)).mpr (by omega)
    have r := h.row (c := 10 * i + k) (j := 2) (by omega) (by omega)
    unfold fX2_peopleOf_4
    rw [if_pos hp, lit_mul, iN_add, inb_lt2 (by omega) (by omega), if_pos rfl, ri_iN (by omega), show w.1 5 (10 * i + k) = _ from r, add_lit]
    exact ih
theorem pop_m {w : Wd} {i : Nat} (hi : i < 10) : ∀ (q k fuel : Nat), k + q = 10 → q < fuel → fX12_vestry_4 w fuel (iN i) (sumN (fun j => w.1 149 (15 * (10 * i + j) + 2)) k) (iN k) = some (popS (w.1 149) i)
  | 0, k, fuel + 1, hk, _ => by
    obtain rfl : k = 10 := by omega
    unfold fX12_vestry_4
    rw [if_neg (by decide)]
    rfl
  | q + 1, k, fuel + 1, hk, hf => by
    have ih := pop_m (w := w) hi q (k + 1) fuel (by omega) (by omega)
    have hp : iN k < (10 : Int32) := (iN_lt (b := 10) (by omega) (by omega)).mpr (by omega)
    unfold fX12_vestry_4
    rw [if_pos hp, lit_mul, iN_add, show fX12_c (iN (10 * i + k)) 2 w = _ from mc_eq (j := 2) (by omega) (by omega), Option.bind_some, add_lit]
    exact ih
theorem people_c {w : Wd} {n i : Nat} {S : Nat → Int32} (h : YC w 0 S n) (hi : i < 10) : fX2_peopleOf (iN i) w = some (popS S i) := pop_c h hi 10 0 FU (by omega) (by unfold FU; omega)
theorem people_m {w : Wd} {i : Nat} (hi : i < 10) : fX12_vestry (iN i) w = some (popS (w.1 149) i) := pop_m hi 10 0 FU (by omega) (by unfold FU; omega)
theorem sumN_rng {f : Nat → Int32} {b : Int} (hb : 0 ≤ b) : ∀ k, (∀ i, i < k → 0 ≤ (f i).toInt ∧ (f i).toInt ≤ b) → (k : Int) * b < 2147483648 → 0 ≤ (sumN f k).toInt ∧ (sumN f k).toInt ≤ k * b
  | 0, _, _ => by
    show 0 ≤ (0 : Int32).toInt ∧ (0 : Int32).toInt ≤ ((0 : Nat) : Int) * b
    rw [z_I]
    omega
  | k + 1, h, hk => by
    have e : ((k + 1 : Nat) : Int) * b = k * b + b := by
      rw [Int.natCast_add, Int.add_mul]
      omega
    rw [e] at hk ⊢
    obtain ⟨i1, i2⟩ := sumN_rng hb k (fun i hi => h i (by omega)) (by omega)
    obtain ⟨j1, j2⟩ := h k (by omega)
    have : (sumN f k + f k).toInt = (sumN f k).toInt + (f k).toInt := add_I (by omega) (by omega)
    show 0 ≤ (sumN f k + f k).toInt ∧ (sumN f k + f k).toInt ≤ k * b + b
    omega
theorem pop_rng {S : Nat → Int32} {i : Nat} (h : IA S) (hi : i < 10) : 0 ≤ (popS S i).toInt ∧ (popS S i).toInt ≤ 99990 := by
  have := sumN_rng (f := fun j => S (15 * (10 * i + j) + 2)) (b := 9999) (by omega) 10 (fun j hj => (h (10 * i + j) (by omega)).1.2.2.1) (by omega)
  unfold popS
  omega
def totS (S : Nat → Int32) : Nat → Int64
  | 0 => 0
  | k + 1 => totS S k + (popS S k).toInt64
theorem ladd_I {a b : Int64} (h0 : -9223372036854775808 ≤ a.toInt + b.toInt) (h1 : a.toInt + b.toInt < 9223372036854775808) : (a + b).toInt = a.toInt + b.toInt := by
  rw [Int64.toInt_add]
  exact Int.bmod_eq_of_le (by omega) (by omega)
theorem lsub_I {a b : Int64} (h0 : -9223372036854775808 ≤ a.toInt - b.toInt) (h1 : a.toInt - b.toInt < 9223372036854775808) : (a - b).toInt = a.toInt - b.toInt := by
  rw [Int64.toInt_sub]
  exact Int.bmod_eq_of_le (by omega) (by omega)
theorem lmul_I {a b : Int64} (h0 : -9223372036854775808 ≤ a.toInt * b.toInt) (h1 : a.toInt * b.toInt < 9223372036854775808) : (a * b).toInt = a.toInt * b.toInt := by
  rw [Int64.toInt_mul]
  exact Int.bmod_eq_of_le (by omega) (by omega)
theorem llt_I {a b : Int64} : a < b ↔ a.toInt < b.toInt := Int64.lt_iff_toInt_lt
theorem leq_I {a b : Int64} : a = b ↔ a.toInt = b.toInt := Int64.toInt_inj.symm
theorem lz_I : (0 : Int64).toInt = 0 := rfl
theorem totS_rng {S : Nat → Int32} (h : IA S) : ∀ k, k ≤ 10 → 0 ≤ (totS S k).toInt ∧ (totS S k).toInt ≤ 99990 * k
  | 0, _ => by
    show 0 ≤ (0 : Int64).toInt ∧ (0 : Int64).toInt ≤ 99990 * ((0 : Nat) : Int)
    rw [lz_I]
    omega
  | k + 1, hk => by
    obtain ⟨i1, i2⟩ := totS_rng h k (by omega)
    obtain ⟨j1, j2⟩ := pop_rng h (i := k) (by omega)
    have : (totS S k + (popS S k).toInt64).toInt = (totS S k).toInt + (popS S k).toInt := by
      rw [ladd_I (by rw [Int32.toInt_toInt64]; omega) (by rw [Int32.toInt_toInt64]; omega), Int32.toInt_toInt64]
    show 0 ≤ (totS S k + (popS S k).toInt64).toInt ∧ (totS S k + (popS S k).toInt64).toInt ≤ 99990 * ((k + 1 : Nat) : Int)
    omega
theorem ldiv_I {a b : Int64} (ha : 0 ≤ a.toInt) (hb : 0 < b.toInt) : (a / b).toInt = a.toInt / b.toInt := by
  have h1 := Int64.toInt_lt a
  have h2 : a.toInt / b.toInt ≤ a.toInt := Int.ediv_le_self _ ha
  have h3 : 0 ≤ a.toInt / b.toInt := Int.ediv_nonneg ha (by omega)
  rw [Int64.toInt_div, Int.tdiv_eq_ediv_of_nonneg ha]
  exact Int.bmod_eq_of_le (by omega) (by omega)
theorem lrm_I {a b : Int64} (ha : 0 ≤ a.toInt) (hb : 0 < b.toInt) : (lrm a b).toInt = a.toInt % b.toInt := by
  have h1 := Int64.toInt_lt a
  have h2 := Int.emod_nonneg a.toInt (show b.toInt ≠ 0 by omega)
  have h9 : a.toInt % b.toInt < b.toInt := Int.emod_lt_of_pos _ hb
  have h10 := Int64.toInt_lt b
  have h3 := Int.mul_ediv_add_emod a.toInt b.toInt
  have h4 : (a / b * b).toInt = a.toInt - a.toInt % b.toInt := by
    have h5 : (a / b).toInt * b.toInt = a.toInt - a.toInt % b.toInt := by
      rw [ldiv_I ha hb, Int.mul_comm]
      omega
    have h7 : 0 ≤ a.toInt / b.toInt := Int.ediv_nonneg ha (by omega)
    have h6 : 0 ≤ b.toInt * (a.toInt / b.toInt) := Int.mul_nonneg (by omega) h7
    rw [lmul_I (by omega) (by omega), h5]
  unfold lrm
  rw [lsub_I (by omega) (by omega), h4]
  omega
theorem share28_c {w : Wd} {n : Nat} {S : Nat → Int32} {v1 v2 : Int32} (h : YC w 0 S n) : ∀ (q k fuel : Nat), k + q = 10 → q < fuel → fX11_share_28 fuel v1 v2 (totS S k) (iN k) w = if (0 : Int64) < totS S 10 then ((fX2_peopleOf v2 w).bind fun v_4 => fX11_share_97 FU v1 v2 (totS S 10) (v1.toInt64 * v_4.toInt64) v1.toInt64 0 0 w) else ((fX11_refuse (-16 : Int32) w).bind fun v_5 => some (v_5.1, v_5.2))
  | 0, k, fuel + 1, hk, _ => by
    obtain rfl : k = 10 := by omega
    unfold fX11_share_28
    rw [if_neg (by decide)]
  | q + 1, k, fuel + 1, hk, hf => by
    have ih := share28_c (v1 := v1) (v2 := v2) h q (k + 1) fuel (by omega) (by omega)
    have hp : iN k < (10 : Int32) := (iN_lt (b := 10) (by omega) (by omega)).mpr (by omega)
    unfold fX11_share_28
    rw [if_pos hp, people_c h (by omega), Option.bind_some, add_lit]
    exact ih
theorem share36_m {w : Wd} {v1 v2 : Int32} : ∀ (q k fuel : Nat), k + q = 10 → q < fuel → fX12_share_36 fuel v1 v2 (totS (w.1 149) k) (iN k) w = if totS (w.1 149) 10 = 0 then ((fX12_host (-16 : Int32) w).bind fun v_4 => some (v_4.1, v_4.2)) else fX12_share_79 FU v1 v2 (totS (w.1 149) 10) v1.toInt64 0 w
  | 0, k, fuel + 1, hk, _ => by
    obtain rfl : k = 10 := by omega
    unfold fX12_share_36
    rw [if_neg (by decide)]
  | q + 1, k, fuel + 1, hk, hf => by
    have ih := share36_m (w := w) (v1 := v1) (v2 := v2) q (k + 1) fuel (by omega) (by omega)
    have hp : iN k < (10 : Int32) := (iN_lt (b := 10) (by omega) (by omega)).mpr (by omega)
    unfold fX12_share_36
    rw [if_pos hp, people_m (by omega), Option.bind_some, add_lit]
    exact ih
def shR (P : Nat → Int64) (T : Int64) (v : Int64) : Nat → Int64
  | 0 => v
  | k + 1 => shR P T v k - P k / T
def shB (P : Nat → Int64) (T : Int64) (o : Nat) (i : Nat) : Bool := decide (lrm (P o) T < lrm (P i) T ∨ (lrm (P i) T = lrm (P o) T ∧ i < o))
def shE (P : Nat → Int64) (T v : Int64) (o : Nat) : Int32 := (P o / T).toInt32 + (if (iN (cntN (shB P T o) 10)).toInt64 < shR P T v 10 then 1 else 0)
theorem share97_c {w : Wd} {n o : Nat} {S : Nat → Int32} {v1 : Int32} {T : Int64} (h : YC w 0 S n) (ho : o < 10) (hT : 0 < T.toInt) (hp : ∀ i, i < 10 → 0 ≤ (v1.toInt64 * (popS S i).toInt64).toInt) : ∀ (q k fuel : Nat), k + q = 10 → q < fuel → fX11_share_97 fuel v1 (iN o) T (v1.toInt64 * (popS S o).toInt64) (shR (fun i => v1.toInt64 * (popS S i).toInt64) T v1.toInt64 k) (iN (cntN (shB (fun i => v1.toInt64 * (popS S i).toInt64) T o) k)) (iN k) w = some (shE (fun i => v1.toInt64 * (popS S i).toInt64) T v1.toInt64 o, w)
  | 0, k, fuel + 1, hk, _ => by
    obtain rfl : k = 10 := by omega
    have hz : ¬ T = 0 := by
      rw [leq_I, lz_I]
      omega
    unfold fX11_share_97 shE
    rw [if_neg (by decide), if_neg hz]
    by_cases c : (iN (cntN (shB (fun i => v1.toInt64 * (popS S i).toInt64) T o) 10)).toInt64 < shR (fun i => v1.toInt64 * (popS S i).toInt64) T v1.toInt64 10
    · rw [if_pos c, if_pos c]
    · rw [if_neg c, if_neg c]
  | q + 1, k, fuel + 1, hk, hf => by
    have ih := share97_c (o := o) h ho hT hp q (k + 1) fuel (by omega) (by omega)
    have hlt : iN k < (10 : Int32) := (iN_lt (b := 10) (by omega) (by omega)).mpr (by omega)
    have hz : ¬ T = 0 := by
      rw [leq_I, lz_I]
      omega
    have ra := lrm_I (hp k (by omega)) hT
    have rb := lrm_I (hp o ho) hT
    have ra0 := Int.emod_nonneg (v1.toInt64 * (popS S k).toInt64).toInt (show T.toInt ≠ 0 by omega)
    have ra1 := Int.emod_lt_of_pos (v1.toInt64 * (popS S k).toInt64).toInt hT
    have rb0 := Int.emod_nonneg (v1.toInt64 * (popS S o).toInt64).toInt (show T.toInt ≠ 0 by omega)
    have rb1 := Int.emod_lt_of_pos (v1.toInt64 * (popS S o).toInt64).toInt hT
    have t1 := Int64.toInt_lt T
    have hs : (lrm (v1.toInt64 * (popS S k).toInt64) T - lrm (v1.toInt64 * (popS S o).toInt64) T).toInt = (v1.toInt64 * (popS S k).toInt64).toInt % T.toInt - (v1.toInt64 * (popS S o).toInt64).toInt % T.toInt := by
      rw [lsub_I (by omega) (by omega), ra, rb]
    have h1 : (0 : Int64) < lrm (v1.toInt64 * (popS S k).toInt64) T - lrm (v1.toInt64 * (popS S o).toInt64) T ↔ lrm (v1.toInt64 * (popS S o).toInt64) T < lrm (v1.toInt64 * (popS S k).toInt64) T := by
      rw [llt_I, llt_I, hs, ra, rb, lz_I]
      omega
    have h2 : lrm (v1.toInt64 * (popS S k).toInt64) T - lrm (v1.toInt64 * (popS S o).toInt64) T = 0 ↔ lrm (v1.toInt64 * (popS S k).toInt64) T = lrm (v1.toInt64 * (popS S o).toInt64) T := by
      rw [leq_I, leq_I, hs, ra, rb, lz_I]
      omega
    have hn : cntN (shB (fun i => v1.toInt64 * (popS S i).toInt64) T o) (k + 1) = cntN (shB (fun i => v1.toInt64 * (popS S i).toInt64) T o) k + (if shB (fun i => v1.toInt64 * (popS S i).toInt64) T o k = true then 1 else 0) := rfl
    have hb : shB (fun i => v1.toInt64 * (popS S i).toInt64) T o k = true ↔ (lrm (v1.toInt64 * (popS S o).toInt64) T < lrm (v1.toInt64 * (popS S k).toInt64) T ∨ (lrm (v1.toInt64 * (popS S k).toInt64) T = lrm (v1.toInt64 * (popS S o).toInt64) T ∧ k < o)) := decide_eq_true_iff
    unfold fX11_share_97
    rw [if_pos hlt, people_c h (by omega), Option.bind_some, if_neg hz, if_neg hz, if_neg hz]
    by_cases c1 : lrm (v1.toInt64 * (popS S o).toInt64) T < lrm (v1.toInt64 * (popS S k).toInt64) T
    · rw [if_pos (h1.mpr c1), add_lit, add_lit]
      rw [hn, if_pos (hb.mpr (Or.inl c1))] at ih
      exact ih
    · rw [if_neg (fun q => c1 (h1.mp q))]
      by_cases c2 : lrm (v1.toInt64 * (popS S k).toInt64) T = lrm (v1.toInt64 * (popS S o).toInt64) T
      · rw [if_pos (h2.mpr c2)]
        by_cases c3 : k < o
        · rw [if_pos ((iN_lt (by omega) (by omega)).mpr c3), add_lit, add_lit]
          rw [hn, if_pos (hb.mpr (Or.inr ⟨c2, c3⟩))] at ih
          exact ih
        · rw [if_neg (fun q => c3 ((iN_lt (by omega) (by omega)).mp q)), add_lit]
          rw [hn, if_neg (fun q => by rcases hb.mp q with q | q; exact c1 q; exact c3 q.2)] at ih
          exact ih
      · rw [if_neg (fun q => c2 (h2.mp q)), add_lit]
        rw [hn, if_neg (fun q => by rcases hb.mp q with q | q; exact c1 q; exact c2 q.1)] at ih
        exact ih
theorem share128_m {w : Wd} {o : Nat} {v1 : Int32} {T : Int64} (ho : o < 10) (hT : ¬ T = 0) (R : Int64) : ∀ (q k fuel : Nat), k + q = 10 → q < fuel → fX12_share_128 fuel v1 (iN o) T R (lrm (v1.toInt64 * (popS (w.1 149) o).toInt64) T) (iN (cntN (shB (fun i => v1.toInt64 * (popS (w.1 149) i).toInt64) T o) k)) (iN k) w = some ((v1.toInt64 * (popS (w.1 149) o).toInt64 / T).toInt32 + (if (iN (cntN (shB (fun i => v1.toInt64 * (popS (w.1 149) i).toInt64) T o) 10)).toInt64 < R then 1 else 0), w)
  | 0, k, fuel + 1, hk, _ => by
    obtain rfl : k = 10 := by omega
    unfold fX12_share_128
    rw [if_neg (by decide), people_m ho, Option.bind_some, if_neg hT]
    split <;> rfl
  | q + 1, k, fuel + 1, hk, hf => by
    have ih := share128_m (w := w) (v1 := v1) ho hT R q (k + 1) fuel (by omega) (by omega)
    have hlt : iN k < (10 : Int32) := (iN_lt (b := 10) (by omega) (by omega)).mpr (by omega)
    have hn : cntN (shB (fun i => v1.toInt64 * (popS (w.1 149) i).toInt64) T o) (k + 1) = cntN (shB (fun i => v1.toInt64 * (popS (w.1 149) i).toInt64) T o) k + (if shB (fun i => v1.toInt64 * (popS (w.1 149) i).toInt64) T o k = true then 1 else 0) := rfl
    have hb : shB (fun i => v1.toInt64 * (popS (w.1 149) i).toInt64) T o k = true ↔ (lrm (v1.toInt64 * (popS (w.1 149) o).toInt64) T < lrm (v1.toInt64 * (popS (w.1 149) k).toInt64) T ∨ (lrm (v1.toInt64 * (popS (w.1 149) k).toInt64) T = lrm (v1.toInt64 * (popS (w.1 149) o).toInt64) T ∧ k < o)) := decide_eq_true_iff
    unfold fX12_share_128 fX12_share_177
    rw [if_pos hlt, people_m (by omega), Option.bind_some, if_neg hT]
    by_cases c1 : lrm (v1.toInt64 * (popS (w.1 149) o).toInt64) T < lrm (v1.toInt64 * (popS (w.1 149) k).toInt64) T
    · rw [if_pos c1, add_lit, add_lit]
      rw [hn, if_pos (hb.mpr (Or.inl c1))] at ih
      exact ih
    · rw [if_neg c1]
      by_cases c2 : lrm (v1.toInt64 * (popS (w.1 149) k).toInt64) T = lrm (v1.toInt64 * (popS (w.1 149) o).toInt64) T
      · rw [if_pos c2]
        by_cases c3 : k < o
        · rw [if_pos ((iN_lt (by omega) (by omega)).mpr c3), add_lit, add_lit]
          rw [hn, if_pos (hb.mpr (Or.inr ⟨c2, c3⟩))] at ih
          exact ih
        · rw [if_neg (fun q => c3 ((iN_lt (by omega) (by omega)).mp q)), Int32.add_zero, add_lit]
          rw [hn, if_neg (fun q => by rcases hb.mp q with q | q; exact c1 q; exact c3 q.2)] at ih
          exact ih
      · rw [if_neg c2, Int32.add_zero, add_lit]
        rw [hn, if_neg (fun q => by rcases hb.mp q with q | q; exact c1 q; exact c2 q.1)] at ih
        exact ih
theorem share79_m {w : Wd} {o : Nat} {v1 : Int32} {T : Int64} (ho : o < 10) (hT : ¬ T = 0) : ∀ (q k fuel : Nat), k + q = 10 → q < fuel → fX12_share_79 fuel v1 (iN o) T (shR (fun i => v1.toInt64 * (popS (w.1 149) i).toInt64) T v1.toInt64 k) (iN k) w = some (shE (fun i => v1.toInt64 * (popS (w.1 149) i).toInt64) T v1.toInt64 o, w)
  | 0, k, fuel + 1, hk, _ => by
    obtain rfl : k = 10 := by omega
    unfold fX12_share_79
    rw [if_neg (by decide), people_m ho, Option.bind_some, if_neg hT]
    exact share128_m ho hT _ 10 0 FU (by omega) (by unfold FU; omega)
  | q + 1, k, fuel + 1, hk, hf => by
    have ih := share79_m (w := w) (v1 := v1) ho hT q (k + 1) fuel (by omega) (by omega)
    have hlt : iN k < (10 : Int32) := (iN_lt (b := 10) (by omega) (by omega)).mpr (by omega)
    unfold fX12_share_79
    rw [if_pos hlt, people_m (by omega), Option.bind_some, if_neg hT, add_lit]
    exact ih
theorem share_ok {n : Nat} {wc wm : Wd} {v1 v2 : Int32} (h : YY n wc wm) : ∃ r wc' wm', fX11_share v1 v2 wc = some (r, wc') ∧ fX12_share v1 v2 wm = some (r, wm') ∧ YY n wc' wm' := by
  have h0 := h.thr (x := 0)
  unfold fX11_share fX12_share
  rw [nw_eq]
  simp only [nw_eq, Option.bind_some, isCell_c, isCell_m, isTape_c, isTape_m, within_eq, in_eq, Int32.toInt_toInt64, decide_eq_true_eq, Int32.reduceToInt, Int64.reduceToInt, tn128, tm128, if_true, if_false, Bool.false_eq_true, show (9999999 : Int32).toInt = 9999999 from rfl, show (9 : Int32).toInt = 9 from rfl]
  by_cases h1 : 0 ≤ v1.toInt ∧ v1.toInt ≤ 9999999
  · rw [if_pos h1, if_pos h1]
    by_cases h2 : 0 ≤ v2.toInt ∧ v2.toInt ≤ 9
    · obtain ⟨o, ho, rfl⟩ := of_range (v := v2) 10 h2.1 (by omega)
      rw [if_pos h2, if_pos h2, show fX11_share_28 FU v1 (iN o) 0 0 wc = _ from share28_c h0.1 10 0 FU (by omega) (by unfold FU; omega), show fX12_share_36 FU v1 (iN o) 0 0 (si wm 148 0 0) = _ from share36_m 10 0 FU (by omega) (by unfold FU; omega)]
      have ht := totS_rng h0.1.2.2.1 10 (by omega)
      by_cases z : totS ((si wm 148 0 0).1 149) 10 = 0
      · rw [if_pos z, z, if_neg (by decide)]
        obtain ⟨wc', wm', e1, e2, e3⟩ := host_ok (x := -16) h0
        rw [e1, e2]
        exact ⟨_, _, _, rfl, rfl, e3⟩
      · have z2 : 0 < (totS ((si wm 148 0 0).1 149) 10).toInt := by
          rw [leq_I, lz_I] at z
          omega
        have hp : ∀ i, i < 10 → 0 ≤ (v1.toInt64 * (popS ((si wm 148 0 0).1 149) i).toInt64).toInt := fun i hi => by
          obtain ⟨p1, p2⟩ := pop_rng h0.1.2.2.1 hi
          have q1 : 0 ≤ v1.toInt * (popS ((si wm 148 0 0).1 149) i).toInt := Int.mul_nonneg h1.1 p1
          have q2 : v1.toInt * (popS ((si wm 148 0 0).1 149) i).toInt ≤ 9999999 * 99990 := Int.mul_le_mul h1.2 p2 p1 (by omega)
          rw [lmul_I (by rw [Int32.toInt_toInt64, Int32.toInt_toInt64]; omega) (by rw [Int32.toInt_toInt64, Int32.toInt_toInt64]; omega), Int32.toInt_toInt64, Int32.toInt_toInt64]
          exact q1
        rw [if_neg z, if_pos (by rw [llt_I, lz_I]; exact z2), people_c h0.1 ho, Option.bind_some]
        rw [show fX11_share_97 FU v1 (iN o) (totS ((si wm 148 0 0).1 149) 10) (v1.toInt64 * (popS ((si wm 148 0 0).1 149) o).toInt64) v1.toInt64 0 0 wc = _ from share97_c h0.1 ho z2 hp 10 0 FU (by omega) (by unfold FU; omega), show fX12_share_79 FU v1 (iN o) (totS ((si wm 148 0 0).1 149) 10) v1.toInt64 0 (si wm 148 0 0) = _ from share79_m ho z 10 0 FU (by omega) (by unfold FU; omega)]
        exact ⟨_, _, _, rfl, rfl, h0⟩
    · rw [if_neg h2, if_neg h2]
      exact ⟨_, _, _, rfl, rfl, h0⟩
  · rw [if_neg h1, if_neg h1]
    exact ⟨_, _, _, rfl, rfl, h0⟩
-- MATHEMATICS: m30
theorem rul_loop {wc wm : Wd} (h : YL wc wm) {v1 v2 : Int32} : ∀ (q k fuel : Nat) (b : Option Nat), ((k + q : Nat) : Int) = (wm.1 148 21).toInt → q < fuel → (∀ j, b = some j → j < k) → ∃ r : Option Nat, fX4_ruling_5 wc fuel v1 v2 (enc1 b) (iN k) = some (enc1 r) ∧ fX12_forceOf_5 wm fuel v1 v2 (enc1 b) (iN k) = some (enc1 r) ∧ ∀ j, r = some j → (j : Int) < (wm.1 148 21).toInt
  | 0, k, fuel + 1, b, hk, _, hb => by
    obtain ⟨h1, h2, h3⟩ := h
    have h22 := h2.2
    have hn : ¬ iN k < wm.1 148 21 := by
      rw [lt_I, iN_toInt (by omega)]
      omega
    unfold fX4_ruling_5 fX12_forceOf_5
    rw [h1, if_neg hn, if_neg hn]
    exact ⟨b, rfl, rfl, fun j hj => by have := hb j hj; omega⟩
  | q + 1, k, fuel + 1, b, hk, hf, hb => by
    have h22 := h.2.1.2
    have ih := rul_loop h (v1 := v1) (v2 := v2) q (k + 1) fuel
    obtain ⟨h1, h2, h3⟩ := h
    have hp : iN k < wm.1 148 21 := by
      rw [lt_I, iN_toInt (by omega)]
      omega
    obtain ⟨a1, a2, -⟩ := h3 k (by omega)
    have keep := ih b (by omega) (by omega) (fun j hj => by have := hb j hj; omega)
    have new := ih (some k) (by omega) (by omega) (fun j hj => by cases hj; omega)
    unfold fX4_ruling_5 fX12_forceOf_5
    rw [h1, if_pos hp, if_pos hp, inb_lt2 (by omega) (by omega), if_pos rfl, if_pos rfl, ri_iN (by omega), ri_iN (by omega), ri_iN (by omega), ri_iN (by omega), a1, a2, add_lit]
    by_cases c1 : wm.1 159 k = v1
    · rw [if_pos c1, if_pos c1]
      by_cases c2 : v2 < wm.1 160 k
      · rw [if_pos c2, if_pos c2]
        exact keep
      · rw [if_neg c2, if_neg c2]
        cases b with
        | none =>
          rw [if_pos (show enc1 none < 0 by decide), if_pos (show enc1 none = -1 from rfl)]
          exact new
        | some j =>
          have hj := hb j rfl
          have e1 : ¬ enc1 (some j) < 0 := iN_nneg (by omega)
          have e2 : ¬ enc1 (some j) = -1 := fun q => e1 (by rw [q]; decide)
          obtain ⟨-, b2, -⟩ := h3 j (by omega)
          have r1 : inb (enc1 (some j)) 20 = true := inb_lt2 (by omega) (by omega)
          have r2 : ri wc 108 (enc1 (some j)) = wm.1 160 j := (ri_iN (by omega)).trans b2
          have r3 : ri wm 160 (enc1 (some j)) = wm.1 160 j := ri_iN (by omega)
          rw [if_neg e1, if_neg e2, r1, if_pos rfl, if_pos rfl, r2, r3]
          by_cases c3 : wm.1 160 k < wm.1 160 j
          · rw [if_pos c3, if_pos c3]
            exact keep
          · rw [if_neg c3, if_neg c3]
            exact new
    · rw [if_neg c1, if_neg c1]
      exact keep
theorem ruling_eq {wc wm : Wd} (h : YL wc wm) (v1 v2 : Int32) : ∃ r : Option Nat, fX4_ruling v1 v2 wc = some (enc1 r) ∧ fX12_forceOf v1 v2 wm = some (enc1 r) ∧ ∀ j, r = some j → (j : Int) < (wm.1 148 21).toInt := by
  have h1 := h.2.1.1
  have h2 := h.2.1.2
  have hc := cl_nat h1
  have := rul_loop h (v1 := v1) (v2 := v2) (wm.1 148 21).toNatClampNeg 0 FU none (by omega) (by unfold FU; omega) (fun j hj => by cases hj)
  rw [show iN 0 = 0 from rfl, show enc1 none = -1 from rfl] at this
  exact this
theorem inForce_ok {n : Nat} {wc wm : Wd} {v1 v2 : Int32} (h : YY n wc wm) : ∃ r wm', fX11_inForce v1 v2 wc = some r ∧ fX12_inForce v1 v2 wm = some (r, wm') ∧ YY n wc wm' := by
  have h0 := h.thr (x := 0)
  unfold fX11_inForce fX12_inForce
  rw [nw_eq]
  simp only [nw_eq, Option.bind_some, isCell_c, isCell_m, isTape_c, isTape_m, within_eq, in_eq, Int32.toInt_toInt64, decide_eq_true_eq, Int32.reduceToInt, Int64.reduceToInt, tn128, tm128, if_true, if_false, Bool.false_eq_true, show (2 : Int32).toInt = 2 from rfl, show (4999 : Int32).toInt = 4999 from rfl]
  by_cases h1 : 0 ≤ v1.toInt ∧ v1.toInt ≤ 2
  · rw [if_pos h1, if_pos h1]
    by_cases h2 : 0 ≤ v2.toInt ∧ v2.toInt ≤ 4999
    · rw [if_pos h2, if_pos h2]
      obtain ⟨r, e1, e2, e3⟩ := ruling_eq h0.2.2.2.2.2.1 v1 v2
      rw [e1, e2, Option.bind_some, Option.bind_some]
      cases r with
      | none =>
        rw [if_pos (show enc1 none < 0 by decide), if_pos (show enc1 none = -1 from rfl)]
        exact ⟨_, _, rfl, rfl, h0⟩
      | some j =>
        have hj := e3 j rfl
        have hb := h0.2.2.2.2.2.1.2.1.2
        have e1 : ¬ enc1 (some j) < 0 := iN_nneg (by omega)
        have e2 : ¬ enc1 (some j) = -1 := fun q => e1 (by rw [q]; decide)
        rw [if_neg e1, if_neg e2]
        exact ⟨_, _, rfl, rfl, h0⟩
    · rw [if_neg h2, if_neg h2]
      exact ⟨_, _, rfl, rfl, h0⟩
  · rw [if_neg h1, if_neg h1]
    exact ⟨_, _, rfl, rfl, h0⟩
