-- MATHEMATICS: m56
def SKl (w : Wd) : List Int64 → Prop
  | [] => True
  | a :: r => w.2 112 r.length = a ∧ SKl w r
def CF (w0 w : Wd) : Prop := w.1 = w0.1 ∧ ∀ a, ¬ a = 112 → w.2 a = w0.2 a
theorem SKl.keep {w : Wd} {i : Nat} {x : Int64} : ∀ {s : List Int64}, s.length ≤ i → SKl w s → SKl (sl w 112 i x) s
  | [], _, _ => trivial
  | a :: r, hi, h => by
    rw [List.length_cons] at hi
    refine ⟨?_, SKl.keep (by omega) h.2⟩
    rw [sl_2, if_neg (by omega)]
    exact h.1
theorem SKl.push {w : Wd} {x : Int64} {s : List Int64} (h : SKl w s) : SKl (sl w 112 s.length x) (x :: s) := by
  refine ⟨?_, h.keep (Nat.le_refl _)⟩
  rw [sl_2, if_pos ⟨rfl, rfl⟩]
theorem CF.put {w0 w : Wd} {i : Nat} {x : Int64} (h : CF w0 w) : CF w0 (sl w 112 i x) := by
  refine ⟨h.1, fun a ha => ?_⟩
  rw [← h.2 a ha]
  show (if a = 112 then _ else w.2 a) = w.2 a
  rw [if_neg ha]
theorem done_eq (d : Int32) (a b : Int64) (w : Wd) : fX4_done d a b w = some (dn8 d a b) := by
  unfold fX4_done dn8 fX4_bounded
  by_cases h1 : d = 38
  · rw [if_pos h1, if_pos h1]
  rw [if_neg h1, if_neg h1]
  by_cases h2 : d = 42
  · rw [if_pos h2, if_pos h2, Option.bind_some]
  rw [if_neg h2, if_neg h2]
  by_cases h3 : d = 43
  · rw [if_pos h3, if_pos h3, Option.bind_some]
  rw [if_neg h3, if_neg h3]
  by_cases h4 : d = 45
  · rw [if_pos h4, if_pos h4, Option.bind_some]
  rw [if_neg h4, if_neg h4]
  by_cases h5 : d = 60
  · rw [if_pos h5, if_pos h5]
    by_cases q : a < b
    · rw [if_pos q, if_pos q]
    · rw [if_neg q, if_neg q]
  rw [if_neg h5, if_neg h5]
  by_cases h6 : d = 61
  · rw [if_pos h6, if_pos h6]
    by_cases q : a = b
    · rw [if_pos q, if_pos q]
    · rw [if_neg q, if_neg q]
  rw [if_neg h6, if_neg h6]
  by_cases h7 : d = 62
  · rw [if_pos h7, if_pos h7]
    by_cases q : b < a
    · rw [if_pos q, if_pos q]
    · rw [if_neg q, if_neg q]
  rw [if_neg h7, if_neg h7]
theorem iN_sm1 {k : Nat} : iN (k + 1) + (-1 : Int32) = iN k := by rw [add_neg1, iN_s1]
theorem run_loop {w0 : Wd} {k M v2 : Nat} {F : Int32 → Int64} (hk : k < 20) (hM : M ≤ 60) (h109 : w0.1 109 k = iN M) (hF : ∀ b w, CF w0 w → fX4_factAt b (iN v2) w = some (F b)) : ∀ (c : List Int32) (i fuel : Nat) (s : List Int64) (w : Wd), i + c.length = M → s.length ≤ i → c.length < fuel → (∀ j x, c[j]? = some x → w0.1 (114 + k) (i + j) = x) → CF w0 w → SKl w s → ∃ w', fX4_allow_33 fuel (iN v2) (iN k) (iN s.length) (iN i) w = some (decide (¬ w'.2 112 0 = 0), w') ∧ CF w0 w' ∧ SKl w' (evs F c s)
  | [], i, fuel + 1, s, w, hi, hs, _, _, hc, hw => by
    rw [List.length_nil, Nat.add_zero] at hi
    rw [fX4_allow_33, inb_lt2 hk (by omega), if_pos rfl, ri_iN (by omega), hc.1, h109, hi, if_neg (by rw [lt_I]; exact Int.lt_irrefl _), show rl w 112 0 = w.2 112 0 from rfl]
    refine ⟨w, ?_, hc, hw⟩
    by_cases e : w.2 112 0 = 0
    · rw [if_pos e, decide_eq_false (by simpa using e)]
    · rw [if_neg e, decide_eq_true e]
  | x :: c, i, fuel + 1, s, w, hi, hs, hf, hx, hc, hw => by
    rw [List.length_cons] at hi hf
    have h0 : w.1 (114 + k) i = x := by
      rw [hc.1]
      exact hx 0 x rfl
    have hx' : ∀ j y, c[j]? = some y → w0.1 (114 + k) (i + 1 + j) = y := fun j y hy => by
      rw [show i + 1 + j = i + (j + 1) by omega]
      exact hx (j + 1) y (by rw [List.getElem?_cons_succ]; exact hy)
    have ih := fun (s : List Int64) (w : Wd) (hs : s.length ≤ i + 1) hc hw => run_loop hk hM h109 hF c (i + 1) fuel s w (by omega) hs (by omega) hx' hc hw
    rw [fX4_allow_33, inb_lt2 hk (by omega), if_pos rfl, ri_iN (by omega), hc.1, h109, if_pos ((iN_lt (by omega) (by omega)).mpr (by omega)), inb_lt2 (by omega) (by omega), if_pos rfl, iN_clamp (by omega), ri_iN (by omega), h0]
    show ∃ w', _ ∧ _ ∧ SKl w' (evs F c (ev1 F x s))
    unfold ev1
    by_cases c1 : x < 20000
    · rw [if_pos c1, if_pos c1]
      by_cases c2 : x < 10000
      · rw [if_pos c2, if_pos c2]
        unfold fX4_allow_99
        rw [inb_lt2 (by omega) (by omega), if_pos rfl, nw_eq, wl_iN (by omega), add_lit, add_lit]
        exact ih (x.toInt64 :: s) _ (by rw [List.length_cons]; omega) hc.put hw.push
      · rw [if_neg c2, if_neg c2, hF _ w hc, Option.bind_some]
        unfold fX4_allow_99
        rw [inb_lt2 (by omega) (by omega), if_pos rfl, nw_eq, wl_iN (by omega), add_lit, add_lit]
        exact ih (F (x - 10000) :: s) _ (by rw [List.length_cons]; omega) hc.put hw.push
    · rw [if_neg c1, if_neg c1]
      by_cases c2 : x = 20033
      · rw [if_pos c2, if_pos c2]
        cases s with
        | nil =>
          rw [if_neg (show ¬ (0 : Int32) < iN ([] : List Int64).length by decide), add_lit]
          exact ih [] w (by simp) hc hw
        | cons a r =>
          rw [List.length_cons] at hs
          have el : iN (a :: r).length - 1 = iN r.length := iN_s1 r.length
          rw [if_pos (show (0 : Int32) < iN (a :: r).length from (iN_lt (a := 0) (by omega) (by rw [List.length_cons]; omega)).mpr (by rw [List.length_cons]; omega)), el, inb_lt2 (by omega) (by omega), if_pos rfl, nw_eq, wl_iN (by omega), rl_iN (by omega), hw.1, add_lit]
          exact ih ((1 - a) :: r) _ (by rw [List.length_cons]; omega) hc.put hw.2.push
      · rw [if_neg c2, if_neg c2]
        cases s with
        | nil =>
          rw [if_neg (show ¬ (1 : Int32) < iN ([] : List Int64).length by decide), add_lit]
          exact ih [] w (by simp) hc hw
        | cons b s2 =>
          cases s2 with
          | nil =>
            rw [if_neg (show ¬ (1 : Int32) < iN [b].length from (by show ¬ (1 : Int32) < iN 1; decide)), add_lit]
            exact ih [b] w (by simp) hc hw
          | cons a r =>
            rw [List.length_cons, List.length_cons] at hs
            have e0 : iN (b :: a :: r).length = iN (r.length + 1 + 1) := rfl
            rw [e0, if_pos (show (1 : Int32) < iN (r.length + 1 + 1) from (iN_lt (a := 1) (by omega) (by omega)).mpr (by omega)), iN_sm1, iN_s1, inb_lt2 (by omega) (by omega), if_pos rfl, inb_lt2 (by omega) (by omega), if_pos rfl, rl_iN (by omega), rl_iN (by omega), hw.2.1, show w.2 112 (r.length + 1) = b from hw.1, done_eq, Option.bind_some, nw_eq, wl_iN (by omega), add_lit]
            exact ih (dn8 (x - 20000) a b :: r) _ (by rw [List.length_cons]; omega) hc.put hw.2.2.push
theorem held_loop2 {k L v2 : Nat} {kk : Int32} (hk : k < 20) (hL : L ≤ 60) : ∀ (m i fuel : Nat) (w : Wd), i + m = L → m < fuel → w.1 148 23 = iN L → ∃ w', fX12_isHeld_39 fuel (iN v2) (iN k) (iN i) w = ((fX12_reads (si w' 148 27 (iN v2))).bind fun v_6 => some (v_6.1, v_6.2)) ∧ (∀ a, ¬ a = 163 → w'.1 a = w.1 a) ∧ w'.2 = w.2 ∧ ∀ j, (j < i → w'.1 163 j = w.1 163 j) ∧ (i ≤ j → j < L → w'.1 163 j = w.1 162 (60 * k + j))
  | 0, i, fuel + 1, w, hi, _, hw => by
    rw [fX12_isHeld_39, hw, if_neg (fun e => by have := (iN_lt (by omega) (by omega)).mp e; omega), nw_eq]
    exact ⟨w, rfl, fun _ _ => rfl, rfl, fun j => ⟨fun _ => rfl, fun h1 h2 => by omega⟩⟩
  | m + 1, i, fuel + 1, w, hi, hf, hw => by
    rw [fX12_isHeld_39, hw, if_pos ((iN_lt (by omega) (by omega)).mpr (by omega)), lit_mul, iN_add, inb_lt2 (by omega) (by omega), if_pos rfl, inb_lt2 (by omega) (by omega), if_pos rfl, nw_eq, wi_iN (by omega), ri_iN (by omega), add_lit]
    obtain ⟨w', e1, e2, e3, e4⟩ := held_loop2 (kk := kk) hk hL m (i + 1) fuel (si w 163 i (w.1 162 (60 * k + i))) (by omega) (by omega) (by rw [si_oth (by omega)]; exact hw)
    refine ⟨w', e1, fun a ha => (e2 a ha).trans (si_oth ha), e3, fun j => ⟨fun hj => ?_, fun h1 h2 => ?_⟩⟩
    · rw [(e4 j).1 (by omega), si_1, if_neg (by omega)]
    · by_cases q : j = i
      · subst q
        rw [(e4 j).1 (by omega), si_at]
      · rw [(e4 j).2 (by omega) h2, si_oth (by omega)]
theorem allow_eq {n c : Nat} {wc wm : Wd} (h : YY n wc wm) (hc : c < 100) (hw : cel wm c) (kd : Int32) : ∃ b wc' wm', fX4_allow kd (iN c) wc = some (b, wc') ∧ fX12_isHeld kd (iN c) wm = some (b, wm') ∧ YY n wc' wm' ∧ CF wc wc' ∧ (∀ a, ¬ a = 148 → ¬ a = 163 → wm'.1 a = wm.1 a) ∧ wm'.2 = wm.2 ∧ ∀ j, ¬ (23 ≤ j ∧ j ≤ 27) → wm'.1 148 j = wm.1 148 j := by
  unfold fX4_allow fX12_isHeld
  obtain ⟨t1, t2⟩ := today_eq h
  rw [t1, t2, Option.bind_some, Option.bind_some]
  obtain ⟨r, r1, r2, r3⟩ := ruling_eq h.2.2.2.2.2.1 kd (wm.1 149 4300 / 24)
  rw [r1, r2, Option.bind_some, Option.bind_some]
  cases r with
  | none =>
    rw [if_pos (show enc1 none < 0 by decide), if_pos (show enc1 none = -1 from rfl)]
    refine ⟨if kd = 1 then false else true, wc, wm, ?_, ?_, h, ⟨rfl, fun _ _ => rfl⟩, fun _ _ _ => rfl, rfl, fun _ _ => rfl⟩
    · by_cases q : kd = 1
      · rw [if_pos q, if_pos q]
      · rw [if_neg q, if_neg q]
    · by_cases q : kd = 1
      · rw [if_pos q, if_pos q]
      · rw [if_neg q, if_neg q]
  | some k =>
    have hk1 := r3 k rfl
    obtain ⟨-, l2, l3⟩ := h.2.2.2.2.2.1
    have l22 := l2.2
    obtain ⟨-, -, m1, cd, p, p1, p2, p3, p4⟩ := l3 k hk1
    have hL := cl_nat m1.1
    have hL2 := m1.2
    have eL : wm.1 161 k = iN (wm.1 161 k).toNatClampNeg := by
      rw [eq_I, iN_toInt (by omega)]
      omega
    have e0 : enc1 (some k) = iN k := rfl
    rw [if_neg (show ¬ enc1 (some k) < 0 from iN_nneg (by omega)), if_neg (enc1_ne (by omega)), e0, inb_lt2 (by omega) (by omega), if_pos rfl, nw_eq, ri_iN (by omega)]
    obtain ⟨w1, a1, a2, a3, a4⟩ := held_loop2 (kk := 0) (k := k) (L := (wm.1 161 k).toNatClampNeg) (v2 := c) (by omega) (by omega) (wm.1 161 k).toNatClampNeg 0 FU (si wm 148 23 (wm.1 161 k)) (by omega) (by unfold FU; omega) (by rw [si_at]; exact eL)
    have f1 : ∀ a, ¬ a = 148 → ¬ a = 163 → (si w1 148 27 (iN c)).1 a = wm.1 a := fun a h1 h2 => by rw [si_oth h1, a2 a h2, si_oth h1]
    have f2 : (si w1 148 27 (iN c)).2 = wm.2 := a3
    have f3 : ∀ j, ¬ (23 ≤ j ∧ j ≤ 27) → (si w1 148 27 (iN c)).1 148 j = wm.1 148 j := fun j hj => by
      rw [si_1, if_neg (by omega), a2 148 (by omega), si_1, if_neg (by omega)]
    have hY : ∀ w, RF (si w1 148 27 (iN c)) w → YY n wc w := fun w hw => h.any rfl (fun _ _ => rfl) (fun a h1 h2 h3 h4 => (hw.1 a h2).trans (f1 a h2 h3)) (hw.2.2.trans f2) (fun j h1 h2 => (hw.2.1 j (by omega) (by omega) (by omega)).trans (f3 j (by omega)))
    have hcel : ∀ w, RF (si w1 148 27 (iN c)) w → cel w c := fun w q => by
      unfold cel
      rw [q.1 149 (by omega), f1 149 (by omega) (by omega)]
      exact hw
    have h27 : ∀ w, RF (si w1 148 27 (iN c)) w → w.1 148 27 = iN c := fun w hw => by rw [hw.2.1 27 (by omega) (by omega) (by omega), si_at]
    let F : Int32 → Int64 := fun b => (fX4_factAt b (iN c) wc).getD 0
    have hF1 : ∀ b w, RF (si w1 148 27 (iN c)) w → ∃ x, fX12_fact b w = some x ∧ F b = x.toInt64 := fun b w hw => by
      obtain ⟨x, x1, x2⟩ := fact_eq (hY w hw) hc (hcel w hw) (h27 w hw) b
      refine ⟨x, x2, ?_⟩
      show (fX4_factAt b (iN c) wc).getD 0 = _
      rw [x1]
      rfl
    have hF2 : ∀ b w, CF wc w → fX4_factAt b (iN c) w = some (F b) := fun b w hw => by
      have rf : RF (si w1 148 27 (iN c)) (si w1 148 27 (iN c)) := ⟨fun _ _ => rfl, fun _ _ _ _ => rfl, rfl⟩
      obtain ⟨x, x1, x2⟩ := fact_eq ((hY _ rf).any (wc' := w) hw.1 hw.2 (fun _ _ _ _ _ => rfl) rfl (fun _ _ _ => rfl)) hc (hcel _ rf) (h27 _ rf) b
      obtain ⟨y, y1, y2⟩ := hF1 b _ rf
      rw [x2] at y1
      cases y1
      rw [x1, y2]
    have ht : RT (fun i => wm.1 162 (60 * k + i)) (wm.1 161 k).toNatClampNeg F (si w1 148 27 (iN c)) := by
      refine ⟨by omega, ?_, fun i hi => ?_, fun b w _ hw => hF1 b w hw⟩
      · rw [si_1, if_neg (by omega), a2 148 (by omega), si_at]
        exact eL
      · rw [si_oth (by omega), (a4 i).2 (by omega) hi, si_oth (by omega)]
    obtain ⟨b, w2, b1, b2⟩ := all_r ht
    obtain ⟨b3, b4⟩ := b2.2 cd p p1
    obtain ⟨wc', c1, c2, c3⟩ := run_loop (w0 := wc) (k := k) (M := cd.length) (v2 := c) (F := F) (by omega) p2 p3 hF2 cd 0 FU [] wc (by omega) (Nat.le_refl _) (by unfold FU; omega) (fun j x hx => by rw [Nat.zero_add]; exact p4 j x hx) ⟨rfl, fun _ _ => rfl⟩ trivial
    rw [b4 []] at c3
    have c4 : decide (¬ wc'.2 112 0 = 0) = b := by
      rw [show wc'.2 112 0 = vb b from c3.1]
      cases b <;> decide
    rw [show iN 0 = 0 from rfl] at a1
    refine ⟨b, wc', w2, ?_, ?_, (hY w2 b3.1).any c2.1 c2.2 (fun _ _ _ _ _ => rfl) rfl (fun _ _ _ => rfl), c2, fun a h1 h2 => (b3.1.1 a h1).trans (f1 a h1 h2), b3.1.2.2.trans f2, fun j hj => (b3.1.2.1 j (by omega) (by omega) (by omega)).trans (f3 j hj)⟩
    · rw [← c4]
      exact c1
    · rw [a1, b1]
      rfl
-- MATHEMATICS: m57
theorem sumZ_nn {f : Nat → Int} : ∀ n, (∀ i, i < n → 0 ≤ f i) → 0 ≤ sumZ f n
  | 0, _ => Int.le_refl 0
  | n + 1, h => by
    have h1 := sumZ_nn n (fun i hi => h i (by omega))
    have h2 := h n (by omega)
    show 0 ≤ sumZ f n + f n
    omega
theorem coal_nn {S : Nat → Int32} (h : IH S) : 0 ≤ coalZ S := sumZ_nn 100 (fun c hc => by
  by_cases q : S (1500 + 10 * c) = 1
  · rw [if_pos q]
    have e : S (1503 + 10 * c) = S (1500 + 10 * c + 3) := by rw [show 1503 + 10 * c = 1500 + 10 * c + 3 by omega]
    rw [e]
    exact ((h.1 c hc).1.2.1 q).2.2.1.1
  · rw [if_neg q]
    exact Int.le_refl 0)
theorem wtr_nn {S : Nat → Int32} {n c : Nat} (hH : IH S) (hW : IW S n) (hc : c < 100) : 0 ≤ wtr S c := by
  have h1 := (hW c hc).1
  have h2 := (hH.1 c hc).2
  have h3 : 0 ≤ (S (1500 + 10 * c + 8)).toInt := h2.1.1
  have h4 : 0 ≤ (S (1500 + 10 * c + 9)).toInt := h2.2.1.1
  unfold wtr
  rw [show 1508 + 10 * c = 1500 + 10 * c + 8 by omega, show 1509 + 10 * c = 1500 + 10 * c + 9 by omega]
  omega
theorem cel_of {n c : Nat} {wc wm : Wd} (h : YY n wc wm) (hn : n ≤ 512) (hc : c < 100) : cel wm c := by
  obtain ⟨hA, hH, hL, hG, hW⟩ := h.1.2.2
  have h1 := coal_nn hH
  have h2 := wtr_nn hH hW hc
  obtain ⟨h3, h4, h5⟩ := hW c hc
  have h6 := hG.1.2
  unfold cel
  omega
theorem holds_ok {n : Nat} {wc wm : Wd} {v1 v2 : Int32} (h : YY n wc wm) (hn : n ≤ 512) : ∃ r wc' wm', fX11_holds v1 v2 wc = some (r, wc') ∧ fX12_holds v1 v2 wm = some (r, wm') ∧ YY n wc' wm' := by
  have h0 := h.thr (x := 0)
  unfold fX11_holds fX12_holds
  simp only [nw_eq, Option.bind_some, isCell_c, isCell_m, isTape_c, isTape_m, within_eq, in_eq, Int32.toInt_toInt64, decide_eq_true_eq, Int32.reduceToInt, Int64.reduceToInt, tn128, tm128, if_true, if_false, Bool.false_eq_true]
  by_cases h1 : 0 ≤ v1.toInt ∧ v1.toInt ≤ 2
  · simp only [if_pos h1]
    by_cases h2 : 0 ≤ v2.toInt ∧ v2.toInt ≤ 99
    · simp only [if_pos h2]
      obtain ⟨c, hc, rfl⟩ := int_cases 99 h2 (by omega)
      obtain ⟨b, wc', wm', e1, e2, e3, -⟩ := allow_eq h0 (show c < 100 by omega) (cel_of h0 hn (by omega)) v1
      rw [e1, e2, Option.bind_some, Option.bind_some]
      cases b
      · exact ⟨0, wc', wm', rfl, rfl, e3⟩
      · exact ⟨1, wc', wm', rfl, rfl, e3⟩
    · simp only [if_neg h2]
      exact ⟨-1, _, _, rfl, rfl, h0⟩
  · simp only [if_neg h1]
    exact ⟨-1, _, _, rfl, rfl, h0⟩
theorem YY.laws {n : Nat} {wc wc' wm wm' : Wd} (h : YY n wc wm) (hL : YL wc' wm') (e1 : ∀ a, ¬ (106 ≤ a ∧ a ≤ 133) → wc'.1 a = wc.1 a ∧ wc'.2 a = wc.2 a) (e2 : ∀ a, ¬ (159 ≤ a ∧ a ≤ 164) → ¬ a = 148 → wm'.1 a = wm.1 a) (e3 : wm'.2 = wm.2) (e4 : ∀ j, 2 ≤ j → j ≤ 8 → wm'.1 148 j = wm.1 148 j) : YY n wc' wm' := by
  obtain ⟨k1, k2, k3, k4, k5, -, k7⟩ := h
  refine ⟨?_, k2.cong (fun a ha => (e1 a (by omega)).1) (e2 _ (by omega) (by omega)) (e2 _ (by omega) (by omega)), k3.cong (fun a ha => e1 a (by omega)) (e2 _ (by omega) (by omega)) (e2 _ (by omega) (by omega)) (by rw [e3]), k4.cong (e1 _ (by omega)).1 (e1 _ (by omega)).1 (e4 4 (by omega) (by omega)) (e2 _ (by omega) (by omega)), k5.cong (fun a ha => (e1 a (by omega)).1) (fun j hj => e4 j (by omega) (by omega)) (e2 _ (by omega) (by omega)), hL, ?_⟩
  · rw [e2 149 (by omega) (by omega)]
    exact k1.cong (fun a ha => (e1 a (by omega)).1)
  · rw [(e1 0 (by omega)).1, e4 2 (by omega) (by omega)]
    exact k7
theorem pDig_cong {f f' : Nat → Int32} {L : Nat} (e : pk f L = pk f' L) : ∀ n v p, pDig f L n v p = pDig f' L n v p
  | 0, v, p => rfl
  | n + 1, v, p => by
    unfold pDig
    rw [e, pDig_cong e n]
theorem pUnit_cong {f f' : Nat → Int32} {L : Nat} (e : pk f L = pk f' L) : pUnit f L = pUnit f' L := by
  funext p
  unfold pUnit
  rw [e, pDig_cong e]
theorem pMore_cong {f f' : Nat → Int32} {L : Nat} {op : Int32 → Bool} {it : Nat → PR} (e : pk f L = pk f' L) : ∀ n c p, pMore op it f L n c p = pMore op it f' L n c p
  | 0, c, p => rfl
  | n + 1, c, p => by
    unfold pMore
    rw [e]
    split
    · split
      · rfl
      · exact pMore_cong e n _ _
    · rfl
theorem pRow_cong {f f' : Nat → Int32} {L : Nat} {op : Int32 → Bool} {it : Nat → PR} (e : pk f L = pk f' L) : pRow op it f L = pRow op it f' L := by
  funext p
  unfold pRow
  split
  · rfl
  · exact pMore_cong e _ _ _
theorem pSum_cong {f f' : Nat → Int32} {L : Nat} (e : pk f L = pk f' L) : pSum f L = pSum f' L := by
  show pRow _ (pUnit f L) f L = pRow _ (pUnit f' L) f' L
  rw [pUnit_cong e, pRow_cong e]
theorem pOrs_cong {f f' : Nat → Int32} {L : Nat} {it : Nat → PR} (e : pk f L = pk f' L) : pOrsOf it f L = pOrsOf it f' L := by
  show pRow _ (pRow _ it f L) f L = pRow _ (pRow _ it f' L) f' L
  rw [pRow_cong (it := it) e, pRow_cong e]
theorem pTest_cong {f f' : Nat → Int32} {L : Nat} (e : pk f L = pk f' L) : ∀ n, pTest f L n = pTest f' L n
  | 0 => by
    funext p
    unfold pTest
    rw [e, pSum_cong e]
  | n + 1 => by
    funext p
    unfold pTest
    rw [e, pSum_cong e, pTest_cong e n, pOrs_cong e]
theorem pAll_cong {f f' : Nat → Int32} {L : Nat} (h : ∀ i, i < L → f i = f' i) : pAll f L = pAll f' L := by
  have e : pk f L = pk f' L := by
    funext p
    unfold pk
    by_cases c : p < L
    · rw [if_pos c, if_pos c, h p c]
    · rw [if_neg c, if_neg c]
  unfold pAll
  rw [pTest_cong e, pOrs_cong e]
theorem ff_loop {v1 L : Nat} (hL : L ≤ 100) : ∀ (m i fuel : Nat) (w : Wd), i + m = L → m < fuel → w.1 106 9 = iN L → ∃ w', fX4_firstFault_15 fuel v1 (iN i) w = fX4_firstFault_15 1 v1 (iN L) w' ∧ (∀ a, ¬ a = 113 → w'.1 a = w.1 a) ∧ w'.2 = w.2 ∧ ∀ j, (j < i → w'.1 113 j = w.1 113 j) ∧ (i ≤ j → j < L → w'.1 113 j = (w.2 (v1 + 1) j).toInt32)
  | 0, i, fuel + 1, w, hi, _, hw => by
    obtain rfl : i = L := by omega
    refine ⟨w, ?_, fun _ _ => rfl, rfl, fun j => ⟨fun _ => rfl, fun h1 h2 => by omega⟩⟩
    rw [fX4_firstFault_15, fX4_firstFault_15, hw, if_neg (by rw [lt_I]; exact Int.lt_irrefl _), if_neg (by rw [lt_I]; exact Int.lt_irrefl _)]
  | m + 1, i, fuel + 1, w, hi, hf, hw => by
    rw [fX4_firstFault_15, hw, if_pos ((iN_lt (by omega) (by omega)).mpr (by omega)), inb_lt2 (by omega) (by omega), if_pos rfl, nw_eq, wi_iN (by omega), rl_iN (by omega), add_lit]
    obtain ⟨w', e1, e2, e3, e4⟩ := ff_loop (v1 := v1) hL m (i + 1) fuel (si w 113 i ((w.2 (v1 + 1) i).toInt32)) (by omega) (by omega) (by rw [si_oth (by omega)]; exact hw)
    refine ⟨w', e1, fun a ha => (e2 a ha).trans (si_oth ha), e3, fun j => ⟨fun hj => ?_, fun h1 h2 => ?_⟩⟩
    · rw [(e4 j).1 (by omega), si_1, if_neg (by omega)]
    · by_cases q : j = i
      · subst q
        rw [(e4 j).1 (by omega), si_at]
      · exact (e4 j).2 (by omega) h2
theorem ff_c {f : Nat → Int32} {v1 L : Nat} {w : Wd} (hL : L ≤ 100) (hv : ¬ v1 = 106) (h1 : w.1 v1 1 = iN L) (hf : ∀ i, i < L → (w.2 (v1 + 1) i).toInt32 = f i) : ∃ w0 w', fX4_firstFault v1 w = some (w'.1 106 11, w') ∧ CO f L (pAll f L) [] w0 w' ∧ (∀ a, ¬ a = 106 → ¬ a = 113 → w0.1 a = w.1 a) ∧ w0.2 = w.2 ∧ w0.1 106 0 = w.1 106 0 := by
  have hm : mmin (w.1 v1 1) 100 = iN L := by
    unfold mmin
    rw [h1, if_neg]
    intro e
    have := (iN_lt (a := 100) (by omega) (by omega)).mp e
    omega
  unfold fX4_firstFault
  rw [hm, nw_eq]
  obtain ⟨w', e1, e2, e3, e4⟩ := ff_loop (v1 := v1) hL L 0 FU (si w 106 9 (iN L)) (by omega) (by unfold FU; omega) si_at
  rw [show iN 0 = 0 from rfl] at e1
  rw [e1, fX4_firstFault_15, e2 106 (by omega), si_at, if_neg (by rw [lt_I]; exact Int.lt_irrefl _), nw_eq, nw_eq, nw_eq]
  have hS : CS f L 0 [] (si (si (si w' 106 8 0) 106 10 0) 106 11 (-1)) (si (si (si w' 106 8 0) 106 10 0) 106 11 (-1)) := by
    refine ⟨⟨?_, ⟨0, by omega, ?_⟩, ⟨0, by omega, ?_⟩, fun i hi => ?_, fun _ _ _ => rfl, rfl, rfl⟩, by omega, ?_, si_at, ?_, Nat.le_refl _, fun i x hx => by simp at hx⟩
    · rw [si_1, if_neg (by omega), si_1, if_neg (by omega), si_1, if_neg (by omega), e2 106 (by omega), si_at]
    · rw [si_1, if_neg (by omega), si_at]
      rfl
    · rw [si_1, if_neg (by omega), si_1, if_neg (by omega), si_at]
      rfl
    · rw [si_oth (by omega), si_oth (by omega), si_oth (by omega), (e4 i).2 (by omega) hi]
      exact hf i hi
    · rw [si_1, if_neg (by omega), si_at]
      rfl
    · rw [si_1, if_neg (by omega), si_1, if_neg (by omega), si_at]
      rfl
  obtain ⟨w2, d1, d2⟩ := all_c hL hS
  refine ⟨_, w2, d1, d2, fun a h1 h2 => ?_, e3, ?_⟩
  · rw [si_oth h1, si_oth h1, si_oth h1, e2 a h2, si_oth h1]
  · rw [si_1, if_neg (by omega), si_1, if_neg (by omega), si_1, if_neg (by omega), e2 106 (by omega), si_1, if_neg (by omega)]
theorem lt_loop {v1 v2 : Int32} {d L : Nat} (hd : d < 6) (hL : L ≤ 100) : ∀ (m i fuel : Nat) (w : Wd), i + m = L → m < fuel → w.1 148 23 = iN L → ∃ w', fX12_law_95 fuel v1 v2 (iN d) (iN i) w = fX12_law_95 1 v1 v2 (iN d) (iN L) w' ∧ (∀ a, ¬ a = 163 → w'.1 a = w.1 a) ∧ w'.2 = w.2 ∧ ∀ j, (j < i → w'.1 163 j = w.1 163 j) ∧ (i ≤ j → j < L → w'.1 163 j = (w.2 167 (100 * d + j)).toInt32)
  | 0, i, fuel + 1, w, hi, _, hw => by
    obtain rfl : i = L := by omega
    refine ⟨w, ?_, fun _ _ => rfl, rfl, fun j => ⟨fun _ => rfl, fun h1 h2 => by omega⟩⟩
    rw [fX12_law_95, fX12_law_95, hw, if_neg (by rw [lt_I]; exact Int.lt_irrefl _), if_neg (by rw [lt_I]; exact Int.lt_irrefl _)]
  | m + 1, i, fuel + 1, w, hi, hf, hw => by
    rw [fX12_law_95, hw, if_pos ((iN_lt (by omega) (by omega)).mpr (by omega)), lit_mul, iN_add, inb_lt2 (by omega) (by omega), if_pos rfl, inb_lt2 (by omega) (by omega), if_pos rfl, nw_eq, wi_iN (by omega), rl_iN (by omega), add_lit]
    obtain ⟨w', e1, e2, e3, e4⟩ := lt_loop (v1 := v1) (v2 := v2) hd hL m (i + 1) fuel (si w 163 i ((w.2 167 (100 * d + i)).toInt32)) (by omega) (by omega) (by rw [si_oth (by omega)]; exact hw)
    refine ⟨w', e1, fun a ha => (e2 a ha).trans (si_oth ha), e3, fun j => ⟨fun hj => ?_, fun h1 h2 => ?_⟩⟩
    · rw [(e4 j).1 (by omega), si_1, if_neg (by omega)]
    · by_cases q : j = i
      · subst q
        rw [(e4 j).1 (by omega), si_at]
      · exact (e4 j).2 (by omega) h2
theorem lc_loop {k L : Nat} (hk : k < 20) (hL : L ≤ 60) : ∀ (m i fuel : Nat) (w : Wd), i + m = L → m < fuel → w.1 148 23 = iN L → w.1 148 21 = iN k → ∃ w', fX12_law_213 fuel (iN i) w = some (iN k, w') ∧ (∀ a, ¬ a = 162 → ¬ a = 148 → w'.1 a = w.1 a) ∧ w'.2 = w.2 ∧ w'.1 148 21 = iN (k + 1) ∧ (∀ j, ¬ j = 21 → w'.1 148 j = w.1 148 j) ∧ ∀ j, (¬ (60 * k + i ≤ j ∧ j < 60 * k + L) → w'.1 162 j = w.1 162 j) ∧ (60 * k + i ≤ j → j < 60 * k + L → w'.1 162 j = w.1 163 (j - 60 * k))
  | 0, i, fuel + 1, w, hi, _, hw, hk2 => by
    obtain rfl : i = L := by omega
    rw [fX12_law_213, hw, if_neg (by rw [lt_I]; exact Int.lt_irrefl _), nw_eq, hk2, si_at, add_lit, iN_s1]
    exact ⟨_, rfl, fun a h1 h2 => si_oth h2, rfl, si_at, fun j hj => by rw [si_1, if_neg (by omega)], fun j => ⟨fun _ => by rw [si_oth (by omega)], fun h1 h2 => by omega⟩⟩
  | m + 1, i, fuel + 1, w, hi, hf, hw, hk2 => by
    rw [fX12_law_213, hw, if_pos ((iN_lt (by omega) (by omega)).mpr (by omega)), hk2, lit_mul, iN_add, inb_lt2 (by omega) (by omega), if_pos rfl, inb_lt2 (by omega) (by omega), if_pos rfl, nw_eq, wi_iN (by omega), ri_iN (by omega), add_lit]
    obtain ⟨w', e1, e2, e3, e5, e6, e4⟩ := lc_loop hk hL m (i + 1) fuel (si w 162 (60 * k + i) (w.1 163 i)) (by omega) (by omega) (by rw [si_oth (by omega)]; exact hw) (by rw [si_oth (by omega)]; exact hk2)
    refine ⟨w', e1, fun a h1 h2 => (e2 a h1 h2).trans (si_oth h1), e3, e5, fun j hj => by rw [e6 j hj, si_oth (by omega)], fun j => ⟨fun hj => ?_, fun h1 h2 => ?_⟩⟩
    · rw [(e4 j).1 (by omega), si_1, if_neg (by omega)]
    · by_cases q : j = 60 * k + i
      · subst q
        rw [(e4 _).1 (by omega), si_at, Nat.add_sub_cancel_left]
      · rw [(e4 j).2 (by omega) h2, si_oth (by omega)]
-- MATHEMATICS: m58
theorem cO_fault {f : Nat → Int32} {L : Nat} {w0 w : Wd} (h : CO f L (pAll f L) [] w0 w) (hL : L ≤ 100) : (∃ q, q ≤ 100 ∧ pAll f L = .inl q ∧ w.1 106 11 = iN q) ∨ ∃ c p, pAll f L = .inr (c, p) ∧ w.1 106 11 = -1 ∧ w.1 106 8 = iN c.length ∧ c.length ≤ L ∧ ∀ i x, c[i]? = some x → w.1 111 i = x := by
  cases e : pAll f L with
  | inl q =>
    have := h.1 q e
    exact Or.inl ⟨q, this.2.2, rfl, this.2.1⟩
  | inr r =>
    obtain ⟨c, p⟩ := r
    obtain ⟨a1, a2, a3, a4, a5, a6, a7⟩ := h.2 c p e
    exact Or.inr ⟨c, p, rfl, a4, a5, by rw [List.nil_append] at a6; omega, a7⟩
theorem cO_frame {f : Nat → Int32} {L : Nat} {r : PR} {w0 w : Wd} (h : CO f L r [] w0 w) : (∀ a, ¬ a = 106 → ¬ a = 111 → w.1 a = w0.1 a) ∧ w.2 = w0.2 ∧ w.1 106 0 = w0.1 106 0 := by
  cases r with
  | inl q => exact (h.1 q rfl).1.2.2.2.2
  | inr r =>
    obtain ⟨c, p⟩ := r
    exact (h.2 c p rfl).1.2.2.2.2
theorem enact_c {w : Wd} {k M : Nat} {v1 v2 : Int32} (hk : w.1 106 0 = iN k) (hk2 : k < 20) (hM : w.1 106 8 = iN M) (hM2 : M ≤ 60) : ∃ w', fX4_enact v1 v2 w = some (iN k, w') ∧ w'.1 106 0 = iN (k + 1) ∧ (∀ a i, ¬ a = 106 → ¬ ((107 ≤ a ∧ a ≤ 109) ∧ i = k) → ¬ a = 114 + k → w'.1 a i = w.1 a i) ∧ w'.2 = w.2 ∧ w'.1 107 k = v1 ∧ w'.1 108 k = v2 ∧ w'.1 109 k = iN M ∧ (∀ i, i < M → w'.1 (114 + k) i = w.1 111 i) := by
  have hm : mmin (iN M) 60 = iN M := by
    unfold mmin
    rw [if_neg]
    intro e
    have := (iN_lt (a := 60) (by omega) (by omega)).mp e
    omega
  have e1 : (si w 107 k v1).1 106 = w.1 106 := si_oth (by omega)
  have e2 : (si (si w 107 k v1) 108 k v2).1 106 = w.1 106 := (si_oth (by omega)).trans e1
  have e3 : (si (si (si w 107 k v1) 108 k v2) 109 k (iN M)).1 106 = w.1 106 := (si_oth (by omega)).trans e2
  have e4 : cpok (0 : Int32) (0 : Int32) (iN M) 100 60 = true := by
    unfold cpok
    rw [decide_eq_true_iff, iN_clamp (by omega)]
    refine ⟨by decide, by decide, iN_nneg (by omega), ?_, ?_⟩
    · show 0 + M ≤ 100
      omega
    · show 0 + M ≤ 60
      omega
  have e5 : (cpI (si (si (si w 107 k v1) 108 k v2) 109 k (iN M)) 111 0 (114 + k) 0 (iN M)).1 106 = w.1 106 := by
    show (if 106 = 114 + k then _ else (si (si (si w 107 k v1) 108 k v2) 109 k (iN M)).1 106) = _
    rw [if_neg (by omega), e3]
  have e6 : ∀ i, i < M → (cpI (si (si (si w 107 k v1) 108 k v2) 109 k (iN M)) 111 0 (114 + k) 0 (iN M)).1 (114 + k) i = w.1 111 i := fun i hi => by
    show (if 114 + k = 114 + k then va_cpy ((si (si (si w 107 k v1) 108 k v2) 109 k (iN M)).1 111) _ (0 : Int32).toNatClampNeg (0 : Int32).toNatClampNeg (iN M).toNatClampNeg else _) i = _
    rw [if_pos rfl, si_oth (by omega), si_oth (by omega), si_oth (by omega), iN_clamp (by omega)]
    unfold va_cpy
    rw [if_pos (show (0 : Int32).toNatClampNeg ≤ i ∧ i < (0 : Int32).toNatClampNeg + M from ⟨Nat.zero_le _, by show i < 0 + M; omega⟩)]
    show w.1 111 (0 + (i - 0)) = _
    rw [Nat.zero_add, Nat.sub_zero]
  refine ⟨si (cpI (si (si (si w 107 k v1) 108 k v2) 109 k (iN M)) 111 0 (114 + k) 0 (iN M)) 106 0 (iN (k + 1)), ?_, si_at, fun a i h1 h2 h3 => ?_, rfl, ?_, ?_, ?_, fun i hi => ?_⟩
  · unfold fX4_enact
    have lk : iN k < 20 := (iN_lt_lit (by omega) (by omega)).mpr hk2
    simp only [nw_eq, hk, if_pos lk, inb_lt2 hk2 (show 20 < 1000000 by omega), if_true, wi_iN (show k < 2147483648 by omega), e1, e2, e3, ri_iN (show k < 2147483648 by omega), si_at, hM, hm, e4, iN_clamp (show k < 2147483648 by omega), e5]
    rw [Int32.add_sub_cancel, show iN k + 1 = iN (k + 1) from add_lit 1 k]
  · rw [si_oth h1]
    show (if a = 114 + k then _ else (si (si (si w 107 k v1) 108 k v2) 109 k (iN M)).1 a) i = _
    rw [if_neg h3, si_1, if_neg (by omega), si_1, if_neg (by omega), si_1, if_neg (by omega)]
  · rw [si_oth (by omega)]
    show (if 107 = 114 + k then _ else (si (si (si w 107 k v1) 108 k v2) 109 k (iN M)).1 107) k = _
    rw [if_neg (by omega), si_1, if_neg (by omega), si_1, if_neg (by omega), si_at]
  · rw [si_oth (by omega)]
    show (if 108 = 114 + k then _ else (si (si (si w 107 k v1) 108 k v2) 109 k (iN M)).1 108) k = _
    rw [if_neg (by omega), si_1, if_neg (by omega), si_at]
  · rw [si_oth (by omega)]
    show (if 109 = 114 + k then _ else (si (si (si w 107 k v1) 108 k v2) 109 k (iN M)).1 109) k = _
    rw [if_neg (by omega), si_at]
  · rw [si_oth (by omega)]
    exact e6 i hi
theorem law_ok {n : Nat} {wc wm : Wd} {v1 v2 v3 : Int32} (h : YY n wc wm) (hn : n ≤ 512) : ∃ r wc' wm', fX11_law v1 v2 v3 wc = some (r, wc') ∧ fX12_law v1 v2 v3 wm = some (r, wm') ∧ YY n wc' wm' := by
  have h0 := h.thr (x := 0)
  obtain ⟨t1, t2⟩ := today_eq h0
  unfold fX11_law fX12_law
  simp only [nw_eq, Option.bind_some, isCell_c, isCell_m, isTape_c, isTape_m, within_eq, in_eq, Int32.toInt_toInt64, decide_eq_true_eq, Int32.reduceToInt, Int64.reduceToInt, tn128, tm128, if_true, if_false, Bool.false_eq_true]
  by_cases h1 : 0 ≤ v1.toInt ∧ v1.toInt ≤ 2
  rotate_left
  · simp only [if_neg h1]
    exact ⟨-1, _, _, rfl, rfl, h0⟩
  simp only [if_pos h1]
  by_cases h2 : 0 ≤ v2.toInt ∧ v2.toInt ≤ 4999
  rotate_left
  · simp only [if_neg h2]
    exact ⟨-1, _, _, rfl, rfl, h0⟩
  simp only [if_pos h2]
  by_cases h3 : 0 ≤ v3.toInt ∧ v3.toInt ≤ 5
  rotate_left
  · simp only [if_neg h3]
    exact ⟨-1, _, _, rfl, rfl, h0⟩
  simp only [if_pos h3, t1, t2, Option.bind_some]
  by_cases h4 : v2 < (si wm 148 0 0).1 149 4300 / 24
  · simp only [if_pos h4]
    exact ⟨-4, _, _, rfl, rfl, h0⟩
  simp only [if_neg h4]
  obtain ⟨d, hd, rfl⟩ := tape_cases h3
  obtain ⟨⟨s1, s2, s3, s4⟩, s5, s6⟩ := h0.2.2.1 d hd
  simp only [inb_lt2 hd (show 6 < 1000000 by omega), if_true, iN_clamp (show d < 2147483648 by omega), ri_iN (show d < 2147483648 by omega), s1]
  by_cases h5 : (si wm 148 0 0).1 165 d = 0
  · simp only [if_pos h5]
    obtain ⟨wc', wm', r1, r2, r3⟩ := host_ok (x := -11) h0
    rw [r1, r2]
    exact ⟨_, wc', wm', rfl, rfl, r3⟩
  simp only [if_neg h5]
  by_cases h6 : (si wm 148 0 0).1 165 d = 1
  rotate_left
  · simp only [if_neg h6]
    obtain ⟨wc', wm', r1, r2, r3⟩ := host_ok (x := -12) h0
    rw [r1, r2]
    exact ⟨_, wc', wm', rfl, rfl, r3⟩
  simp only [if_pos h6]
  obtain ⟨L, hL, eL⟩ := int_cases 100 s4 (by omega)
  have hY7 := h0.2.2.2.2.2.1
  obtain ⟨y1, y2, y3⟩ := hY7
  obtain ⟨k, hk, ek⟩ := int_cases 20 y2 (by omega)
  have ek2 : wm.1 148 21 = iN k := by rw [← ek, si_1, if_neg (by omega)]
  rw [ek] at y1
  obtain ⟨w0, w1, f1, f2, f3, f4, f5⟩ := ff_c (f := fun i => (wc.2 (136 + 2 * d) i).toInt32) (v1 := 135 + 2 * d) (w := wc) hL (by omega) (by rw [s3, eL]) (fun i hi => by rw [show 135 + 2 * d + 1 = 136 + 2 * d by omega])
  obtain ⟨c1, c2, c3⟩ := cO_frame f2
  have k1 : ∀ a, ¬ a = 106 → ¬ a = 111 → ¬ a = 113 → w1.1 a = wc.1 a := fun a q1 q2 q3 => (c1 a q1 q2).trans (f3 a q1 q3)
  have k2 : w1.2 = wc.2 := c2.trans f4
  have k3 : w1.1 106 0 = iN k := (c3.trans f5).trans y1
  obtain ⟨w2, g1, g2, g3, g4⟩ := lt_loop (v1 := v1) (v2 := v2) hd hL L 0 FU (si (si wm 148 0 0) 148 23 (iN L)) (by omega) (by unfold FU; omega) si_at
  rw [show iN 0 = 0 from rfl] at g1
  have z23 : (si w2 148 27 0).1 148 23 = iN L := by rw [si_1, if_neg (by omega), g2 148 (by omega), si_at]
  have zr : fX12_law_95 1 v1 v2 (iN d) (iN L) w2 = (fX12_reads (si w2 148 27 0)).bind fun v_6 => (
    if (v_6.2.1 148 26) = 0 then (
      if (v_6.2.1 148 21) = (20 : Int32) then (
        some ((-2 : Int32), v_6.2))
      else (
        if (60 : Int32) < (v_6.2.1 148 23) then (
          some ((-2 : Int32), v_6.2))
        else (
          if inb (v_6.2.1 148 21) 20 = true then (
          nw (wi v_6.2 159 (v_6.2.1 148 21) v1) fun w_11 => (
          if inb (w_11.1 148 21) 20 = true then (
          nw (wi w_11 160 (w_11.1 148 21) v2) fun w_13 => (
          if inb (w_13.1 148 21) 20 = true then (
          nw (wi w_13 161 (w_13.1 148 21) (w_13.1 148 23)) fun w_15 => (
          fX12_law_213 FU (0 : Int32) w_15)) else none)) else none)) else none)))
    else (
      some (((-100 : Int32) - (v_6.2.1 148 24)), v_6.2))) := by
    rw [fX12_law_95, g2 148 (by omega), si_at, if_neg (by rw [lt_I]; exact Int.lt_irrefl _), nw_eq]
  have p1 : ∀ a, ¬ a = 148 → ¬ a = 163 → (si w2 148 27 0).1 a = wm.1 a := fun a q1 q2 => by rw [si_oth q1, g2 a q2, si_oth q1, si_oth q1]
  have p2 : (si w2 148 27 0).2 = wm.2 := g3
  have p3 : ∀ j, 2 ≤ j → ¬ (23 ≤ j ∧ j ≤ 27) → (si w2 148 27 0).1 148 j = wm.1 148 j := fun j q1 q2 => by
    rw [si_1, if_neg (by omega), g2 148 (by omega), si_1, if_neg (by omega), si_1, if_neg (by omega)]
  have hY : ∀ w, RF (si w2 148 27 0) w → YY n wc w := fun w q => h.any rfl (fun _ _ => rfl) (fun a q1 q2 q3 q4 => (q.1 a q2).trans (p1 a q2 q3)) (q.2.2.trans p2) (fun j q1 q2 => (q.2.1 j (by omega) (by omega) (by omega)).trans (p3 j q1 (by omega)))
  have ht : RT (fun i => (wc.2 (136 + 2 * d) i).toInt32) L (fun b => (fX4_factAt b (iN 0) wc).getD 0) (si w2 148 27 0) := by
    refine ⟨hL, z23, fun i hi => ?_, fun b w _ q => ?_⟩
    · rw [si_oth (by omega), (g4 i).2 (by omega) hi]
      show (wm.2 167 (100 * d + i)).toInt32 = (wc.2 (136 + 2 * d) i).toInt32
      rw [s5 i (by omega)]
      rfl
    · obtain ⟨x, x1, x2⟩ := fact_eq (hY w q) (c := 0) (by omega) (cel_of (hY w q) hn (by omega)) (by rw [q.2.1 27 (by omega) (by omega) (by omega), si_at]; rfl) b
      refine ⟨x, x2, ?_⟩
      show (fX4_factAt b (iN 0) wc).getD 0 = _
      rw [x1]
      rfl
  obtain ⟨b, w3, r1, r2⟩ := all_r ht
  have g1' : fX12_law_95 FU v1 v2 (iN d) 0 (si (si wm 148 0 0) 148 23 ((si wm 148 0 0).1 166 d)) = fX12_law_95 1 v1 v2 (iN d) (iN L) w2 := by rw [eL]; exact g1
  simp only [f1, Option.bind_some]
  rw [g1', zr, r1, Option.bind_some]
  have stay : ∀ w, RF (si w2 148 27 0) w → YY n w1 w := fun w q => by
    refine (hY w q).laws ((hY w q).2.2.2.2.2.1.cong ?_ (fun a ha => k1 a (by omega) (by omega) (by omega)) (fun a ha => k1 a (by omega) (by omega) (by omega)) rfl (fun _ _ => rfl)) (fun a ha => ⟨k1 a (by omega) (by omega) (by omega), by rw [k2]⟩) (fun _ _ _ => rfl) rfl (fun _ _ _ => rfl)
    rw [k3, y1]
  rcases cO_fault f2 hL with ⟨q, q1, q2, q3⟩ | ⟨c, p, q1, q2, q3, q4, q5⟩
  · have rb := r2.1 q q2
    refine ⟨-100 - iN q, w1, w3, ?_, ?_, stay w3 rb.1⟩
    · rw [q3, if_neg (iN_nneg (by omega))]
    · show (if w3.1 148 26 = 0 then _ else some ((-100 : Int32) - w3.1 148 24, w3)) = _
      rw [if_neg (by rw [rb.2.2.2]; decide), rb.2.2.1]
  obtain ⟨rs, -⟩ := r2.2 c p q1
  have m21 : w3.1 148 21 = iN k := by rw [rs.1.2.1 21 (by omega) (by omega) (by omega), p3 21 (by omega) (by omega), ek2]
  have m23 : w3.1 148 23 = iN L := by rw [rs.1.2.1 23 (by omega) (by omega) (by omega), z23]
  have mt : w1.1 (135 + 2 * d) 1 = iN L := by rw [k1 _ (by omega) (by omega) (by omega), s3, eL]
  have m26 : w3.1 148 26 = 0 := rs.2.2.2.2
  show ∃ r wc' wm', (if w1.1 106 11 < 0 then if w1.1 106 0 < 20 then if 60 < w1.1 (135 + 2 * d) 1 then some ((-2 : Int32), w1) else (fX4_enact v1 v2 w1).bind fun v_17 => some (v_17.1, v_17.2) else some (-2, w1) else some (-100 - w1.1 106 11, w1)) = some (r, wc') ∧ (if w3.1 148 26 = 0 then if w3.1 148 21 = 20 then some ((-2 : Int32), w3) else if 60 < w3.1 148 23 then some (-2, w3) else if inb (w3.1 148 21) 20 = true then
          nw (wi w3 159 (w3.1 148 21) v1) fun w_11 => (
          if inb (w_11.1 148 21) 20 = true then (
          nw (wi w_11 160 (w_11.1 148 21) v2) fun w_13 => (
          if inb (w_13.1 148 21) 20 = true then (
          nw (wi w_13 161 (w_13.1 148 21) (w_13.1 148 23)) fun w_15 => (
          fX12_law_213 FU (0 : Int32) w_15)) else none)) else none) else none else some (-100 - w3.1 148 24, w3)) = some (r, wm') ∧ YY n wc' wm'
  rw [q2, if_pos (show (-1 : Int32) < 0 by decide), if_pos m26, k3, m21, mt, m23]
  by_cases h7 : k = 20
  · rw [if_neg (fun e => by have := (iN_lt_lit (by omega) (by omega)).mp e; omega), if_pos ((iN_lit (by omega) (by omega)).mpr h7)]
    exact ⟨-2, w1, w3, rfl, rfl, stay w3 rs.1⟩
  rw [if_pos ((iN_lt_lit (by omega) (by omega)).mpr (show k < 20 by omega)), if_neg (fun e => h7 ((iN_lit (by omega) (by omega)).mp e))]
  by_cases h8 : 60 < L
  · have l8 : (60 : Int32) < iN L := (iN_lt (a := 60) (by omega) (by omega)).mpr h8
    rw [if_pos l8, if_pos l8]
    exact ⟨-2, w1, w3, rfl, rfl, stay w3 rs.1⟩
  have l8 : ¬ (60 : Int32) < iN L := fun e => h8 ((iN_lt (a := 60) (by omega) (by omega)).mp e)
  rw [if_neg l8, if_neg l8]
  obtain ⟨w4, a1, a2, a3, a4, a5, a6, a7, a8⟩ := enact_c (v1 := v1) (v2 := v2) k3 (show k < 20 by omega) q3 (by omega)
  have n1 : (si w3 159 k v1).1 148 = w3.1 148 := si_oth (by omega)
  have n2 : (si (si w3 159 k v1) 160 k v2).1 148 = w3.1 148 := (si_oth (by omega)).trans n1
  have n3 : (si (si (si w3 159 k v1) 160 k v2) 161 k (iN L)).1 148 = w3.1 148 := (si_oth (by omega)).trans n2
  obtain ⟨w5, b1, b2, b3, b4, b5, b6⟩ := lc_loop (k := k) (by omega) (show L ≤ 60 by omega) L 0 FU (si (si (si w3 159 k v1) 160 k v2) 161 k (iN L)) (by omega) (by unfold FU; omega) (by rw [n3, m23]) (by rw [n3, m21])
  rw [show iN 0 = 0 from rfl] at b1
  refine ⟨iN k, w4, w5, ?_, ?_, ?_⟩
  · rw [a1]
    rfl
  · rw [inb_lt2 (by omega) (by omega), if_pos rfl, nw_eq, wi_iN (by omega), n1, m21, inb_lt2 (by omega) (by omega), if_pos rfl, nw_eq, wi_iN (by omega), n2, m21, inb_lt2 (by omega) (by omega), if_pos rfl, nw_eq, wi_iN (by omega), m23]
    exact b1
  · have hb := hY w3 rs.1
    refine hb.laws ?_ (fun a ha => ⟨?_, by rw [a4, k2]⟩) (fun a q1 q2 => ?_) (b3.trans rfl) (fun j j1 j2 => ?_)
    · obtain ⟨-, -, z3⟩ := hb.2.2.2.2.2.1
      refine ⟨by rw [a2, b4], ?_, fun i hi => ?_⟩
      · rw [b4]
        exact ⟨by rw [iN_toInt (by omega)]; omega, by rw [iN_toInt (by omega)]; omega⟩
      · rw [b4, iN_toInt (by omega)] at hi
        by_cases hik : i = k
        · subst hik
          refine ⟨?_, ?_, ?_, ?_⟩
          · rw [a5, b2 159 (by omega) (by omega), si_1, if_neg (by omega), si_1, if_neg (by omega), si_at]
          · rw [a6, b2 160 (by omega) (by omega), si_1, if_neg (by omega), si_at]
          · rw [b2 161 (by omega) (by omega), si_at]
            exact ⟨by rw [iN_toInt (by omega)]; omega, by rw [iN_toInt (by omega)]; omega⟩
          · rw [b2 161 (by omega) (by omega), si_at, iN_clamp (by omega), a7]
            refine ⟨c, p, ?_, by omega, rfl, fun j x hx => ?_⟩
            · rw [← q1]
              refine pAll_cong (fun j hj => ?_)
              rw [(b6 _).2 (by omega) (by omega), Nat.add_sub_cancel_left, si_oth (by omega), si_oth (by omega), si_oth (by omega), rs.1.1 163 (by omega), si_oth (by omega), (g4 j).2 (by omega) hj]
              show (wm.2 167 (100 * d + j)).toInt32 = (wc.2 (136 + 2 * d) j).toInt32
              rw [s5 j (by omega)]
              rfl
            · have hj : j < c.length := by
                by_cases e : j < c.length
                · exact e
                · rw [List.getElem?_eq_none (by omega)] at hx
                  cases hx
              exact (a8 j hj).trans (q5 j x hx)
        · have hb21 : w3.1 148 21 = iN k := m21
          obtain ⟨i1, i2, i3, cc, pp, i4, i5, i6, i7⟩ := z3 i (by rw [hb21, iN_toInt (by omega)]; omega)
          have e159 : w5.1 159 i = w3.1 159 i := by rw [b2 159 (by omega) (by omega), si_oth (by omega), si_oth (by omega), si_1, if_neg (by omega)]
          have e160 : w5.1 160 i = w3.1 160 i := by rw [b2 160 (by omega) (by omega), si_oth (by omega), si_1, if_neg (by omega), si_oth (by omega)]
          have e161 : w5.1 161 i = w3.1 161 i := by rw [b2 161 (by omega) (by omega), si_1, if_neg (by omega), si_oth (by omega), si_oth (by omega)]
          have h60 := i3.2
          have h0' := cl_nat i3.1
          refine ⟨?_, ?_, ?_, ?_⟩
          · rw [e159, a3 107 i (by omega) (by omega) (by omega), k1 107 (by omega) (by omega) (by omega)]
            exact i1
          · rw [e160, a3 108 i (by omega) (by omega) (by omega), k1 108 (by omega) (by omega) (by omega)]
            exact i2
          · rw [e161]
            exact i3
          · rw [e161, a3 109 i (by omega) (by omega) (by omega), k1 109 (by omega) (by omega) (by omega)]
            refine ⟨cc, pp, ?_, i5, i6, fun j x hx => ?_⟩
            · rw [← i4]
              refine pAll_cong (fun j hj => ?_)
              rw [(b6 _).1 (by omega), si_oth (by omega), si_oth (by omega), si_oth (by omega)]
            · show w4.1 (114 + i) j = x
              rw [a3 (114 + i) j (by omega) (by omega) (by omega), k1 _ (by omega) (by omega) (by omega)]
              exact i7 j x hx
    · funext i
      rw [a3 a i (by omega) (by omega) (by omega), k1 a (by omega) (by omega) (by omega)]
    · rw [b2 a (by omega) q2, si_oth (by omega), si_oth (by omega), si_oth (by omega)]
    · rw [b5 j (by omega), n3]
-- MATHEMATICS: m59
theorem YY.fl {n : Nat} {wc wc' wm wm' : Wd} (h : YY n wc wm) (c1 : ∀ a, ¬ (92 ≤ a ∧ a ≤ 99) → wc'.1 a = wc.1 a) (c2 : wc'.2 = wc.2) (e1 : ∀ a, ¬ (152 ≤ a ∧ a ≤ 158) → ¬ a = 148 → ¬ a = 163 → ¬ a = 164 → wm'.1 a = wm.1 a) (e2 : wm'.2 = wm.2) (e3 : ∀ j, 2 ≤ j → j ≤ 8 ∨ j = 21 → wm'.1 148 j = wm.1 148 j) : YY n wc' wm' := by
  have q : wm'.1 149 = wm.1 149 := e1 149 (by omega) (by omega) (by omega) (by omega)
  have hc : YC wc' 0 (wm'.1 149) n := by
    rw [q]
    exact h.1.cong (fun a ha => c1 a (by omega))
  exact h.city hc (fun a _ h2 => ⟨c1 a h2, by rw [c2]⟩) (fun a h1 h2 h3 h4 h5 => e1 a h2 h3 h4 h5) (by rw [e2]) e3
theorem adj_sym {c d : Nat} (h : adj c d) : adj d c := by
  unfold adj at *
  omega
theorem bes_of {c d : Nat} (hc : c < 100) (hd : d < 100) (h : adj c d) : ∃ k, k < 4 ∧ besN c k = some d := by
  unfold adj at h
  rcases h with h | h | h | h
  · refine ⟨3, by omega, ?_⟩
    unfold besN
    rw [if_neg (show ¬ (3 : Nat) = 0 by omega), if_neg (show ¬ (3 : Nat) = 1 by omega), if_neg (show ¬ (3 : Nat) = 2 by omega), if_pos (by omega), h]
  · refine ⟨0, by omega, ?_⟩
    unfold besN
    rw [if_pos rfl, if_neg (by omega), show c - 10 = d by omega]
  · refine ⟨2, by omega, ?_⟩
    unfold besN
    rw [if_neg (show ¬ (2 : Nat) = 0 by omega), if_neg (show ¬ (2 : Nat) = 1 by omega), if_pos rfl, if_pos (by omega), h.1]
  · refine ⟨1, by omega, ?_⟩
    unfold besN
    rw [if_neg (show ¬ (1 : Nat) = 0 by omega), if_pos rfl, if_pos (by omega), show c - 1 = d by omega]
def rch (op : Nat → Bool) (b : Nat) : Nat → Nat → Prop
  | 0, c => c = b ∧ op b = true
  | n + 1, c => rch op b n c ∨ (op c = true ∧ ∃ d, d < 100 ∧ rch op b n d ∧ adj d c)
def Rc (op : Nat → Bool) (b c : Nat) : Prop := ∃ n, rch op b n c
def Snd (op : Nat → Bool) (b : Nat) (M : Nat → Bool) : Prop := ∀ c, c < 100 → M c = true → op c = true ∧ Rc op b c
def Cls (op M : Nat → Bool) : Prop := ∀ c d, c < 100 → d < 100 → M c = true → adj c d → op d = true → M d = true
theorem Rc.step {op : Nat → Bool} {b c d : Nat} (h : Rc op b c) (hc : c < 100) (ha : adj c d) (ho : op d = true) : Rc op b d := by
  obtain ⟨n, h⟩ := h
  exact ⟨n + 1, Or.inr ⟨ho, c, hc, h, ha⟩⟩
theorem cls_all {op M : Nat → Bool} {b : Nat} (hb : b < 100) (h1 : op b = true → M b = true) (h2 : Cls op M) : ∀ n c, c < 100 → rch op b n c → M c = true
  | 0, c, hc, h => by
    rw [h.1]
    exact h1 h.2
  | n + 1, c, hc, h => by
    rcases h with h | ⟨ho, d, hd, hr, ha⟩
    · exact cls_all hb h1 h2 n c hc h
    · exact h2 d c hd hc (cls_all hb h1 h2 n d hd hr) ha ho
theorem same_M {op M M' : Nat → Bool} {b : Nat} (hb : b < 100) (s1 : Snd op b M) (c1 : Cls op M) (b1 : op b = true → M b = true) (s2 : Snd op b M') (c2 : Cls op M') (b2 : op b = true → M' b = true) : ∀ c, c < 100 → M c = M' c := by
  intro c hc
  rw [Bool.eq_iff_iff]
  constructor
  · intro h
    obtain ⟨-, n, hn⟩ := s1 c hc h
    exact cls_all hb b2 c2 n c hc hn
  · intro h
    obtain ⟨-, n, hn⟩ := s2 c hc h
    exact cls_all hb b1 c1 n c hc hn
def addM (M : Nat → Bool) (d : Nat) : Nat → Bool := fun c => if c = d then true else M c
theorem addM_of {M : Nat → Bool} {d c : Nat} (h : M c = true) : addM M d c = true := by
  unfold addM
  by_cases e : c = d
  · rw [if_pos e]
  · rw [if_neg e]
    exact h
theorem cntN_full {M : Nat → Bool} : ∀ n, cntN M n = n → ∀ c, c < n → M c = true
  | 0, _, c, hc => by omega
  | n + 1, h, c, hc => by
    have h1 := cntN_le M n
    have h2 : cntN M n + (if M n = true then 1 else 0) = n + 1 := h
    by_cases e : M n = true
    · rw [if_pos e] at h2
      by_cases e2 : c = n
      · rw [e2]
        exact e
      · exact cntN_full n (by omega) c (by omega)
    · rw [if_neg e] at h2
      omega
def CW (wc w : Wd) : Prop := (∀ a, ¬ a = 98 → ¬ a = 99 → w.1 a = wc.1 a) ∧ w.2 = wc.2
def opB (wm : Wd) (c : Nat) : Bool := decide (wm.1 149 (15 * c + 4) = 0) && !((fX12_isShut (iN c) wm).getD false)
theorem shutB {n c : Nat} {wc wm : Wd} (h : YY n wc wm) (hc : c < 100) : fX0_isShut (iN c) wc = some ((fX12_isShut (iN c) wm).getD false) ∧ fX12_isShut (iN c) wm = some ((fX12_isShut (iN c) wm).getD false) := by
  obtain ⟨b, b1, b2⟩ := shut_eq h hc
  rw [b2]
  exact ⟨b1, rfl⟩
theorem CW.yy {n : Nat} {wc wm w : Wd} (h : YY n wc wm) (hw : CW wc w) : YY n w wm := h.fl (fun a ha => hw.1 a (by omega) (by omega)) hw.2 (fun _ _ _ _ _ => rfl) rfl (fun _ _ _ => rfl)
theorem CW.put {wc w : Wd} {a i : Nat} {x : Int32} (hw : CW wc w) (ha : a = 98 ∨ a = 99) : CW wc (si w a i x) := ⟨fun b h1 h2 => (si_oth (by omega)).trans (hw.1 b h1 h2), hw.2⟩
def mk0 (op : Nat → Bool) (c : Nat) : Int32 := if op c = true then 0 else 1
theorem co7 {n : Nat} {wc wm : Wd} (h : YY n wc wm) : ∀ (m k fuel : Nat) (w : Wd), k + m = 100 → m < fuel → CW wc w → (∀ c, c < k → w.1 98 c = mk0 (opB wm) c) → ∃ w', fX1_cellsCutOff_7 fuel (iN k) w = fX1_cellsCutOff_7 1 (iN 100) w' ∧ CW wc w' ∧ ∀ c, c < 100 → w'.1 98 c = mk0 (opB wm) c
  | 0, k, fuel + 1, w, hk, _, hw, hm => by
    obtain rfl : k = 100 := by omega
    exact ⟨w, by rw [fX1_cellsCutOff_7, fX1_cellsCutOff_7, if_neg (show ¬ iN 100 < 100 by decide), if_neg (show ¬ iN 100 < 100 by decide)], hw, hm⟩
  | m + 1, k, fuel + 1, w, hk, hf, hw, hm => by
    have hY := hw.yy h
    have hr : w.1 7 k = wm.1 149 (15 * k + 4) := hY.1.row (j := 4) (by omega) (by omega)
    have ih : ∀ x, x = mk0 (opB wm) k → ∃ w', fX1_cellsCutOff_41 (fX1_cellsCutOff_7 fuel) (iN k) (iN k) x w = fX1_cellsCutOff_7 1 (iN 100) w' ∧ CW wc w' ∧ ∀ c, c < 100 → w'.1 98 c = mk0 (opB wm) c := by
      intro x hx
      unfold fX1_cellsCutOff_41
      rw [inb_lt2 (by omega) (by omega), if_pos rfl, nw_eq, wi_iN (by omega), add_lit]
      refine co7 h m (k + 1) fuel _ (by omega) (by omega) (hw.put (by omega)) (fun c hc => ?_)
      rw [si_1]
      by_cases e : c = k
      · rw [if_pos ⟨rfl, e⟩, e, hx]
      · rw [if_neg (by omega)]
        exact hm c (by omega)
    obtain ⟨s1, s2⟩ := shutB hY (show k < 100 by omega)
    rw [fX1_cellsCutOff_7, if_pos ((iN_lt_lit (by omega) (by omega)).mpr (show k < 100 by omega)), inb_lt2 (by omega) (by omega), if_pos rfl, ri_iN (by omega), hr, s1, Option.bind_some]
    have hb := (h.1.2.2.1 k (by omega)).1.2.2.2.2.1
    by_cases c1 : wm.1 149 (15 * k + 4) = 1
    · rw [if_pos c1]
      refine ih 1 ?_
      unfold mk0 opB
      rw [decide_eq_false (by rw [c1]; decide), if_neg (by simp)]
    · rw [if_neg c1]
      have c0 : wm.1 149 (15 * k + 4) = 0 := by
        rcases bit_or hb with e | e
        · exact e
        · exact (c1 e).elim
      cases e : (fX12_isShut (iN k) wm).getD false
      · rw [if_neg (by simp)]
        refine ih 0 ?_
        unfold mk0 opB
        rw [decide_eq_true c0, e, if_pos (by simp)]
      · rw [if_pos rfl]
        refine ih 1 ?_
        unfold mk0 opB
        rw [decide_eq_true c0, e, if_neg (by simp)]
def BS (wc : Wd) (op : Nat → Bool) (b K : Nat) (M : Nat → Bool) (w : Wd) : Prop := CW wc w ∧ (∀ c, c < 100 → w.1 98 c = if M c = true then 2 else mk0 op c) ∧ Snd op b M ∧ K = cntN M 100 ∧ (∀ i, i < K → ∃ t, t < 100 ∧ w.1 99 i = iN t ∧ M t = true) ∧ ∀ c, c < 100 → M c = true → ∃ i, i < K ∧ w.1 99 i = iN c
theorem BS.add {wc w : Wd} {op : Nat → Bool} {b K d : Nat} {M : Nat → Bool} (h : BS wc op b K M w) (hd : d < 100) (h0 : M d = false) (ho : op d = true) (hr : Rc op b d) : BS wc op b (K + 1) (addM M d) (si (si w 98 d 2) 99 K (iN d)) := by
  obtain ⟨h1, h2, h3, h4, h5, h6⟩ := h
  refine ⟨(h1.put (by omega)).put (by omega), fun c hc => ?_, fun c hc hm => ?_, ?_, fun i hi => ?_, fun c hc hm => ?_⟩
  · rw [si_oth (by omega), si_1]
    unfold addM
    by_cases e : c = d
    · rw [if_pos ⟨rfl, e⟩, if_pos e, if_pos rfl]
    · rw [if_neg (by omega), if_neg e]
      exact h2 c hc
  · unfold addM at hm
    by_cases e : c = d
    · rw [e]
      exact ⟨ho, hr⟩
    · rw [if_neg e] at hm
      exact h3 c hc hm
  · rw [cntN_one (p := M) (c := d) (fun i hi => by unfold addM; rw [if_neg hi]) h0 (by unfold addM; rw [if_pos rfl]), if_pos hd, h4]
  · by_cases e : i = K
    · exact ⟨d, hd, by rw [e, si_at], by unfold addM; rw [if_pos rfl]⟩
    · obtain ⟨t, t1, t2, t3⟩ := h5 i (by omega)
      exact ⟨t, t1, by rw [si_1, if_neg (by omega), si_oth (by omega)]; exact t2, addM_of t3⟩
  · by_cases e : c = d
    · exact ⟨K, by omega, by rw [e, si_at]⟩
    · unfold addM at hm
      rw [if_neg e] at hm
      obtain ⟨i, i1, i2⟩ := h6 c hc hm
      exact ⟨i, by omega, by rw [si_1, if_neg (by omega), si_oth (by omega)]; exact i2⟩
theorem co97 {wc : Wd} {op : Nat → Bool} {b s t : Nat} {k88 : Int32 → Int32 → Wd → Option (Int32 × Wd)} (hs : s < 100) (ht : t < 100) : ∀ (m j fuel K : Nat) (M : Nat → Bool) (w : Wd), j + m = 4 → m < fuel → s < K → BS wc op b K M w → w.1 99 s = iN t → M t = true → (∀ k d, k < j → besN t k = some d → op d = true → M d = true) → ∃ K' M' w', fX1_cellsCutOff_97 k88 fuel (iN K) (iN s) (iN j) w = k88 (iN K') (iN (s + 1)) w' ∧ BS wc op b K' M' w' ∧ K ≤ K' ∧ (∀ c, M c = true → M' c = true) ∧ (∀ i, i < K → w'.1 99 i = w.1 99 i) ∧ ∀ d, d < 100 → adj t d → op d = true → M' d = true
  | 0, j, fuel + 1, K, M, w, hj, _, hsK, h, h1, h2, h3 => by
    obtain rfl : j = 4 := by omega
    rw [fX1_cellsCutOff_97, if_neg (show ¬ iN 4 < 4 by decide), add_lit]
    refine ⟨K, M, w, rfl, h, Nat.le_refl _, fun _ q => q, fun _ _ => rfl, fun d hd ha ho => ?_⟩
    obtain ⟨k, k1, k2⟩ := bes_of ht hd ha
    exact h3 k d k1 k2 ho
  | m + 1, j, fuel + 1, K, M, w, hj, hf, hsK, h, h1, h2, h3 => by
    have hK : K ≤ 100 := by
      rw [h.2.2.2.1]
      exact cntN_le M 100
    have go : ∀ (h3' : ∀ d, besN t j = some d → op d = true → M d = true), ∃ K' M' w', fX1_cellsCutOff_97 k88 fuel (iN K) (iN s) (iN (j + 1)) w = k88 (iN K') (iN (s + 1)) w' ∧ BS wc op b K' M' w' ∧ K ≤ K' ∧ (∀ c, M c = true → M' c = true) ∧ (∀ i, i < K → w'.1 99 i = w.1 99 i) ∧ ∀ d, d < 100 → adj t d → op d = true → M' d = true := fun h3' => co97 hs ht m (j + 1) fuel K M w (by omega) (by omega) hsK h h1 h2 (fun k d k1 k2 k3 => by
      by_cases e : k = j
      · exact h3' d (e ▸ k2) k3
      · exact h3 k d (by omega) k2 k3)
    rw [fX1_cellsCutOff_97, if_pos ((iN_lt_lit (by omega) (by omega)).mpr (show j < 4 by omega)), inb_lt2 hs (by omega), if_pos rfl, ri_iN (by omega), h1, bes_c ht (by omega), Option.bind_some, add_lit]
    cases e : besN t j with
    | none =>
      rw [if_pos (show enc1 none = -1 from rfl)]
      exact go (fun d q => by rw [e] at q; cases q)
    | some d =>
      obtain ⟨hd, ha⟩ := besN_adj ht e
      have hmd := h.2.1 d hd
      rw [if_neg (enc1_ne (by omega)), show enc1 (some d) = iN d from rfl, inb_lt2 hd (by omega), if_pos rfl, ri_iN (by omega), hmd]
      by_cases c1 : M d = true
      · rw [if_pos c1, if_neg (show ¬ (2 : Int32) = 0 by decide)]
        exact go (fun d' q _ => by rw [e] at q; cases q; exact c1)
      · rw [if_neg c1]
        unfold mk0
        by_cases c2 : op d = true
        · rw [if_pos c2, if_pos rfl]
          have hK2 : K < 100 := by
            by_cases q : K < 100
            · exact q
            · exact (c1 (cntN_full 100 (by rw [← h.2.2.2.1]; omega) d hd)).elim
          rw [if_pos ((iN_lt_lit (by omega) (by omega)).mpr hK2), nw_eq, inb_lt2 hK2 (by omega), if_pos rfl, nw_eq, wi_iN (by omega), wi_iN (by omega), add_lit]
          have hb := h.add hd (by simpa using c1) c2 ((h.2.2.1 t ht h2).2.step ht ha c2)
          obtain ⟨K', M', w', r1, r2, r3, r4, r5, r6⟩ := co97 hs ht m (j + 1) fuel (K + 1) (addM M d) _ (by omega) (by omega) (by omega) hb (by rw [si_1, if_neg (by omega), si_oth (by omega)]; exact h1) (addM_of h2) (fun k d' k1 k2 k3 => by
            by_cases e2 : k = j
            · rw [e2, e] at k2
              cases k2
              unfold addM
              rw [if_pos rfl]
            · exact addM_of (h3 k d' (by omega) k2 k3))
          exact ⟨K', M', w', r1, r2, by omega, fun c q => r4 c (addM_of q), fun i hi => by rw [r5 i (by omega), si_1, if_neg (by omega), si_oth (by omega)], r6⟩
        · rw [if_neg c2, if_neg (show ¬ (1 : Int32) = 0 by decide)]
          exact go (fun d' q ho => by rw [e] at q; cases q; exact (c2 ho).elim)
theorem co88 {wc : Wd} {op : Nat → Bool} {b : Nat} : ∀ (m s fuel K : Nat) (M : Nat → Bool) (w : Wd), s + m = 100 → m < fuel → s ≤ K → BS wc op b K M w → (∀ i t d, i < s → t < 100 → w.1 99 i = iN t → d < 100 → adj t d → op d = true → M d = true) → ∃ M' w' K', fX1_cellsCutOff_88 fuel (iN K) (iN s) w = fX1_cellsCutOff_179 FU 0 0 w' ∧ BS wc op b K' M' w' ∧ Cls op M' ∧ ∀ c, M c = true → M' c = true
  | m, s, fuel + 1, K, M, w, hm, hf, hsK, h, hcl => by
    have hK : K ≤ 100 := by
      rw [h.2.2.2.1]
      exact cntN_le M 100
    rw [fX1_cellsCutOff_88]
    by_cases c : s < K
    · rw [if_pos ((iN_lt (by omega) (by omega)).mpr c)]
      obtain ⟨t, t1, t2, t3⟩ := h.2.2.2.2.1 s c
      obtain ⟨K', M', w', r1, r2, r3, r4, r5, r6⟩ := co97 (k88 := fX1_cellsCutOff_88 fuel) (s := s) (t := t) (by omega) t1 4 0 FU K M w (by omega) (by unfold FU; omega) c h t2 t3 (fun k d hk => by omega)
      rw [show iN 0 = 0 from rfl] at r1
      rw [r1]
      obtain ⟨m', rfl⟩ : ∃ m', m = m' + 1 := ⟨m - 1, by omega⟩
      obtain ⟨M2, w2, K2, q1, q2, q3, q4⟩ := co88 m' (s + 1) fuel K' M' w' (by omega) (by omega) (by omega) r2 (fun i t' d hi ht' hw hd ha ho => by
        by_cases e : i = s
        · rw [e, r5 s c, t2] at hw
          have := (iN_inj (by omega) (by omega)).mp hw
          subst this
          exact r6 d hd ha ho
        · rw [r5 i (by omega)] at hw
          exact r4 d (hcl i t' d (by omega) ht' hw hd ha ho))
      exact ⟨M2, w2, K2, q1, q2, q3, fun c q => q4 c (r4 c q)⟩
    · rw [if_neg (fun e => c ((iN_lt (by omega) (by omega)).mp e))]
      refine ⟨M, w, K, rfl, h, fun c d hc hd h1 ha ho => ?_, fun _ q => q⟩
      obtain ⟨i, i1, i2⟩ := h.2.2.2.2.2 c hc h1
      exact hcl i c d (by omega) hc i2 hd ha ho
def cutP (S : Nat → Int32) (M : Nat → Bool) (c : Nat) : Bool := decide (0 < S (15 * c + 2)) && (decide (S (15 * c + 4) = 0) && !(M c))
theorem co179 {n b K : Nat} {wc wm : Wd} {op M : Nat → Bool} (h : YY n wc wm) : ∀ (m k fuel : Nat) (w : Wd), k + m = 100 → m < fuel → BS wc op b K M w → fX1_cellsCutOff_179 fuel (iN (cntN (cutP (wm.1 149) M) k)) (iN k) w = some (iN (cntN (cutP (wm.1 149) M) 100), w)
  | 0, k, fuel + 1, w, hk, _, _ => by
    obtain rfl : k = 100 := by omega
    rw [fX1_cellsCutOff_179, if_neg (show ¬ iN 100 < 100 by decide)]
  | m + 1, k, fuel + 1, w, hk, hf, hw => by
    have hY := hw.1.yy h
    have ih := co179 h m (k + 1) fuel w (by omega) (by omega) hw
    have r1 : w.1 5 k = wm.1 149 (15 * k + 2) := hY.1.row (j := 2) (by omega) (by omega)
    have r2 : w.1 7 k = wm.1 149 (15 * k + 4) := hY.1.row (j := 4) (by omega) (by omega)
    have hle := cntN_le (cutP (wm.1 149) M) k
    rw [fX1_cellsCutOff_179, if_pos ((iN_lt_lit (by omega) (by omega)).mpr (show k < 100 by omega)), inb_lt2 (by omega) (by omega), if_pos rfl, ri_iN (by omega), ri_iN (by omega), ri_iN (by omega), r1, r2, hw.2.1 k (by omega), add_lit, add_lit]
    have st : ∀ x, cutP (wm.1 149) M k = x → cntN (cutP (wm.1 149) M) (k + 1) = cntN (cutP (wm.1 149) M) k + (if x = true then 1 else 0) := fun x e => by
      rw [← e]
      rfl
    by_cases c1 : 0 < wm.1 149 (15 * k + 2)
    · rw [if_pos c1]
      by_cases c2 : wm.1 149 (15 * k + 4) = 0
      · rw [if_pos c2]
        by_cases c3 : M k = true
        · rw [if_pos c3, if_pos rfl]
          rw [st false (by unfold cutP; rw [c3]; simp), if_neg (by simp), Nat.add_zero] at ih
          exact ih
        · rw [if_neg c3, if_neg (by unfold mk0; split <;> decide)]
          rw [st true (by unfold cutP; rw [decide_eq_true c1, decide_eq_true c2]; simpa using c3), if_pos rfl] at ih
          exact ih
      · rw [if_neg c2]
        rw [st false (by unfold cutP; rw [decide_eq_false c2]; simp), if_neg (by simp), Nat.add_zero] at ih
        exact ih
    · rw [if_neg c1]
      rw [st false (by unfold cutP; rw [decide_eq_false c1]; simp), if_neg (by simp), Nat.add_zero] at ih
      exact ih
theorem cut_c {n : Nat} {wc wm : Wd} (h : YY n wc wm) : ∃ b M w', b < 100 ∧ wm.1 149 4304 = iN b ∧ fX11_cutOff wc = some (iN (cntN (cutP (wm.1 149) M) 100), w') ∧ CW wc w' ∧ Snd (opB wm) b M ∧ Cls (opB wm) M ∧ (opB wm b = true → M b = true) := by
  obtain ⟨b, hb, eb⟩ := h.1.2.2.2.2.2.1.2.2.2.1
  obtain ⟨w1, e1, e2, e3⟩ := co7 h 100 0 FU wc (by omega) (by unfold FU; omega) ⟨fun _ _ _ => rfl, rfl⟩ (fun c hc => by omega)
  rw [show iN 0 = 0 from rfl] at e1
  have hbr : w1.1 1 9 = iN b := by
    rw [e2.1 1 (by omega) (by omega), ← eb]
    exact h.1.scal (j := 4) (by omega)
  have z : ∀ {M : Nat → Bool} {w' : Wd} {K : Nat}, BS wc (opB wm) b K M w' → fX1_cellsCutOff_179 FU 0 0 w' = some (iN (cntN (cutP (wm.1 149) M) 100), w') := fun q => co179 h 100 0 FU _ (by omega) (by unfold FU; omega) q
  have top : ∀ {x : Option (Int32 × Wd)} {r : Int32 × Wd}, fX1_cellsCutOff_7 1 (iN 100) w1 = some r → fX11_cutOff wc = some r := by
    intro x r q
    unfold fX11_cutOff fX1_cellsCutOff
    rw [e1, q]
    rfl
  by_cases c : opB wm b = true
  · have h0 : BS wc (opB wm) b 0 (fun _ => false) w1 := ⟨e2, (by intro c hc; rw [if_neg (by simp)]; exact e3 c hc), (by intro c _ q; cases q), (cntN_0 100 (fun _ _ => rfl)).symm, (by intro i hi; omega), (by intro c _ q; cases q)⟩
    have h1 := h0.add hb rfl c ⟨0, rfl, c⟩
    obtain ⟨M', w', K', q1, q2, q3, q4⟩ := co88 100 0 FU (0 + 1) _ _ (by omega) (by unfold FU; omega) (by omega) h1 (fun i t d hi => by omega)
    refine ⟨b, M', w', hb, eb, top (x := none) ?_, q2.1, q2.2.2.1, q3, fun _ => q4 b (by unfold addM; rw [if_pos rfl])⟩
    rw [fX1_cellsCutOff_7, if_neg (show ¬ iN 100 < 100 by decide), hbr, inb_lt2 hb (by omega), if_pos rfl, ri_iN (by omega), e3 b hb]
    unfold mk0
    rw [if_pos c, if_pos rfl, nw_eq, nw_eq, wi_iN (by omega), show wi (si w1 98 b 2) 99 0 ((si w1 98 b 2).1 1 9) = si (si w1 98 b 2) 99 0 (iN b) by
      show si (si w1 98 b 2) 99 _ _ = _
      rw [si_oth (by omega), hbr]
      rfl, ← z q2]
    exact q1
  · have h0 : BS wc (opB wm) b 0 (fun _ => false) w1 := ⟨e2, (by intro c hc; rw [if_neg (by simp)]; exact e3 c hc), (by intro c _ q; cases q), (cntN_0 100 (fun _ _ => rfl)).symm, (by intro i hi; omega), (by intro c _ q; cases q)⟩
    obtain ⟨M', w', K', q1, q2, q3, q4⟩ := co88 100 0 FU 0 _ _ (by omega) (by unfold FU; omega) (by omega) h0 (fun i t d hi => by omega)
    refine ⟨b, M', w', hb, eb, top (x := none) ?_, q2.1, q2.2.2.1, q3, fun q => (c q).elim⟩
    rw [fX1_cellsCutOff_7, if_neg (show ¬ iN 100 < 100 by decide), hbr, inb_lt2 hb (by omega), if_pos rfl, ri_iN (by omega), e3 b hb]
    unfold mk0
    rw [if_neg c, if_neg (by decide), ← z q2]
    exact q1
-- MATHEMATICS: m60
def FW (wb w : Wd) : Prop := (∀ a, ¬ a = 157 → ¬ a = 158 → w.1 a = wb.1 a) ∧ w.2 = wb.2
theorem FW.put {wb w : Wd} {a i : Nat} {x : Int32} (hw : FW wb w) (ha : a = 157 ∨ a = 158) : FW wb (si w a i x) := ⟨fun b h1 h2 => (si_oth (by omega)).trans (hw.1 b h1 h2), hw.2⟩
theorem FW.yy {n : Nat} {wc wb w : Wd} (h : YY n wc wb) (hw : FW wb w) : YY n wc w := h.fl (fun _ _ => rfl) rfl (fun a h1 h2 h3 h4 => hw.1 a (by omega) (by omega)) hw.2 (fun j _ _ => by rw [hw.1 148 (by omega) (by omega)])
def b01 (b : Bool) : Int32 := if b = true then 1 else 0
theorem nar_b (b : Bool) : vp_nar .boolean (b01 b) = b01 b := by cases b <;> rfl
theorem nar_0 : vp_nar .boolean (0 : Int32) = 0 := rfl
theorem nar_1 : vp_nar .boolean (1 : Int32) = 1 := rfl
theorem b01_0 {b : Bool} : b01 b = 0 ↔ b = false := by cases b <;> decide
theorem cm7 {n : Nat} {wc wb : Wd} (h : YY n wc wb) : ∀ (m k fuel : Nat) (w : Wd), k + m = 100 → m < fuel → FW wb w → (∀ c, c < k → w.1 157 c = b01 (opB wb c) ∧ w.1 158 c = 0) → ∃ w', fX12_cutOff_7 fuel (iN k) w = fX12_cutOff_7 1 (iN 100) w' ∧ FW wb w' ∧ ∀ c, c < 100 → w'.1 157 c = b01 (opB wb c) ∧ w'.1 158 c = 0
  | 0, k, fuel + 1, w, hk, _, hw, hm => by
    obtain rfl : k = 100 := by omega
    exact ⟨w, by rw [fX12_cutOff_7, fX12_cutOff_7, if_neg (show ¬ iN 100 < 100 by decide), if_neg (show ¬ iN 100 < 100 by decide)], hw, hm⟩
  | m + 1, k, fuel + 1, w, hk, hf, hw, hm => by
    have hY := hw.yy h
    have h149 : w.1 149 = wb.1 149 := hw.1 149 (by omega) (by omega)
    have ih : ∀ b, b = opB wb k → ∃ w', fX12_cutOff_40 (fX12_cutOff_7 fuel) (iN k) (iN k) (b01 b) w = fX12_cutOff_7 1 (iN 100) w' ∧ FW wb w' ∧ ∀ c, c < 100 → w'.1 157 c = b01 (opB wb c) ∧ w'.1 158 c = 0 := by
      intro b hb
      unfold fX12_cutOff_40
      rw [inb_lt2 (by omega) (by omega), if_pos rfl, nw_eq, if_pos rfl, nw_eq, wi_iN (by omega), wi_iN (by omega), add_lit, nar_b, nar_0]
      refine cm7 h m (k + 1) fuel _ (by omega) (by omega) ((hw.put (by omega)).put (by omega)) (fun c hc => ?_)
      rw [si_1, si_1, si_1]
      by_cases e : c = k
      · subst e
        rw [if_neg (by omega), if_pos ⟨rfl, rfl⟩, if_pos ⟨rfl, rfl⟩, hb]
        exact ⟨rfl, rfl⟩
      · rw [if_neg (by omega), if_neg (by omega), if_neg (by omega), si_oth (by omega)]
        exact hm c (by omega)
    obtain ⟨s1, s2⟩ := shutB hY (show k < 100 by omega)
    have s0 : ∃ b, fX12_isShut (iN k) w = some b ∧ (fX12_isShut (iN k) wb).getD false = b := by
      obtain ⟨b, b1, b2⟩ := shut_eq hY (show k < 100 by omega)
      obtain ⟨b', b1', b2'⟩ := shut_eq h (show k < 100 by omega)
      rw [b1] at b1'
      cases b1'
      exact ⟨b, b2, by rw [b2']; rfl⟩
    obtain ⟨sb, t1, t2⟩ := s0
    have hmc : fX12_c (iN k) 4 w = some (w.1 149 (15 * k + 4)) := mc_j (j := 4) (by omega) (by decide)
    rw [fX12_cutOff_7, if_pos ((iN_lt_lit (by omega) (by omega)).mpr (show k < 100 by omega)), hmc, Option.bind_some, h149, t1, Option.bind_some]
    by_cases c1 : wb.1 149 (15 * k + 4) = 0
    · rw [if_pos c1]
      cases sb
      · rw [if_neg (by simp)]
        refine ih true ?_
        unfold opB
        rw [decide_eq_true c1, t2]
        rfl
      · rw [if_pos rfl]
        refine ih false ?_
        unfold opB
        rw [t2]
        simp
    · rw [if_neg c1]
      refine ih false ?_
      unfold opB
      rw [decide_eq_false c1]
      rfl
def Mst (wb : Wd) (op : Nat → Bool) (w : Wd) (M : Nat → Bool) : Prop := FW wb w ∧ (∀ c, c < 100 → w.1 157 c = b01 (op c)) ∧ ∀ c, c < 100 → w.1 158 c = b01 (M c)
def setM (M : Nat → Bool) (k : Nat) (b : Bool) : Nat → Bool := fun c => if c = k then b else M c
theorem Mst.put {wb w : Wd} {op M : Nat → Bool} {k : Nat} {b : Bool} (h : Mst wb op w M) : Mst wb op (si w 158 k (b01 b)) (setM M k b) := by
  refine ⟨h.1.put (by omega), fun c hc => ?_, fun c hc => ?_⟩
  · rw [si_oth (by omega)]
    exact h.2.1 c hc
  · rw [si_1]
    unfold setM
    by_cases e : c = k
    · rw [if_pos ⟨rfl, e⟩, if_pos e]
    · rw [if_neg (by omega), if_neg e]
      exact h.2.2 c hc
theorem besN_ne {c k d : Nat} (hc : c < 100) (h : besN c k = some d) : ¬ d = c := by
  have := (besN_adj hc h).2
  unfold adj at this
  omega
theorem cm113 {wb : Wd} {op : Nat → Bool} {k76 : Int32 → Wd → Option (Int32 × Wd)} {k84 : Int32 → Int32 → Wd → Option (Int32 × Wd)} {k : Nat} {v : Bool} (hk : k < 100) : ∀ (m j fuel : Nat) (M : Nat → Bool) (w : Wd), j + m = 4 → m < fuel → Mst wb op w M → ∃ M' w', fX12_cutOff_113 k76 k84 fuel (b01 v) (iN k) (iN j) w = k84 (b01 (v || M' k)) (iN (k + 1)) w' ∧ Mst wb op w' M' ∧ (∀ c, ¬ c = k → M' c = M c) ∧ (M' k = true ↔ M k = true ∨ ∃ j' d, j ≤ j' ∧ j' < 4 ∧ besN k j' = some d ∧ M d = true)
  | 0, j, fuel + 1, M, w, hj, _, h => by
    obtain rfl : j = 4 := by omega
    rw [fX12_cutOff_113, if_neg (show ¬ iN 4 < 4 by decide), inb_lt2 hk (by omega), if_pos rfl, ri_iN (by omega), h.2.2 k hk, add_lit]
    refine ⟨M, w, ?_, h, fun _ _ => rfl, ⟨Or.inl, ?_⟩⟩
    · cases v
      · rw [if_pos (show b01 false = 0 from rfl)]
        cases M k <;> rfl
      · rw [if_neg (show ¬ b01 true = 0 by decide)]
        rfl
    · rintro (q | ⟨j', d, h1, h2, -⟩)
      · exact q
      · omega
  | m + 1, j, fuel + 1, M, w, hj, hf, h => by
    have go : ∀ b, (b = true ↔ M k = true ∨ ∃ d, besN k j = some d ∧ M d = true) → ∃ M' w', fX12_cutOff_160 k76 k84 (fX12_cutOff_113 k76 k84 fuel) (b01 v) (iN k) (iN j) (iN k) (b01 b) w = k84 (b01 (v || M' k)) (iN (k + 1)) w' ∧ Mst wb op w' M' ∧ (∀ c, ¬ c = k → M' c = M c) ∧ (M' k = true ↔ M k = true ∨ ∃ j' d, j ≤ j' ∧ j' < 4 ∧ besN k j' = some d ∧ M d = true) := by
      intro b hb
      unfold fX12_cutOff_160
      rw [inb_lt2 hk (by omega), if_pos rfl, nw_eq, wi_iN (by omega), nar_b, add_lit]
      obtain ⟨M', w', r1, r2, r3, r4⟩ := cm113 (k76 := k76) (k84 := k84) (v := v) hk m (j + 1) fuel _ _ (by omega) (by omega) (h.put (k := k) (b := b))
      have e1 : setM M k b k = b := by unfold setM; rw [if_pos rfl]
      have e2 : ∀ c, ¬ c = k → setM M k b c = M c := fun c hc => by unfold setM; rw [if_neg hc]
      refine ⟨M', w', r1, r2, fun c hc => (r3 c hc).trans (e2 c hc), ?_⟩
      rw [r4, e1, hb]
      constructor
      · rintro ((q | ⟨d, q1, q2⟩) | ⟨j', d, q1, q2, q3, q4⟩)
        · exact Or.inl q
        · exact Or.inr ⟨j, d, Nat.le_refl _, by omega, q1, q2⟩
        · rw [e2 d (besN_ne hk q3)] at q4
          exact Or.inr ⟨j', d, by omega, q2, q3, q4⟩
      · rintro (q | ⟨j', d, q1, q2, q3, q4⟩)
        · exact Or.inl (Or.inl q)
        · by_cases e : j' = j
          · exact Or.inl (Or.inr ⟨d, e ▸ q3, q4⟩)
          · exact Or.inr ⟨j', d, by omega, q2, q3, by rw [e2 d (besN_ne hk q3)]; exact q4⟩
    rw [fX12_cutOff_113, if_pos ((iN_lt_lit (by omega) (by omega)).mpr (show j < 4 by omega)), bes_m hk (by omega), Option.bind_some, inb_lt2 hk (by omega), if_pos rfl, ri_iN (by omega), h.2.2 k hk]
    by_cases c1 : M k = true
    · rw [if_neg (show ¬ b01 (M k) = 0 by rw [c1]; decide)]
      exact go true ⟨fun _ => Or.inl c1, fun _ => rfl⟩
    · have c1' : M k = false := by simpa using c1
      rw [if_pos (show b01 (M k) = 0 by rw [c1']; rfl)]
      cases e : besN k j with
      | none =>
        rw [if_pos (show enc1 none = -1 from rfl)]
        refine go false ⟨(by intro q; cases q), ?_⟩
        rintro (q | ⟨d, q, -⟩)
        · exact (c1 q).elim
        · rw [e] at q
          cases q
      | some d =>
        have hd := (besN_adj hk e).1
        rw [if_neg (enc1_ne (by omega)), show enc1 (some d) = iN d from rfl, inb_lt2 hd (by omega), if_pos rfl, ri_iN (by omega), h.2.2 d hd]
        by_cases c2 : M d = true
        · rw [if_neg (show ¬ b01 (M d) = 0 by rw [c2]; decide)]
          exact go true ⟨fun _ => Or.inr ⟨d, e, c2⟩, fun _ => rfl⟩
        · have c2' : M d = false := by simpa using c2
          rw [if_pos (show b01 (M d) = 0 by rw [c2']; rfl)]
          refine go false ⟨(by intro q; cases q), ?_⟩
          rintro (q | ⟨d', q, q2⟩)
          · exact (c1 q).elim
          · rw [e] at q
            cases q
            exact (c2 q2).elim
theorem cntN_mono {p q : Nat → Bool} : ∀ n, (∀ i, i < n → p i = true → q i = true) → cntN p n ≤ cntN q n
  | 0, _ => Nat.le_refl _
  | n + 1, h => by
    have h1 := cntN_mono n (fun i hi => h i (by omega))
    have h2 := h n (by omega)
    show cntN p n + _ ≤ cntN q n + _
    by_cases e : p n = true
    · rw [if_pos e, if_pos (h2 e)]
      omega
    · rw [if_neg e]
      omega
theorem cm84 {wb : Wd} {op : Nat → Bool} {b : Nat} {k76 : Int32 → Wd → Option (Int32 × Wd)} : ∀ (m k fuel : Nat) (v : Bool) (M : Nat → Bool) (w : Wd), k + m = 100 → m < fuel → Snd op b M → Mst wb op w M → ∃ v' M' w', fX12_cutOff_84 k76 fuel (b01 v) (iN k) w = k76 (b01 v') w' ∧ Mst wb op w' M' ∧ Snd op b M' ∧ (∀ c, M c = true → M' c = true) ∧ (v' = false → v = false ∧ M' = M ∧ ∀ c d, k ≤ c → c < 100 → op c = true → M c = false → d < 100 → adj c d → M d = false) ∧ (v' = true → v = true ∨ cntN M 100 < cntN M' 100)
  | 0, k, fuel + 1, v, M, w, hk, _, hs, h => by
    obtain rfl : k = 100 := by omega
    rw [fX12_cutOff_84, if_neg (show ¬ iN 100 < 100 by decide)]
    exact ⟨v, M, w, rfl, h, hs, fun _ q => q, fun q => ⟨q, rfl, fun c d h1 h2 => by omega⟩, fun q => Or.inl q⟩
  | m + 1, k, fuel + 1, v, M, w, hk, hf, hs, h => by
    have skip : (op k = false ∨ M k = true) → ∃ v' M' w', fX12_cutOff_84 k76 fuel (b01 v) (iN (k + 1)) w = k76 (b01 v') w' ∧ Mst wb op w' M' ∧ Snd op b M' ∧ (∀ c, M c = true → M' c = true) ∧ (v' = false → v = false ∧ M' = M ∧ ∀ c d, k ≤ c → c < 100 → op c = true → M c = false → d < 100 → adj c d → M d = false) ∧ (v' = true → v = true ∨ cntN M 100 < cntN M' 100) := by
      intro hsk
      obtain ⟨v', M', w', r1, r2, r3, r4, r5, r6⟩ := cm84 (k76 := k76) m (k + 1) fuel v M w (by omega) (by omega) hs h
      refine ⟨v', M', w', r1, r2, r3, r4, fun q => ?_, r6⟩
      obtain ⟨a1, a2, a3⟩ := r5 q
      refine ⟨a1, a2, fun c d h1 h2 h3 h4 => ?_⟩
      by_cases e : c = k
      · subst e
        rcases hsk with e | e
        · rw [e] at h3
          cases h3
        · rw [e] at h4
          cases h4
      · exact a3 c d (by omega) h2 h3 h4
    rw [fX12_cutOff_84, if_pos ((iN_lt_lit (by omega) (by omega)).mpr (show k < 100 by omega)), inb_lt2 (by omega) (by omega), if_pos rfl, ri_iN (by omega), ri_iN (by omega), h.2.1 k (by omega), h.2.2 k (by omega), add_lit]
    by_cases c1 : op k = true
    · rw [c1, if_neg (show ¬ b01 true = 0 by decide)]
      by_cases c2 : M k = true
      · rw [c2, if_neg (show ¬ b01 true = 0 by decide)]
        exact skip (Or.inr c2)
      · have c2' : M k = false := by simpa using c2
        rw [c2', if_pos (show b01 false = 0 from rfl)]
        obtain ⟨M1, w1, r1, r2, r3, r4⟩ := cm113 (k76 := k76) (k84 := fX12_cutOff_84 k76 fuel) (v := v) (show k < 100 by omega) 4 0 FU M w (by omega) (by unfold FU; omega) h
        rw [show iN 0 = 0 from rfl] at r1
        rw [r1]
        by_cases c3 : M1 k = true
        · have hmono : ∀ c, M c = true → M1 c = true := fun c q => by
            by_cases e : c = k
            · rw [e]
              exact c3
            · rw [r3 c e]
              exact q
          have hcnt : cntN M1 100 = cntN M 100 + 1 := by
            rw [cntN_one (p := M) (c := k) r3 c2' c3, if_pos (by omega)]
          have hs1 : Snd op b M1 := by
            intro c hc q
            by_cases e : c = k
            · subst e
              rcases r4.mp c3 with q2 | ⟨j', d, q1, q2, q3, q4⟩
              · exact (c2 q2).elim
              · obtain ⟨hd, ha⟩ := besN_adj hc q3
                exact ⟨c1, (hs d hd q4).2.step hd (adj_sym ha) c1⟩
            · rw [r3 c e] at q
              exact hs c hc q
          obtain ⟨v', M', w', q1, q2, q3, q4, q5, q6⟩ := cm84 (k76 := k76) m (k + 1) fuel (v || M1 k) M1 w1 (by omega) (by omega) hs1 r2
          have hle := cntN_mono (p := M1) (q := M') 100 (fun i _ => q4 i)
          refine ⟨v', M', w', q1, q2, q3, fun c q => q4 c (hmono c q), fun q => ?_, fun _ => Or.inr (by omega)⟩
          have := (q5 q).1
          rw [c3] at this
          simp at this
        · have e1 : M1 = M := by
            funext c
            by_cases e : c = k
            · rw [e, c2']
              simpa using c3
            · exact r3 c e
          subst e1
          obtain ⟨v', M', w', q1, q2, q3, q4, q5, q6⟩ := cm84 (k76 := k76) m (k + 1) fuel (v || M1 k) M1 w1 (by omega) (by omega) hs r2
          rw [c2', Bool.or_false] at q1 q5 q6
          rw [c2', Bool.or_false]
          refine ⟨v', M', w', q1, q2, q3, q4, fun q => ?_, q6⟩
          obtain ⟨a1, a2, a3⟩ := q5 q
          refine ⟨a1, a2, fun c d h1 h2 h3 h4 h5 h6 => ?_⟩
          by_cases e : c = k
          · subst e
            obtain ⟨j, j1, j2⟩ := bes_of h2 h5 h6
            by_cases e2 : M1 d = true
            · exact (c3 (r4.mpr (Or.inr ⟨j, d, by omega, j1, j2, e2⟩))).elim
            · simpa using e2
          · exact a3 c d (by omega) h2 h3 h4 h5 h6
    · have c1' : op k = false := by simpa using c1
      rw [c1', if_pos (show b01 false = 0 from rfl)]
      exact skip (Or.inl c1')
theorem cm76 {wb : Wd} {op : Nat → Bool} {b : Nat} : ∀ (m fuel : Nat) (M : Nat → Bool) (w : Wd), 100 - cntN M 100 < m → m + 1 < fuel → Snd op b M → Mst wb op w M → (op b = true → M b = true) → ∃ M' w', fX12_cutOff_76 fuel 1 w = fX12_cutOff_199 FU 0 0 w' ∧ Mst wb op w' M' ∧ Snd op b M' ∧ Cls op M' ∧ (op b = true → M' b = true) := by
  intro m
  induction m with
  | zero => intro fuel M w hm; omega
  | succ m ih =>
    intro fuel M w hm hf hs h hb
    obtain ⟨fuel, rfl⟩ : ∃ g, fuel = g + 1 + 1 := ⟨fuel - 2, by omega⟩
    rw [fX12_cutOff_76, if_neg (by decide)]
    obtain ⟨v', M', w', q1, q2, q3, q4, q5, q6⟩ := cm84 (k76 := fX12_cutOff_76 (fuel + 1)) 100 0 FU false M w (by omega) (by unfold FU; omega) hs h
    rw [show b01 false = 0 from rfl, show iN 0 = 0 from rfl] at q1
    rw [q1]
    cases v'
    · obtain ⟨-, a2, a3⟩ := q5 rfl
      subst a2
      refine ⟨M', w', ?_, q2, q3, fun c d hc hd h1 ha ho => ?_, hb⟩
      · rw [fX12_cutOff_76, if_pos (show b01 false = 0 from rfl)]
      · by_cases e : M' d = true
        · exact e
        · have := a3 d c (by omega) hd ho (by simpa using e) hc (adj_sym ha)
          rw [h1] at this
          cases this
    · have hc : cntN M 100 < cntN M' 100 := by
        rcases q6 rfl with q | q
        · cases q
        · exact q
      have hle := cntN_le M' 100
      exact ih (fuel + 1) M' w' (by omega) (by omega) q3 q2 (fun q => q4 b (hb q))
theorem cm199 {wb : Wd} {op M : Nat → Bool} : ∀ (m k fuel : Nat) (w : Wd), k + m = 100 → m < fuel → Mst wb op w M → fX12_cutOff_199 fuel (iN (cntN (cutP (wb.1 149) M) k)) (iN k) w = some (iN (cntN (cutP (wb.1 149) M) 100), w)
  | 0, k, fuel + 1, w, hk, _, _ => by
    obtain rfl : k = 100 := by omega
    rw [fX12_cutOff_199, if_neg (show ¬ iN 100 < 100 by decide)]
  | m + 1, k, fuel + 1, w, hk, hf, hw => by
    have ih := cm199 m (k + 1) fuel w (by omega) (by omega) hw
    have h149 : w.1 149 = wb.1 149 := hw.1.1 149 (by omega) (by omega)
    have hmc2 : fX12_c (iN k) 2 w = some (w.1 149 (15 * k + 2)) := mc_j (j := 2) (by omega) (by decide)
    have hmc : fX12_c (iN k) 4 w = some (w.1 149 (15 * k + 4)) := mc_j (j := 4) (by omega) (by decide)
    have hle := cntN_le (cutP (wb.1 149) M) k
    have st : ∀ x, cutP (wb.1 149) M k = x → cntN (cutP (wb.1 149) M) (k + 1) = cntN (cutP (wb.1 149) M) k + (if x = true then 1 else 0) := fun x e => by
      rw [← e]
      rfl
    unfold fX12_cutOff_199 fX12_cutOff_237
    rw [if_pos ((iN_lt_lit (by omega) (by omega)).mpr (show k < 100 by omega)), hmc2, Option.bind_some, hmc, Option.bind_some, inb_lt2 (by omega) (by omega), if_pos rfl, ri_iN (by omega), hw.2.2 k (by omega), h149, add_lit, add_lit, Int32.add_zero]
    by_cases c1 : 0 < wb.1 149 (15 * k + 2)
    · rw [if_pos c1]
      by_cases c2 : wb.1 149 (15 * k + 4) = 0
      · rw [if_pos c2]
        by_cases c3 : M k = true
        · rw [c3, if_neg (show ¬ b01 true = 0 by decide)]
          rw [st false (by unfold cutP; rw [c3]; simp), if_neg (by simp), Nat.add_zero] at ih
          exact ih
        · have c3' : M k = false := by simpa using c3
          rw [c3', if_pos (show b01 false = 0 from rfl)]
          rw [st true (by unfold cutP; rw [decide_eq_true c1, decide_eq_true c2, c3']; rfl), if_pos rfl] at ih
          exact ih
      · rw [if_neg c2]
        rw [st false (by unfold cutP; rw [decide_eq_false c2]; simp), if_neg (by simp), Nat.add_zero] at ih
        exact ih
    · rw [if_neg c1]
      rw [st false (by unfold cutP; rw [decide_eq_false c1]; simp), if_neg (by simp), Nat.add_zero] at ih
      exact ih
theorem cut_m {n : Nat} {wc wb : Wd} (h : YY n wc wb) : ∃ b M w', b < 100 ∧ wb.1 149 4304 = iN b ∧ fX12_cutOff_7 FU 0 wb = some (iN (cntN (cutP (wb.1 149) M) 100), w') ∧ FW wb w' ∧ Snd (opB wb) b M ∧ Cls (opB wb) M ∧ (opB wb b = true → M b = true) := by
  obtain ⟨b, hb, eb⟩ := h.1.2.2.2.2.2.1.2.2.2.1
  obtain ⟨w1, e1, e2, e3⟩ := cm7 h 100 0 FU wb (by omega) (by unfold FU; omega) ⟨fun _ _ _ => rfl, rfl⟩ (fun c hc => by omega)
  rw [show iN 0 = 0 from rfl] at e1
  have hbr : fX12_g 4 w1 = some (iN b) := by
    rw [mg_4, e2.1 149 (by omega) (by omega), eb]
  have h0 : Mst wb (opB wb) (si w1 158 b (b01 (opB wb b))) (setM (fun _ => false) b (opB wb b)) := Mst.put ⟨e2, fun c hc => (e3 c hc).1, fun c hc => (e3 c hc).2⟩
  have hs : Snd (opB wb) b (setM (fun _ => false) b (opB wb b)) := by
    intro c hc q
    unfold setM at q
    by_cases e : c = b
    · rw [if_pos e] at q
      rw [e]
      exact ⟨q, 0, rfl, q⟩
    · rw [if_neg e] at q
      cases q
  obtain ⟨M, w', q1, q2, q3, q4, q5⟩ := cm76 101 FU _ _ (by omega) (by unfold FU; omega) hs h0 (fun q => by unfold setM; rw [if_pos rfl]; exact q)
  refine ⟨b, M, w', hb, eb, ?_, q2.1, q3, q4, q5⟩
  have z := cm199 (wb := wb) (op := opB wb) (M := M) 100 0 FU w' (by omega) (by unfold FU; omega) q2
  rw [show iN (cntN (cutP (wb.1 149) M) 0) = 0 from rfl, show iN 0 = 0 from rfl] at z
  rw [e1, fX12_cutOff_7, if_neg (show ¬ iN 100 < 100 by decide), hbr, Option.bind_some, Option.bind_some, inb_lt2 hb (by omega), if_pos rfl, if_pos rfl, nw_eq, wi_iN (by omega), ri_iN (by omega), (e3 b hb).1, nar_b, q1, z]
theorem cutOff_ok {n : Nat} {wc wm : Wd} (h : YY n wc wm) : ∃ r wc' wm', fX11_cutOff wc = some (r, wc') ∧ fX12_cutOff wm = some (r, wm') ∧ YY n wc' wm' := by
  have h0 := h.thr (x := 0)
  obtain ⟨b, M, wc', hb, eb, e1, e2, s1, c1, b1⟩ := cut_c h0
  obtain ⟨b', M', wm', hb', eb', e1', e2', s2, c2, b2⟩ := cut_m h0
  have hbb : b' = b := (iN_inj (by omega) (by omega)).mp (eb'.symm.trans eb)
  subst hbb
  have hM := same_M hb s1 c1 b1 s2 c2 b2
  have hc : cntN (cutP ((si wm 148 0 0).1 149) M) 100 = cntN (cutP ((si wm 148 0 0).1 149) M') 100 := cntN_cong 100 (fun i hi => by
    unfold cutP
    rw [hM i hi])
  refine ⟨_, wc', wm', e1, ?_, ?_⟩
  · unfold fX12_cutOff
    rw [nw_eq, hc]
    exact e1'
  · exact (e2.yy h0).fl (fun _ _ => rfl) rfl (fun a h1 h2 h3 h4 => e2'.1 a (by omega) (by omega)) e2'.2 (fun j _ _ => by rw [e2'.1 148 (by omega) (by omega)])
-- MATHEMATICS: m61
def omin : Option Nat → Option Nat → Option Nat
  | none, y => y
  | some a, none => some a
  | some a, some b => if b < a then some b else some a
def mn4 (g : Nat → Option Nat) : Option Nat := omin (omin (omin (omin none (g 0)) (g 1)) (g 2)) (g 3)
def nbR (r : Nat → Option Nat) (l b c k : Nat) : Option Nat := match besN c k with
  | none => none
  | some d => if nr d b = l then r d else none
def dgN (S : Nat → Int32) (a b : Nat) (z f : Int32) (l c : Nat) : Nat := (digV S c (z - f * iN (nr a b - l))).toNatClampNeg
def rVv (S : Nat → Int32) (a b : Nat) (z f : Int32) : Nat → Nat → Option Nat
  | 0, c => some (dgN S a b z f 0 c)
  | l + 1, c => if S (15 * c + 4) = 1 then none else (mn4 (nbR (rVv S a b z f l) l b c)).map (fun v => v + dgN S a b z f (l + 1) c)
theorem omin_ss (a b : Nat) : omin (some a) (some b) = if b < a then some b else some a := rfl
theorem omin_le {x y : Option Nat} {v : Nat} (h : omin x y = some v) : x = some v ∨ y = some v := by
  cases x with
  | none => exact Or.inr h
  | some a =>
    cases y with
    | none => exact Or.inl h
    | some b =>
      rw [omin_ss] at h
      split at h
      · exact Or.inr h
      · exact Or.inl h
theorem mn4_of {g : Nat → Option Nat} {v : Nat} (h : mn4 g = some v) : ∃ k, k < 4 ∧ g k = some v := by
  unfold mn4 at h
  rcases omin_le h with h | h
  · rcases omin_le h with h | h
    · rcases omin_le h with h | h
      · rcases omin_le h with h | h
        · cases h
        · exact ⟨0, by omega, h⟩
      · exact ⟨1, by omega, h⟩
    · exact ⟨2, by omega, h⟩
  · exact ⟨3, by omega, h⟩
theorem omin_lb {x y : Option Nat} {v u : Nat} (h : omin x y = some v) (hu : x = some u ∨ y = some u) : v ≤ u := by
  cases x with
  | none =>
    rcases hu with hu | hu
    · cases hu
    · rw [show omin none y = y from rfl, hu] at h
      cases h
      exact Nat.le_refl _
  | some a =>
    cases y with
    | none =>
      rcases hu with hu | hu
      · cases hu
        cases h
        exact Nat.le_refl _
      · cases hu
    | some b =>
      rw [omin_ss] at h
      split at h <;> cases h <;> rcases hu with hu | hu <;> cases hu <;> omega
theorem omin_some {x y : Option Nat} {u : Nat} (hu : x = some u ∨ y = some u) : ∃ v, omin x y = some v ∧ v ≤ u := by
  cases e : omin x y with
  | none =>
    cases x with
    | none =>
      rcases hu with hu | hu
      · cases hu
      · rw [show omin none y = y from rfl, hu] at e
        cases e
    | some a =>
      cases y with
      | none => cases e
      | some b =>
        rw [omin_ss] at e
        split at e <;> cases e
  | some v => exact ⟨v, rfl, omin_lb e hu⟩
theorem mn4_lb {g : Nat → Option Nat} {k u : Nat} (hk : k < 4) (hu : g k = some u) : ∃ v, mn4 g = some v ∧ v ≤ u := by
  have h4 : k = 0 ∨ k = 1 ∨ k = 2 ∨ k = 3 := by omega
  unfold mn4
  rcases h4 with rfl | rfl | rfl | rfl
  · obtain ⟨v1, a1, b1⟩ := omin_some (x := none) (Or.inr hu)
    obtain ⟨v2, a2, b2⟩ := omin_some (y := g 1) (Or.inl a1)
    obtain ⟨v3, a3, b3⟩ := omin_some (y := g 2) (Or.inl a2)
    obtain ⟨v4, a4, b4⟩ := omin_some (y := g 3) (Or.inl a3)
    exact ⟨v4, a4, by omega⟩
  · obtain ⟨v2, a2, b2⟩ := omin_some (x := omin none (g 0)) (Or.inr hu)
    obtain ⟨v3, a3, b3⟩ := omin_some (y := g 2) (Or.inl a2)
    obtain ⟨v4, a4, b4⟩ := omin_some (y := g 3) (Or.inl a3)
    exact ⟨v4, a4, by omega⟩
  · obtain ⟨v3, a3, b3⟩ := omin_some (x := omin (omin none (g 0)) (g 1)) (Or.inr hu)
    obtain ⟨v4, a4, b4⟩ := omin_some (y := g 3) (Or.inl a3)
    exact ⟨v4, a4, by omega⟩
  · obtain ⟨v4, a4, b4⟩ := omin_some (x := omin (omin (omin none (g 0)) (g 1)) (g 2)) (Or.inr hu)
    exact ⟨v4, a4, by omega⟩
theorem ds_comm (a b : Nat) : ds a b = ds b a := by
  unfold ds
  split <;> split <;> omega
theorem nr_comm (a b : Nat) : nr a b = nr b a := by
  unfold nr
  rw [ds_comm (a % 10), ds_comm (a / 10)]
theorem ds_tri (a b c : Nat) : ds a c ≤ ds a b + ds b c := by
  unfold ds
  split <;> split <;> split <;> omega
theorem nr_tri (a b c : Nat) : nr a c ≤ nr a b + nr b c := by
  unfold nr
  have h1 := ds_tri (a % 10) (b % 10) (c % 10)
  have h2 := ds_tri (a / 10) (b / 10) (c / 10)
  omega
theorem nr_0 {a b : Nat} (h : nr a b = 0) : a = b := by
  unfold nr ds at h
  split at h <;> split at h <;> omega
theorem nr_self (a : Nat) : nr a a = 0 := by
  unfold nr ds
  split <;> split <;> omega
def inR (a b c : Nat) : Prop := nr c a + nr c b = nr a b
theorem inR_step {a b c d l : Nat} (hc : c < 100) (hd : d < 100) (h : inR a b c) (ha : adj c d) (h1 : nr c b = l + 1) (h2 : nr d b = l) : inR a b d := by
  unfold inR at *
  have e1 := (nr_adj hc hd).mpr ha
  have t1 := nr_tri d c a
  have t2 := nr_tri a d b
  rw [nr_comm d c] at t1
  rw [nr_comm a d] at t2
  omega
theorem inR_a (a b : Nat) : inR a b a := by
  unfold inR
  rw [nr_self]
  omega
theorem inR_b (a b : Nat) : inR a b b := by
  unfold inR
  rw [nr_self, nr_comm]
  omega
def rQq (S : Nat → Int32) (a b : Nat) (z f : Int32) : Prop := IA S ∧ a < 100 ∧ b < 100 ∧ bt 0 300 z ∧ bt 1 9 f ∧ 0 ≤ (z - f * iN (nr a b)).toInt
theorem rQq.inv {S : Nat → Int32} {a b k : Nat} {z f : Int32} (h : rQq S a b z f) (hk : k ≤ nr a b) : bt 0 300 (z - f * iN k) := by
  obtain ⟨-, ha, hb, ⟨z0, z1⟩, ⟨f0, f1⟩, h0⟩ := h
  have hn := nr_lt ha hb
  have e : ∀ j : Nat, j ≤ 18 → (z - f * iN j).toInt = z.toInt - f.toInt * j := fun j hj => by
    have b1 : f.toInt * (j : Int) ≤ 9 * 18 := Int.mul_le_mul f1 (by omega) (by omega) (by omega)
    have b2 : 0 ≤ f.toInt * (j : Int) := Int.mul_nonneg (by omega) (by omega)
    have e1 : (f * iN j).toInt = f.toInt * j := by
      rw [mul_I (by rw [iN_toInt (by omega)]; omega) (by rw [iN_toInt (by omega)]; omega), iN_toInt (by omega)]
    rw [sub_I (by rw [e1]; omega) (by rw [e1]; omega), e1]
  have e1 := e k (by omega)
  have e2 := e (nr a b) hn
  rw [e2] at h0
  have b3 : f.toInt * (k : Int) ≤ f.toInt * (nr a b : Int) := Int.mul_le_mul_of_nonneg_left (by omega) (by omega)
  have b2 : 0 ≤ f.toInt * (k : Int) := Int.mul_nonneg (by omega) (by omega)
  unfold bt
  rw [e1]
  omega
theorem digV_rng {S : Nat → Int32} {c : Nat} {iv : Int32} (hI : IA S) (hc : c < 100) (h : bt 0 300 iv) : 0 ≤ (digV S c iv).toInt ∧ (digV S c iv).toInt ≤ 2700 := by
  obtain ⟨⟨⟨h0, h1⟩, ⟨s0, s1⟩, -⟩, -⟩ := hI c hc
  obtain ⟨i0, i1⟩ := h
  have ed : (S (15 * c) - iv).toInt = (S (15 * c)).toInt - iv.toInt := sub_I (by omega) (by omega)
  unfold digV
  by_cases q : 0 < S (15 * c) - iv
  · have q' : 0 < (S (15 * c)).toInt - iv.toInt := by
      have := lt_I.mp q
      rw [ed] at this
      exact this
    rw [if_pos q]
    have es : (2 + S (15 * c + 1)).toInt = 2 + (S (15 * c + 1)).toInt := add_I (by rw [show (2 : Int32).toInt = 2 from rfl]; omega) (by rw [show (2 : Int32).toInt = 2 from rfl]; omega)
    have b1 : ((S (15 * c)).toInt - iv.toInt) * (2 + (S (15 * c + 1)).toInt) ≤ 300 * 5 := Int.mul_le_mul (by omega) (by omega) (by omega) (by omega)
    have b2 : 0 ≤ ((S (15 * c)).toInt - iv.toInt) * (2 + (S (15 * c + 1)).toInt) := Int.mul_nonneg (by omega) (by omega)
    rw [mul_I (by rw [ed, es]; omega) (by rw [ed, es]; omega), ed, es]
    omega
  · have q' : ¬ 0 < (S (15 * c)).toInt - iv.toInt := fun e => q (by rw [lt_I, ed]; exact e)
    rw [if_neg q, mul_I (by rw [ed, show (-9 : Int32).toInt = -9 from rfl]; omega) (by rw [ed, show (-9 : Int32).toInt = -9 from rfl]; omega), ed, show (-9 : Int32).toInt = -9 from rfl]
    omega
theorem dgN_ok {S : Nat → Int32} {a b c l : Nat} {z f : Int32} (h : rQq S a b z f) (hc : c < 100) : digV S c (z - f * iN (nr a b - l)) = iN (dgN S a b z f l c) ∧ dgN S a b z f l c ≤ 2700 := by
  have h1 := digV_rng h.1 hc (h.inv (k := nr a b - l) (by omega))
  have h2 := cl_nat h1.1
  unfold dgN
  refine ⟨?_, by omega⟩
  rw [eq_I, iN_toInt (by omega)]
  omega
theorem nbR_of {r : Nat → Option Nat} {l b c k v : Nat} (h : nbR r l b c k = some v) : ∃ d, besN c k = some d ∧ nr d b = l ∧ r d = some v := by
  unfold nbR at h
  split at h
  · cases h
  · rename_i d e
    split at h
    · exact ⟨d, e, by assumption, h⟩
    · cases h
theorem rVv_le {S : Nat → Int32} {a b : Nat} {z f : Int32} (h : rQq S a b z f) : ∀ l c v, c < 100 → rVv S a b z f l c = some v → v ≤ 2700 * (l + 1)
  | 0, c, v, hc, e => by
    cases e
    have := (dgN_ok (l := 0) h hc).2
    omega
  | l + 1, c, v, hc, e => by
    unfold rVv at e
    split at e
    · cases e
    · cases e2 : mn4 (nbR (rVv S a b z f l) l b c) with
      | none =>
        rw [e2] at e
        cases e
      | some u =>
        rw [e2] at e
        cases e
        obtain ⟨k, -, k2⟩ := mn4_of e2
        obtain ⟨d, d1, -, d3⟩ := nbR_of k2
        have h1 := rVv_le h l d u (besN_adj hc d1).1 d3
        have h2 := (dgN_ok (l := l + 1) h hc).2
        show u + dgN S a b z f (l + 1) c ≤ _
        omega
def eN (o : Option Nat) : Int32 := match o with
  | none => 100000000
  | some v => iN v
def eC (o : Option Nat) : Int32 := match o with
  | none => 1000000
  | some v => iN v
def oB (o : Option Nat) : Prop := ∀ v, o = some v → v < 1000000
theorem omin_oB {x y : Option Nat} (hx : oB x) (hy : oB y) : oB (omin x y) := fun v h => by
  rcases omin_le h with h | h
  · exact hx v h
  · exact hy v h
theorem eN_min {x y : Option Nat} (hx : oB x) (hy : oB y) : (if eN y < eN x then eN y else eN x) = eN (omin x y) := by
  cases x with
  | none =>
    cases y with
    | none => rfl
    | some b =>
      have := hy b rfl
      rw [if_pos (show eN (some b) < eN none from (iN_lt_lit (by omega) (by omega)).mpr (by omega))]
      rfl
  | some a =>
    have ha := hx a rfl
    cases y with
    | none =>
      rw [if_neg (show ¬ eN none < eN (some a) from fun e => by have := (iN_lt (a := 100000000) (by omega) (by omega)).mp e; omega)]
      rfl
    | some b =>
      have hb := hy b rfl
      rw [omin_ss]
      by_cases q : b < a
      · rw [if_pos q, if_pos (show eN (some b) < eN (some a) from (iN_lt (by omega) (by omega)).mpr q)]
      · rw [if_neg q, if_neg (show ¬ eN (some b) < eN (some a) from fun e => q ((iN_lt (by omega) (by omega)).mp e))]
theorem eC_min {x y : Option Nat} (hx : oB x) (hy : oB y) : mmin (eC x) (eC y) = eC (omin x y) := by
  unfold mmin
  cases x with
  | none =>
    cases y with
    | none => rfl
    | some b =>
      have := hy b rfl
      rw [if_pos (show eC (some b) < eC none from (iN_lt_lit (by omega) (by omega)).mpr (by omega))]
      rfl
  | some a =>
    have ha := hx a rfl
    cases y with
    | none =>
      rw [if_neg (show ¬ eC none < eC (some a) from fun e => by have := (iN_lt (a := 1000000) (by omega) (by omega)).mp e; omega)]
      rfl
    | some b =>
      have hb := hy b rfl
      rw [omin_ss]
      by_cases q : b < a
      · rw [if_pos q, if_pos (show eC (some b) < eC (some a) from (iN_lt (by omega) (by omega)).mpr q)]
      · rw [if_neg q, if_neg (show ¬ eC (some b) < eC (some a) from fun e => q ((iN_lt (by omega) (by omega)).mp e))]
theorem rVv_oB {S : Nat → Int32} {a b l c : Nat} {z f : Int32} (h : rQq S a b z f) (hc : c < 100) (hl : l ≤ 18) : oB (rVv S a b z f l c) := fun v e => by
  have := rVv_le h l c v hc e
  omega
theorem nbR_oB {S : Nat → Int32} {a b l c k : Nat} {z f : Int32} (h : rQq S a b z f) (hc : c < 100) (hl : l ≤ 18) : oB (nbR (rVv S a b z f l) l b c k) := fun v e => by
  obtain ⟨d, d1, -, d3⟩ := nbR_of e
  exact rVv_oB h (besN_adj hc d1).1 hl v d3
theorem rVv_succ {S : Nat → Int32} {a b l c : Nat} {z f : Int32} (hr : ¬ S (15 * c + 4) = 1) : rVv S a b z f (l + 1) c = (mn4 (nbR (rVv S a b z f l) l b c)).map (fun v => v + dgN S a b z f (l + 1) c) := by
  rw [rVv, if_neg hr]
theorem rVv_riv {S : Nat → Int32} {a b l c : Nat} {z f : Int32} (hr : S (15 * c + 4) = 1) : rVv S a b z f (l + 1) c = none := by
  rw [rVv, if_pos hr]
