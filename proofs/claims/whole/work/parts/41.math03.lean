-- MATHEMATICS: m18
theorem cntN_le (p : Nat → Bool) : ∀ n, cntN p n ≤ n
  | 0 => Nat.le_refl _
  | n + 1 => by
    show cntN p n + (if p n = true then 1 else 0) ≤ n + 1
    have := cntN_le p n
    split <;> omega
theorem cntN_one {p q : Nat → Bool} {c : Nat} (hq : ∀ i, ¬ i = c → q i = p i) (h1 : p c = false) (h2 : q c = true) : ∀ n, cntN q n = cntN p n + (if c < n then 1 else 0)
  | 0 => by rw [if_neg (by omega)]; rfl
  | n + 1 => by
    have ih := cntN_one hq h1 h2 n
    show cntN q n + (if q n = true then 1 else 0) = cntN p n + (if p n = true then 1 else 0) + _
    by_cases e : n = c
    · subst e
      rw [ih, h1, h2, if_neg (by omega), if_pos rfl, if_neg (by decide), if_pos (by omega)]
    · rw [ih, hq n e, Nat.add_right_comm]
      by_cases c2 : c < n
      · rw [if_pos c2, if_pos (show c < n + 1 by omega)]
      · rw [if_neg c2, if_neg (show ¬ c < n + 1 by omega)]
theorem sumZ_le {f g : Nat → Int} {c : Nat} {D : Int} (hD : 0 ≤ D) (h : f c ≤ g c + D) : ∀ n, (∀ i, i < n → ¬ i = c → f i = g i) → sumZ f n ≤ sumZ g n + (if c < n then D else 0)
  | 0, _ => by rw [if_neg (by omega)]; show (0 : Int) ≤ 0 + 0; omega
  | n + 1, hi => by
    have ih := sumZ_le hD h n (fun i h1 h2 => hi i (by omega) h2)
    show sumZ f n + f n ≤ sumZ g n + g n + _
    by_cases e : n = c
    · subst e
      rw [if_neg (by omega)] at ih
      rw [if_pos (by omega)]
      omega
    · rw [hi n (by omega) e]
      by_cases c2 : c < n
      · rw [if_pos c2] at ih
        rw [if_pos (show c < n + 1 by omega)]
        omega
      · rw [if_neg c2] at ih
        rw [if_neg (show ¬ c < n + 1 by omega)]
        omega
def sameS (c : Nat) (S S' : Nat → Int32) : Prop := ∀ k, ¬ (1500 + 10 * c ≤ k ∧ k < 1510 + 10 * c) → ¬ k = 15 * c + 9 → ¬ k = 15 * c + 10 → ¬ k = 4317 → S' k = S k
theorem YC.blk {w w' : Wd} {n n' c : Nat} {S S' : Nat → Int32} (h : YC w 0 S n) (hc : c < 100) (ew : ∀ a i, ¬ (((20 ≤ a ∧ a ≤ 29) ∨ a = 15 ∨ a = 16) ∧ i = c) → w'.1 a i = w.1 a i) (eS : sameS c S S') (hb : ∀ j, j < 10 → (j = 0 ∨ 8 ≤ j ∨ (j < 5 ∧ S' (1500 + 10 * c) = 1) ∨ (5 ≤ j ∧ S' (1500 + 10 * c) = 2)) → w'.1 (20 + j) c = S' (1500 + 10 * c + j)) (h9 : w'.1 15 c = S' (15 * c + 9)) (h10 : w'.1 16 c = S' (15 * c + 10)) (hI : Inv S' n') : YC w' 0 S' n' := by
  obtain ⟨h1, h2, h3⟩ := h
  refine ⟨fun k hk hv => ?_, fun m hm => ?_, hI⟩
  · by_cases c1 : 1500 + 10 * c ≤ k ∧ k < 1510 + 10 * c
    · obtain ⟨j, hj, rfl⟩ : ∃ j, j < 10 ∧ k = 1500 + 10 * c + j := ⟨k - (1500 + 10 * c), by omega, by omega⟩
      unfold V
      rw [loc_hse hc hj, Nat.zero_add]
      exact hb j hj ((val_hse hc hj).mp hv)
    · by_cases c2 : k = 15 * c + 9
      · subst c2
        unfold V
        rw [loc_row hc (by omega), Nat.zero_add]
        exact h9
      · by_cases c3 : k = 15 * c + 10
        · subst c3
          unfold V
          rw [loc_row hc (by omega), Nat.zero_add]
          exact h10
        · have c4 : ¬ k = 4317 := by
            rintro rfl
            unfold val at hv
            rw [if_neg (by omega), if_neg (by omega), if_neg (by omega), if_neg (by omega)] at hv
            omega
          have e1 : V w' 0 k = V w 0 k := by
            unfold V
            rw [Nat.zero_add]
            refine ew _ _ ?_
            rintro ⟨q1, q2⟩
            have hl : loc k = ((loc k).1, (loc k).2) := rfl
            rcases q1 with q1 | q1 | q1
            · refine c1 ?_
              have := loc_inj hk (k' := 1500 + 10 * c + ((loc k).1 - 20)) (by omega) (by rw [loc_hse hc (by omega), hl, q2]; exact Prod.ext (by show (loc k).1 = 20 + ((loc k).1 - 20); omega) rfl)
              omega
            · exact c2 (loc_inj hk (by omega) (by rw [loc_row hc (by omega), hl, q1, q2]; rfl))
            · exact c3 (loc_inj hk (by omega) (by rw [loc_row hc (by omega), hl, q1, q2]; rfl))
          rw [e1, eS k c1 c2 c3 c4]
          refine h1 k hk ?_
          have ek : ∀ c', c' < 100 → ¬ c' = c → S' (1500 + 10 * c') = S (1500 + 10 * c') := fun c' _ hne => eS _ (by omega) (by omega) (by omega) (by omega)
          by_cases d0 : 1500 ≤ k ∧ k < 2500
          · obtain ⟨c', j, hc', hj, rfl⟩ : ∃ c' j, c' < 100 ∧ j < 10 ∧ k = 1500 + 10 * c' + j := ⟨(k - 1500) / 10, (k - 1500) % 10, by omega, by omega, by omega⟩
            have := (val_hse hc' hj).mp hv
            rw [ek c' hc' (by omega)] at this
            exact (val_hse hc' hj).mpr this
          unfold val at hv ⊢
          by_cases d1 : k < 1500
          · rw [if_pos d1]
            trivial
          · rw [if_neg d1] at hv ⊢
            by_cases d2 : k < 2500
            · omega
            · rw [if_neg d2] at hv ⊢
              have e16 : S' 4316 = S 4316 := eS _ (by omega) (by omega) (by omega) (by omega)
              have e15 : S' 4315 = S 4315 := eS _ (by omega) (by omega) (by omega) (by omega)
              by_cases d3 : k < 3300
              · rw [if_pos d3] at hv ⊢
                rw [e16] at hv
                exact hv
              · rw [if_neg d3] at hv ⊢
                by_cases d4 : k < 4300
                · rw [if_pos d4] at hv ⊢
                  rw [e15, eS _ (by omega) (by omega) (by omega) (by omega)] at hv
                  exact hv
                · rw [if_neg d4] at hv ⊢
                  exact hv
  · rw [eS _ (by omega) (by omega) (by omega) (by omega)] at hm
    have hm8 := IL.lt h3.2.2.1 hm
    have hl0 : (S (3300 + 125 * m)).toInt ≤ 19 := (h3.2.2.1.2 m hm).1.1.2
    obtain ⟨u, u1, u2, u3, u4⟩ := h2 m hm
    refine ⟨u, ?_, ?_, fun i hi => ?_, fun i hi hi2 => ?_⟩
    · rw [eS _ (by omega) (by omega) (by omega) (by omega)]
      exact u1
    · rw [Nat.zero_add] at u2 ⊢
      rw [ew _ _ (by omega)]
      exact u2
    · rw [eS _ (by omega) (by omega) (by omega) (by omega)]
      exact u3 i hi
    · rw [eS _ (by omega) (by omega) (by omega) (by omega)] at hi2
      rw [eS _ (by omega) (by omega) (by omega) (by omega)]
      exact u4 i hi hi2
theorem IH.blk {S S' : Nat → Int32} {c : Nat} (h : IH S) (hc : c < 100) (eS : sameS c S S') (hh : hs c (fun j => S' (1500 + 10 * c + j))) (hcnt : (S (1500 + 10 * c) = 0 ∧ ¬ S' (1500 + 10 * c) = 0 ∧ S' 4317 = S 4317 + 1 ∧ ¬ S 4317 = 12) ∨ ((S (1500 + 10 * c) = 0 ↔ S' (1500 + 10 * c) = 0) ∧ S' 4317 = S 4317)) : IH S' := by
  obtain ⟨h1, h2, h3⟩ := h
  refine ⟨fun c' hc' => ?_, ?_⟩
  · by_cases e : c' = c
    · subst e
      exact hh
    · exact (h1 c' hc').cong (fun j hj => eS _ (by omega) (by omega) (by omega) (by omega))
  · rcases hcnt with ⟨a1, a2, a3, a4⟩ | ⟨a1, a2⟩
    · have q := cntN_one (p := fun c => decide (¬ S (1500 + 10 * c) = 0)) (q := fun d => if d = c then true else decide (¬ S (1500 + 10 * d) = 0)) (c := c) (fun i hi => if_neg hi) (by simp [a1]) (if_pos rfl) 100
      have q2 : cntN (fun c => decide (¬ S' (1500 + 10 * c) = 0)) 100 = cntN (fun d => if d = c then true else decide (¬ S (1500 + 10 * d) = 0)) 100 := by
        refine cntN_cong 100 (fun i hi => ?_)
        by_cases e : i = c
        · subst e
          simp [a2]
        · rw [if_neg e, eS _ (by omega) (by omega) (by omega) (by omega)]
      rw [if_pos hc] at q
      rw [q2, q, a3, h2]
      refine ⟨add_lit 1 _, ?_⟩
      have : ¬ cntN (fun c => decide (¬ S (1500 + 10 * c) = 0)) 100 = 12 := fun e => a4 (by rw [h2, e]; rfl)
      omega
    · have q : cntN (fun c => decide (¬ S' (1500 + 10 * c) = 0)) 100 = cntN (fun c => decide (¬ S (1500 + 10 * c) = 0)) 100 := by
        refine cntN_cong 100 (fun i hi => ?_)
        by_cases e : i = c
        · subst e
          exact decide_eq_decide.mpr (not_congr a1.symm)
        · rw [eS _ (by omega) (by omega) (by omega) (by omega)]
      rw [q, a2]
      exact ⟨h2, h3⟩
theorem Inv.blk {S S' : Nat → Int32} {c n : Nat} (h : Inv S n) (hc : c < 100) (eS : sameS c S S') (hh : hs c (fun j => S' (1500 + 10 * c + j))) (hcnt : (S (1500 + 10 * c) = 0 ∧ ¬ S' (1500 + 10 * c) = 0 ∧ S' 4317 = S 4317 + 1 ∧ ¬ S 4317 = 12) ∨ ((S (1500 + 10 * c) = 0 ↔ S' (1500 + 10 * c) = 0) ∧ S' 4317 = S 4317)) (h9 : 0 ≤ (S' (15 * c + 9)).toInt) (h10 : 0 ≤ (S' (15 * c + 10)).toInt) (hw : wtr S' c = wtr S c) (hcoal : S' (1500 + 10 * c) = 1 → S (1500 + 10 * c) = 1 ∧ (S' (1503 + 10 * c)).toInt ≤ (S (1503 + 10 * c)).toInt + 9999 ∨ (S' (1503 + 10 * c)).toInt ≤ 9999) : Inv S' (n + 1) := by
  obtain ⟨i1, i2, i3, i4, i5⟩ := h
  refine ⟨i1.cong (fun c' j _ _ => eS _ (by omega) (by omega) (by omega) (by omega)), i2.blk hc eS hh hcnt, i3.cong (fun k _ _ => eS _ (by omega) (by omega) (by omega) (by omega)) (eS _ (by omega) (by omega) (by omega) (by omega)) (eS _ (by omega) (by omega) (by omega) (by omega)), i4.cong (fun c' _ => eS _ (by omega) (by omega) (by omega) (by omega)) (fun j _ => eS _ (by omega) (by omega) (by omega) (by omega)), ?_⟩
  have hz : coalZ S' ≤ coalZ S + 9999 := by
    have h0 : 0 ≤ (if S (1500 + 10 * c) = 1 then (S (1503 + 10 * c)).toInt else 0) := by
      split
      · rename_i e
        have := ((i2.1 c hc).1.2.1 e).2.2.1.1
        rw [show 1503 + 10 * c = 1500 + 10 * c + 3 by omega]
        exact this
      · omega
    have := sumZ_le (f := fun c => if S' (1500 + 10 * c) = 1 then (S' (1503 + 10 * c)).toInt else 0) (g := fun c => if S (1500 + 10 * c) = 1 then (S (1503 + 10 * c)).toInt else 0) (c := c) (D := 9999) (by omega) (by
      show (if S' (1500 + 10 * c) = 1 then (S' (1503 + 10 * c)).toInt else 0) ≤ (if S (1500 + 10 * c) = 1 then (S (1503 + 10 * c)).toInt else 0) + 9999
      by_cases e : S' (1500 + 10 * c) = 1
      · rw [if_pos e]
        rcases hcoal e with ⟨a, b⟩ | b
        · rw [if_pos a]
          exact b
        · omega
      · rw [if_neg e]
        omega) 100 (fun i hi hne => by
      show (if S' (1500 + 10 * i) = 1 then (S' (1503 + 10 * i)).toInt else 0) = (if S (1500 + 10 * i) = 1 then (S (1503 + 10 * i)).toInt else 0)
      rw [eS (1500 + 10 * i) (by omega) (by omega) (by omega) (by omega), eS (1503 + 10 * i) (by omega) (by omega) (by omega) (by omega)])
    rw [if_pos hc] at this
    exact this
  intro c' hc'
  have e0 : S' 4300 = S 4300 := eS _ (by omega) (by omega) (by omega) (by omega)
  obtain ⟨⟨w1, w2, w3, w4⟩, w5, w6⟩ := i5 c' hc'
  have e11 : S' (15 * c' + 11) = S (15 * c' + 11) := eS _ (by omega) (by omega) (by omega) (by omega)
  have e12 : S' (15 * c' + 12) = S (15 * c' + 12) := eS _ (by omega) (by omega) (by omega) (by omega)
  by_cases e : c' = c
  · subst e
    rw [hw, e0, e11, e12]
    exact ⟨⟨h9, h10, w3, w4⟩, w5, by omega⟩
  · have e9 : S' (15 * c' + 9) = S (15 * c' + 9) := eS _ (by omega) (by omega) (by omega) (by omega)
    have e10 : S' (15 * c' + 10) = S (15 * c' + 10) := eS _ (by omega) (by omega) (by omega) (by omega)
    have ew : wtr S' c' = wtr S c' := by
      unfold wtr
      rw [e9, e10, eS (1508 + 10 * c') (by omega) (by omega) (by omega) (by omega), eS (1509 + 10 * c') (by omega) (by omega) (by omega) (by omega)]
    rw [ew, e0, e9, e10, e11, e12]
    exact ⟨⟨w1, w2, w3, w4⟩, w5, by omega⟩
theorem YY.blk {n c : Nat} {wc wc' wm wm' : Wd} (h : YY n wc wm) (hc : c < 100) (ew : ∀ a i, ¬ (((20 ≤ a ∧ a ≤ 29) ∨ a = 15 ∨ a = 16) ∧ i = c) → wc'.1 a i = wc.1 a i) (e2 : wc'.2 = wc.2) (em : ∀ a, ¬ a = 149 → wm'.1 a = wm.1 a) (em2 : wm'.2 = wm.2) (eS : sameS c (wm.1 149) (wm'.1 149)) (hb : ∀ j, j < 10 → (j = 0 ∨ 8 ≤ j ∨ (j < 5 ∧ wm'.1 149 (1500 + 10 * c) = 1) ∨ (5 ≤ j ∧ wm'.1 149 (1500 + 10 * c) = 2)) → wc'.1 (20 + j) c = wm'.1 149 (1500 + 10 * c + j)) (h9 : wc'.1 15 c = wm'.1 149 (15 * c + 9)) (h10 : wc'.1 16 c = wm'.1 149 (15 * c + 10)) (hI : Inv (wm'.1 149) (n + 1)) : YY (n + 1) wc' wm' :=
  (h.up (Nat.le_succ n)).city (h.1.blk hc ew eS hb h9 h10 hI) (fun a h1 _ => ⟨by funext i; exact ew a i (by omega), by rw [e2]⟩) (fun a h1 _ _ _ _ => em a h1) (by rw [em2]) (fun j _ _ => by rw [em _ (by omega)])
theorem else_loop {w : Wd} {n c : Nat} {S : Nat → Int32} (h : YC w 0 S n) (hc : c < 100) : ∀ (m k fuel : Nat), k + m = 100 → m < fuel → fX3_elsewhere_4 w fuel (iN c) (iN (cntN (fun d => decide (¬ d = c ∧ ¬ S (1500 + 10 * d) = 0)) k)) (iN k) = some (iN (cntN (fun d => decide (¬ d = c ∧ ¬ S (1500 + 10 * d) = 0)) 100))
  | 0, k, fuel + 1, hk, _ => by
    obtain rfl : k = 100 := by omega
    unfold fX3_elsewhere_4
    rw [if_neg (by decide)]
  | m + 1, k, fuel + 1, hk, hf => by
    have ih := else_loop h hc m (k + 1) fuel (by omega) (by omega)
    have hp : iN k < (100 : Int32) := (iN_lt (b := 100) (by omega) (by omega)).mpr (by omega)
    have hn : cntN (fun d => decide (¬ d = c ∧ ¬ S (1500 + 10 * d) = 0)) (k + 1) = cntN (fun d => decide (¬ d = c ∧ ¬ S (1500 + 10 * d) = 0)) k + (if decide (¬ k = c ∧ ¬ S (1500 + 10 * k) = 0) = true then 1 else 0) := rfl
    unfold fX3_elsewhere_4
    rw [if_pos hp, add_lit]
    by_cases e : k = c
    · rw [if_pos (by rw [e])]
      rw [hn, if_neg (by simp [e])] at ih
      exact ih
    · rw [if_neg (fun q => e ((iN_inj (by omega) (by omega)).mp q)), inb_lt2 (by omega) (by omega), if_pos rfl, ri_iN (by omega), show w.1 20 k = S (1500 + 10 * k) from h.hse (j := 0) (by omega) (Or.inl rfl)]
      by_cases z : S (1500 + 10 * k) = 0
      · rw [if_pos z]
        rw [hn, if_neg (by simp [z])] at ih
        exact ih
      · rw [if_neg z]
        rw [hn, if_pos (by simp [e, z])] at ih
        rw [show iN (cntN (fun d => decide (¬ d = c ∧ ¬ S (1500 + 10 * d) = 0)) k) + 1 = _ from add_lit 1 _]
        exact ih
theorem else_c {w : Wd} {n c : Nat} {S : Nat → Int32} (h : YC w 0 S n) (hc : c < 100) : ∃ x, fX3_elsewhere (iN c) w = some x ∧ (S (1500 + 10 * c) = 0 → (x < 12 ↔ ¬ S 4317 = 12)) ∧ (¬ S (1500 + 10 * c) = 0 → x < 12) := by
  obtain ⟨-, h2, h3⟩ := h.2.2.2.1
  have hx : fX3_elsewhere (iN c) w = some (iN (cntN (fun d => decide (¬ d = c ∧ ¬ S (1500 + 10 * d) = 0)) 100)) := else_loop h hc 100 0 FU (by omega) (by unfold FU; omega)
  have l1 := cntN_le (fun d => decide (¬ d = c ∧ ¬ S (1500 + 10 * d) = 0)) 100
  refine ⟨_, hx, fun z => ?_, fun z => ?_⟩
  · have e : cntN (fun d => decide (¬ d = c ∧ ¬ S (1500 + 10 * d) = 0)) 100 = cntN (fun c => decide (¬ S (1500 + 10 * c) = 0)) 100 := cntN_cong 100 (fun i _ => by
      refine decide_eq_decide.mpr ⟨fun q => q.2, fun q => ⟨fun r => q (r ▸ z), q⟩⟩)
    rw [e, h2]
    rw [show (iN (cntN (fun c => decide (¬ S (1500 + 10 * c) = 0)) 100) < 12) ↔ _ from iN_lt (b := 12) (by omega) (by omega)]
    rw [show (iN (cntN (fun c => decide (¬ S (1500 + 10 * c) = 0)) 100) = 12) ↔ _ from iN_inj (b := 12) (by omega) (by omega)]
    omega
  · have e := cntN_one (p := fun d => decide (¬ d = c ∧ ¬ S (1500 + 10 * d) = 0)) (q := fun c => decide (¬ S (1500 + 10 * c) = 0)) (c := c) (fun i hi => decide_eq_decide.mpr ⟨fun q => ⟨hi, q⟩, fun q => q.2⟩) (by simp) (by simp [z]) 100
    rw [if_pos hc] at e
    exact (iN_lt (b := 12) (by omega) (by omega)).mpr (by omega)
-- MATHEMATICS: m19
theorem isHouse_no {w : Wd} {v x : Int32} (h : ¬ (0 ≤ v.toInt ∧ v.toInt ≤ 99)) : fX11_isHouse v x w = some false := by
  unfold fX11_isHouse
  rw [isCell_c, Option.bind_some, decide_eq_false h]
  rfl
theorem hwr {w : Wd} {c j : Nat} (hc : c < 100) (hj : j < 10) : inb (((1500 : Int32) + ((10 : Int32) * iN c)) + iN j) 4340 = true ∧ ∀ x, wi w 149 (((1500 : Int32) + ((10 : Int32) * iN c)) + iN j) x = si w 149 (1500 + 10 * c + j) x := by
  rw [lit_mul, lit_add, iN_add]
  exact ⟨inb_lt2 (by omega) (by omega), fun x => wi_iN (by omega)⟩
theorem hwr4 {w : Wd} {c : Nat} (hc : c < 100) : inb (((1500 : Int32) + ((10 : Int32) * iN c)) + 4) 4340 = true ∧ ∀ x, wi w 149 (((1500 : Int32) + ((10 : Int32) * iN c)) + 4) x = si w 149 (1500 + 10 * c + 4) x := hwr (j := 4) hc (by omega)
theorem hwr3 {w : Wd} {c : Nat} (hc : c < 100) : inb (((1500 : Int32) + ((10 : Int32) * iN c)) + 3) 4340 = true ∧ ∀ x, wi w 149 (((1500 : Int32) + ((10 : Int32) * iN c)) + 3) x = si w 149 (1500 + 10 * c + 3) x := hwr (j := 3) hc (by omega)
theorem hs.get {S : Nat → Int32} {c : Nat} (h : IH S) (hc : c < 100) : hs c (fun j => S (1500 + 10 * c + j)) := h.1 c hc
theorem YY.hput {n c j : Nat} {wc wm : Wd} {x : Int32} (h : YY n wc wm) (hc : c < 100) (hj : j = 3 ∨ j = 4) (hk : wm.1 149 (1500 + 10 * c) = 1) (hx : (j = 3 → bt 0 99999 x ∧ x.toInt ≤ (wm.1 149 (1503 + 10 * c)).toInt + 9999) ∧ (j = 4 → bt 0 1 x)) : YY (n + 1) (si wc (20 + j) c x) (si wm 149 (1500 + 10 * c + j) x) := by
  obtain ⟨⟨g0, g1, g2⟩, g3⟩ := hs.get h.1.2.2.2.1 hc
  have k0 : ¬ (1 : Int32) = 2 := by decide
  have e : ∀ k, (si wm 149 (1500 + 10 * c + j) x).1 149 k = if k = 1500 + 10 * c + j then x else wm.1 149 k := fun k => by rw [si_1]; simp
  have hk' : (si wm 149 (1500 + 10 * c + j) x).1 149 (1500 + 10 * c) = 1 := by rw [e, if_neg (by omega)]; exact hk
  have eh : ∀ k, ¬ k = j → (si wm 149 (1500 + 10 * c + j) x).1 149 (1500 + 10 * c + k) = wm.1 149 (1500 + 10 * c + k) := fun k hne => by rw [e, if_neg (by omega)]
  have ej : (si wm 149 (1500 + 10 * c + j) x).1 149 (1500 + 10 * c + j) = x := by rw [e, if_pos rfl]
  have eS : sameS c (wm.1 149) ((si wm 149 (1500 + 10 * c + j) x).1 149) := fun k q1 _ _ _ => by rw [e, if_neg (by omega)]
  have r9 := h.1.row (c := c) (j := 9) hc (by omega)
  have r10 := h.1.row (c := c) (j := 10) hc (by omega)
  have hw := (h.1.2.2.2.2.2.2 c hc).1
  refine h.blk hc (fun a i q => by rw [si_1, if_neg (by omega)]) rfl (fun a ha => si_oth ha) rfl eS (fun j' hj' hv => ?_) ?_ ?_ (h.1.2.2.blk hc eS ⟨⟨?_, fun _ => ?_, fun q => ?_⟩, ?_⟩ (Or.inr ⟨by rw [hk', hk], by rw [e, if_neg (by omega)]⟩) ?_ ?_ ?_ (fun _ => ?_))
  · rw [hk'] at hv
    by_cases q : j' = j
    · subst q
      rw [si_1, if_pos ⟨rfl, rfl⟩, ej]
    · rw [si_1, if_neg (by omega), eh j' q]
      refine h.1.hse hc ?_
      rcases hv with v | v | v | v
      · exact Or.inl v
      · exact Or.inr (Or.inl ⟨v, hj'⟩)
      · exact Or.inr (Or.inr (Or.inl ⟨v.1, hk⟩))
      · exact absurd v.2 k0
  · rw [si_1, if_neg (by omega), e, if_neg (by omega)]
    exact r9
  · rw [si_1, if_neg (by omega), e, if_neg (by omega)]
    exact r10
  · exact Or.inr (Or.inl hk')
  · obtain ⟨a1, a2, a3, a4⟩ := g1 hk
    dsimp only
    rw [eh 1 (by omega), eh 2 (by omega)]
    refine ⟨a1, a2, ?_⟩
    rcases hj with rfl | rfl
    · rw [ej, eh 4 (by omega)]
      exact ⟨(hx.1 rfl).1, a4⟩
    · rw [ej, eh 3 (by omega)]
      exact ⟨a3, hx.2 rfl⟩
  · have q' : (si wm 149 (1500 + 10 * c + j) x).1 149 (1500 + 10 * c) = 2 := q
    rw [hk'] at q'
    exact absurd q' k0
  · show bt 0 9999 ((si wm 149 (1500 + 10 * c + j) x).1 149 (1500 + 10 * c + 8)) ∧ bt 0 9999 ((si wm 149 (1500 + 10 * c + j) x).1 149 (1500 + 10 * c + 9)) ∧ (¬ (si wm 149 (1500 + 10 * c + j) x).1 149 (1500 + 10 * c + 0) = 2 → (si wm 149 (1500 + 10 * c + j) x).1 149 (1500 + 10 * c + 8) = 0 ∧ (si wm 149 (1500 + 10 * c + j) x).1 149 (1500 + 10 * c + 9) = 0) ∧ ((si wm 149 (1500 + 10 * c + j) x).1 149 (1500 + 10 * c + 0) = 2 → ((si wm 149 (1500 + 10 * c + j) x).1 149 (1500 + 10 * c + 8)).toInt + ((si wm 149 (1500 + 10 * c + j) x).1 149 (1500 + 10 * c + 9)).toInt ≤ ((si wm 149 (1500 + 10 * c + j) x).1 149 (1500 + 10 * c + 5)).toInt)
    rw [eh 8 (by omega), eh 9 (by omega), eh 0 (by omega), eh 5 (by omega)]
    exact g3
  · rw [e, if_neg (by omega)]
    exact hw.1
  · rw [e, if_neg (by omega)]
    exact hw.2.1
  · unfold wtr
    rw [e, e, e, e, if_neg (by omega), if_neg (by omega), if_neg (by omega), if_neg (by omega)]
  · refine Or.inl ⟨hk, ?_⟩
    rcases hj with rfl | rfl
    · rw [show 1503 + 10 * c = 1500 + 10 * c + 3 by omega, ej]
      rw [show 1500 + 10 * c + 3 = 1503 + 10 * c by omega]
      exact (hx.1 rfl).2
    · rw [e, if_neg (by omega)]
      omega
theorem bit_or {x : Int32} (h : bt 0 1 x) : x = 0 ∨ x = 1 := by
  obtain ⟨h1, h2⟩ := h
  rw [eq_I, eq_I, z_I, one_I]
  omega
theorem mh_4 {w : Wd} {c : Nat} (hc : c < 100) : fX12_h (iN c) 4 w = some (w.1 149 (1500 + 10 * c + 4)) := mh_eq (j := 4) hc (by omega)
theorem mh_3 {w : Wd} {c : Nat} (hc : c < 100) : fX12_h (iN c) 3 w = some (w.1 149 (1500 + 10 * c + 3)) := mh_eq (j := 3) hc (by omega)
theorem stop_ok {n : Nat} {wc wm : Wd} {v1 v2 : Int32} (h : YY n wc wm) (hv : v2 = 0 ∨ v2 = 1) : ∃ r wc' wm', fX11_stop v1 v2 wc = some (r, wc') ∧ fX12_stop v1 v2 wm = some (r, wm') ∧ YY (n + 1) wc' wm' := by
  have h0 := h.thr (x := 0)
  have hu := h0.up (Nat.le_succ n)
  unfold fX11_stop fX12_stop
  rw [nw_eq, isCell_m]
  by_cases h1 : 0 ≤ v1.toInt ∧ v1.toInt ≤ 99
  · obtain ⟨c, hc, rfl⟩ := of_range (v := v1) 100 h1.1 (by omega)
    rw [isHouse_c h0.1 hc, mh_0 hc]
    simp only [nw_eq, Option.bind_some, isCell_c, isCell_m, isTape_c, isTape_m, within_eq, in_eq, Int32.toInt_toInt64, decide_eq_true_eq, Int32.reduceToInt, Int64.reduceToInt, tn128, tm128, if_true, if_false, Bool.false_eq_true]
    rw [if_pos h1]
    by_cases k1 : (si wm 148 0 0).1 149 (1500 + 10 * c) = 1
    · rw [if_pos k1, if_pos k1, mh_4 hc]
      simp only [nw_eq, Option.bind_some, isCell_c, isCell_m, isTape_c, isTape_m, within_eq, in_eq, Int32.toInt_toInt64, decide_eq_true_eq, Int32.reduceToInt, Int64.reduceToInt, tn128, tm128, if_true, if_false, Bool.false_eq_true]
      have hb := bit_or ((hs.get h0.1.2.2.2.1 hc).1.2.1 k1).2.2.2
      have hb' : (si wm 148 0 0).1 149 (1500 + 10 * c + 4) = 0 ∨ (si wm 148 0 0).1 149 (1500 + 10 * c + 4) = 1 := hb
      have hr : wc.1 24 c = (si wm 148 0 0).1 149 (1500 + 10 * c + 4) := h0.1.hse (j := 4) hc (Or.inr (Or.inr (Or.inl ⟨by omega, k1⟩)))
      have hp : ∀ x, bt 0 1 x → YY (n + 1) (si wc 24 c x) (si (si wm 148 0 0) 149 (1500 + 10 * c + 4) x) := fun x hx => h0.hput (j := 4) hc (Or.inr rfl) k1 ⟨fun q => by omega, fun _ => hx⟩
      have w68 : ∀ x, fX12_stop_68 (((1500 : Int32) + ((10 : Int32) * iN c)) + 4) x (si wm 148 0 0) = some (1, si (si wm 148 0 0) 149 (1500 + 10 * c + 4) x) := fun x => by
        unfold fX12_stop_68
        rw [nw_eq, if_pos (hwr4 (w := wm) hc).1, (hwr4 hc).2 x]
      unfold fX11_stop_20 fX12_stop_39
      simp only [nw_eq, Option.bind_some, isCell_c, isCell_m, isTape_c, isTape_m, within_eq, in_eq, Int32.toInt_toInt64, decide_eq_true_eq, Int32.reduceToInt, Int64.reduceToInt, tn128, tm128, if_true, if_false, Bool.false_eq_true]
      rw [w68, w68, inb_lt2 hc (by omega), if_pos rfl, if_pos rfl, ri_iN (by omega), wi_iN (by omega), wi_iN (by omega), hr]
      rcases hv with rfl | rfl <;> rcases hb' with e | e <;> rw [e]
      · exact ⟨_, _, _, rfl, rfl, hu⟩
      · exact ⟨_, _, _, rfl, rfl, hp 0 ⟨by decide, by decide⟩⟩
      · exact ⟨_, _, _, rfl, rfl, hp 1 ⟨by decide, by decide⟩⟩
      · exact ⟨_, _, _, rfl, rfl, hu⟩
    · rw [if_neg k1, if_neg k1]
      exact ⟨_, _, _, rfl, rfl, hu⟩
  · rw [isHouse_no h1]
    simp only [nw_eq, Option.bind_some, isCell_c, isCell_m, isTape_c, isTape_m, within_eq, in_eq, Int32.toInt_toInt64, decide_eq_true_eq, Int32.reduceToInt, Int64.reduceToInt, tn128, tm128, if_true, if_false, Bool.false_eq_true]
    rw [if_neg h1]
    exact ⟨_, _, _, rfl, rfl, hu⟩
theorem coal_ok {n : Nat} {wc wm : Wd} {v1 v2 : Int32} (h : YY n wc wm) : ∃ r wc' wm', fX11_coal v1 v2 wc = some (r, wc') ∧ fX12_coal v1 v2 wm = some (r, wm') ∧ YY (n + 1) wc' wm' := by
  have h0 := h.thr (x := 0)
  have hu := h0.up (Nat.le_succ n)
  unfold fX11_coal fX12_coal
  simp only [nw_eq]
  rw [isCell_m, within_eq, in_eq, Int32.toInt_toInt64, show (1 : Int32).toInt = 1 from rfl, show (9999 : Int32).toInt = 9999 from rfl, show (1 : Int64).toInt = 1 from rfl, show (9999 : Int64).toInt = 9999 from rfl]
  by_cases h1 : 0 ≤ v1.toInt ∧ v1.toInt ≤ 99
  · obtain ⟨c, hc, rfl⟩ := of_range (v := v1) 100 h1.1 (by omega)
    rw [isHouse_c h0.1 hc, mh_0 hc]
    simp only [nw_eq, Option.bind_some, isCell_c, isCell_m, isTape_c, isTape_m, within_eq, in_eq, Int32.toInt_toInt64, decide_eq_true_eq, Int32.reduceToInt, Int64.reduceToInt, tn128, tm128, if_true, if_false, Bool.false_eq_true]
    rw [if_pos h1]
    by_cases h2 : 1 ≤ v2.toInt ∧ v2.toInt ≤ 9999
    · rw [if_pos h2, if_pos h2]
      by_cases k1 : (si wm 148 0 0).1 149 (1500 + 10 * c) = 1
      · rw [if_pos k1, if_pos k1, mh_3 hc]
        simp only [nw_eq, Option.bind_some, isCell_c, isCell_m, isTape_c, isTape_m, within_eq, in_eq, Int32.toInt_toInt64, decide_eq_true_eq, Int32.reduceToInt, Int64.reduceToInt, tn128, tm128, if_true, if_false, Bool.false_eq_true]
        have hr : wc.1 23 c = (si wm 148 0 0).1 149 (1500 + 10 * c + 3) := h0.1.hse (j := 3) hc (Or.inr (Or.inr (Or.inl ⟨by omega, k1⟩)))
        have hb : bt 0 99999 ((si wm 148 0 0).1 149 (1500 + 10 * c + 3)) := ((hs.get h0.1.2.2.2.1 hc).1.2.1 k1).2.2.1
        have hwi := (hwr3 (w := si wm 148 0 0) hc).2
        rw [if_pos (hwr3 (w := wm) hc).1, inb_lt2 hc (by omega), if_pos rfl, ri_iN (by omega), wi_iN (by omega), hr]
        by_cases z : (99999 : Int32) < (si wm 148 0 0).1 149 (1500 + 10 * c + 3) + v2
        · rw [if_pos z, if_pos z]
          exact ⟨_, _, _, rfl, rfl, hu⟩
        · rw [if_neg z, if_neg z]
          have er : ri (si wm 148 0 0) 149 ((1500 : Int32) + (10 : Int32) * iN c + 3) = (si wm 148 0 0).1 149 (1500 + 10 * c + 3) := by
            rw [lit_mul, lit_add, add_lit, ri_iN (by omega)]
          rw [er, hwi, mh_3 hc, ri_iN (by omega), si_1 (a := 23), if_pos ⟨rfl, rfl⟩, Option.bind_some, si_1 (a := 149), if_pos ⟨rfl, rfl⟩]
          have hs1 : ((si wm 148 0 0).1 149 (1500 + 10 * c + 3) + v2).toInt = ((si wm 148 0 0).1 149 (1500 + 10 * c + 3)).toInt + v2.toInt := add_I (by have := hb.1; omega) (by have := hb.2; omega)
          rw [lt_I, hs1, show (99999 : Int32).toInt = 99999 from rfl] at z
          refine ⟨_, _, _, rfl, rfl, h0.hput (j := 3) hc (Or.inl rfl) k1 ⟨fun _ => ⟨⟨?_, ?_⟩, ?_⟩, fun q => by omega⟩⟩
          · rw [hs1]
            have := hb.1
            omega
          · rw [hs1]
            omega
          · rw [hs1, show 1503 + 10 * c = 1500 + 10 * c + 3 by omega]
            omega
      · rw [if_neg k1, if_neg k1]
        exact ⟨_, _, _, rfl, rfl, hu⟩
    · rw [if_neg h2, if_neg h2]
      by_cases k1 : (si wm 148 0 0).1 149 (1500 + 10 * c) = 1
      · rw [if_pos k1]
        exact ⟨_, _, _, rfl, rfl, hu⟩
      · rw [if_neg k1]
        exact ⟨_, _, _, rfl, rfl, hu⟩
  · rw [isHouse_no h1]
    simp only [nw_eq, Option.bind_some, isCell_c, isCell_m, isTape_c, isTape_m, within_eq, in_eq, Int32.toInt_toInt64, decide_eq_true_eq, Int32.reduceToInt, Int64.reduceToInt, tn128, tm128, if_true, if_false, Bool.false_eq_true]
    rw [if_neg h1]
    exact ⟨_, _, _, rfl, rfl, hu⟩
-- MATHEMATICS: m20
def liftW (w : Wd) (c : Nat) (v2 v3 v4 : Int32) : Wd := si (si (si (si (si w 149 (1500 + 10 * c + 0) 1) 149 (1500 + 10 * c + 1) v2) 149 (1500 + 10 * c + 2) v3) 149 (1500 + 10 * c + 3) v4) 149 (1500 + 10 * c + 4) 0
theorem hwr' {w : Wd} {c j : Nat} (hc : c < 100) (hj : (OfNat.ofNat j : Nat) < 10) : inb (((1500 : Int32) + ((10 : Int32) * iN c)) + (OfNat.ofNat j : Int32)) 4340 = true := (hwr (w := w) hc hj).1
theorem hwi' {w : Wd} {c j : Nat} {x : Int32} (hc : c < 100) (hj : (OfNat.ofNat j : Nat) < 10) : wi w 149 (((1500 : Int32) + ((10 : Int32) * iN c)) + (OfNat.ofNat j : Int32)) x = si w 149 (1500 + 10 * c + (OfNat.ofNat j : Nat)) x := (hwr hc hj).2 x
theorem hri' {w : Wd} {c j : Nat} (hc : c < 100) (hj : (OfNat.ofNat j : Nat) < 10) : ri w 149 (((1500 : Int32) + ((10 : Int32) * iN c)) + (OfNat.ofNat j : Int32)) = w.1 149 (1500 + 10 * c + (OfNat.ofNat j : Nat)) := by
  rw [lit_mul, lit_add, add_lit, ri_iN (by omega)]
theorem lift99 {w : Wd} {c : Nat} {v2 v3 v4 : Int32} (hc : c < 100) : fX12_lift_99 (iN c) v2 v3 v4 w = some (0, liftW w c v2 v3 v4) := by
  unfold fX12_lift_99 liftW
  simp only [nw_eq]
  rw [if_pos (hwr' (w := w) hc (by decide)), if_pos (hwr' (w := w) hc (by decide)), if_pos (hwr' (w := w) hc (by decide)), if_pos (hwr' (w := w) hc (by decide)), if_pos (hwr' (w := w) hc (by decide)), hwi' hc (by decide), hwi' hc (by decide), hwi' hc (by decide), hwi' hc (by decide), hwi' hc (by decide)]
theorem liftW_v {w : Wd} {c k : Nat} {v2 v3 v4 : Int32} : (liftW w c v2 v3 v4).1 149 k = if k = 1500 + 10 * c + 4 then 0 else if k = 1500 + 10 * c + 3 then v4 else if k = 1500 + 10 * c + 2 then v3 else if k = 1500 + 10 * c + 1 then v2 else if k = 1500 + 10 * c + 0 then 1 else w.1 149 k := by
  unfold liftW
  rw [si_1, si_1, si_1, si_1, si_1]
  simp only [true_and]
def liftC (w : Wd) (c : Nat) (v2 v3 v4 : Int32) : Wd := si (si (si (si (si w 20 c 1) 21 c v2) 22 c v3) 23 c v4) 24 c 0
theorem lift_core {n c : Nat} {wc wm w1 : Wd} {v2 v3 v4 : Int32} (h : YY n wc wm) (hc : c < 100) (ht : ∃ t, t < 100 ∧ v2 = iN t ∧ t ≠ c) (h3 : bt 1 9999 v3) (h4 : bt 0 9999 v4) (hk : ¬ wm.1 149 (1500 + 10 * c) = 2) (hw : (wm.1 149 (1500 + 10 * c) = 0 ∧ ¬ wm.1 149 4317 = 12 ∧ w1 = si wm 149 4317 (wm.1 149 4317 + 1)) ∨ (¬ wm.1 149 (1500 + 10 * c) = 0 ∧ w1 = wm)) : YY (n + 1) (liftC wc c v2 v3 v4) (liftW w1 c v2 v3 v4) := by
  have hg := hs.get h.1.2.2.2.1 hc
  have g8 : wm.1 149 (1500 + 10 * c + 8) = 0 ∧ wm.1 149 (1500 + 10 * c + 9) = 0 := hg.2.2.2.1 hk
  have e1 : ∀ k, ¬ k = 4317 → w1.1 149 k = wm.1 149 k := fun k hne => by
    rcases hw with ⟨-, -, rfl⟩ | ⟨-, rfl⟩
    · rw [si_1, if_neg (by omega)]
    · rfl
  have o1 : ∀ a, ¬ a = 149 → w1.1 a = wm.1 a := fun a ha => by
    rcases hw with ⟨-, -, rfl⟩ | ⟨-, rfl⟩
    · rw [si_oth ha]
    · rfl
  have o2 : w1.2 = wm.2 := by
    rcases hw with ⟨-, -, rfl⟩ | ⟨-, rfl⟩ <;> rfl
  have v : ∀ j, (liftW w1 c v2 v3 v4).1 149 (1500 + 10 * c + j) = if j = 4 then 0 else if j = 3 then v4 else if j = 2 then v3 else if j = 1 then v2 else if j = 0 then 1 else w1.1 149 (1500 + 10 * c + j) := fun j => by
    rw [liftW_v]
    simp only [Nat.add_left_cancel_iff]
  have vo : ∀ k, ¬ (1500 + 10 * c ≤ k ∧ k < 1510 + 10 * c) → (liftW w1 c v2 v3 v4).1 149 k = w1.1 149 k := fun k hne => by
    rw [liftW_v, if_neg (by omega), if_neg (by omega), if_neg (by omega), if_neg (by omega), if_neg (by omega)]
  have k1 : (liftW w1 c v2 v3 v4).1 149 (1500 + 10 * c) = 1 := v 0
  have k0 : ¬ (1 : Int32) = 2 := by decide
  have eS : sameS c (wm.1 149) ((liftW w1 c v2 v3 v4).1 149) := fun k q1 _ _ q4 => by rw [vo k q1, e1 k q4]
  have r9 := h.1.row (c := c) (j := 9) hc (by omega)
  have r10 := h.1.row (c := c) (j := 10) hc (by omega)
  have hwt := (h.1.2.2.2.2.2.2 c hc).1
  have cl : ∀ a i, (liftC wc c v2 v3 v4).1 a i = if a = 24 ∧ i = c then 0 else if a = 23 ∧ i = c then v4 else if a = 22 ∧ i = c then v3 else if a = 21 ∧ i = c then v2 else if a = 20 ∧ i = c then 1 else wc.1 a i := fun a i => by
    unfold liftC
    rw [si_1, si_1, si_1, si_1, si_1]
  have v8 : (liftW w1 c v2 v3 v4).1 149 (1500 + 10 * c + 8) = 0 := by
    rw [v, if_neg (by omega), if_neg (by omega), if_neg (by omega), if_neg (by omega), if_neg (by omega), e1 _ (by omega), g8.1]
  have v9 : (liftW w1 c v2 v3 v4).1 149 (1500 + 10 * c + 9) = 0 := by
    rw [v, if_neg (by omega), if_neg (by omega), if_neg (by omega), if_neg (by omega), if_neg (by omega), e1 _ (by omega), g8.2]
  refine h.blk hc (fun a i q => ?_) rfl (fun a ha => ?_) ?_ eS (fun j hj hv => ?_) ?_ ?_ (h.1.2.2.blk hc eS ⟨⟨Or.inr (Or.inl k1), fun _ => ?_, fun q => ?_⟩, ?_⟩ ?_ ?_ ?_ ?_ (fun _ => Or.inr ?_))
  · rw [cl, if_neg (by omega), if_neg (by omega), if_neg (by omega), if_neg (by omega), if_neg (by omega)]
  · unfold liftW
    rw [si_oth ha, si_oth ha, si_oth ha, si_oth ha, si_oth ha, o1 a ha]
  · exact o2
  · rw [k1] at hv
    have h9 : j = 0 ∨ j = 1 ∨ j = 2 ∨ j = 3 ∨ j = 4 ∨ j = 8 ∨ j = 9 := by
      rcases hv with q | q | q | q
      · omega
      · omega
      · omega
      · exact absurd q.2 k0
    have b8 : wc.1 28 c = 0 := (h.1.hse (j := 8) hc (by omega)).trans g8.1
    have b9 : wc.1 29 c = 0 := (h.1.hse (j := 9) hc (by omega)).trans g8.2
    rcases h9 with rfl | rfl | rfl | rfl | rfl | rfl | rfl
    · rw [show 1500 + 10 * c + 0 = 1500 + 10 * c from rfl, k1, cl]
      simp
    · rw [v, cl]
      simp
    · rw [v, cl]
      simp
    · rw [v, cl]
      simp
    · rw [v, cl]
      simp
    · rw [v8, cl]
      simp [b8]
    · rw [v9, cl]
      simp [b9]
  · rw [cl, vo _ (by omega), e1 _ (by omega)]
    simp
    exact r9
  · rw [cl, vo _ (by omega), e1 _ (by omega)]
    simp
    exact r10
  · dsimp only
    rw [v, v, v, v]
    exact ⟨ht, h3, ⟨h4.1, by have := h4.2; show v4.toInt ≤ 99999; omega⟩, show (0 : Int) ≤ (0 : Int32).toInt by decide, show (0 : Int32).toInt ≤ 1 by decide⟩
  · exact absurd (k1.symm.trans q) k0
  · dsimp only
    rw [v8, v9, show 1500 + 10 * c + 0 = 1500 + 10 * c from rfl, k1]
    exact ⟨⟨by decide, by decide⟩, ⟨by decide, by decide⟩, fun _ => ⟨rfl, rfl⟩, fun q => absurd q k0⟩
  · rcases hw with ⟨a, b, rfl⟩ | ⟨a, rfl⟩
    · refine Or.inl ⟨a, by rw [k1]; decide, ?_, b⟩
      rw [vo _ (by omega), si_1, if_pos ⟨rfl, rfl⟩]
    · refine Or.inr ⟨⟨fun q => absurd q a, fun q => ?_⟩, vo _ (by omega)⟩
      rw [k1] at q
      exact absurd q (by decide)
  · rw [vo _ (by omega), e1 _ (by omega)]
    exact hwt.1
  · rw [vo _ (by omega), e1 _ (by omega)]
    exact hwt.2.1
  · unfold wtr
    rw [vo _ (by omega), e1 _ (by omega), vo (15 * c + 10) (by omega), e1 _ (by omega), show 1508 + 10 * c = 1500 + 10 * c + 8 by omega, show 1509 + 10 * c = 1500 + 10 * c + 9 by omega, v8, v9, g8.1, g8.2]
  · rw [show 1503 + 10 * c = 1500 + 10 * c + 3 by omega, v]
    exact h4.2
theorem lift_ok {n : Nat} {wc wm : Wd} {v1 v2 v3 v4 : Int32} (h : YY n wc wm) : ∃ r wc' wm', fX11_lift v1 v2 v3 v4 wc = some (r, wc') ∧ fX12_lift v1 v2 v3 v4 wm = some (r, wm') ∧ YY (n + 1) wc' wm' := by
  have h0 := h.thr (x := 0)
  have hu := h0.up (Nat.le_succ n)
  unfold fX11_lift fX12_lift
  simp only [nw_eq, Option.bind_some, isCell_c, isCell_m, isTape_c, isTape_m, within_eq, in_eq, Int32.toInt_toInt64, decide_eq_true_eq, Int32.reduceToInt, Int64.reduceToInt, tn128, tm128, if_true, if_false, Bool.false_eq_true, show (1 : Int32).toInt = 1 from rfl, show (9999 : Int32).toInt = 9999 from rfl]
  by_cases h1 : 0 ≤ v1.toInt ∧ v1.toInt ≤ 99
  · obtain ⟨c, hc, rfl⟩ := of_range (v := v1) 100 h1.1 (by omega)
    rw [if_pos h1, if_pos h1]
    by_cases h2 : 0 ≤ v2.toInt ∧ v2.toInt ≤ 99
    · obtain ⟨t, ht, rfl⟩ := of_range (v := v2) 100 h2.1 (by omega)
      rw [if_pos h2, if_pos h2]
      by_cases h3 : 1 ≤ v3.toInt ∧ v3.toInt ≤ 9999
      · rw [if_pos h3, if_pos h3]
        by_cases h4 : 0 ≤ v4.toInt ∧ v4.toInt ≤ 9999
        · rw [if_pos h4, if_pos h4]
          by_cases h5 : iN t = iN c
          · rw [if_pos h5, if_pos h5]
            exact ⟨_, _, _, rfl, rfl, hu⟩
          · have hne : t ≠ c := fun q => h5 (by rw [q])
            rw [if_neg h5, if_neg h5, mh_0 hc, inb_lt2 hc (by omega), if_pos rfl, ri_iN (by omega), show wc.1 20 c = (si wm 148 0 0).1 149 (1500 + 10 * c) from h0.1.hse (j := 0) hc (Or.inl rfl)]
            simp only [nw_eq, Option.bind_some, isCell_c, isCell_m, isTape_c, isTape_m, within_eq, in_eq, Int32.toInt_toInt64, decide_eq_true_eq, Int32.reduceToInt, Int64.reduceToInt, tn128, tm128, if_true, if_false, Bool.false_eq_true]
            by_cases k2 : (si wm 148 0 0).1 149 (1500 + 10 * c) = 2
            · rw [if_pos k2, if_pos k2]
              exact ⟨_, _, _, rfl, rfl, hu⟩
            · rw [if_neg k2, if_neg k2]
              obtain ⟨x, x1, x2, x3⟩ := else_c h0.1 hc
              rw [x1, lift99 hc, mg_17]
              simp only [nw_eq, Option.bind_some, isCell_c, isCell_m, isTape_c, isTape_m, within_eq, in_eq, Int32.toInt_toInt64, decide_eq_true_eq, Int32.reduceToInt, Int64.reduceToInt, tn128, tm128, if_true, if_false, Bool.false_eq_true]
              rw [lift99 hc, show ri (si wm 148 0 0) 149 4317 = (si wm 148 0 0).1 149 4317 from rfl, show ∀ x, wi (si wm 148 0 0) 149 4317 x = si (si wm 148 0 0) 149 4317 x from fun _ => rfl]
              have hcls : (wi (wi (wi (wi (wi wc 20 (iN c) 1) 21 (iN c) (iN t)) 22 (iN c) v3) 23 (iN c) v4) 24 (iN c) 0) = liftC wc c (iN t) v3 v4 := by
                rw [wi_iN (by omega), wi_iN (by omega), wi_iN (by omega), wi_iN (by omega), wi_iN (by omega)]
                rfl
              rw [hcls]
              by_cases k0 : (si wm 148 0 0).1 149 (1500 + 10 * c) = 0
              · rw [if_pos k0]
                by_cases k12 : (si wm 148 0 0).1 149 4317 = 12
                · rw [if_pos k12, if_neg (fun q => (x2 k0).mp q k12)]
                  exact ⟨_, _, _, rfl, rfl, hu⟩
                · rw [if_neg k12, if_pos ((x2 k0).mpr k12)]
                  exact ⟨_, _, _, rfl, rfl, lift_core h0 hc ⟨t, ht, rfl, hne⟩ h3 h4 k2 (Or.inl ⟨k0, k12, rfl⟩)⟩
              · rw [if_neg k0, if_pos (x3 k0)]
                exact ⟨_, _, _, rfl, rfl, lift_core h0 hc ⟨t, ht, rfl, hne⟩ h3 h4 k2 (Or.inr ⟨k0, rfl⟩)⟩
        · rw [if_neg h4, if_neg h4]
          exact ⟨_, _, _, rfl, rfl, hu⟩
      · rw [if_neg h3, if_neg h3]
        exact ⟨_, _, _, rfl, rfl, hu⟩
    · rw [if_neg h2, if_neg h2]
      exact ⟨_, _, _, rfl, rfl, hu⟩
  · rw [if_neg h1, if_neg h1]
    exact ⟨_, _, _, rfl, rfl, hu⟩
-- MATHEMATICS: m21
def outW0 (w : Wd) (c : Nat) (v2 v3 v4 : Int32) : Wd := si (si (si (si w 149 (1500 + 10 * c + 0) 2) 149 (1500 + 10 * c + 5) v2) 149 (1500 + 10 * c + 6) v3) 149 (1500 + 10 * c + 7) v4
def outW1 (w : Wd) (c : Nat) (R F : Int32) : Wd := si (si (si (si w 149 (1500 + 10 * c + 9) (w.1 149 (1500 + 10 * c + 9) - R)) 149 (1500 + 10 * c + 8) (w.1 149 (1500 + 10 * c + 8) - F)) 149 (15 * c + 10) (w.1 149 (15 * c + 10) + R)) 149 (15 * c + 9) (w.1 149 (15 * c + 9) + F)
def outR (g8 g9 v : Int32) : Int32 := if g8 + g9 - v < 0 then 0 else if g8 + g9 - v < g9 then g8 + g9 - v else g9
def outF (g8 g9 v : Int32) : Int32 := if g8 + g9 - v - outR g8 g9 v < 0 then 0 else g8 + g9 - v - outR g8 g9 v
theorem mci {c j : Nat} (hc : c < 100) (hj : (OfNat.ofNat j : Nat) < 15) : inb (((15 : Int32) * iN c) + (OfNat.ofNat j : Int32)) 4340 = true := by
  rw [lit_mul, add_lit]
  exact inb_lt2 (by omega) (by omega)
theorem mcw {w : Wd} {c j : Nat} {x : Int32} (hj : (OfNat.ofNat j : Nat) < 15) (hc : c < 100) : wi w 149 (((15 : Int32) * iN c) + (OfNat.ofNat j : Int32)) x = si w 149 (15 * c + (OfNat.ofNat j : Nat)) x := by
  rw [lit_mul, add_lit]
  exact wi_iN (by omega)
theorem mcr {w : Wd} {c j : Nat} (hj : (OfNat.ofNat j : Nat) < 15) (hc : c < 100) : ri w 149 (((15 : Int32) * iN c) + (OfNat.ofNat j : Int32)) = w.1 149 (15 * c + (OfNat.ofNat j : Nat)) := by
  rw [lit_mul, add_lit]
  exact ri_iN (by omega)
theorem out237 {w : Wd} {c : Nat} {R F : Int32} (hc : c < 100) : fX12_out_237 (iN c) ((1500 : Int32) + ((10 : Int32) * iN c)) R F w = some (0, outW1 w c R F) := by
  unfold fX12_out_237 outW1
  simp only [nw_eq]
  rw [if_pos (hwr' (w := w) hc (by decide)), if_pos (hwr' (w := w) hc (by decide)), if_pos (mci hc (by decide)), if_pos (mci hc (by decide)), hwi' hc (by decide), hwi' hc (by decide), mcw (by decide) hc, mcw (by decide) hc, hri' hc (by decide), hri' hc (by decide), mcr (by decide) hc, mcr (by decide) hc]
  have q1 : ∀ x, (si w 149 (1500 + 10 * c + 9) x).1 149 (1500 + 10 * c + 8) = w.1 149 (1500 + 10 * c + 8) := fun x => by rw [si_1, if_neg (by omega)]
  have q2 : ∀ x y, (si (si w 149 (1500 + 10 * c + 9) x) 149 (1500 + 10 * c + 8) y).1 149 (15 * c + 10) = w.1 149 (15 * c + 10) := fun x y => by rw [si_1, if_neg (by omega), si_1, if_neg (by omega)]
  have q3 : ∀ x y z, (si (si (si w 149 (1500 + 10 * c + 9) x) 149 (1500 + 10 * c + 8) y) 149 (15 * c + 10) z).1 149 (15 * c + 9) = w.1 149 (15 * c + 9) := fun x y z => by rw [si_1, if_neg (by omega), si_1, if_neg (by omega), si_1, if_neg (by omega)]
  rw [q1, q2, q3]
theorem out218 {w : Wd} {c : Nat} {R x : Int32} (hc : c < 100) : fX12_out_218 (iN c) ((1500 : Int32) + ((10 : Int32) * iN c)) x R w = some (0, outW1 w c R (if x - R < 0 then 0 else x - R)) := by
  unfold fX12_out_218
  rw [out237 hc, out237 hc]
  split <;> rfl
theorem out101 {w : Wd} {c : Nat} {v2 v3 v4 : Int32} (hc : c < 100) : fX12_out_101 (iN c) v2 v3 v4 w = some (0, outW1 (outW0 w c v2 v3 v4) c (outR (w.1 149 (1500 + 10 * c + 8)) (w.1 149 (1500 + 10 * c + 9)) v2) (outF (w.1 149 (1500 + 10 * c + 8)) (w.1 149 (1500 + 10 * c + 9)) v2)) := by
  have q : ∀ j, j = 8 ∨ j = 9 → (outW0 w c v2 v3 v4).1 149 (1500 + 10 * c + j) = w.1 149 (1500 + 10 * c + j) := fun j hj => by
    unfold outW0
    rw [si_1, if_neg (by omega), si_1, if_neg (by omega), si_1, if_neg (by omega), si_1, if_neg (by omega)]
  have e : fX12_out_101 (iN c) v2 v3 v4 w = if ((outW0 w c v2 v3 v4).1 149 (1500 + 10 * c + 8) + (outW0 w c v2 v3 v4).1 149 (1500 + 10 * c + 9) - v2) < 0 then fX12_out_218 (iN c) ((1500 : Int32) + ((10 : Int32) * iN c)) ((outW0 w c v2 v3 v4).1 149 (1500 + 10 * c + 8) + (outW0 w c v2 v3 v4).1 149 (1500 + 10 * c + 9) - v2) 0 (outW0 w c v2 v3 v4) else if ((outW0 w c v2 v3 v4).1 149 (1500 + 10 * c + 8) + (outW0 w c v2 v3 v4).1 149 (1500 + 10 * c + 9) - v2) < (outW0 w c v2 v3 v4).1 149 (1500 + 10 * c + 9) then fX12_out_218 (iN c) ((1500 : Int32) + ((10 : Int32) * iN c)) ((outW0 w c v2 v3 v4).1 149 (1500 + 10 * c + 8) + (outW0 w c v2 v3 v4).1 149 (1500 + 10 * c + 9) - v2) ((outW0 w c v2 v3 v4).1 149 (1500 + 10 * c + 8) + (outW0 w c v2 v3 v4).1 149 (1500 + 10 * c + 9) - v2) (outW0 w c v2 v3 v4) else fX12_out_218 (iN c) ((1500 : Int32) + ((10 : Int32) * iN c)) ((outW0 w c v2 v3 v4).1 149 (1500 + 10 * c + 8) + (outW0 w c v2 v3 v4).1 149 (1500 + 10 * c + 9) - v2) ((outW0 w c v2 v3 v4).1 149 (1500 + 10 * c + 9)) (outW0 w c v2 v3 v4) := by
    unfold fX12_out_101
    simp only [nw_eq]
    rw [if_pos (hwr' (w := w) hc (by decide)), if_pos (hwr' (w := w) hc (by decide)), if_pos (hwr' (w := w) hc (by decide)), if_pos (hwr' (w := w) hc (by decide)), if_pos (hwr' (w := w) hc (by decide)), if_pos (hwr' (w := w) hc (by decide)), hwi' hc (by decide), hwi' hc (by decide), hwi' hc (by decide), hwi' hc (by decide), hri' hc (by decide), hri' hc (by decide)]
    rfl
  rw [e, q 8 (by omega), q 9 (by omega), out218 hc, out218 hc, out218 hc]
  unfold outF outR
  split
  · rfl
  · split <;> rfl
def spillR (g8 g9 v : Int32) : Int32 := mmin (g8 + g9 - v) g9
theorem out_num {g8 g9 v : Int32} (h8 : bt 0 9999 g8) (h9 : bt 0 9999 g9) (hv : bt 1 9999 v) : (0 ≤ (outR g8 g9 v).toInt ∧ (outR g8 g9 v).toInt ≤ g9.toInt ∧ 0 ≤ (outF g8 g9 v).toInt ∧ (outF g8 g9 v).toInt ≤ g8.toInt ∧ g8.toInt + g9.toInt - (outR g8 g9 v).toInt - (outF g8 g9 v).toInt ≤ v.toInt) ∧ (0 < g8 + g9 - v → mmin (g8 + g9 - v) g9 = outR g8 g9 v ∧ g8 + g9 - v - mmin (g8 + g9 - v) g9 = outF g8 g9 v) ∧ (¬ 0 < g8 + g9 - v → outR g8 g9 v = 0 ∧ outF g8 g9 v = 0) := by
  obtain ⟨a1, a2⟩ := h8
  obtain ⟨b1, b2⟩ := h9
  obtain ⟨c1, c2⟩ := hv
  have e1 : (g8 + g9).toInt = g8.toInt + g9.toInt := add_I (by omega) (by omega)
  have e2 : (g8 + g9 - v).toInt = g8.toInt + g9.toInt - v.toInt := by rw [sub_I (by omega) (by omega), e1]
  have e3 : (g8 + g9 - v - g9).toInt = g8.toInt - v.toInt := by rw [sub_I (by omega) (by omega), e2]; omega
  have d0 : g8 + g9 - v < 0 ↔ g8.toInt + g9.toInt - v.toInt < 0 := by rw [lt_I, e2, z_I]
  have d1 : g8 + g9 - v < g9 ↔ g8.toInt + g9.toInt - v.toInt < g9.toInt := by rw [lt_I, e2]
  have d2 : g9 < g8 + g9 - v ↔ g9.toInt < g8.toInt + g9.toInt - v.toInt := by rw [lt_I, e2]
  have d3 : 0 < g8 + g9 - v ↔ 0 < g8.toInt + g9.toInt - v.toInt := by rw [lt_I, e2, z_I]
  have d4 : g8 + g9 - v - g9 < 0 ↔ g8.toInt - v.toInt < 0 := by rw [lt_I, e3, z_I]
  by_cases k1 : g8.toInt + g9.toInt - v.toInt < 0
  · have hR : outR g8 g9 v = 0 := if_pos (d0.mpr k1)
    have hF : outF g8 g9 v = 0 := by
      unfold outF
      rw [hR, Int32.sub_zero, if_pos (d0.mpr k1)]
    rw [hR, hF, d3, z_I]
    exact ⟨⟨by omega, by omega, by omega, by omega, by omega⟩, fun q => by omega, fun _ => ⟨rfl, rfl⟩⟩
  · by_cases k2 : g8.toInt + g9.toInt - v.toInt < g9.toInt
    · have hR : outR g8 g9 v = g8 + g9 - v := by
        unfold outR
        rw [if_neg (fun q => k1 (d0.mp q)), if_pos (d1.mpr k2)]
      have hF : outF g8 g9 v = 0 := by
        unfold outF
        rw [hR, Int32.sub_self, if_neg (by decide)]
      have hm : mmin (g8 + g9 - v) g9 = g8 + g9 - v := if_neg (fun q => by have := d2.mp q; omega)
      rw [hR, hF, hm, d3, z_I, e2]
      exact ⟨⟨by omega, by omega, by omega, by omega, by omega⟩, fun q => ⟨rfl, Int32.sub_self _⟩, fun q => ⟨by rw [eq_I, e2, z_I]; omega, rfl⟩⟩
    · have hR : outR g8 g9 v = g9 := by
        unfold outR
        rw [if_neg (fun q => k1 (d0.mp q)), if_neg (fun q => k2 (d1.mp q))]
      have hF : outF g8 g9 v = g8 + g9 - v - g9 := by
        unfold outF
        rw [hR, if_neg (fun q => by have := d4.mp q; omega)]
      have hm : mmin (g8 + g9 - v) g9 = g9 := by
        unfold mmin
        by_cases k4 : g9.toInt < g8.toInt + g9.toInt - v.toInt
        · rw [if_pos (d2.mpr k4)]
        · rw [if_neg (fun q => k4 (d2.mp q)), eq_I, e2]
          omega
      rw [hR, hF, hm, d3, e3]
      exact ⟨⟨by omega, by omega, by omega, by omega, by omega⟩, fun q => ⟨rfl, rfl⟩, fun q => ⟨by rw [eq_I, z_I]; omega, by rw [eq_I, e3, z_I]; omega⟩⟩
theorem out_core {n c : Nat} {wc wc' wm w1 : Wd} {v2 v3 v4 R F : Int32} (h : YY n wc wm) (hc : c < 100) (h2 : bt 1 9999 v2) (h3 : bt 1 9999 v3) (h4 : bt (-128) 127 v4) (hk : ¬ wm.1 149 (1500 + 10 * c) = 1) (hw : (wm.1 149 (1500 + 10 * c) = 0 ∧ ¬ wm.1 149 4317 = 12 ∧ w1 = si wm 149 4317 (wm.1 149 4317 + 1)) ∨ (¬ wm.1 149 (1500 + 10 * c) = 0 ∧ w1 = wm)) (hR : 0 ≤ R.toInt ∧ R.toInt ≤ (wm.1 149 (1500 + 10 * c + 9)).toInt ∧ 0 ≤ F.toInt ∧ F.toInt ≤ (wm.1 149 (1500 + 10 * c + 8)).toInt ∧ (wm.1 149 (1500 + 10 * c + 8)).toInt + (wm.1 149 (1500 + 10 * c + 9)).toInt - R.toInt - F.toInt ≤ v2.toInt) (ec : ∀ a i, ¬ (((20 ≤ a ∧ a ≤ 29) ∨ a = 15 ∨ a = 16) ∧ i = c) → wc'.1 a i = wc.1 a i) (ec2 : wc'.2 = wc.2) (e20 : wc'.1 20 c = 2) (e25 : wc'.1 25 c = v2) (e26 : wc'.1 26 c = v3) (e27 : wc'.1 27 c = v4) (e28 : wc'.1 28 c = wm.1 149 (1500 + 10 * c + 8) - F) (e29 : wc'.1 29 c = wm.1 149 (1500 + 10 * c + 9) - R) (e16 : wc'.1 16 c = wm.1 149 (15 * c + 10) + R) (e15 : wc'.1 15 c = wm.1 149 (15 * c + 9) + F) : YY (n + 1) wc' (outW1 (outW0 w1 c v2 v3 v4) c R F) := by
  obtain ⟨r1, r2, r3, r4, r5⟩ := hR
  have hg := hs.get h.1.2.2.2.1 hc
  have g8 : bt 0 9999 (wm.1 149 (1500 + 10 * c + 8)) := hg.2.1
  have g9 : bt 0 9999 (wm.1 149 (1500 + 10 * c + 9)) := hg.2.2.1
  obtain ⟨g81, g82⟩ := g8
  obtain ⟨g91, g92⟩ := g9
  have e1 : ∀ k, ¬ k = 4317 → w1.1 149 k = wm.1 149 k := fun k hne => by
    rcases hw with ⟨-, -, rfl⟩ | ⟨-, rfl⟩
    · rw [si_1, if_neg (by omega)]
    · rfl
  have o1 : ∀ a, ¬ a = 149 → w1.1 a = wm.1 a := fun a ha => by
    rcases hw with ⟨-, -, rfl⟩ | ⟨-, rfl⟩
    · rw [si_oth ha]
    · rfl
  have o2 : w1.2 = wm.2 := by
    rcases hw with ⟨-, -, rfl⟩ | ⟨-, rfl⟩ <;> rfl
  have v0 : ∀ k, (outW0 w1 c v2 v3 v4).1 149 k = if k = 1500 + 10 * c + 7 then v4 else if k = 1500 + 10 * c + 6 then v3 else if k = 1500 + 10 * c + 5 then v2 else if k = 1500 + 10 * c + 0 then 2 else w1.1 149 k := fun k => by
    unfold outW0
    rw [si_1, si_1, si_1, si_1]
    simp only [true_and]
  have vo0 : ∀ k, ¬ (1500 + 10 * c ≤ k ∧ k < 1508 + 10 * c) → (outW0 w1 c v2 v3 v4).1 149 k = w1.1 149 k := fun k hne => by
    rw [v0, if_neg (by omega), if_neg (by omega), if_neg (by omega), if_neg (by omega)]
  have v : ∀ k, (outW1 (outW0 w1 c v2 v3 v4) c R F).1 149 k = if k = 15 * c + 9 then wm.1 149 (15 * c + 9) + F else if k = 15 * c + 10 then wm.1 149 (15 * c + 10) + R else if k = 1500 + 10 * c + 8 then wm.1 149 (1500 + 10 * c + 8) - F else if k = 1500 + 10 * c + 9 then wm.1 149 (1500 + 10 * c + 9) - R else (outW0 w1 c v2 v3 v4).1 149 k := fun k => by
    unfold outW1
    rw [vo0 (1500 + 10 * c + 9) (by omega), vo0 (1500 + 10 * c + 8) (by omega), vo0 (15 * c + 10) (by omega), vo0 (15 * c + 9) (by omega), e1 _ (by omega), e1 _ (by omega), e1 _ (by omega), e1 _ (by omega), si_1, si_1, si_1, si_1]
    simp only [true_and]
  have vb : ∀ j, j < 8 → (outW1 (outW0 w1 c v2 v3 v4) c R F).1 149 (1500 + 10 * c + j) = if j = 7 then v4 else if j = 6 then v3 else if j = 5 then v2 else if j = 0 then 2 else w1.1 149 (1500 + 10 * c + j) := fun j hj => by
    rw [v, if_neg (by omega), if_neg (by omega), if_neg (by omega), if_neg (by omega), v0]
    simp only [Nat.add_left_cancel_iff]
  have v8 : (outW1 (outW0 w1 c v2 v3 v4) c R F).1 149 (1500 + 10 * c + 8) = wm.1 149 (1500 + 10 * c + 8) - F := by
    rw [v, if_neg (by omega), if_neg (by omega), if_pos rfl]
  have v9 : (outW1 (outW0 w1 c v2 v3 v4) c R F).1 149 (1500 + 10 * c + 9) = wm.1 149 (1500 + 10 * c + 9) - R := by
    rw [v, if_neg (by omega), if_neg (by omega), if_neg (by omega), if_pos rfl]
  have vr9 : (outW1 (outW0 w1 c v2 v3 v4) c R F).1 149 (15 * c + 9) = wm.1 149 (15 * c + 9) + F := by
    rw [v, if_pos rfl]
  have vr10 : (outW1 (outW0 w1 c v2 v3 v4) c R F).1 149 (15 * c + 10) = wm.1 149 (15 * c + 10) + R := by
    rw [v, if_neg (by omega), if_pos rfl]
  have vo : ∀ k, ¬ (1500 + 10 * c ≤ k ∧ k < 1510 + 10 * c) → ¬ k = 15 * c + 9 → ¬ k = 15 * c + 10 → (outW1 (outW0 w1 c v2 v3 v4) c R F).1 149 k = w1.1 149 k := fun k q1 q2 q3 => by
    rw [v, if_neg q2, if_neg q3, if_neg (by omega), if_neg (by omega), vo0 k (by omega)]
  have k1 : (outW1 (outW0 w1 c v2 v3 v4) c R F).1 149 (1500 + 10 * c) = 2 := vb 0 (by omega)
  have k0 : ¬ (2 : Int32) = 1 := by decide
  have eS : sameS c (wm.1 149) ((outW1 (outW0 w1 c v2 v3 v4) c R F).1 149) := fun k q1 q2 q3 q4 => by rw [vo k q1 q2 q3, e1 k q4]
  obtain ⟨⟨w91, w101, -, -⟩, hwt, -⟩ := h.1.2.2.2.2.2.2 c hc
  unfold wtr at hwt
  rw [show 1508 + 10 * c = 1500 + 10 * c + 8 by omega, show 1509 + 10 * c = 1500 + 10 * c + 9 by omega] at hwt
  have s8 : (wm.1 149 (1500 + 10 * c + 8) - F).toInt = (wm.1 149 (1500 + 10 * c + 8)).toInt - F.toInt := sub_I (by omega) (by omega)
  have s9 : (wm.1 149 (1500 + 10 * c + 9) - R).toInt = (wm.1 149 (1500 + 10 * c + 9)).toInt - R.toInt := sub_I (by omega) (by omega)
  have t9 : (wm.1 149 (15 * c + 9) + F).toInt = (wm.1 149 (15 * c + 9)).toInt + F.toInt := add_I (by omega) (by omega)
  have t10 : (wm.1 149 (15 * c + 10) + R).toInt = (wm.1 149 (15 * c + 10)).toInt + R.toInt := add_I (by omega) (by omega)
  refine h.blk hc ec ec2 (fun a ha => ?_) ?_ eS (fun j hj hv => ?_) (by rw [e15, vr9]) (by rw [e16, vr10]) (h.1.2.2.blk hc eS ⟨⟨Or.inr (Or.inr k1), fun q => ?_, fun _ => ?_⟩, ?_⟩ ?_ ?_ ?_ ?_ (fun q => ?_))
  · unfold outW1
    rw [si_oth ha, si_oth ha, si_oth ha, si_oth ha]
    unfold outW0
    rw [si_oth ha, si_oth ha, si_oth ha, si_oth ha, o1 a ha]
  · exact o2
  · rw [k1] at hv
    have h9 : j = 0 ∨ j = 5 ∨ j = 6 ∨ j = 7 ∨ j = 8 ∨ j = 9 := by
      rcases hv with q | q | q | q
      · omega
      · omega
      · exact absurd q.2 k0
      · omega
    rcases h9 with rfl | rfl | rfl | rfl | rfl | rfl
    · rw [show 1500 + 10 * c + 0 = 1500 + 10 * c from rfl, k1]
      exact e20
    · rw [vb 5 (by omega)]
      exact e25
    · rw [vb 6 (by omega)]
      exact e26
    · rw [vb 7 (by omega)]
      exact e27
    · rw [v8]
      exact e28
    · rw [v9]
      exact e29
  · exact absurd (k1.symm.trans q) k0
  · dsimp only
    rw [vb 5 (by omega), vb 6 (by omega), vb 7 (by omega)]
    exact ⟨h2, h3, h4⟩
  · dsimp only
    rw [v8, v9, vb 5 (by omega), show 1500 + 10 * c + 0 = 1500 + 10 * c from rfl, k1, s8, s9]
    refine ⟨⟨by rw [s8]; omega, by rw [s8]; omega⟩, ⟨by rw [s9]; omega, by rw [s9]; omega⟩, fun q => absurd rfl q, fun _ => ?_⟩
    show _ ≤ v2.toInt
    omega
  · rcases hw with ⟨a, b, rfl⟩ | ⟨a, rfl⟩
    · refine Or.inl ⟨a, by rw [k1]; decide, ?_, b⟩
      rw [vo _ (by omega) (by omega) (by omega), si_1, if_pos ⟨rfl, rfl⟩]
    · refine Or.inr ⟨⟨fun q => absurd q a, fun q => ?_⟩, vo _ (by omega) (by omega) (by omega)⟩
      rw [k1] at q
      exact absurd q (by decide)
  · rw [vr9, t9]
    omega
  · rw [vr10, t10]
    omega
  · unfold wtr
    rw [show 1508 + 10 * c = 1500 + 10 * c + 8 by omega, show 1509 + 10 * c = 1500 + 10 * c + 9 by omega, v8, v9, vr9, vr10, s8, s9, t9, t10]
    omega
  · exact absurd (k1.symm.trans q) k0
theorem out_ok {n : Nat} {wc wm : Wd} {v1 v2 v3 v4 : Int32} (h : YY n wc wm) : ∃ r wc' wm', fX11_out v1 v2 v3 v4 wc = some (r, wc') ∧ fX12_out v1 v2 v3 v4 wm = some (r, wm') ∧ YY (n + 1) wc' wm' := by
  have h0 := h.thr (x := 0)
  have hu := h0.up (Nat.le_succ n)
  unfold fX11_out fX12_out
  simp only [nw_eq, Option.bind_some, isCell_c, isCell_m, isTape_c, isTape_m, within_eq, in_eq, Int32.toInt_toInt64, decide_eq_true_eq, Int32.reduceToInt, Int64.reduceToInt, tn128, tm128, if_true, if_false, Bool.false_eq_true, show (1 : Int32).toInt = 1 from rfl, show (9999 : Int32).toInt = 9999 from rfl, tn128, tm128, show (127 : Int32).toInt = 127 from rfl]
  by_cases h1 : 0 ≤ v1.toInt ∧ v1.toInt ≤ 99
  · obtain ⟨c, hc, rfl⟩ := of_range (v := v1) 100 h1.1 (by omega)
    rw [if_pos h1, if_pos h1]
    by_cases h2 : 1 ≤ v2.toInt ∧ v2.toInt ≤ 9999
    · rw [if_pos h2, if_pos h2]
      by_cases h3 : 1 ≤ v3.toInt ∧ v3.toInt ≤ 9999
      · rw [if_pos h3, if_pos h3]
        by_cases h4 : -128 ≤ v4.toInt ∧ v4.toInt ≤ 127
        · rw [if_pos h4, if_pos h4, mh_0 hc, inb_lt2 hc (by omega), if_pos rfl, ri_iN (by omega), show wc.1 20 c = (si wm 148 0 0).1 149 (1500 + 10 * c) from h0.1.hse (j := 0) hc (Or.inl rfl)]
          simp only [nw_eq, Option.bind_some, isCell_c, isCell_m, isTape_c, isTape_m, within_eq, in_eq, Int32.toInt_toInt64, decide_eq_true_eq, Int32.reduceToInt, Int64.reduceToInt, tn128, tm128, if_true, if_false, Bool.false_eq_true]
          by_cases k2 : (si wm 148 0 0).1 149 (1500 + 10 * c) = 1
          · rw [if_pos k2, if_pos k2]
            exact ⟨_, _, _, rfl, rfl, hu⟩
          · rw [if_neg k2, if_neg k2]
            obtain ⟨x, x1, x2, x3⟩ := else_c h0.1 hc
            rw [x1, out101 hc, mg_17]
            simp only [nw_eq, Option.bind_some, isCell_c, isCell_m, isTape_c, isTape_m, within_eq, in_eq, Int32.toInt_toInt64, decide_eq_true_eq, Int32.reduceToInt, Int64.reduceToInt, tn128, tm128, if_true, if_false, Bool.false_eq_true]
            rw [out101 hc, show ri (si wm 148 0 0) 149 4317 = (si wm 148 0 0).1 149 4317 from rfl, show ∀ x, wi (si wm 148 0 0) 149 4317 x = si (si wm 148 0 0) 149 4317 x from fun _ => rfl]
            rw [wi_iN (by omega), wi_iN (by omega), wi_iN (by omega), wi_iN (by omega)]
            have m8 : ∀ y, (si (si wm 148 0 0) 149 4317 y).1 149 (1500 + 10 * c + 8) = (si wm 148 0 0).1 149 (1500 + 10 * c + 8) := fun y => by rw [si_1, if_neg (by omega)]
            have m9 : ∀ y, (si (si wm 148 0 0) 149 4317 y).1 149 (1500 + 10 * c + 9) = (si wm 148 0 0).1 149 (1500 + 10 * c + 9) := fun y => by rw [si_1, if_neg (by omega)]
            rw [m8, m9]
            have r8 : wc.1 28 c = (si wm 148 0 0).1 149 (1500 + 10 * c + 8) := h0.1.hse (j := 8) hc (by omega)
            have r9 : wc.1 29 c = (si wm 148 0 0).1 149 (1500 + 10 * c + 9) := h0.1.hse (j := 9) hc (by omega)
            have q15 : wc.1 15 c = (si wm 148 0 0).1 149 (15 * c + 9) := h0.1.row (j := 9) hc (by omega)
            have q16 : wc.1 16 c = (si wm 148 0 0).1 149 (15 * c + 10) := h0.1.row (j := 10) hc (by omega)
            have hg := hs.get h0.1.2.2.2.1 hc
            obtain ⟨n1, n2, n3⟩ := out_num (g8 := (si wm 148 0 0).1 149 (1500 + 10 * c + 8)) (g9 := (si wm 148 0 0).1 149 (1500 + 10 * c + 9)) (v := v2) hg.2.1 hg.2.2.1 h2
            have hsp : ∃ w', fX11_spillTank (iN c) (si (si (si (si wc 20 c 2) 25 c v2) 26 c v3) 27 c v4) = some w' ∧ ∀ w1, ((si wm 148 0 0).1 149 (1500 + 10 * c) = 0 ∧ ¬ (si wm 148 0 0).1 149 4317 = 12 ∧ w1 = si (si wm 148 0 0) 149 4317 ((si wm 148 0 0).1 149 4317 + 1)) ∨ (¬ (si wm 148 0 0).1 149 (1500 + 10 * c) = 0 ∧ w1 = si wm 148 0 0) → YY (n + 1) w' (outW1 (outW0 w1 c v2 v3 v4) c (outR ((si wm 148 0 0).1 149 (1500 + 10 * c + 8)) ((si wm 148 0 0).1 149 (1500 + 10 * c + 9)) v2) (outF ((si wm 148 0 0).1 149 (1500 + 10 * c + 8)) ((si wm 148 0 0).1 149 (1500 + 10 * c + 9)) v2)) := by
              have p : ∀ a i, (si (si (si (si wc 20 c 2) 25 c v2) 26 c v3) 27 c v4).1 a i = if a = 27 ∧ i = c then v4 else if a = 26 ∧ i = c then v3 else if a = 25 ∧ i = c then v2 else if a = 20 ∧ i = c then 2 else wc.1 a i := fun a i => by
                rw [si_1, si_1, si_1, si_1]
              have p28 : (si (si (si (si wc 20 c 2) 25 c v2) 26 c v3) 27 c v4).1 28 c = (si wm 148 0 0).1 149 (1500 + 10 * c + 8) := by rw [p]; simp [r8]
              have p29 : (si (si (si (si wc 20 c 2) 25 c v2) 26 c v3) 27 c v4).1 29 c = (si wm 148 0 0).1 149 (1500 + 10 * c + 9) := by rw [p]; simp [r9]
              have p25 : (si (si (si (si wc 20 c 2) 25 c v2) 26 c v3) 27 c v4).1 25 c = v2 := by rw [p]; simp
              have p16 : (si (si (si (si wc 20 c 2) 25 c v2) 26 c v3) 27 c v4).1 16 c = (si wm 148 0 0).1 149 (15 * c + 10) := by rw [p]; simp [q16]
              have p15 : (si (si (si (si wc 20 c 2) 25 c v2) 26 c v3) 27 c v4).1 15 c = (si wm 148 0 0).1 149 (15 * c + 9) := by rw [p]; simp [q15]
              unfold fX11_spillTank
              simp only [nw_eq]
              rw [inb_lt2 hc (by omega), if_pos rfl]
              rw [ri_iN (by omega), ri_iN (by omega), ri_iN (by omega), p28, p29, p25]
              by_cases z : 0 < (si wm 148 0 0).1 149 (1500 + 10 * c + 8) + (si wm 148 0 0).1 149 (1500 + 10 * c + 9) - v2
              · rw [if_pos z, (n2 z).1]
                have hF := (n2 z).2
                rw [(n2 z).1] at hF
                rw [hF]
                refine ⟨_, rfl, fun w1 hw1 => out_core h0 hc h2 h3 h4 k2 hw1 n1 (fun a i q => ?_) rfl ?_ ?_ ?_ ?_ ?_ ?_ ?_ ?_⟩
                · simp only [wi_iN (show c < 2147483648 by omega)]
                  rw [si_1, if_neg (by omega), si_1, if_neg (by omega), si_1, if_neg (by omega), si_1, if_neg (by omega), p, if_neg (by omega), if_neg (by omega), if_neg (by omega), if_neg (by omega)]
                · simp only [wi_iN (show c < 2147483648 by omega)]
                  rw [si_1, if_neg (by omega), si_1, if_neg (by omega), si_1, if_neg (by omega), si_1, if_neg (by omega), p]
                  simp
                · simp only [wi_iN (show c < 2147483648 by omega)]
                  rw [si_1, if_neg (by omega), si_1, if_neg (by omega), si_1, if_neg (by omega), si_1, if_neg (by omega), p]
                  simp
                · simp only [wi_iN (show c < 2147483648 by omega)]
                  rw [si_1, if_neg (by omega), si_1, if_neg (by omega), si_1, if_neg (by omega), si_1, if_neg (by omega), p]
                  simp
                · simp only [wi_iN (show c < 2147483648 by omega)]
                  rw [si_1, if_neg (by omega), si_1, if_neg (by omega), si_1, if_neg (by omega), si_1, if_neg (by omega), p]
                  simp
                · simp only [wi_iN (show c < 2147483648 by omega), ri_iN (show c < 2147483648 by omega)]
                  rw [si_1 (a := 15), if_neg (by omega), si_1 (a := 16), if_neg (by omega), si_1 (a := 28), if_pos ⟨rfl, rfl⟩, si_1 (a := 29), if_neg (by omega), p28]
                · simp only [wi_iN (show c < 2147483648 by omega), ri_iN (show c < 2147483648 by omega)]
                  rw [si_1 (a := 15), if_neg (by omega), si_1 (a := 16), if_neg (by omega), si_1 (a := 28), if_neg (by omega), si_1 (a := 29), if_pos ⟨rfl, rfl⟩]
                · simp only [wi_iN (show c < 2147483648 by omega), ri_iN (show c < 2147483648 by omega)]
                  rw [si_1 (a := 15), if_neg (by omega), si_1 (a := 16), if_pos ⟨rfl, rfl⟩, si_1 (a := 28), if_neg (by omega), si_1 (a := 29), if_neg (by omega), p16]
                · simp only [wi_iN (show c < 2147483648 by omega), ri_iN (show c < 2147483648 by omega)]
                  rw [si_1 (a := 15), if_pos ⟨rfl, rfl⟩, si_1 (a := 16), if_neg (by omega), si_1 (a := 28), if_neg (by omega), si_1 (a := 29), if_neg (by omega), p15]
              · rw [if_neg z]
                obtain ⟨nR, nF⟩ := n3 z
                refine ⟨_, rfl, fun w1 hw1 => out_core h0 hc h2 h3 h4 k2 hw1 n1 (fun a i q => ?_) rfl ?_ ?_ ?_ ?_ ?_ ?_ ?_ ?_⟩
                · rw [p, if_neg (by omega), if_neg (by omega), if_neg (by omega), if_neg (by omega)]
                · rw [p]; simp
                · rw [p]; simp
                · rw [p]; simp
                · rw [p]; simp
                · rw [nF, p28, Int32.sub_zero]
                · rw [nR, p29, Int32.sub_zero]
                · rw [nR, p16, Int32.add_zero]
                · rw [nF, p15, Int32.add_zero]
            obtain ⟨w', s1, s2⟩ := hsp
            rw [s1]
            by_cases k0 : (si wm 148 0 0).1 149 (1500 + 10 * c) = 0
            · rw [if_pos k0]
              by_cases k12 : (si wm 148 0 0).1 149 4317 = 12
              · rw [if_pos k12, if_neg (fun q => (x2 k0).mp q k12)]
                exact ⟨_, _, _, rfl, rfl, hu⟩
              · rw [if_neg k12, if_pos ((x2 k0).mpr k12)]
                exact ⟨_, _, _, rfl, rfl, s2 _ (Or.inl ⟨k0, k12, rfl⟩)⟩
            · rw [if_neg k0, if_pos (x3 k0)]
              exact ⟨_, _, _, rfl, rfl, s2 _ (Or.inr ⟨k0, rfl⟩)⟩
        · rw [if_neg h4, if_neg h4]
          exact ⟨_, _, _, rfl, rfl, hu⟩
      · rw [if_neg h3, if_neg h3]
        exact ⟨_, _, _, rfl, rfl, hu⟩
    · rw [if_neg h2, if_neg h2]
      exact ⟨_, _, _, rfl, rfl, hu⟩
  · rw [if_neg h1, if_neg h1]
    exact ⟨_, _, _, rfl, rfl, hu⟩
-- MATHEMATICS: m22
def far (z y : Nat) : Prop := z + 100 ≤ y ∨ y + 100 ≤ z
theorem cpI_1 {w : Wd} {A B n a i : Nat} (h : n < 1000) : (cpI w A 0 B 0 (mmin (Int32.ofNat n) (Int32.ofNat n))).1 a i = if a = B ∧ i < n then w.1 A i else w.1 a i := by
  have e : (mmin (Int32.ofNat n) (Int32.ofNat n)).toNatClampNeg = n := by
    unfold mmin
    rw [if_neg (by rw [lt_I]; exact Int.lt_irrefl _)]
    exact iN_clamp (by omega)
  show (if a = B then va_cpy (w.1 A) (w.1 B) (0 : Int32).toNatClampNeg (0 : Int32).toNatClampNeg (mmin (Int32.ofNat n) (Int32.ofNat n)).toNatClampNeg else w.1 a) i = _
  rw [e]
  by_cases c : a = B
  · subst c
    rw [if_pos rfl]
    show (if 0 ≤ i ∧ i < 0 + n then w.1 A (0 + (i - 0)) else w.1 a i) = _
    by_cases c2 : i < n
    · rw [if_pos (by omega), if_pos ⟨rfl, c2⟩, show 0 + (i - 0) = i by omega]
    · rw [if_neg (by omega), if_neg (by omega)]
  · rw [if_neg c, if_neg (fun q => c q.1)]
theorem copyRow_eq {w : Wd} {A B n : Nat} (h : n < 1000) : fX11_copyRow A n B n w = some (cpI w A 0 B 0 (mmin (Int32.ofNat n) (Int32.ofNat n))) := by
  have e : (mmin (Int32.ofNat n) (Int32.ofNat n)) = iN n := by
    unfold mmin
    rw [if_neg (by rw [lt_I]; exact Int.lt_irrefl _)]
    rfl
  unfold fX11_copyRow
  rw [if_pos]
  unfold cpok
  rw [decide_eq_true_iff, e, iN_clamp (by omega)]
  exact ⟨by decide, by decide, iN_nneg (by omega), by show 0 + n ≤ n; omega, by show 0 + n ≤ n; omega⟩
def Cp (z y : Nat) (D : Nat → Nat → Prop) (w0 w : Wd) : Prop := w.2 = w0.2 ∧ (∀ a, ¬ (z + 1 ≤ a ∧ a ≤ z + 91) → w.1 a = w0.1 a) ∧ ∀ a i, D a i → w.1 (z + a) i = w0.1 (y + a) i
theorem Cp.nil {z y : Nat} {w : Wd} : Cp z y (fun _ _ => False) w w := ⟨rfl, fun _ _ => rfl, fun _ _ h => h.elim⟩
theorem Cp.weak {z y : Nat} {D D' : Nat → Nat → Prop} {w0 w : Wd} (h : Cp z y D w0 w) (e : ∀ a i, D' a i → D a i) : Cp z y D' w0 w := ⟨h.1, h.2.1, fun a i q => h.2.2 a i (e a i q)⟩
theorem Cp.row {z y n a0 : Nat} {D : Nat → Nat → Prop} {w0 w : Wd} (h : Cp z y D w0 w) (hf : far z y) (ha : 1 ≤ a0 ∧ a0 ≤ 91) (hn : n < 1000) : ∃ w1, fX11_copyRow (y + a0) n (z + a0) n w = some w1 ∧ Cp z y (fun a i => D a i ∨ (a = a0 ∧ i < n)) w0 w1 := by
  obtain ⟨h1, h2, h3⟩ := h
  unfold far at hf
  refine ⟨_, copyRow_eq hn, h1, fun a q => ?_, fun a i q => ?_⟩
  · rw [← h2 a q]
    funext i
    rw [cpI_1 hn, if_neg (by omega)]
  · rw [cpI_1 hn]
    by_cases c : a = a0 ∧ i < n
    · rw [if_pos ⟨by omega, c.2⟩, h2 _ (by omega), c.1]
    · rw [if_neg (by omega)]
      rcases q with q | q
      · exact h3 a i q
      · exact absurd q c
theorem Cp.one {z y a0 i0 : Nat} {D : Nat → Nat → Prop} {w0 w : Wd} (h : Cp z y D w0 w) (hf : far z y) (ha : 1 ≤ a0 ∧ a0 ≤ 91) : Cp z y (fun a i => D a i ∨ (a = a0 ∧ i = i0)) w0 (si w (z + a0) i0 (w.1 (y + a0) i0)) := by
  obtain ⟨h1, h2, h3⟩ := h
  unfold far at hf
  refine ⟨h1, fun a q => ?_, fun a i q => ?_⟩
  · rw [si_oth (by omega)]
    exact h2 a q
  · rw [si_1]
    by_cases c : a = a0 ∧ i = i0
    · rw [if_pos ⟨by omega, c.2⟩, h2 _ (by omega), c.1, c.2]
    · rw [if_neg (by omega)]
      rcases q with q | q
      · exact h3 a i q
      · exact absurd q c
theorem Cp.next {z y n lo hi : Nat} {D : Nat → Nat → Prop} {w0 w : Wd} (h : Cp z y (fun a i => D a i ∨ (lo ≤ a ∧ a < hi ∧ i < n)) w0 w) (hf : far z y) (ha : 1 ≤ hi ∧ hi ≤ 91) (hlo : lo ≤ hi) (hn : n < 1000) : ∃ w1, fX11_copyRow (y + hi) n (z + hi) n w = some w1 ∧ Cp z y (fun a i => D a i ∨ (lo ≤ a ∧ a < hi + 1 ∧ i < n)) w0 w1 := by
  obtain ⟨w1, e1, h1⟩ := h.row hf ha hn
  refine ⟨w1, e1, h1.weak (fun a i q => ?_)⟩
  rcases q with q | q
  · exact Or.inl (Or.inl q)
  · by_cases c : a = hi
    · exact Or.inr ⟨c, q.2.2⟩
    · exact Or.inl (Or.inr ⟨q.1, by omega, q.2.2⟩)
theorem Cp.beg {z y n lo : Nat} {D : Nat → Nat → Prop} {w0 w : Wd} (h : Cp z y D w0 w) : Cp z y (fun a i => D a i ∨ (lo ≤ a ∧ a < lo ∧ i < n)) w0 w := h.weak (fun a i q => by
  rcases q with q | q
  · exact q
  · omega)
theorem become2 {z y : Nat} {D : Nat → Nat → Prop} {w0 w : Wd} (h : Cp z y D w0 w) (hf : far z y) : ∃ w1, fX2_become z y w = some w1 ∧ Cp z y (fun a i => D a i ∨ (3 ≤ a ∧ a < 14 ∧ i < 100)) w0 w1 := by
  have h := h.beg (n := 100) (lo := 3)
  unfold fX2_become
  obtain ⟨_, e, h⟩ := h.next hf (by omega) (by omega) (by omega)
  rw [e, Option.bind_some]
  obtain ⟨_, e, h⟩ := h.next hf (by omega) (by omega) (by omega)
  rw [e, Option.bind_some]
  obtain ⟨_, e, h⟩ := h.next hf (by omega) (by omega) (by omega)
  rw [e, Option.bind_some]
  obtain ⟨_, e, h⟩ := h.next hf (by omega) (by omega) (by omega)
  rw [e, Option.bind_some]
  obtain ⟨_, e, h⟩ := h.next hf (by omega) (by omega) (by omega)
  rw [e, Option.bind_some]
  obtain ⟨_, e, h⟩ := h.next hf (by omega) (by omega) (by omega)
  rw [e, Option.bind_some]
  obtain ⟨_, e, h⟩ := h.next hf (by omega) (by omega) (by omega)
  rw [e, Option.bind_some]
  obtain ⟨_, e, h⟩ := h.next hf (by omega) (by omega) (by omega)
  rw [e, Option.bind_some]
  obtain ⟨_, e, h⟩ := h.next hf (by omega) (by omega) (by omega)
  rw [e, Option.bind_some]
  obtain ⟨_, e, h⟩ := h.next hf (by omega) (by omega) (by omega)
  rw [e, Option.bind_some]
  obtain ⟨_, e, h⟩ := h.next hf (by omega) (by omega) (by omega)
  rw [e, Option.bind_some]
  exact ⟨_, rfl, h⟩
theorem become3 {z y : Nat} {D : Nat → Nat → Prop} {w0 w : Wd} (h : Cp z y D w0 w) (hf : far z y) : ∃ w1, fX3_become z y w = some w1 ∧ Cp z y (fun a i => D a i ∨ (20 ≤ a ∧ a < 30 ∧ i < 100)) w0 w1 := by
  have h := h.beg (n := 100) (lo := 20)
  unfold fX3_become
  obtain ⟨_, e, h⟩ := h.next hf (by omega) (by omega) (by omega)
  rw [e, Option.bind_some]
  obtain ⟨_, e, h⟩ := h.next hf (by omega) (by omega) (by omega)
  rw [e, Option.bind_some]
  obtain ⟨_, e, h⟩ := h.next hf (by omega) (by omega) (by omega)
  rw [e, Option.bind_some]
  obtain ⟨_, e, h⟩ := h.next hf (by omega) (by omega) (by omega)
  rw [e, Option.bind_some]
  obtain ⟨_, e, h⟩ := h.next hf (by omega) (by omega) (by omega)
  rw [e, Option.bind_some]
  obtain ⟨_, e, h⟩ := h.next hf (by omega) (by omega) (by omega)
  rw [e, Option.bind_some]
  obtain ⟨_, e, h⟩ := h.next hf (by omega) (by omega) (by omega)
  rw [e, Option.bind_some]
  obtain ⟨_, e, h⟩ := h.next hf (by omega) (by omega) (by omega)
  rw [e, Option.bind_some]
  obtain ⟨_, e, h⟩ := h.next hf (by omega) (by omega) (by omega)
  rw [e, Option.bind_some]
  obtain ⟨_, e, h⟩ := h.next hf (by omega) (by omega) (by omega)
  rw [e, Option.bind_some]
  exact ⟨_, rfl, h⟩
theorem become6 {z y : Nat} {D : Nat → Nat → Prop} {w0 w : Wd} (h : Cp z y D w0 w) (hf : far z y) : ∃ w1, fX6_become z y w = some w1 ∧ Cp z y (fun a i => (D a i ∨ (a = 30 ∧ i = 0)) ∨ (31 ≤ a ∧ a < 35 ∧ i < 200)) w0 w1 := by
  have h := (h.one (i0 := 0) hf (a0 := 30) (by omega)).beg (n := 200) (lo := 31)
  unfold fX6_become
  rw [nw_eq]
  obtain ⟨_, e, h⟩ := h.next hf (by omega) (by omega) (by omega)
  rw [e, Option.bind_some]
  obtain ⟨_, e, h⟩ := h.next hf (by omega) (by omega) (by omega)
  rw [e, Option.bind_some]
  obtain ⟨_, e, h⟩ := h.next hf (by omega) (by omega) (by omega)
  rw [e, Option.bind_some]
  obtain ⟨_, e, h⟩ := h.next hf (by omega) (by omega) (by omega)
  rw [e, Option.bind_some]
  exact ⟨_, rfl, h⟩
theorem Cp.oneN {z y lo hi a0 : Nat} {D : Nat → Nat → Prop} {w0 w : Wd} (h : Cp z y (fun a i => D a i ∨ (a = a0 ∧ lo ≤ i ∧ i < hi)) w0 w) (hf : far z y) (ha : 1 ≤ a0 ∧ a0 ≤ 91) : Cp z y (fun a i => D a i ∨ (a = a0 ∧ lo ≤ i ∧ i < hi + 1)) w0 (si w (z + a0) hi (w.1 (y + a0) hi)) :=
  (h.one hf ha).weak (fun a i q => by
    rcases q with q | q
    · exact Or.inl (Or.inl q)
    · by_cases c : i = hi
      · exact Or.inr ⟨q.1, c⟩
      · exact Or.inl (Or.inr ⟨q.1, q.2.1, by omega⟩))
theorem Cp.begN {z y lo a0 : Nat} {D : Nat → Nat → Prop} {w0 w : Wd} (h : Cp z y D w0 w) : Cp z y (fun a i => D a i ∨ (a = a0 ∧ lo ≤ i ∧ i < lo)) w0 w := h.weak (fun a i q => by
  rcases q with q | q
  · exact q
  · omega)
theorem become10 {z y : Nat} {D : Nat → Nat → Prop} {w0 w : Wd} (h : Cp z y D w0 w) (hf : far z y) : ∃ w1, fX10_become z y w = some w1 ∧ Cp z y (fun a i => (D a i ∨ (15 ≤ a ∧ a < 19 ∧ i < 100)) ∨ (a = 14 ∧ 4 ≤ i ∧ i < 11)) w0 w1 := by
  have h := h.beg (n := 100) (lo := 15)
  unfold fX10_become
  obtain ⟨_, e, h⟩ := h.next hf (by omega) (by omega) (by omega)
  rw [e, Option.bind_some]
  obtain ⟨_, e, h⟩ := h.next hf (by omega) (by omega) (by omega)
  rw [e, Option.bind_some]
  obtain ⟨_, e, h⟩ := h.next hf (by omega) (by omega) (by omega)
  rw [e, Option.bind_some]
  obtain ⟨_, e, h⟩ := h.next hf (by omega) (by omega) (by omega)
  rw [e, Option.bind_some]
  exact ⟨_, rfl, ((((((((h.begN (lo := 4) (a0 := 14)).oneN hf (by omega)).oneN hf (by omega)).oneN hf (by omega)).oneN hf (by omega)).oneN hf (by omega)).oneN hf (by omega)).oneN hf (by omega))⟩
theorem become5 {z y m : Nat} {D : Nat → Nat → Prop} {w0 w : Wd} (h : Cp z y D w0 w) (hf : far z y) (hm : m < 8) : ∃ w1, fX5_become (z + 36 + 7 * m) (y + 36 + 7 * m) w = some w1 ∧ Cp z y (fun a i => (D a i ∨ (a = 36 + 7 * m ∧ 0 ≤ i ∧ i < 5)) ∨ (37 + 7 * m ≤ a ∧ a < 43 + 7 * m ∧ i < 19)) w0 w1 := by
  unfold fX5_become
  have h := ((((((h.begN (lo := 0) (a0 := 36 + 7 * m)).oneN hf (by omega)).oneN hf (by omega)).oneN hf (by omega)).oneN hf (by omega)).oneN hf (by omega)).beg (n := 19) (lo := 37 + 7 * m)
  simp only [nw_eq]
  rw [show z + 36 + 7 * m = z + (36 + 7 * m) by omega, show y + 36 + 7 * m = y + (36 + 7 * m) by omega]
  obtain ⟨_, e, h⟩ := h.next hf (by omega) (by omega) (by omega)
  rw [show y + (36 + 7 * m) + 1 = y + (37 + 7 * m) by omega, show z + (36 + 7 * m) + 1 = z + (37 + 7 * m) by omega, e, Option.bind_some]
  obtain ⟨_, e, h⟩ := h.next hf (by omega) (by omega) (by omega)
  rw [show y + (36 + 7 * m) + 2 = y + (37 + 7 * m + 1) by omega, show z + (36 + 7 * m) + 2 = z + (37 + 7 * m + 1) by omega, e, Option.bind_some]
  obtain ⟨_, e, h⟩ := h.next hf (by omega) (by omega) (by omega)
  rw [show y + (36 + 7 * m) + 3 = y + (37 + 7 * m + 1 + 1) by omega, show z + (36 + 7 * m) + 3 = z + (37 + 7 * m + 1 + 1) by omega, e, Option.bind_some]
  obtain ⟨_, e, h⟩ := h.next hf (by omega) (by omega) (by omega)
  rw [show y + (36 + 7 * m) + 4 = y + (37 + 7 * m + 1 + 1 + 1) by omega, show z + (36 + 7 * m) + 4 = z + (37 + 7 * m + 1 + 1 + 1) by omega, e, Option.bind_some]
  obtain ⟨_, e, h⟩ := h.next hf (by omega) (by omega) (by omega)
  rw [show y + (36 + 7 * m) + 5 = y + (37 + 7 * m + 1 + 1 + 1 + 1) by omega, show z + (36 + 7 * m) + 5 = z + (37 + 7 * m + 1 + 1 + 1 + 1) by omega, e, Option.bind_some]
  obtain ⟨_, e, h⟩ := h.next hf (by omega) (by omega) (by omega)
  rw [show y + (36 + 7 * m) + 6 = y + (37 + 7 * m + 1 + 1 + 1 + 1 + 1) by omega, show z + (36 + 7 * m) + 6 = z + (37 + 7 * m + 1 + 1 + 1 + 1 + 1) by omega, e, Option.bind_some]
  exact ⟨_, rfl, h.weak (fun a i q => by
    rcases q with q | q
    · exact Or.inl q
    · exact Or.inr (by omega))⟩
-- MATHEMATICS: m23
def Lk (k a i : Nat) : Prop := 36 ≤ a ∧ a < 36 + 7 * k ∧ (((a - 36) % 7 = 0 ∧ i < 5) ∨ (¬ (a - 36) % 7 = 0 ∧ i < 19))
theorem become54 {z y cnt : Nat} {D : Nat → Nat → Prop} {w0 : Wd} (hf : far z y) (h15 : D 1 5) (hc : w0.1 (y + 1) 5 = iN cnt) (h8 : cnt ≤ 8) : ∀ (m k fuel : Nat) (w : Wd), k + m = cnt → m < fuel → Cp z y (fun a i => D a i ∨ Lk k a i) w0 w → ∃ w1, fX0_become_54 z y fuel (iN k) w = some w1 ∧ Cp z y (fun a i => (D a i ∨ Lk cnt a i) ∨ (a = 1 ∧ 6 ≤ i ∧ i < 13)) w0 w1
  | 0, k, fuel + 1, w, hk, _, h => by
    obtain rfl : k = cnt := by omega
    have e5 : w.1 (z + 1) 5 = iN k := (h.2.2 1 5 (Or.inl h15)).trans hc
    unfold fX0_become_54
    rw [e5, if_neg (by rw [lt_I]; exact Int.lt_irrefl _)]
    exact ⟨_, rfl, ((((((((h.begN (lo := 6) (a0 := 1)).oneN hf (by omega)).oneN hf (by omega)).oneN hf (by omega)).oneN hf (by omega)).oneN hf (by omega)).oneN hf (by omega)).oneN hf (by omega))⟩
  | m + 1, k, fuel + 1, w, hk, hfu, h => by
    have e5 : w.1 (z + 1) 5 = iN cnt := (h.2.2 1 5 (Or.inl h15)).trans hc
    obtain ⟨w1, e1, h1⟩ := become5 h hf (show k < 8 by omega)
    obtain ⟨w2, e2, h2⟩ := become54 hf h15 hc h8 m (k + 1) fuel w1 (by omega) (by omega) (h1.weak (fun a i q => by
      rcases q with q | q
      · exact Or.inl (Or.inl (Or.inl q))
      · unfold Lk at q
        by_cases c : a < 36 + 7 * k
        · exact Or.inl (Or.inl (Or.inr ⟨q.1, c, q.2.2⟩))
        · by_cases c2 : a = 36 + 7 * k
          · exact Or.inl (Or.inr ⟨c2, by omega, by omega⟩)
          · exact Or.inr ⟨by omega, by omega, by omega⟩))
    unfold fX0_become_54
    rw [e5, if_pos ((iN_lt (by omega) (by omega)).mpr (by omega)), inb_lt2 (by omega) (by omega), if_pos rfl, iN_clamp (by omega), e1, Option.bind_some, add_lit]
    exact ⟨w2, e2, h2⟩
def DD (cnt a i : Nat) : Prop := (3 ≤ a ∧ a < 14 ∧ i < 100) ∨ (15 ≤ a ∧ a < 19 ∧ i < 100) ∨ (a = 14 ∧ 4 ≤ i ∧ i < 11) ∨ (20 ≤ a ∧ a < 30 ∧ i < 100) ∨ (a = 30 ∧ i = 0) ∨ (31 ≤ a ∧ a < 35 ∧ i < 200) ∨ (a = 1 ∧ 5 ≤ i ∧ i < 13) ∨ Lk cnt a i
theorem become_eq {z y cnt : Nat} {w : Wd} (hf : far z y) (hc : w.1 (y + 1) 5 = iN cnt) (h8 : cnt ≤ 8) : ∃ w1, fX0_become z y w = some w1 ∧ Cp z y (DD cnt) w w1 := by
  unfold fX0_become
  obtain ⟨_, e, h⟩ := become2 (Cp.nil (z := z) (y := y) (w := w)) hf
  rw [e, Option.bind_some]
  obtain ⟨_, e, h⟩ := become10 h hf
  rw [e, Option.bind_some]
  obtain ⟨_, e, h⟩ := become3 h hf
  rw [e, Option.bind_some]
  obtain ⟨_, e, h⟩ := become6 h hf
  rw [e, Option.bind_some, nw_eq]
  have h := h.one (i0 := 5) hf (a0 := 1) (by omega)
  obtain ⟨w1, e1, h1⟩ := become54 hf (show _ ∨ (1 = 1 ∧ 5 = 5) from Or.inr ⟨rfl, rfl⟩) hc h8 cnt 0 FU _ (by omega) (by unfold FU; omega) (h.weak (fun a i q => by
    rcases q with q | q
    · exact q
    · unfold Lk at q
      omega))
  refine ⟨w1, e1, h1.weak (fun a i q => ?_)⟩
  rcases q with q | q | q | q | q | q | q | q
  · exact Or.inl (Or.inl (Or.inl (Or.inl (Or.inl (Or.inl (Or.inl (Or.inl (Or.inr q))))))))
  · exact Or.inl (Or.inl (Or.inl (Or.inl (Or.inl (Or.inl (Or.inl (Or.inr q)))))))
  · exact Or.inl (Or.inl (Or.inl (Or.inl (Or.inl (Or.inl (Or.inr q))))))
  · exact Or.inl (Or.inl (Or.inl (Or.inl (Or.inl (Or.inr q)))))
  · exact Or.inl (Or.inl (Or.inl (Or.inl (Or.inr q))))
  · exact Or.inl (Or.inl (Or.inl (Or.inr q)))
  · by_cases c : i = 5
    · exact Or.inl (Or.inl (Or.inr ⟨q.1, c⟩))
    · exact Or.inr ⟨q.1, by omega, q.2.2⟩
  · exact Or.inl (Or.inr q)
theorem DD_loc {S : Nat → Int32} {cnt k : Nat} (hc : (S 4315).toNatClampNeg = cnt) (h19 : ∀ m, m < cnt → (S (3300 + 125 * m)).toNatClampNeg ≤ 19) (hk : k < 4340) (hv : val S k) : DD cnt (loc k).1 (loc k).2 := by
  unfold val at hv
  unfold loc
  by_cases d1 : k < 1500
  · rw [if_pos d1]
    unfold rowA
    unfold DD
    dsimp only
    split
    · omega
    · split
      · omega
      · split <;> omega
  · rw [if_neg d1] at hv ⊢
    by_cases d2 : k < 2500
    · rw [if_pos d2]
      unfold DD
      dsimp only
      omega
    · rw [if_neg d2] at hv ⊢
      by_cases d3 : k < 3300
      · rw [if_pos d3]
        unfold DD
        dsimp only
        omega
      · rw [if_neg d3] at hv ⊢
        by_cases d4 : k < 4300
        · rw [if_pos d4] at hv ⊢
          rw [hc] at hv
          have h1 := h19 _ hv.1
          refine Or.inr (Or.inr (Or.inr (Or.inr (Or.inr (Or.inr (Or.inr ?_))))))
          unfold lnA Lk
          obtain ⟨m, r, hr, rfl⟩ : ∃ m r, r < 125 ∧ k = 3300 + 125 * m + r := ⟨(k - 3300) / 125, (k - 3300) % 125, by omega, by omega⟩
          rw [show (3300 + 125 * m + r - 3300) / 125 = m by omega, show (3300 + 125 * m + r - 3300) % 125 = r by omega] at hv ⊢
          rw [show (3300 + 125 * m + r - 3300) / 125 = m by omega] at h1
          by_cases r0 : r = 0
          · rw [if_pos r0]
            dsimp only
            omega
          · rw [if_neg r0]
            by_cases r4 : r < 4
            · rw [if_pos r4]
              dsimp only
              omega
            · rw [if_neg r4, if_pos (by omega)]
              dsimp only
              omega
        · rw [if_neg d4] at hv ⊢
          obtain ⟨j, hj, rfl⟩ : ∃ j, j < 18 ∧ k = 4300 + j := ⟨k - 4300, by omega, by omega⟩
          rw [Nat.add_sub_cancel_left]
          have hj2 : j = 0 ∨ j = 1 ∨ j = 2 ∨ j = 3 ∨ j = 4 ∨ j = 5 ∨ j = 6 ∨ j = 7 ∨ j = 8 ∨ j = 9 ∨ j = 10 ∨ j = 11 ∨ j = 12 ∨ j = 13 ∨ j = 15 ∨ j = 16 := by omega
          have hA : ∀ i, 5 ≤ i → i < 13 → DD cnt 1 i := fun i q1 q2 => by
            unfold DD
            omega
          have hB : ∀ i, 4 ≤ i → i < 11 → DD cnt 14 i := fun i q1 q2 => by
            unfold DD
            omega
          rcases hj2 with rfl | rfl | rfl | rfl | rfl | rfl | rfl | rfl | rfl | rfl | rfl | rfl | rfl | rfl | rfl | rfl
          · exact hA 6 (by omega) (by omega)
          · exact hA 7 (by omega) (by omega)
          · exact hA 8 (by omega) (by omega)
          · exact hB 4 (by omega) (by omega)
          · exact hA 9 (by omega) (by omega)
          · exact hB 5 (by omega) (by omega)
          · exact hB 6 (by omega) (by omega)
          · exact hB 7 (by omega) (by omega)
          · exact hB 8 (by omega) (by omega)
          · exact hB 9 (by omega) (by omega)
          · exact hB 10 (by omega) (by omega)
          · exact hA 10 (by omega) (by omega)
          · exact hA 11 (by omega) (by omega)
          · exact hA 12 (by omega) (by omega)
          · exact hA 5 (by omega) (by omega)
          · exact Or.inr (Or.inr (Or.inr (Or.inr (Or.inl ⟨rfl, rfl⟩))))
theorem YC.many_z {w : Wd} {z n : Nat} {S : Nat → Int32} (h : YC w z S n) : w.1 (z + 1) 5 = S 4315 := by
  have := h.1 4315 (by omega) (val_sc (j := 15) (by omega) (by omega) (by omega))
  unfold V at this
  rwa [show loc 4315 = (1, 5) from loc_sc (j := 15) (by omega)] at this
theorem become_ok {z y n : Nat} {w : Wd} {S : Nat → Int32} (h : YC w y S n) (hf : far z y) : ∃ w1, fX0_become z y w = some w1 ∧ YC w1 z S n ∧ (∀ a, ¬ (z + 1 ≤ a ∧ a ≤ z + 91) → w1.1 a = w.1 a) ∧ w1.2 = w.2 := by
  obtain ⟨h1, h2, h3⟩ := h
  have hb := h3.2.2.1.1
  have hb1 := hb.1
  have hb2 := hb.2
  have hc0 := cl_nat hb1
  have e5 : w.1 (y + 1) 5 = iN (S 4315).toNatClampNeg := by
    rw [YC.many_z ⟨h1, h2, h3⟩, eq_I, iN_toInt (by omega)]
    exact hc0.symm
  obtain ⟨w1, e1, c1, c2, c3⟩ := become_eq hf e5 (by omega)
  have h19 : ∀ m, m < (S 4315).toNatClampNeg → (S (3300 + 125 * m)).toNatClampNeg ≤ 19 := fun m hm => by
    have := (h3.2.2.1.2 m (by omega)).1.1
    have q1 : 2 ≤ (S (3300 + 125 * m)).toInt := this.1
    have q2 : (S (3300 + 125 * m)).toInt ≤ 19 := this.2
    have := cl_nat (x := S (3300 + 125 * m)) (by omega)
    omega
  refine ⟨w1, e1, ⟨fun k hk hv => ?_, fun m hm => ?_, h3⟩, c2, c1⟩
  · have := c3 _ _ (DD_loc rfl h19 hk hv)
    unfold V
    rw [this]
    exact h1 k hk hv
  · obtain ⟨u, u1, u2, u3⟩ := h2 m hm
    refine ⟨u, u1, ?_, u3⟩
    rw [c3 (36 + 7 * m) 4 (Or.inr (Or.inr (Or.inr (Or.inr (Or.inr (Or.inr (Or.inr ⟨by omega, by omega, Or.inl ⟨by omega, by omega⟩⟩)))))))]
    exact u2
theorem Inv.congS {S S' : Nat → Int32} {n : Nat} (h : Inv S n) (e : ∀ k, k < 4340 → S' k = S k) : Inv S' n :=
  ⟨h.1.cong (fun c j _ _ => e _ (by omega)), h.2.1.cong (fun k _ _ => e _ (by omega)) (e _ (by omega)), h.2.2.1.cong (fun k _ _ => e _ (by omega)) (e _ (by omega)) (e _ (by omega)), h.2.2.2.1.cong (fun c _ => e _ (by omega)) (fun j _ => e _ (by omega)), h.2.2.2.2.cong (fun c j _ _ _ => e _ (by omega)) (fun k _ _ => e _ (by omega)) (e _ (by omega))⟩
theorem YC.congS {w : Wd} {z n : Nat} {S S' : Nat → Int32} (h : YC w z S n) (e : ∀ k, k < 4340 → S' k = S k) : YC w z S' n := by
  obtain ⟨h1, h2, h3⟩ := h
  refine ⟨fun k hk hv => ?_, fun m hm => ?_, h3.congS e⟩
  · rw [e k hk]
    exact h1 k hk ((val_cong hk (fun c _ => e _ (by omega)) (fun m _ => e _ (by omega)) (e _ (by omega)) (e _ (by omega))).mp hv)
  · rw [e _ (by omega)] at hm
    have hm8 := IL.lt h3.2.2.1 hm
    have hl : (S (3300 + 125 * m)).toInt ≤ 19 := (h3.2.2.1.2 m hm).1.1.2
    obtain ⟨u, u1, u2, u3, u4⟩ := h2 m hm
    refine ⟨u, by rw [e _ (by omega)]; exact u1, u2, fun i hi => ?_, fun i hi hi2 => ?_⟩
    · rw [e _ (by omega)]
      exact u3 i hi
    · rw [e _ (by omega)] at hi2
      rw [e _ (by omega)]
      exact u4 i hi hi2
theorem keep_loop {d : Nat} (hd : d < 6) : ∀ (m k fuel : Nat) (w : Wd), k + m = 4340 → m < fuel → ∃ w', fX12_keep_31 fuel (iN d) (iN k) w = some (w.1 149 4300, w') ∧ (∀ a, ¬ a = 168 → w'.1 a = w.1 a) ∧ w'.2 = w.2 ∧ ∀ i, w'.1 168 i = if 4340 * d + k ≤ i ∧ i < 4340 * d + 4340 then w.1 149 (i - 4340 * d) else w.1 168 i
  | 0, k, fuel + 1, w, hk, _ => by
    obtain rfl : k = 4340 := by omega
    unfold fX12_keep_31
    rw [if_neg (by decide), mg_0]
    exact ⟨_, rfl, fun _ _ => rfl, rfl, fun i => by rw [if_neg (by omega)]⟩
  | m + 1, k, fuel + 1, w, hk, hf => by
    obtain ⟨w', e1, e2, e3, e4⟩ := keep_loop hd m (k + 1) fuel (si w 168 (4340 * d + k) (w.1 149 k)) (by omega) (by omega)
    unfold fX12_keep_31
    have hp : iN k < (4340 : Int32) := (iN_lt (b := 4340) (by omega) (by omega)).mpr (by omega)
    rw [if_pos hp, lit_mul, iN_add, inb_lt2 (by omega) (by omega), inb_lt2 (by omega) (by omega), if_pos rfl, if_pos rfl, wi_iN (by omega), ri_iN (by omega), add_lit]
    rw [si_oth (by omega)] at e1
    refine ⟨w', e1, fun a ha => by rw [e2 a ha, si_oth ha], by rw [e3]; rfl, fun i => ?_⟩
    rw [e4, si_oth (by omega), si_1]
    by_cases c : i = 4340 * d + k
    · rw [if_neg (by omega), if_pos ⟨rfl, c⟩, if_pos (by omega), show i - 4340 * d = k by omega]
    · by_cases c2 : 4340 * d + k ≤ i ∧ i < 4340 * d + 4340
      · rw [if_pos (by omega), if_pos c2]
      · rw [if_neg (by omega), if_neg (by omega), if_neg c2]
theorem back_loop2 {d : Nat} (hd : d < 6) : ∀ (m k fuel : Nat) (w : Wd), k + m = 4340 → m < fuel → ∃ w', fX12_back_50 fuel (iN d) (iN k) w = some (w'.1 149 4300, w') ∧ (∀ a, ¬ a = 149 → w'.1 a = w.1 a) ∧ w'.2 = w.2 ∧ ∀ i, w'.1 149 i = if k ≤ i ∧ i < 4340 then w.1 168 (4340 * d + i) else w.1 149 i
  | 0, k, fuel + 1, w, hk, _ => by
    obtain rfl : k = 4340 := by omega
    unfold fX12_back_50
    rw [if_neg (by decide), mg_0]
    exact ⟨_, rfl, fun _ _ => rfl, rfl, fun i => by rw [if_neg (by omega)]⟩
  | m + 1, k, fuel + 1, w, hk, hf => by
    obtain ⟨w', e1, e2, e3, e4⟩ := back_loop2 hd m (k + 1) fuel (si w 149 k (w.1 168 (4340 * d + k))) (by omega) (by omega)
    unfold fX12_back_50
    have hp : iN k < (4340 : Int32) := (iN_lt (b := 4340) (by omega) (by omega)).mpr (by omega)
    rw [if_pos hp, lit_mul, iN_add, inb_lt2 (by omega) (by omega), inb_lt2 (by omega) (by omega), if_pos rfl, if_pos rfl, wi_iN (by omega), ri_iN (by omega), add_lit]
    refine ⟨w', e1, fun a ha => by rw [e2 a ha, si_oth ha], by rw [e3]; rfl, fun i => ?_⟩
    rw [e4, si_oth (by omega), si_1]
    by_cases c : i = k
    · rw [if_neg (by omega), if_pos ⟨rfl, c⟩, if_pos (by omega), c]
    · by_cases c2 : k ≤ i ∧ i < 4340
      · rw [if_pos (by omega), if_pos c2]
      · rw [if_neg (by omega), if_neg (by omega), if_neg c2]
theorem imZ_d' {d : Nat} : imZ (135 + 2 * d) = 200 + 100 * d := by
  unfold imZ
  omega
theorem back_ok {n : Nat} {wc wm : Wd} {v1 : Int32} (h : YY n wc wm) : ∃ r wc' wm', fX11_back v1 wc = some (r, wc') ∧ fX12_back v1 wm = some (r, wm') ∧ YY n wc' wm' := by
  have h0 := h.thr (x := 0)
  have hh : ∀ x, ∃ r wc' wm', ((fX11_refuse x wc).bind fun v => some (v.1, v.2)) = some (r, wc') ∧ ((fX12_host x (si wm 148 0 0)).bind fun v => some (v.1, v.2)) = some (r, wm') ∧ YY n wc' wm' := by
    intro x
    obtain ⟨wc', wm', e1, e2, e3⟩ := host_ok (x := x) h0
    rw [e1, e2]
    exact ⟨_, _, _, rfl, rfl, e3⟩
  unfold fX11_back fX12_back
  simp only [nw_eq, Option.bind_some, isCell_c, isCell_m, isTape_c, isTape_m, within_eq, in_eq, Int32.toInt_toInt64, decide_eq_true_eq, Int32.reduceToInt, Int64.reduceToInt, tn128, tm128, if_true, if_false, Bool.false_eq_true]
  by_cases h1 : 0 ≤ v1.toInt ∧ v1.toInt ≤ 5
  · obtain ⟨d, hd, rfl⟩ := tape_cases h1
    obtain ⟨⟨t1, t2, t3, t4⟩, t5, t6⟩ := h0.2.2.1 d hd
    rw [if_pos h1, if_pos h1, inb_lt2 hd (by omega), if_pos rfl, if_pos rfl, iN_clamp (by omega), ri_iN (by omega), t1]
    by_cases c0 : (si wm 148 0 0).1 165 d = 0
    · rw [if_pos c0, if_pos c0]
      exact hh _
    · rw [if_neg c0, if_neg c0]
      by_cases c6 : (si wm 148 0 0).1 165 d = 6
      · rw [if_pos c6, if_pos c6]
        obtain ⟨f1, f2⟩ := h0.2.1 d hd c6
        rw [if_neg f1, imZ_d']
        obtain ⟨wc', e1, e2, e3, e4⟩ := become_ok (z := 0) f2 (Or.inl (by omega))
        obtain ⟨wm', g1, g2, g3, g4⟩ := back_loop2 hd 4340 0 FU (si wm 148 0 0) (by omega) (by unfold FU; omega)
        rw [show iN 0 = 0 from rfl] at g1
        have hS : YC wc' 0 (wm'.1 149) n := e2.congS (fun k hk => by rw [g4, if_pos (by omega)])
        rw [e1, g1]
        refine ⟨_, _, _, rfl, by rw [hS.hour], h0.city hS (fun a q _ => ⟨e3 a (by omega), by rw [e4]⟩) (fun a q _ _ _ _ => g2 a q) (by rw [g3]) (fun j _ _ => by rw [g2 _ (by omega)])⟩
      · rw [if_neg c6, if_neg c6]
        exact hh _
  · rw [if_neg h1, if_neg h1]
    exact ⟨_, _, _, rfl, rfl, h0⟩
