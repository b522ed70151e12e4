-- MATHEMATICS: m53
def ItC (f : Nat → Int32) (L : Nat) (w0 : Wd) (M : Wd → Option Wd) (it : Nat → PR) : Prop := (∀ p c w, CS f L p c w0 w → ∃ w', M w = some w' ∧ CO f L (it p) c w0 w') ∧ ∀ q w, CB f L q w0 w → ∃ w', M w = some w' ∧ CB f L q w0 w'
theorem dg_c {f : Nat → Int32} {L p : Nat} {w : Wd} : fX11_within (pkc f L p) 48 57 w = some (isDg (pk f L p)) := by
  rw [within_eq]
  unfold isDg pkc pk
  by_cases c : p < L
  · rw [if_pos c, if_pos c]
    rfl
  · rw [if_neg c, if_neg c]
    rfl
theorem lt_dg {x : Int32} (h : isLt x = true) : isDg x = false := by
  unfold isLt at h
  rw [decide_eq_true_iff] at h
  rcases h with h | h | h | h | h | h | h | h | h | h | h | h <;> rw [h] <;> decide
theorem lt_fin : ∀ c, c < 26 → ¬ factIx (iN (97 + c)) < 0 → isLt (iN (97 + c)) = true := by decide +kernel
theorem lt_iff (x : Int32) : isLt x = true ↔ (97 ≤ x.toInt ∧ x.toInt ≤ 122) ∧ ¬ factIx x < 0 := by
  constructor
  · intro h
    unfold isLt at h
    rw [decide_eq_true_iff] at h
    rcases h with h | h | h | h | h | h | h | h | h | h | h | h <;> rw [h] <;> decide
  · rintro ⟨⟨h1, h2⟩, h3⟩
    obtain ⟨c, hc, rfl⟩ := int_cases (v := x) 122 ⟨by omega, h2⟩ (by omega)
    rw [iN_toInt (by omega)] at h1
    have := lt_fin (c - 97) (by omega)
    rw [show 97 + (c - 97) = c by omega] at this
    exact this h3
theorem digs_c {f : Nat → Int32} {L : Nat} {w0 : Wd} (hL : L ≤ 100) : ∀ (n k fuel : Nat) (v : Int32) (p : Nat) (c : List Int32) (w : Wd), n + k = 4 → n < fuel → CS f L p c w0 w → c.length < (pDig f L n v p).2 → ∃ w', fX4_readUnit_20 fuel v (iN k) w = some w' ∧ CS f L (pDig f L n v p).2 (c ++ [(pDig f L n v p).1]) w0 w'
  | 0, k, fuel + 1, v, p, c, w, hk, _, h, hc => by
    obtain rfl : k = 4 := by omega
    obtain ⟨w', e1, e2⟩ := h.draft (x := v) hL hc
    refine ⟨w', ?_, e2⟩
    unfold fX4_readUnit_20
    rw [if_neg (show ¬ iN 4 < 4 by decide)]
    unfold fX4_readUnit_68
    rw [e1]
    rfl
  | n + 1, k, fuel + 1, v, p, c, w, hk, hf, h, hc => by
    unfold fX4_readUnit_20
    rw [if_pos ((iN_lt_lit (by omega) (by omega)).mpr (show k < 4 by omega)), peek_c hL h.1 h.2.2.1 h.2.1, Option.bind_some, dg_c, Option.bind_some]
    unfold pDig at hc ⊢
    by_cases c1 : isDg (pk f L p) = true
    · have q1 := pz_dg c1
      have q2 : pkc f L p = pk f L p := by
        unfold pkc pk
        rw [if_pos q1, if_pos q1]
      rw [if_pos c1] at hc
      rw [if_pos c1, if_pos c1, Option.bind_some, nw_eq, q2, add_lit]
      exact digs_c hL n (k + 1) fuel _ (p + 1) c _ (by omega) (by omega) (h.adv q1) hc
    · rw [if_neg c1] at hc
      rw [if_neg c1, if_neg c1]
      obtain ⟨w', e1, e2⟩ := h.draft (x := v) hL hc
      refine ⟨w', ?_, e2⟩
      unfold fX4_readUnit_68
      rw [e1]
      rfl
theorem digs_b {f : Nat → Int32} {L q : Nat} {w0 : Wd} (hL : L ≤ 100) : ∀ (n k fuel : Nat) (v : Int32) (w : Wd), n + k = 4 → n < fuel → CB f L q w0 w → ∃ w', fX4_readUnit_20 fuel v (iN k) w = some w' ∧ CB f L q w0 w'
  | 0, k, fuel + 1, v, w, hk, _, h => by
    obtain rfl : k = 4 := by omega
    obtain ⟨w', e1, e2, -⟩ := h.draft (x := v)
    refine ⟨w', ?_, e2⟩
    unfold fX4_readUnit_20
    rw [if_neg (show ¬ iN 4 < 4 by decide)]
    unfold fX4_readUnit_68
    rw [e1]
    rfl
  | n + 1, k, fuel + 1, v, w, hk, hf, h => by
    obtain ⟨p, hpl, hp⟩ := h.1.2.1
    unfold fX4_readUnit_20
    rw [if_pos ((iN_lt_lit (by omega) (by omega)).mpr (show k < 4 by omega)), peek_c hL h.1 hp hpl, Option.bind_some, dg_c, Option.bind_some]
    by_cases c1 : isDg (pk f L p) = true
    · have q1 := pz_dg c1
      rw [if_pos c1, Option.bind_some, nw_eq, add_lit]
      exact digs_b hL n (k + 1) fuel _ _ (by omega) (by omega) (h.adv hp q1).1
    · rw [if_neg c1]
      obtain ⟨w', e1, e2, -⟩ := h.draft (x := v)
      refine ⟨w', ?_, e2⟩
      unfold fX4_readUnit_68
      rw [e1]
      rfl
theorem unit_c {f : Nat → Int32} {L : Nat} {w0 : Wd} (hL : L ≤ 100) : ItC f L w0 fX4_readUnit (pUnit f L) := by
  have ltc : ∀ {p : Nat} {w : Wd} {A B : Option Wd}, isDg (pk f L p) = false → ((fX11_within (pkc f L p) 97 122 w).bind fun v_4 => if v_4 = true then (if factIx (pkc f L p) < 0 then A else B) else A) = if isLt (pk f L p) = true then B else A := by
    intro p w A B _
    rw [within_eq, Option.bind_some]
    by_cases c : p < L
    · have e : pkc f L p = pk f L p := by
        unfold pkc pk
        rw [if_pos c, if_pos c]
      rw [e]
      by_cases c2 : isLt (pk f L p) = true
      · have := (lt_iff _).mp c2
        rw [if_pos (by simpa using this.1), if_neg this.2, if_pos c2]
      · rw [if_neg c2]
        by_cases c3 : 97 ≤ (pk f L p).toInt ∧ (pk f L p).toInt ≤ 122
        · rw [if_pos (by simpa using c3)]
          by_cases c4 : factIx (pk f L p) < 0
          · rw [if_pos c4]
          · exact (c2 ((lt_iff _).mpr ⟨c3, c4⟩)).elim
        · rw [if_neg (by simpa using c3)]
    · unfold pkc pk
      rw [if_neg c, if_neg c]
      rfl
  constructor
  · intro p c w h
    have a1 := adv_unit (f := f) p h.2.1
    unfold fX4_readUnit
    rw [peek_c hL h.1 h.2.2.1 h.2.1, Option.bind_some, dg_c, Option.bind_some]
    unfold pUnit at a1 ⊢
    by_cases c1 : isDg (pk f L p) = true
    · have c2 : ¬ isLt (pk f L p) = true := fun e => by
        rw [lt_dg e] at c1
        cases c1
      rw [if_neg c2, if_pos c1] at a1
      rw [if_pos c1, if_neg c2, if_pos c1]
      have q1 := (a1.2 _ _ rfl).2.1
      obtain ⟨w', e1, e2⟩ := digs_c hL 4 0 FU 0 p c w rfl (by unfold FU; omega) h (by have := h.2.2.2.2.2.1; omega)
      exact ⟨w', e1, (by intro q hq; cases hq), (by intro c2 p2 hq; cases hq; exact e2)⟩
    · rw [if_neg c1, ltc (by simpa using c1)]
      by_cases c2 : isLt (pk f L p) = true
      · have q1 := pz_lt c2
        have q2 : pkc f L p = pk f L p := by
          unfold pkc pk
          rw [if_pos q1, if_pos q1]
        rw [if_pos c2, if_pos c2, nw_eq, q2]
        obtain ⟨w', e1, e2⟩ := (h.adv q1).draft (x := 10000 + pk f L p) hL (by have := h.2.2.2.2.2.1; omega)
        rw [e1]
        exact ⟨w', rfl, (by intro q hq; cases hq), (by intro c2 p2 hq; cases hq; exact e2)⟩
      · rw [if_neg c2, if_neg c2, if_neg c1]
        obtain ⟨w', e1, e2⟩ := h.fail hL
        unfold fX4_readUnit_119
        rw [e1]
        exact ⟨w', rfl, (by intro q hq; cases hq; exact e2), (by intro c2 p2 hq; cases hq)⟩
  · intro q w h
    obtain ⟨p, hpl, hp⟩ := h.1.2.1
    unfold fX4_readUnit
    rw [peek_c hL h.1 hp hpl, Option.bind_some, dg_c, Option.bind_some]
    by_cases c1 : isDg (pk f L p) = true
    · rw [if_pos c1]
      exact digs_b hL 4 0 FU 0 w rfl (by unfold FU; omega) h
    · rw [if_neg c1, ltc (by simpa using c1)]
      by_cases c2 : isLt (pk f L p) = true
      · rw [if_pos c2, nw_eq]
        obtain ⟨w', e1, e2, -⟩ := (h.adv hp (pz_lt c2)).1.draft (x := 10000 + pkc f L p)
        rw [e1]
        exact ⟨w', rfl, e2⟩
      · rw [if_neg c2]
        unfold fX4_readUnit_119
        rw [h.fail]
        exact ⟨w, rfl, h⟩
theorem rows_c {op : Int32 → Bool} {it : Nat → PR} {M : Wd → Option Wd} {lp : Nat → Wd → Option Wd} {f : Nat → Int32} {L : Nat} {w0 : Wd} (hL : L ≤ 100) (ho : op (-1) = false) (ha : Adv L it) (hM : ItC f L w0 M it)
    (h0 : ∀ n w p c, CS f L p c w0 w → op (pk f L p) = false → lp (n + 1) w = some w)
    (h1 : ∀ n w p c, CS f L p c w0 w → op (pk f L p) = true → p < L → lp (n + 1) w = (M (si w 106 10 (w.1 106 10 + 1))).bind fun v => (fX4_draftStep (20000 + pk f L p) v).bind fun v2 => lp n v2)
    (h2 : ∀ n w q, CB f L q w0 w → lp (n + 1) w = some w) :
    ∀ (m fuel : Nat) (c0 c : List Int32) (p : Nat) (w : Wd), L - p < m → m ≤ fuel → CS f L p (c0 ++ c) w0 w → ∃ w', lp fuel w = some w' ∧ CO f L (pMore op it f L m c p) c0 w0 w'
  | m + 1, fuel + 1, c0, c, p, w, hm, hf, h => by
    unfold pMore
    by_cases c1 : op (pk f L p) = true
    · have q1 := pz_op ho c1
      obtain ⟨w1, e1, e2⟩ := hM.1 (p + 1) (c0 ++ c) _ (h.adv q1)
      have a2 := (ha (p + 1) (by omega)).2
      rw [h1 fuel w p _ h c1 q1, e1, Option.bind_some, if_pos c1]
      obtain ⟨g, rfl⟩ : ∃ g, fuel = g + 1 := ⟨fuel - 1, by omega⟩
      cases e : it (p + 1) with
      | inl q =>
        obtain ⟨w2, d1, d2, -⟩ := (e2.1 q e).draft (x := 20000 + pk f L p)
        rw [d1, Option.bind_some, h2 g w2 q d2]
        exact ⟨w2, rfl, (by intro q' hq; cases hq; exact d2), (by intro c2 p2 hq; cases hq)⟩
      | inr r =>
        obtain ⟨c2, p2⟩ := r
        have q2 := a2 c2 p2 e
        have q3 := h.2.2.2.2.2.1
        obtain ⟨w2, d1, d2⟩ := (e2.2 c2 p2 e).draft (x := 20000 + pk f L p) hL (by rw [List.length_append]; omega)
        rw [d1, Option.bind_some]
        refine rows_c hL ho ha hM h0 h1 h2 m (g + 1) c0 _ p2 w2 (by omega) (by omega) ?_
        rw [List.append_assoc c c2, ← List.append_assoc c0 c, ← List.append_assoc (c0 ++ c)]
        exact d2
    · rw [h0 fuel w p _ h (by simpa using c1), if_neg c1]
      exact ⟨w, rfl, (by intro q hq; cases hq), (by intro c2 p2 hq; cases hq; exact h)⟩
theorem row_c {op : Int32 → Bool} {it : Nat → PR} {M : Wd → Option Wd} {lp : Nat → Wd → Option Wd} {f : Nat → Int32} {L : Nat} {w0 : Wd} (hL : L ≤ 100) (ho : op (-1) = false) (ha : Adv L it) (hM : ItC f L w0 M it)
    (h0 : ∀ n w p c, CS f L p c w0 w → op (pk f L p) = false → lp (n + 1) w = some w)
    (h1 : ∀ n w p c, CS f L p c w0 w → op (pk f L p) = true → p < L → lp (n + 1) w = (M (si w 106 10 (w.1 106 10 + 1))).bind fun v => (fX4_draftStep (20000 + pk f L p) v).bind fun v2 => lp n v2)
    (h2 : ∀ n w q, CB f L q w0 w → lp (n + 1) w = some w) : ItC f L w0 (fun w => (M w).bind fun v => lp FU v) (pRow op it f L) := by
  have hFU : FU = 9999999 + 1 := rfl
  constructor
  · intro p c w h
    obtain ⟨w1, e1, e2⟩ := hM.1 p c w h
    show ∃ w', ((M w).bind fun v => lp FU v) = some w' ∧ _
    rw [e1, Option.bind_some]
    unfold pRow
    cases e : it p with
    | inl q =>
      rw [hFU, h2 _ w1 q (e2.1 q e)]
      exact ⟨w1, rfl, (by intro q' hq; cases hq; exact e2.1 q e), (by intro c2 p2 hq; cases hq)⟩
    | inr r =>
      obtain ⟨c2, p2⟩ := r
      exact rows_c hL ho ha hM h0 h1 h2 200 FU c c2 p2 w1 (by omega) (by unfold FU; omega) (e2.2 c2 p2 e)
  · intro q w h
    obtain ⟨w1, e1, e2⟩ := hM.2 q w h
    show ∃ w', ((M w).bind fun v => lp FU v) = some w' ∧ _
    rw [e1, Option.bind_some, hFU, h2 _ w1 q e2]
    exact ⟨w1, rfl, e2⟩
theorem CS.gate {f : Nat → Int32} {L p : Nat} {c : List Int32} {w0 w : Wd} (hL : L ≤ 100) (h : CS f L p c w0 w) : w.1 106 11 < 0 ∧ (w.1 106 10 < w.1 106 9 ↔ p < L) := by
  refine ⟨by rw [h.2.2.2.1]; decide, ?_⟩
  rw [h.2.2.1, h.1.1]
  exact iN_lt (by have := h.2.1; omega) (by omega)
theorem CB.gate {f : Nat → Int32} {L q : Nat} {w0 w : Wd} (h : CB f L q w0 w) : ¬ w.1 106 11 < 0 := by
  rw [h.2.1]
  exact iN_nneg (by have := h.2.2; omega)
theorem sum_c {f : Nat → Int32} {L : Nat} {w0 : Wd} (hL : L ≤ 100) : ItC f L w0 fX4_readSum (pSum f L) := by
  refine row_c (M := fX4_readUnit) (lp := fun n w => (fX4_peek w).bind fun v => fX4_readSum_9 n v w) hL (by decide) adv_unit (unit_c hL) ?_ ?_ ?_
  · intro n w p c h ho
    have ho' : (¬ (pk f L p = 43) ∧ ¬ (pk f L p = 45)) ∧ ¬ (pk f L p = 42) := by simpa using ho
    show ((fX4_peek w).bind fun v => fX4_readSum_9 (n + 1) v w) = some w
    rw [peek_c hL h.1 h.2.2.1 h.2.1, Option.bind_some]
    unfold fX4_readSum_9
    rw [if_pos (h.gate hL).1]
    by_cases c1 : w.1 106 10 < w.1 106 9
    · rw [if_pos c1, if_neg (fun e => ho'.1.1 ((pkc_k (by decide) (by decide)).mp e)), if_neg (fun e => ho'.1.2 ((pkc_k (by decide) (by decide)).mp e)), if_neg (fun e => ho'.2 ((pkc_k (by decide) (by decide)).mp e))]
    · rw [if_neg c1]
  · intro n w p c h ho hp
    have q2 : pkc f L p = pk f L p := by
      unfold pkc pk
      rw [if_pos hp, if_pos hp]
    have ho' : pk f L p = 43 ∨ pk f L p = 45 ∨ pk f L p = 42 := by
      simp only [Bool.or_eq_true, decide_eq_true_eq] at ho
      rcases ho with (h | h) | h
      · exact Or.inl h
      · exact Or.inr (Or.inl h)
      · exact Or.inr (Or.inr h)
    show ((fX4_peek w).bind fun v => fX4_readSum_9 (n + 1) v w) = _
    rw [peek_c hL h.1 h.2.2.1 h.2.1, Option.bind_some, fX4_readSum_9, if_pos (h.gate hL).1, if_pos ((h.gate hL).2.mpr hp), q2]
    rcases ho' with e | e | e
    · rw [if_pos e]
      rfl
    · rw [if_neg (by rw [e]; decide), if_pos e]
      rfl
    · rw [if_neg (by rw [e]; decide), if_neg (by rw [e]; decide), if_pos e]
      rfl
  · intro n w q h
    obtain ⟨p, hpl, hp⟩ := h.1.2.1
    show ((fX4_peek w).bind fun v => fX4_readSum_9 (n + 1) v w) = some w
    rw [peek_c hL h.1 hp hpl, Option.bind_some]
    unfold fX4_readSum_9
    rw [if_neg h.gate]
theorem ands_c {f : Nat → Int32} {L : Nat} {w0 : Wd} {cT : Int32 → Wd → Option Wd} {v : Int32} {it : Nat → PR} (hL : L ≤ 100) (ha : Adv L it) (hM : ItC f L w0 (cT v) it) : ItC f L w0 (fX4_readAnds cT v) (pRow (fun b => b = 38) it f L) := by
  refine row_c (M := cT v) (lp := fun n w => fX4_readAnds_5 cT n v w) hL (by decide) ha hM ?_ ?_ ?_
  · intro n w p c h ho
    have ho' : ¬ (pk f L p = 38) := by simpa using ho
    show fX4_readAnds_5 cT (n + 1) v w = some w
    unfold fX4_readAnds_5
    rw [if_pos (h.gate hL).1]
    by_cases c1 : w.1 106 10 < w.1 106 9
    · rw [if_pos c1, peek_c hL h.1 h.2.2.1 h.2.1, Option.bind_some, if_neg (fun e => ho' ((pkc_k (by decide) (by decide)).mp e))]
    · rw [if_neg c1]
  · intro n w p c h ho hp
    have ho' : pk f L p = 38 := by simpa using ho
    show fX4_readAnds_5 cT (n + 1) v w = _
    rw [ho', fX4_readAnds_5, if_pos (h.gate hL).1, if_pos ((h.gate hL).2.mpr hp), peek_c hL h.1 h.2.2.1 h.2.1, Option.bind_some, if_pos ((pkc_k (by decide) (by decide)).mpr ho'), nw_eq, show (20000 : Int32) + 38 = 20038 by decide]
  · intro n w q h
    show fX4_readAnds_5 cT (n + 1) v w = some w
    unfold fX4_readAnds_5
    rw [if_neg h.gate]
theorem ors_c {f : Nat → Int32} {L : Nat} {w0 : Wd} {cT : Int32 → Wd → Option Wd} {v : Int32} {it : Nat → PR} (hL : L ≤ 100) (ha : Adv L it) (hM : ItC f L w0 (cT v) it) : ItC f L w0 (fX4_readOrs cT v) (pOrsOf it f L) := by
  refine row_c (M := fX4_readAnds cT v) (lp := fun n w => fX4_readOrs_5 cT n v w) hL (by decide) (adv_row (by decide) ha) (ands_c hL ha hM) ?_ ?_ ?_
  · intro n w p c h ho
    have ho' : ¬ (pk f L p = 124) := by simpa using ho
    show fX4_readOrs_5 cT (n + 1) v w = some w
    unfold fX4_readOrs_5
    rw [if_pos (h.gate hL).1]
    by_cases c1 : w.1 106 10 < w.1 106 9
    · rw [if_pos c1, peek_c hL h.1 h.2.2.1 h.2.1, Option.bind_some, if_neg (fun e => ho' ((pkc_k (by decide) (by decide)).mp e))]
    · rw [if_neg c1]
  · intro n w p c h ho hp
    have ho' : pk f L p = 124 := by simpa using ho
    show fX4_readOrs_5 cT (n + 1) v w = _
    rw [ho', fX4_readOrs_5, if_pos (h.gate hL).1, if_pos ((h.gate hL).2.mpr hp), peek_c hL h.1 h.2.2.1 h.2.1, Option.bind_some, if_pos ((pkc_k (by decide) (by decide)).mpr ho'), nw_eq, show (20000 : Int32) + 124 = 20124 by decide]
  · intro n w q h
    show fX4_readOrs_5 cT (n + 1) v w = some w
    unfold fX4_readOrs_5
    rw [if_neg h.gate]
-- MATHEMATICS: m53b
theorem CO.bad {f : Nat → Int32} {L : Nat} {w0 w : Wd} {r : PR} {c : List Int32} {q : Nat} (h : CB f L q w0 w) (e : r = .inl q) : CO f L r c w0 w := ⟨fun q' hq => by rw [e] at hq; cases hq; exact h, fun c2 p2 hq => by rw [e] at hq; cases hq⟩
theorem CO.good {f : Nat → Int32} {L : Nat} {w0 w : Wd} {r : PR} {c c2 : List Int32} {p2 : Nat} (h : CS f L p2 (c ++ c2) w0 w) (e : r = .inr (c2, p2)) : CO f L r c w0 w := ⟨(by intro q' hq; rw [e] at hq; cases hq), (by intro c2 p2 hq; rw [e] at hq; cases hq; exact h)⟩
theorem t44_c {f : Nat → Int32} {L p : Nat} {w0 w : Wd} {cO cT : Int32 → Wd → Option Wd} {c : List Int32} (hL : L ≤ 100) (h : CS f L p c w0 w) (hp : p < L) : ∃ w', fX4_readTest_44 cO cT (pk f L p) w = some w' ∧ CO f L (match pSum f L (p + 1) with
    | .inl q => .inl q
    | .inr (c2, p3) => .inr (c2 ++ [20000 + pk f L p], p3)) c w0 w' := by
  unfold fX4_readTest_44
  obtain ⟨w1, e1, e2⟩ := (sum_c hL).1 (p + 1) c _ (h.adv hp)
  have a2 := (adv_sum (f := f) (p + 1) (show p + 1 ≤ L by omega)).2
  rw [nw_eq, e1, Option.bind_some]
  cases e : pSum f L (p + 1) with
  | inl q =>
    obtain ⟨w2, d1, d2, -⟩ := (e2.1 q e).draft (x := 20000 + pk f L p)
    rw [d1]
    exact ⟨w2, rfl, CO.bad d2 rfl⟩
  | inr r =>
    obtain ⟨c2, p3⟩ := r
    have q2 := a2 c2 p3 e
    have q3 := h.2.2.2.2.2.1
    obtain ⟨w2, d1, d2⟩ := (e2.2 c2 p3 e).draft (x := 20000 + pk f L p) hL (by rw [List.length_append]; omega)
    rw [d1]
    rw [List.append_assoc] at d2
    exact ⟨w2, rfl, CO.good d2 rfl⟩
theorem t44_b {f : Nat → Int32} {L p q : Nat} {w0 w : Wd} {cO cT : Int32 → Wd → Option Wd} {x : Int32} (hL : L ≤ 100) (h : CB f L q w0 w) (hp : w.1 106 10 = iN p) (hpl : p < L) : ∃ w', fX4_readTest_44 cO cT x w = some w' ∧ CB f L q w0 w' := by
  unfold fX4_readTest_44
  obtain ⟨w1, e1, e2⟩ := (sum_c (w0 := w0) hL).2 q _ (h.adv hp hpl).1
  obtain ⟨w2, d1, d2, -⟩ := e2.draft (x := 20000 + x)
  rw [nw_eq, e1, Option.bind_some, d1]
  exact ⟨w2, rfl, d2⟩
theorem cmp_c {f : Nat → Int32} {L : Nat} {w0 : Wd} {cO cT : Int32 → Wd → Option Wd} (hL : L ≤ 100) : ItC f L w0 (fun w => (fX4_readSum w).bind fun v_4 => (fX4_peek v_4).bind fun v_5 =>
      if v_5 = (60 : Int32) then fX4_readTest_44 cO cT v_5 v_4
      else if v_5 = (61 : Int32) then fX4_readTest_44 cO cT v_5 v_4
      else if v_5 = (62 : Int32) then fX4_readTest_44 cO cT v_5 v_4
      else (fX4_fail v_4).bind fun v_9 => some v_9) (pCmp f L) := by
  have cs : ∀ {p : Nat} {A B : Option Wd}, (if pkc f L p = (60 : Int32) then A else if pkc f L p = (61 : Int32) then A else if pkc f L p = (62 : Int32) then A else B) = if pk f L p = 60 ∨ pk f L p = 61 ∨ pk f L p = 62 then A else B := by
    intro p A B
    by_cases c1 : pk f L p = 60
    · rw [if_pos ((pkc_k (by decide) (by decide)).mpr c1), if_pos (Or.inl c1)]
    · rw [if_neg (fun e => c1 ((pkc_k (by decide) (by decide)).mp e))]
      by_cases c2 : pk f L p = 61
      · rw [if_pos ((pkc_k (by decide) (by decide)).mpr c2), if_pos (Or.inr (Or.inl c2))]
      · rw [if_neg (fun e => c2 ((pkc_k (by decide) (by decide)).mp e))]
        by_cases c3 : pk f L p = 62
        · rw [if_pos ((pkc_k (by decide) (by decide)).mpr c3), if_pos (Or.inr (Or.inr c3))]
        · rw [if_neg (fun e => c3 ((pkc_k (by decide) (by decide)).mp e)), if_neg (by rintro (h | h | h) <;> contradiction)]
  have inn : ∀ {p : Nat}, (pk f L p = 60 ∨ pk f L p = 61 ∨ pk f L p = 62) → p < L ∧ pkc f L p = pk f L p := by
    intro p h
    have q : p < L := by
      rcases h with h | h | h <;> exact pz_k h (by decide)
    refine ⟨q, ?_⟩
    unfold pkc pk
    rw [if_pos q, if_pos q]
  constructor
  · intro p c w h
    obtain ⟨w1, e1, e2⟩ := (sum_c hL).1 p c w h
    show ∃ w', ((fX4_readSum w).bind _) = some w' ∧ _
    rw [e1, Option.bind_some]
    unfold pCmp
    cases e : pSum f L p with
    | inl q =>
      have b := e2.1 q e
      obtain ⟨p', hpl, hp⟩ := b.1.2.1
      simp only [peek_c hL b.1 hp hpl, Option.bind_some, cs]
      by_cases c1 : pk f L p' = 60 ∨ pk f L p' = 61 ∨ pk f L p' = 62
      · rw [if_pos c1]
        obtain ⟨w2, d1, d2⟩ := t44_b (x := pkc f L p') (cO := cO) (cT := cT) hL b hp (inn c1).1
        exact ⟨w2, d1, CO.bad d2 rfl⟩
      · rw [if_neg c1, b.fail]
        exact ⟨w1, rfl, CO.bad b rfl⟩
    | inr r =>
      obtain ⟨c2, p2⟩ := r
      have b := e2.2 c2 p2 e
      simp only [peek_c hL b.1 b.2.2.1 b.2.1, Option.bind_some, cs]
      by_cases c1 : pk f L p2 = 60 ∨ pk f L p2 = 61 ∨ pk f L p2 = 62
      · rw [if_pos c1, if_pos c1, (inn c1).2]
        obtain ⟨w2, d1, d2⟩ := t44_c (cO := cO) (cT := cT) hL b (inn c1).1
        refine ⟨w2, d1, ?_⟩
        cases e3 : pSum f L (p2 + 1) with
        | inl q =>
          rw [e3] at d2
          exact CO.bad (d2.1 q rfl) rfl
        | inr r3 =>
          obtain ⟨c3, p3⟩ := r3
          rw [e3] at d2
          refine CO.good (c2 := c2 ++ c3 ++ [20000 + pk f L p2]) ?_ rfl
          have := d2.2 _ _ rfl
          rw [List.append_assoc] at this
          rw [List.append_assoc c2]
          exact this
      · rw [if_neg c1, if_neg c1]
        obtain ⟨w2, d1, d2⟩ := b.fail hL
        rw [d1]
        exact ⟨w2, rfl, CO.bad d2 rfl⟩
  · intro q w h
    obtain ⟨w1, e1, b⟩ := (sum_c (w0 := w0) hL).2 q w h
    obtain ⟨p', hpl, hp⟩ := b.1.2.1
    show ∃ w', ((fX4_readSum w).bind _) = some w' ∧ _
    rw [e1, Option.bind_some]
    simp only [peek_c hL b.1 hp hpl, Option.bind_some, cs]
    by_cases c1 : pk f L p' = 60 ∨ pk f L p' = 61 ∨ pk f L p' = 62
    · rw [if_pos c1]
      exact t44_b (x := pkc f L p') (cO := cO) (cT := cT) hL b hp (inn c1).1
    · rw [if_neg c1, b.fail]
      exact ⟨w1, rfl, b⟩
theorem readTest_eq {cO cT : Int32 → Wd → Option Wd} {v : Int32} {w : Wd} {x : Int32} (hx : fX4_peek w = some x) : fX4_readTest cO cT v w = if x = 33 then fX4_readTest_77 cO cT v x w else if x = 40 then fX4_readTest_77 cO cT v x w else ((fX4_readSum w).bind fun v_4 => (fX4_peek v_4).bind fun v_5 =>
      if v_5 = (60 : Int32) then fX4_readTest_44 cO cT v_5 v_4
      else if v_5 = (61 : Int32) then fX4_readTest_44 cO cT v_5 v_4
      else if v_5 = (62 : Int32) then fX4_readTest_44 cO cT v_5 v_4
      else (fX4_fail v_4).bind fun v_9 => some v_9) := by
  unfold fX4_readTest
  rw [hx, Option.bind_some]
theorem test0_c {f : Nat → Int32} {L : Nat} {w0 : Wd} {cO cT : Int32 → Wd → Option Wd} (hL : L ≤ 100) : ItC f L w0 (fX4_readTest cO cT 5) (pTest f L 0) := by
  have u77 : ∀ {x : Int32} {w : Wd}, fX4_readTest_77 cO cT 5 x w = (fX4_fail w).bind fun v => some v := by
    intro x w
    unfold fX4_readTest_77
    rw [if_neg (by decide)]
  constructor
  · intro p c w h
    rw [readTest_eq (peek_c hL h.1 h.2.2.1 h.2.1)]
    unfold pTest
    by_cases c1 : pk f L p = 33 ∨ pk f L p = 40
    · rw [if_pos c1]
      obtain ⟨w2, d1, d2⟩ := h.fail hL
      rcases c1 with c1 | c1
      · rw [if_pos ((pkc_k (by decide) (by decide)).mpr c1), u77, d1]
        exact ⟨w2, rfl, CO.bad d2 rfl⟩
      · rw [if_neg (by rw [(pkc_k (by decide) (by decide)).mpr c1]; decide), if_pos ((pkc_k (by decide) (by decide)).mpr c1), u77, d1]
        exact ⟨w2, rfl, CO.bad d2 rfl⟩
    · rw [if_neg c1, if_neg (fun e => c1 (Or.inl ((pkc_k (by decide) (by decide)).mp e))), if_neg (fun e => c1 (Or.inr ((pkc_k (by decide) (by decide)).mp e)))]
      exact (cmp_c hL).1 p c w h
  · intro q w h
    obtain ⟨p', hpl, hp⟩ := h.1.2.1
    rw [readTest_eq (peek_c hL h.1 hp hpl)]
    by_cases c1 : pkc f L p' = 33
    · rw [if_pos c1, u77, h.fail]
      exact ⟨w, rfl, h⟩
    · rw [if_neg c1]
      by_cases c2 : pkc f L p' = 40
      · rw [if_pos c2, u77, h.fail]
        exact ⟨w, rfl, h⟩
      · rw [if_neg c2]
        exact (cmp_c hL).2 q w h
theorem testS_c {f : Nat → Int32} {L n : Nat} {w0 : Wd} {cO cT : Int32 → Wd → Option Wd} {v : Int32} (hL : L ≤ 100) (hv : v < 5) (hT : ItC f L w0 (cT (v + 1)) (pTest f L n)) (hO : ItC f L w0 (cO (v + 1)) (pOrsOf (pTest f L n) f L)) : ItC f L w0 (fX4_readTest cO cT v) (pTest f L (n + 1)) := by
  constructor
  · intro p c w h
    have q3 := h.2.2.2.2.2.1
    rw [readTest_eq (peek_c hL h.1 h.2.2.1 h.2.1)]
    unfold pTest
    by_cases c1 : pk f L p = 33
    · have q1 := pz_k c1 (by decide)
      have e0 : pkc f L p = 33 := (pkc_k (by decide) (by decide)).mpr c1
      rw [if_pos c1, e0, if_pos rfl]
      unfold fX4_readTest_77
      obtain ⟨w1, e1, e2⟩ := hT.1 (p + 1) c _ (h.adv q1)
      rw [if_pos hv, if_pos rfl, nw_eq, e1, Option.bind_some]
      cases e : pTest f L n (p + 1) with
      | inl q =>
        obtain ⟨w2, d1, d2, -⟩ := (e2.1 q e).draft (x := 20033)
        rw [d1]
        exact ⟨w2, rfl, CO.bad d2 rfl⟩
      | inr r =>
        obtain ⟨c2, p2⟩ := r
        have q2 := (adv_test (f := f) n (p + 1) (show p + 1 ≤ L by omega)).2 c2 p2 e
        obtain ⟨w2, d1, d2⟩ := (e2.2 c2 p2 e).draft (x := 20033) hL (by rw [List.length_append]; omega)
        rw [d1]
        rw [List.append_assoc] at d2
        exact ⟨w2, rfl, CO.good d2 rfl⟩
    · rw [if_neg c1, if_neg (fun e => c1 ((pkc_k (by decide) (by decide)).mp e))]
      by_cases c3 : pk f L p = 40
      · have q1 := pz_k c3 (by decide)
        have e0 : pkc f L p = 40 := (pkc_k (by decide) (by decide)).mpr c3
        rw [if_pos c3, e0, if_pos rfl]
        unfold fX4_readTest_77
        obtain ⟨w1, e1, e2⟩ := hO.1 (p + 1) c _ (h.adv q1)
        rw [if_pos hv, if_neg (by decide), nw_eq, e1, Option.bind_some]
        cases e : pOrsOf (pTest f L n) f L (p + 1) with
        | inl q =>
          have b := e2.1 q e
          obtain ⟨p', hpl, hp⟩ := b.1.2.1
          rw [peek_c hL b.1 hp hpl, Option.bind_some]
          by_cases c4 : pkc f L p' = 41
          · rw [if_pos c4, nw_eq]
            exact ⟨_, rfl, CO.bad (b.adv hp (pkc_in (by rw [c4]; decide)).1).1 rfl⟩
          · rw [if_neg c4, b.fail]
            exact ⟨_, rfl, CO.bad b rfl⟩
        | inr r =>
          obtain ⟨c2, p2⟩ := r
          have b := e2.2 c2 p2 e
          rw [peek_c hL b.1 b.2.2.1 b.2.1, Option.bind_some]
          show ∃ w', _ ∧ CO f L (if pk f L p2 = 41 then _ else _) c w0 w'
          by_cases c4 : pk f L p2 = 41
          · rw [if_pos c4, if_pos ((pkc_k (by decide) (by decide)).mpr c4), nw_eq]
            exact ⟨_, rfl, CO.good (b.adv (pz_k c4 (by decide))) rfl⟩
          · rw [if_neg c4, if_neg (fun e => c4 ((pkc_k (by decide) (by decide)).mp e))]
            obtain ⟨w2, d1, d2⟩ := b.fail hL
            rw [d1]
            exact ⟨_, rfl, CO.bad d2 rfl⟩
      · rw [if_neg c3, if_neg (fun e => c3 ((pkc_k (by decide) (by decide)).mp e))]
        exact (cmp_c hL).1 p c w h
  · intro q w h
    obtain ⟨p', hpl, hp⟩ := h.1.2.1
    rw [readTest_eq (peek_c hL h.1 hp hpl)]
    by_cases c1 : pkc f L p' = 33
    · rw [if_pos c1]
      unfold fX4_readTest_77
      obtain ⟨w1, e1, e2⟩ := hT.2 q _ (h.adv hp (pkc_in (by rw [c1]; decide)).1).1
      obtain ⟨w2, d1, d2, -⟩ := e2.draft (x := 20033)
      rw [if_pos hv, if_pos c1, nw_eq, e1, Option.bind_some, d1]
      exact ⟨w2, rfl, d2⟩
    · rw [if_neg c1]
      by_cases c2 : pkc f L p' = 40
      · rw [if_pos c2]
        unfold fX4_readTest_77
        obtain ⟨w1, e1, b⟩ := hO.2 q _ (h.adv hp (pkc_in (by rw [c2]; decide)).1).1
        obtain ⟨p2, hpl2, hp2⟩ := b.1.2.1
        rw [if_pos hv, if_neg c1, nw_eq, e1, Option.bind_some, peek_c hL b.1 hp2 hpl2, Option.bind_some]
        by_cases c4 : pkc f L p2 = 41
        · rw [if_pos c4, nw_eq]
          exact ⟨_, rfl, (b.adv hp2 (pkc_in (by rw [c4]; decide)).1).1⟩
        · rw [if_neg c4, b.fail]
          exact ⟨_, rfl, b⟩
      · rw [if_neg c2]
        exact (cmp_c hL).2 q w h
theorem tests_c {f : Nat → Int32} {L : Nat} {w0 : Wd} (hL : L ≤ 100) : ∀ n v, n + v = 5 → ItC f L w0 (kRT (n + 1) (iN v)) (pTest f L n)
  | 0, v, h => by
    obtain rfl : v = 5 := by omega
    exact test0_c hL
  | n + 1, v, h => by
    have ih := tests_c (f := f) (w0 := w0) hL n (v + 1) (by omega)
    have e : iN v + 1 = iN (v + 1) := add_lit 1 v
    refine testS_c (cO := fX4_readOrs (kRT (n + 1))) (cT := kRT (n + 1)) hL ((iN_lt_lit (by omega) (by omega)).mpr (by omega)) ?_ ?_
    · rw [e]
      exact ih
    · rw [e]
      exact ors_c hL (adv_test n) ih
theorem all_c {f : Nat → Int32} {L : Nat} {w0 w : Wd} (hL : L ≤ 100) (h : CS f L 0 [] w0 w) : ∃ w', ((kRO 0 w).bind fun v_7 => if (v_7.1 106 10) < (v_7.1 106 9) then (fX4_fail v_7).bind fun v_9 => fX4_firstFault_77 v_9 else fX4_firstFault_77 v_7) = some (w'.1 106 11, w') ∧ CO f L (pAll f L) [] w0 w' := by
  obtain ⟨w1, e1, e2⟩ := (ors_c (v := iN 0) hL (adv_test 5) (tests_c (f := f) (w0 := w0) hL 5 0 rfl)).1 0 [] w h
  have e1' : kRO 0 w = some w1 := e1
  rw [e1', Option.bind_some]
  unfold pAll
  cases e : pOrsOf (pTest f L 5) f L 0 with
  | inl q =>
    have b := e2.1 q e
    rw [b.fail]
    refine ⟨w1, ?_, CO.bad b rfl⟩
    by_cases c : w1.1 106 10 < w1.1 106 9
    · rw [if_pos c]
      rfl
    · rw [if_neg c]
      rfl
  | inr r =>
    obtain ⟨c2, p2⟩ := r
    have b := e2.2 c2 p2 e
    show ∃ w', _ ∧ CO f L (if p2 < L then _ else _) [] w0 w'
    by_cases c : p2 < L
    · obtain ⟨w2, d1, d2⟩ := b.fail hL
      rw [if_pos c, if_pos ((b.gate hL).2.mpr c), d1]
      exact ⟨w2, rfl, CO.bad d2 rfl⟩
    · rw [if_neg c, if_neg (fun e => c ((b.gate hL).2.mp e))]
      exact ⟨w1, rfl, CO.good b rfl⟩
-- MATHEMATICS: m54
def dn8 (d : Int32) (a b : Int64) : Int64 :=
  if d = 38 then a &&& b else if d = 42 then lmax (-1000000) (lmin 1000000 (a * b)) else if d = 43 then lmax (-1000000) (lmin 1000000 (a + b)) else if d = 45 then lmax (-1000000) (lmin 1000000 (a - b))
  else if d = 60 then (if a < b then 1 else 0) else if d = 61 then (if a = b then 1 else 0) else if d = 62 then (if b < a then 1 else 0) else a ||| b
def ev1 (F : Int32 → Int64) (x : Int32) (s : List Int64) : List Int64 :=
  if x < 20000 then (if x < 10000 then x.toInt64 else F (x - 10000)) :: s
  else if x = 20033 then (match s with | a :: r => (1 - a) :: r | [] => [])
  else (match s with | b :: a :: r => dn8 (x - 20000) a b :: r | s => s)
def evs (F : Int32 → Int64) : List Int32 → List Int64 → List Int64
  | [], s => s
  | x :: c, s => evs F c (ev1 F x s)
theorem evs_app {F : Int32 → Int64} : ∀ (c c2 : List Int32) (s : List Int64), evs F (c ++ c2) s = evs F c2 (evs F c s)
  | [], c2, s => rfl
  | x :: c, c2, s => evs_app c c2 _
def RG (D : Nat) (w0 w : Wd) : Prop := w.1 148 25 = iN D ∧ (∀ a, ¬ a = 148 → w.1 a = w0.1 a) ∧ (∀ j, ¬ j = 24 → ¬ j = 25 → ¬ j = 26 → w.1 148 j = w0.1 148 j) ∧ w.2 = w0.2
def RF (w0 w : Wd) : Prop := (∀ a, ¬ a = 148 → w.1 a = w0.1 a) ∧ (∀ j, ¬ j = 24 → ¬ j = 25 → ¬ j = 26 → w.1 148 j = w0.1 148 j) ∧ w.2 = w0.2
def RS (L D p : Nat) (w0 w : Wd) : Prop := RF w0 w ∧ w.1 148 25 = iN D ∧ p ≤ L ∧ w.1 148 24 = iN p ∧ w.1 148 26 = 0
def RB (L q : Nat) (w0 w : Wd) : Prop := RF w0 w ∧ q ≤ L ∧ w.1 148 24 = iN q ∧ w.1 148 26 = 1
def RT (f : Nat → Int32) (L : Nat) (F : Int32 → Int64) (w0 : Wd) : Prop := L ≤ 100 ∧ w0.1 148 23 = iN L ∧ (∀ i, i < L → w0.1 163 i = f i) ∧ ∀ b w, isLt b = true → RF w0 w → ∃ x, fX12_fact b w = some x ∧ F b = x.toInt64
def RO {α : Type} (vl : α → Int64) (F : Int32 → Int64) (L D : Nat) (w0 : Wd) (r : PR) (x : α) (w : Wd) : Prop := (∀ q, r = .inl q → RB L q w0 w) ∧ ∀ c2 p2, r = .inr (c2, p2) → RS L D p2 w0 w ∧ ∀ s, evs F c2 s = vl x :: s
theorem RO.bad {α : Type} {vl : α → Int64} {F : Int32 → Int64} {L D q : Nat} {w0 w : Wd} {r : PR} {x : α} (h : RB L q w0 w) (e : r = .inl q) : RO vl F L D w0 r x w := ⟨fun q' hq => by rw [e] at hq; cases hq; exact h, fun c2 p2 hq => by rw [e] at hq; cases hq⟩
theorem RO.good {α : Type} {vl : α → Int64} {F : Int32 → Int64} {L D : Nat} {w0 w : Wd} {r : PR} {x : α} {c2 : List Int32} {p2 : Nat} (h : RS L D p2 w0 w) (hs : ∀ s, evs F c2 s = vl x :: s) (e : r = .inr (c2, p2)) : RO vl F L D w0 r x w := ⟨(by intro q' hq; rw [e] at hq; cases hq), (by intro c2 p2 hq; rw [e] at hq; cases hq; exact ⟨h, hs⟩)⟩
def ItR {α : Type} (vl : α → Int64) (F : Int32 → Int64) (L D : Nat) (w0 : Wd) (M : Wd → Option (α × Wd)) (it : Nat → PR) : Prop := ∀ p w, RS L D p w0 w → ∃ x w', M w = some (x, w') ∧ RO vl F L D w0 (it p) x w'
theorem RF.put {w0 w : Wd} {j : Nat} {x : Int32} (h : RF w0 w) (hj : j = 24 ∨ j = 25 ∨ j = 26) : RF w0 (si w 148 j x) := by
  refine ⟨fun a ha => (si_oth ha).trans (h.1 a ha), fun i h1 h2 h3 => ?_, h.2.2⟩
  rw [si_1, if_neg (by omega)]
  exact h.2.1 i h1 h2 h3
theorem RS.adv {L D p : Nat} {w0 w : Wd} (h : RS L D p w0 w) (hp : p < L) : RS L D (p + 1) w0 (si w 148 24 (w.1 148 24 + 1)) := by
  obtain ⟨h1, h2, h3, h4, h5⟩ := h
  refine ⟨h1.put (by omega), ?_, by omega, ?_, ?_⟩
  · rw [si_1, if_neg (by omega)]
    exact h2
  · rw [si_at, h4]
    exact add_lit 1 p
  · rw [si_1, if_neg (by omega)]
    exact h5
theorem RS.fail {L D p : Nat} {w0 w : Wd} (h : RS L D p w0 w) : RB L p w0 (si w 148 26 1) := by
  obtain ⟨h1, h2, h3, h4, h5⟩ := h
  refine ⟨h1.put (by omega), h3, ?_, si_at⟩
  rw [si_1, if_neg (by omega)]
  exact h4
theorem RB.fail {L q : Nat} {w0 w : Wd} (h : RB L q w0 w) : RB L q w0 (si w 148 26 1) := by
  obtain ⟨h1, h2, h3, h4⟩ := h
  refine ⟨h1.put (by omega), h2, ?_, si_at⟩
  rw [si_1, if_neg (by omega)]
  exact h3
theorem RB.deep {L q : Nat} {w0 w : Wd} {x : Int32} (h : RB L q w0 w) : RB L q w0 (si w 148 25 x) := by
  obtain ⟨h1, h2, h3, h4⟩ := h
  refine ⟨h1.put (by omega), h2, ?_, ?_⟩
  · rw [si_1, if_neg (by omega)]
    exact h3
  · rw [si_1, if_neg (by omega)]
    exact h4
theorem here_g {f : Nat → Int32} {L p : Nat} {F : Int32 → Int64} {w0 w : Wd} (ht : RT f L F w0) (h : RF w0 w) (hp : w.1 148 24 = iN p) (hpl : p ≤ L) : fX12_here w = some (pk f L p) := by
  obtain ⟨hL, t1, t2, -⟩ := ht
  unfold fX12_here pk
  rw [h.2.1 23 (by omega) (by omega) (by omega), t1, hp]
  by_cases c : p < L
  · rw [if_pos ((iN_lt (by omega) (by omega)).mpr c), inb_lt2 (by omega) (by omega), if_pos rfl, ri_iN (by omega), h.1 163 (by omega), t2 p c, if_pos c]
  · rw [if_neg (fun q => c ((iN_lt (by omega) (by omega)).mp q)), if_neg c]
theorem here_S {f : Nat → Int32} {L D p : Nat} {F : Int32 → Int64} {w0 w : Wd} (ht : RT f L F w0) (h : RS L D p w0 w) : fX12_here w = some (pk f L p) := here_g ht h.1 h.2.2.2.1 h.2.2.1
theorem here_B {f : Nat → Int32} {L q : Nat} {F : Int32 → Int64} {w0 w : Wd} (ht : RT f L F w0) (h : RB L q w0 w) : fX12_here w = some (pk f L q) := here_g ht h.1 h.2.2.1 h.2.1
theorem sign_S {f : Nat → Int32} {L D p : Nat} {F : Int32 → Int64} {w0 w : Wd} {v : Int32} (ht : RT f L F w0) (h : RS L D p w0 w) : fX12_sign v w = if pk f L p = v then some (true, si w 148 24 (w.1 148 24 + 1)) else some (false, w) := by
  unfold fX12_sign
  rw [if_pos h.2.2.2.2, here_S ht h]
  rfl
theorem sign_B {L q : Nat} {w0 w : Wd} {v : Int32} (h : RB L q w0 w) : fX12_sign v w = some (false, w) := by
  unfold fX12_sign
  rw [if_neg (by rw [h.2.2.2]; decide)]
theorem isLetter_eq (x : Int32) (w : Wd) : fX12_isLetter x w = some (isLt x) := by
  unfold fX12_isLetter isLt
  by_cases h1 : x = 104
  · rw [if_pos h1, decide_eq_true (Or.inl h1)]
  rw [if_neg h1]
  by_cases h2 : x = 115
  · rw [if_pos h2, decide_eq_true (by simp [h2])]
  rw [if_neg h2]
  by_cases h3 : x = 112
  · rw [if_pos h3, decide_eq_true (by simp [h3])]
  rw [if_neg h3]
  by_cases h4 : x = 116
  · rw [if_pos h4, decide_eq_true (by simp [h4])]
  rw [if_neg h4]
  by_cases h5 : x = 100
  · rw [if_pos h5, decide_eq_true (by simp [h5])]
  rw [if_neg h5]
  by_cases h6 : x = 107
  · rw [if_pos h6, decide_eq_true (by simp [h6])]
  rw [if_neg h6]
  by_cases h7 : x = 111
  · rw [if_pos h7, decide_eq_true (by simp [h7])]
  rw [if_neg h7]
  by_cases h8 : x = 119
  · rw [if_pos h8, decide_eq_true (by simp [h8])]
  rw [if_neg h8]
  by_cases h9 : x = 102
  · rw [if_pos h9, decide_eq_true (by simp [h9])]
  rw [if_neg h9]
  by_cases h10 : x = 99
  · rw [if_pos h10, decide_eq_true (by simp [h10])]
  rw [if_neg h10]
  by_cases h11 : x = 109
  · rw [if_pos h11, decide_eq_true (by simp [h11])]
  rw [if_neg h11]
  by_cases h12 : x = 117
  · rw [if_pos h12, decide_eq_true (by simp [h12])]
  rw [if_neg h12, decide_eq_false (by simp [h1, h2, h3, h4, h5, h6, h7, h8, h9, h10, h11, h12])]
theorem in_dg (x : Int32) (w : Wd) : fX12_in x.toInt64 48 57 w = some (isDg x) := by
  rw [in_eq, Int32.toInt_toInt64]
  rfl
theorem digs_r {f : Nat → Int32} {L D : Nat} {F : Int32 → Int64} {w0 : Wd} (ht : RT f L F w0) : ∀ (n k fuel : Nat) (v : Int32) (p : Nat) (w : Wd), n + k = 4 → n < fuel → RS L D p w0 w → ∃ w', fX12_unit_59 fuel v (iN k) w = some ((pDig f L n v p).1, w') ∧ RS L D (pDig f L n v p).2 w0 w'
  | 0, k, fuel + 1, v, p, w, hk, _, h => by
    obtain rfl : k = 4 := by omega
    unfold fX12_unit_59
    rw [if_neg (show ¬ iN 4 < 4 by decide)]
    exact ⟨w, rfl, h⟩
  | n + 1, k, fuel + 1, v, p, w, hk, hf, h => by
    unfold fX12_unit_59
    rw [if_pos ((iN_lt_lit (by omega) (by omega)).mpr (show k < 4 by omega)), here_S ht h, Option.bind_some, in_dg, Option.bind_some]
    unfold pDig
    by_cases c1 : isDg (pk f L p) = true
    · have q1 := pz_dg c1
      rw [if_pos c1, if_pos c1, Option.bind_some, nw_eq, add_lit]
      exact digs_r ht n (k + 1) fuel _ (p + 1) _ (by omega) (by omega) (h.adv q1)
    · rw [if_neg c1, if_neg c1]
      exact ⟨w, rfl, h⟩
theorem dig_val {f : Nat → Int32} {L : Nat} : ∀ (n : Nat) (v : Int32) (p : Nat), n ≤ 4 → 0 ≤ v.toInt → v.toInt < (10 : Int) ^ (4 - n) → 0 ≤ (pDig f L n v p).1.toInt ∧ (pDig f L n v p).1.toInt < 10000
  | 0, v, p, _, h0, h1 => ⟨h0, by show v.toInt < 10000; simpa using h1⟩
  | n + 1, v, p, hn, h0, h1 => by
    have hpw : (10 : Int) ^ (4 - (n + 1)) ≤ 1000 := by
      have : 4 - (n + 1) = 0 ∨ 4 - (n + 1) = 1 ∨ 4 - (n + 1) = 2 ∨ 4 - (n + 1) = 3 := by omega
      rcases this with e | e | e | e <;> rw [e] <;> decide
    have hp2 : (10 : Int) ^ (4 - n) = 10 * (10 : Int) ^ (4 - (n + 1)) := by
      rw [show 4 - n = (4 - (n + 1)) + 1 by omega, Int.pow_succ]
      omega
    unfold pDig
    by_cases c1 : isDg (pk f L p) = true
    · rw [if_pos c1]
      have c2 := c1
      unfold isDg at c2
      rw [decide_eq_true_iff] at c2
      have e1 : ((10 : Int32) * v).toInt = 10 * v.toInt := by
        rw [mul_I (a := 10) (b := v) (by rw [show (10 : Int32).toInt = 10 from rfl]; omega) (by rw [show (10 : Int32).toInt = 10 from rfl]; omega)]
        rfl
      have e2 : ((10 : Int32) * v + pk f L p).toInt = 10 * v.toInt + (pk f L p).toInt := by
        rw [add_I (by rw [e1]; omega) (by rw [e1]; omega), e1]
      have e3 : ((10 : Int32) * v + pk f L p - 48).toInt = 10 * v.toInt + (pk f L p).toInt - 48 := by
        rw [sub_I (by rw [e2, show (48 : Int32).toInt = 48 from rfl]; omega) (by rw [e2, show (48 : Int32).toInt = 48 from rfl]; omega), e2]
        rfl
      exact dig_val n _ _ (by omega) (by rw [e3]; omega) (by rw [e3, hp2]; omega)
    · rw [if_neg c1]
      exact ⟨h0, by show v.toInt < 10000; omega⟩
def vi (x : Int32) : Int64 := x.toInt64
def vb (b : Bool) : Int64 := if b = true then 1 else 0
theorem ev_num {F : Int32 → Int64} {x : Int32} {s : List Int64} (h : 0 ≤ x.toInt ∧ x.toInt < 10000) : ev1 F x s = vi x :: s := by
  unfold ev1
  rw [if_pos (by rw [lt_I, show (20000 : Int32).toInt = 20000 from rfl]; omega), if_pos (by rw [lt_I, show (10000 : Int32).toInt = 10000 from rfl]; omega)]
  rfl
theorem ev_fact {F : Int32 → Int64} {b : Int32} {s : List Int64} (h : isLt b = true) : ev1 F (10000 + b) s = F b :: s := by
  have hb := (lt_iff b).mp h
  have e1 : ((10000 : Int32) + b).toInt = 10000 + b.toInt := by
    rw [add_I (by rw [show (10000 : Int32).toInt = 10000 from rfl]; omega) (by rw [show (10000 : Int32).toInt = 10000 from rfl]; omega)]
    rfl
  unfold ev1
  rw [if_pos (by rw [lt_I, e1, show (20000 : Int32).toInt = 20000 from rfl]; omega), if_neg (by rw [lt_I, e1, show (10000 : Int32).toInt = 10000 from rfl]; omega), Int32.add_comm, Int32.add_sub_cancel]
theorem unit_r {f : Nat → Int32} {L D : Nat} {F : Int32 → Int64} {w0 : Wd} (ht : RT f L F w0) : ItR vi F L D w0 fX12_unit (pUnit f L) := by
  intro p w h
  unfold fX12_unit pUnit
  rw [here_S ht h, Option.bind_some, isLetter_eq, Option.bind_some]
  by_cases c1 : isLt (pk f L p) = true
  · have q1 := h.adv (pz_lt c1)
    obtain ⟨x, x1, x2⟩ := ht.2.2.2 (pk f L p) _ c1 q1.1
    rw [if_pos c1, if_pos c1, Option.bind_some, nw_eq, x1]
    refine ⟨x, _, rfl, RO.good q1 (fun s => ?_) rfl⟩
    show ev1 F _ s = _
    rw [ev_fact c1, x2]
    rfl
  · rw [if_neg c1, if_neg c1, Option.bind_some, in_dg, Option.bind_some]
    by_cases c2 : isDg (pk f L p) = true
    · rw [if_pos c2, if_pos c2]
      obtain ⟨w', e1, e2⟩ := digs_r ht 4 0 FU 0 p w rfl (by unfold FU; omega) h
      refine ⟨_, w', e1, RO.good e2 (fun s => ?_) rfl⟩
      exact ev_num (dig_val 4 0 p (by omega) (by decide) (by decide))
    · rw [if_neg c2, if_neg c2, nw_eq]
      exact ⟨0, _, rfl, RO.bad h.fail rfl⟩
theorem rows_r {α : Type} {vl : α → Int64} {cmb : Int32 → α → α → α} {op : Int32 → Bool} {it : Nat → PR} {M : Wd → Option (α × Wd)} {lp : Nat → α → Wd → Option (α × Wd)} {f : Nat → Int32} {F : Int32 → Int64} {L D : Nat} {w0 : Wd} (ho : op (-1) = false) (ha : Adv L it) (hM : ItR vl F L D w0 M it)
    (h0 : ∀ n r w p, RS L D p w0 w → op (pk f L p) = false → lp (n + 1) r w = some (r, w))
    (h1 : ∀ n r w p, RS L D p w0 w → op (pk f L p) = true → lp (n + 1) r w = (M (si w 148 24 (w.1 148 24 + 1))).bind fun v => lp n (cmb (pk f L p) r v.1) v.2)
    (h2 : ∀ n r w q, RB L q w0 w → lp (n + 1) r w = some (r, w))
    (hc : ∀ b x y s, op b = true → ev1 F (20000 + b) (vl y :: vl x :: s) = vl (cmb b x y) :: s) :
    ∀ (m fuel : Nat) (c : List Int32) (r : α) (p : Nat) (w : Wd), L - p < m → m ≤ fuel → RS L D p w0 w → (∀ s, evs F c s = vl r :: s) → ∃ x w', lp fuel r w = some (x, w') ∧ RO vl F L D w0 (pMore op it f L m c p) x w'
  | m + 1, fuel + 1, c, r, p, w, hm, hf, h, hs => by
    unfold pMore
    by_cases c1 : op (pk f L p) = true
    · have q1 := pz_op ho c1
      obtain ⟨y, w1, e1, e2⟩ := hM (p + 1) _ (h.adv q1)
      have a2 := (ha (p + 1) (by omega)).2
      rw [h1 fuel r w p h c1, e1, Option.bind_some, if_pos c1]
      obtain ⟨g, rfl⟩ : ∃ g, fuel = g + 1 := ⟨fuel - 1, by omega⟩
      cases e : it (p + 1) with
      | inl q =>
        rw [h2 g _ w1 q (e2.1 q e)]
        exact ⟨_, w1, rfl, RO.bad (e2.1 q e) rfl⟩
      | inr rr =>
        obtain ⟨c2, p2⟩ := rr
        have q2 := a2 c2 p2 e
        obtain ⟨d1, d2⟩ := e2.2 c2 p2 e
        refine rows_r ho ha hM h0 h1 h2 hc m (g + 1) _ _ p2 w1 (by omega) (by omega) d1 (fun s => ?_)
        rw [evs_app, evs_app, hs, d2]
        exact hc _ _ _ _ c1
    · rw [h0 fuel r w p h (by simpa using c1), if_neg c1]
      exact ⟨r, w, rfl, RO.good h hs rfl⟩
theorem row_r {α : Type} {vl : α → Int64} {cmb : Int32 → α → α → α} {op : Int32 → Bool} {it : Nat → PR} {M : Wd → Option (α × Wd)} {lp : Nat → α → Wd → Option (α × Wd)} {f : Nat → Int32} {F : Int32 → Int64} {L D : Nat} {w0 : Wd} (hL : L ≤ 100) (ho : op (-1) = false) (ha : Adv L it) (hM : ItR vl F L D w0 M it)
    (h0 : ∀ n r w p, RS L D p w0 w → op (pk f L p) = false → lp (n + 1) r w = some (r, w))
    (h1 : ∀ n r w p, RS L D p w0 w → op (pk f L p) = true → lp (n + 1) r w = (M (si w 148 24 (w.1 148 24 + 1))).bind fun v => lp n (cmb (pk f L p) r v.1) v.2)
    (h2 : ∀ n r w q, RB L q w0 w → lp (n + 1) r w = some (r, w))
    (hc : ∀ b x y s, op b = true → ev1 F (20000 + b) (vl y :: vl x :: s) = vl (cmb b x y) :: s) : ItR vl F L D w0 (fun w => (M w).bind fun v => lp FU v.1 v.2) (pRow op it f L) := by
  have hFU : FU = 9999999 + 1 := rfl
  intro p w h
  obtain ⟨x, w1, e1, e2⟩ := hM p w h
  show ∃ x' w', ((M w).bind fun v => lp FU v.1 v.2) = some (x', w') ∧ _
  rw [e1, Option.bind_some]
  unfold pRow
  cases e : it p with
  | inl q =>
    rw [hFU, h2 _ _ w1 q (e2.1 q e)]
    exact ⟨x, w1, rfl, RO.bad (e2.1 q e) rfl⟩
  | inr r =>
    obtain ⟨c2, p2⟩ := r
    obtain ⟨d1, d2⟩ := e2.2 c2 p2 e
    exact rows_r ho ha hM h0 h1 h2 hc 200 FU c2 x p2 w1 (by omega) (by unfold FU; omega) d1 d2
def clI (x : Int64) : Int32 := if x < -1000000 then -1000000 else if 1000000 < x then 1000000 else x.toInt32
theorem clI_eq (x : Int64) : (clI x).toInt64 = lmax (-1000000) (lmin 1000000 x) := by
  unfold clI lmax lmin
  by_cases c1 : x < -1000000
  · rw [if_pos c1]
    have c2 : x.toInt < -1000000 := Int64.lt_iff_toInt_lt.mp c1
    rw [if_pos (c := x < 1000000) (by rw [Int64.lt_iff_toInt_lt, show (1000000 : Int64).toInt = 1000000 from rfl]; omega), if_pos c1]
    decide
  · rw [if_neg c1]
    have c2 : ¬ x.toInt < -1000000 := fun e => c1 (Int64.lt_iff_toInt_lt.mpr e)
    by_cases c3 : 1000000 < x
    · have c4 : 1000000 < x.toInt := Int64.lt_iff_toInt_lt.mp c3
      rw [if_pos c3, if_neg (c := x < 1000000) (by rw [Int64.lt_iff_toInt_lt, show (1000000 : Int64).toInt = 1000000 from rfl]; omega)]
      decide
    · have c4 : ¬ 1000000 < x.toInt := fun e => c3 (Int64.lt_iff_toInt_lt.mpr e)
      rw [if_neg c3]
      have e : (if x < 1000000 then x else 1000000) = x := by
        by_cases c5 : x < 1000000
        · rw [if_pos c5]
        · rw [if_neg c5]
          have : ¬ x.toInt < 1000000 := fun e => c5 (Int64.lt_iff_toInt_lt.mpr e)
          exact (Int64.toInt_inj.mp (by rw [show (1000000 : Int64).toInt = 1000000 from rfl]; omega))
      rw [e, if_neg c1]
      refine Int64.toInt_inj.mp ?_
      rw [Int32.toInt_toInt64, Int64.toInt_toInt32]
      exact Int.bmod_eq_of_le (by omega) (by omega)
def cmS (b : Int32) (x y : Int32) : Int32 := clI (if b = 43 then x.toInt64 + y.toInt64 else if b = 45 then x.toInt64 - y.toInt64 else x.toInt64 * y.toInt64)
theorem dn8_43 {x y : Int64} : dn8 43 x y = lmax (-1000000) (lmin 1000000 (x + y)) := by
  unfold dn8
  rw [if_neg (by decide), if_neg (by decide), if_pos rfl]
theorem dn8_45 {x y : Int64} : dn8 45 x y = lmax (-1000000) (lmin 1000000 (x - y)) := by
  unfold dn8
  rw [if_neg (by decide), if_neg (by decide), if_neg (by decide), if_pos rfl]
theorem dn8_42 {x y : Int64} : dn8 42 x y = lmax (-1000000) (lmin 1000000 (x * y)) := by
  unfold dn8
  rw [if_neg (by decide), if_pos rfl]
theorem cmS_43 {x y : Int32} : vi (cmS 43 x y) = lmax (-1000000) (lmin 1000000 (x.toInt64 + y.toInt64)) := by
  unfold vi cmS
  rw [if_pos rfl, clI_eq]
theorem cmS_45 {x y : Int32} : vi (cmS 45 x y) = lmax (-1000000) (lmin 1000000 (x.toInt64 - y.toInt64)) := by
  unfold vi cmS
  rw [if_neg (by decide), if_pos rfl, clI_eq]
theorem cmS_42 {x y : Int32} : vi (cmS 42 x y) = lmax (-1000000) (lmin 1000000 (x.toInt64 * y.toInt64)) := by
  unfold vi cmS
  rw [if_neg (by decide), if_neg (by decide), clI_eq]
theorem s103 {k : Int32 → Wd → Option (Int32 × Wd)} {x : Int64} {w : Wd} : fX12_sum_103 k x w = k (clI x) w := by
  unfold fX12_sum_103 clI
  by_cases c1 : x < -1000000
  · rw [if_pos c1, if_pos c1]
  · rw [if_neg c1, if_neg c1]
    by_cases c2 : 1000000 < x
    · rw [if_pos c2, if_pos c2]
    · rw [if_neg c2, if_neg c2]
theorem s50 {f : Nat → Int32} {L D p : Nat} {F : Int32 → Int64} {w0 w : Wd} {k : Int32 → Wd → Option (Int32 × Wd)} {r : Int32} (ht : RT f L F w0) (h : RS L D p w0 w) : fX12_sum_50 k r w = (fX12_unit (si w 148 24 (w.1 148 24 + 1))).bind fun v => k (cmS (pk f L p) r v.1) v.2 := by
  unfold fX12_sum_50
  rw [here_S ht h, Option.bind_some, nw_eq]
  congr 1
  funext v
  unfold cmS
  rw [s103, s103, s103]
  by_cases c1 : pk f L p = 43
  · rw [if_pos c1, if_pos c1]
  · rw [if_neg c1, if_neg c1]
    by_cases c2 : pk f L p = 45
    · rw [if_pos c2, if_pos c2]
    · rw [if_neg c2, if_neg c2]
theorem ev_op {F : Int32 → Int64} {b d : Int32} {x y : Int64} {s : List Int64} (h1 : ¬ b < 20000) (h2 : ¬ b = 20033) (h3 : b - 20000 = d) : ev1 F b (y :: x :: s) = dn8 d x y :: s := by
  unfold ev1
  rw [if_neg h1, if_neg h2, h3]
theorem sum_r {f : Nat → Int32} {L D : Nat} {F : Int32 → Int64} {w0 : Wd} (ht : RT f L F w0) : ItR vi F L D w0 fX12_sum (pSum f L) := by
  have key : ItR vi F L D w0 (fun w => (fX12_unit w).bind fun v => fX12_sum_16 FU v.1 v.2) (pSum f L) := by
    refine row_r (M := fX12_unit) (lp := fX12_sum_16) (cmb := cmS) ht.1 (by decide) adv_unit (unit_r ht) ?_ ?_ ?_ ?_
    · intro n r w p h ho
      have ho' : (¬ (pk f L p = 43) ∧ ¬ (pk f L p = 45)) ∧ ¬ (pk f L p = 42) := by simpa using ho
      unfold fX12_sum_16
      rw [if_pos h.2.2.2.2, here_S ht h, Option.bind_some, if_neg ho'.1.1, Option.bind_some, if_neg ho'.1.2, Option.bind_some, if_neg ho'.2]
    · intro n r w p h ho
      have ho' : pk f L p = 43 ∨ pk f L p = 45 ∨ pk f L p = 42 := by
        simp only [Bool.or_eq_true, decide_eq_true_eq] at ho
        rcases ho with (h | h) | h
        · exact Or.inl h
        · exact Or.inr (Or.inl h)
        · exact Or.inr (Or.inr h)
      rw [fX12_sum_16, if_pos h.2.2.2.2, here_S ht h, Option.bind_some, Option.bind_some, Option.bind_some, s50 ht h]
      rcases ho' with e | e | e
      · rw [if_pos e]
      · rw [if_neg (by rw [e]; decide), if_pos e]
      · rw [if_neg (by rw [e]; decide), if_neg (by rw [e]; decide), if_pos e]
    · intro n r w q h
      unfold fX12_sum_16
      rw [if_neg (by rw [h.2.2.2]; decide)]
    · intro b x y s ho
      have ho' : b = 43 ∨ b = 45 ∨ b = 42 := by
        simp only [Bool.or_eq_true, decide_eq_true_eq] at ho
        rcases ho with (h | h) | h
        · exact Or.inl h
        · exact Or.inr (Or.inl h)
        · exact Or.inr (Or.inr h)
      rcases ho' with e | e | e
      · rw [e, ev_op (d := 43) (by decide) (by decide) (by decide), dn8_43, cmS_43]
        rfl
      · rw [e, ev_op (d := 45) (by decide) (by decide) (by decide), dn8_45, cmS_45]
        rfl
      · rw [e, ev_op (d := 42) (by decide) (by decide) (by decide), dn8_42, cmS_42]
        rfl
  intro p w h
  obtain ⟨x, w', e1, e2⟩ := key p w h
  refine ⟨x, w', ?_, e2⟩
  unfold fX12_sum
  rw [if_pos h.2.2.2.2]
  exact e1
theorem ands_r {f : Nat → Int32} {L D : Nat} {F : Int32 → Int64} {w0 : Wd} {cT : Wd → Option (Bool × Wd)} {it : Nat → PR} (ht : RT f L F w0) (ha : Adv L it) (hM : ItR vb F L D w0 cT it) : ItR vb F L D w0 (fX12_ands cT) (pRow (fun b => b = 38) it f L) := by
  refine row_r (M := cT) (lp := fun n b w => fX12_ands_5 cT n (bI b) w) (cmb := fun _ x y => x && y) ht.1 (by decide) ha hM ?_ ?_ ?_ ?_
  · intro n r w p h ho
    have ho' : ¬ (pk f L p = 38) := by simpa using ho
    show fX12_ands_5 cT (n + 1) (bI r) w = _
    unfold fX12_ands_5
    rw [sign_S ht h, if_neg ho', Option.bind_some]
    cases r <;> rfl
  · intro n r w p h ho
    have ho' : pk f L p = 38 := by simpa using ho
    show fX12_ands_5 cT (n + 1) (bI r) w = _
    rw [fX12_ands_5, sign_S ht h, if_pos ho', Option.bind_some, if_pos rfl]
    congr 1
    funext v
    obtain ⟨b, w1⟩ := v
    cases r <;> cases b <;> rfl
  · intro n r w q h
    show fX12_ands_5 cT (n + 1) (bI r) w = _
    unfold fX12_ands_5
    rw [sign_B h, Option.bind_some]
    cases r <;> rfl
  · intro b x y s ho
    have ho' : b = 38 := by simpa using ho
    rw [ho', ev_op (d := 38) (by decide) (by decide) (by decide)]
    cases x <;> cases y <;> rfl
theorem ors_r {f : Nat → Int32} {L D : Nat} {F : Int32 → Int64} {w0 : Wd} {cT : Wd → Option (Bool × Wd)} {it : Nat → PR} (ht : RT f L F w0) (ha : Adv L it) (hM : ItR vb F L D w0 cT it) : ItR vb F L D w0 (fX12_ors cT) (pOrsOf it f L) := by
  refine row_r (M := fX12_ands cT) (lp := fun n b w => fX12_ors_5 cT n (bI b) w) (cmb := fun _ x y => x || y) ht.1 (by decide) (adv_row (by decide) ha) (ands_r ht ha hM) ?_ ?_ ?_ ?_
  · intro n r w p h ho
    have ho' : ¬ (pk f L p = 124) := by simpa using ho
    show fX12_ors_5 cT (n + 1) (bI r) w = _
    unfold fX12_ors_5
    rw [sign_S ht h, if_neg ho', Option.bind_some]
    cases r <;> rfl
  · intro n r w p h ho
    have ho' : pk f L p = 124 := by simpa using ho
    show fX12_ors_5 cT (n + 1) (bI r) w = _
    rw [fX12_ors_5, sign_S ht h, if_pos ho', Option.bind_some, if_pos rfl]
    congr 1
    funext v
    obtain ⟨b, w1⟩ := v
    cases r <;> cases b <;> rfl
  · intro n r w q h
    show fX12_ors_5 cT (n + 1) (bI r) w = _
    unfold fX12_ors_5
    rw [sign_B h, Option.bind_some]
    cases r <;> rfl
  · intro b x y s ho
    have ho' : b = 124 := by simpa using ho
    rw [ho', ev_op (d := 124) (by decide) (by decide) (by decide)]
    cases x <;> cases y <;> rfl
def cmT (b : Int32) (x y : Int32) : Bool := if b = 60 then decide (x < y) else if b = 61 then decide (x = y) else decide (y < x)
theorem t154 {f : Nat → Int32} {L D p : Nat} {F : Int32 → Int64} {w0 w : Wd} {cO cT : Wd → Option (Bool × Wd)} {x : Int32} (ht : RT f L F w0) (h : RS L D p w0 w) (hp : p < L) {c : List Int32} (hs : ∀ s, evs F c s = vi x :: s) (hb : pk f L p = 60 ∨ pk f L p = 61 ∨ pk f L p = 62) : ∃ b w', fX12_test_154 cO cT x (pk f L p) w = some (b, w') ∧ RO vb F L D w0 (match pSum f L (p + 1) with
    | .inl q => .inl q
    | .inr (c2, p3) => .inr (c ++ c2 ++ [20000 + pk f L p], p3)) b w' := by
  obtain ⟨y, w1, e1, e2⟩ := sum_r ht (p + 1) _ (h.adv hp)
  refine ⟨cmT (pk f L p) x y, w1, ?_, ?_⟩
  · unfold fX12_test_154 cmT
    rw [nw_eq, e1, Option.bind_some]
    by_cases c1 : pk f L p = 60
    · rw [if_pos c1, if_pos c1]
      by_cases c2 : x < y
      · rw [if_pos c2, decide_eq_true c2]
      · rw [if_neg c2, decide_eq_false c2]
    · rw [if_neg c1, if_neg c1]
      by_cases c3 : pk f L p = 61
      · rw [if_pos c3, if_pos c3]
        by_cases c2 : x = y
        · rw [if_pos c2, decide_eq_true c2]
        · rw [if_neg c2, decide_eq_false c2]
      · rw [if_neg c3, if_neg c3]
        by_cases c2 : y < x
        · rw [if_pos c2, decide_eq_true c2]
        · rw [if_neg c2, decide_eq_false c2]
  · cases e : pSum f L (p + 1) with
    | inl q => exact RO.bad (e2.1 q e) rfl
    | inr r =>
      obtain ⟨c2, p3⟩ := r
      obtain ⟨d1, d2⟩ := e2.2 c2 p3 e
      refine RO.good d1 (fun s => ?_) rfl
      have lt64 : ∀ a b : Int32, a.toInt64 < b.toInt64 ↔ a < b := fun a b => by rw [Int64.lt_iff_toInt_lt, Int32.lt_iff_toInt_lt, Int32.toInt_toInt64, Int32.toInt_toInt64]
      have eq64 : ∀ a b : Int32, a.toInt64 = b.toInt64 ↔ a = b := fun a b => by rw [← Int64.toInt_inj, ← Int32.toInt_inj, Int32.toInt_toInt64, Int32.toInt_toInt64]
      rw [evs_app, evs_app, hs, d2]
      show ev1 F (20000 + pk f L p) (vi y :: vi x :: s) = _
      rcases hb with e | e | e
      · rw [e, ev_op (d := 60) (by decide) (by decide) (by decide)]
        show (if x.toInt64 < y.toInt64 then (1 : Int64) else 0) :: s = vb (decide (x < y)) :: s
        unfold vb
        simp only [lt64, decide_eq_true_eq]
      · rw [e, ev_op (d := 61) (by decide) (by decide) (by decide)]
        show (if x.toInt64 = y.toInt64 then (1 : Int64) else 0) :: s = vb (decide (x = y)) :: s
        unfold vb
        simp only [eq64, decide_eq_true_eq]
      · rw [e, ev_op (d := 62) (by decide) (by decide) (by decide)]
        show (if y.toInt64 < x.toInt64 then (1 : Int64) else 0) :: s = vb (decide (y < x)) :: s
        unfold vb
        simp only [lt64, decide_eq_true_eq]
theorem cmp_r {f : Nat → Int32} {L D : Nat} {F : Int32 → Int64} {w0 : Wd} {cO cT : Wd → Option (Bool × Wd)} (ht : RT f L F w0) : ItR vb F L D w0 (fun w => (fX12_sum w).bind fun v_13 => (fX12_here v_13.2).bind fun v_14 =>
      if (v_13.2.1 148 26) = 0 then (
        if v_14 = (60 : Int32) then fX12_test_154 cO cT v_13.1 v_14 v_13.2
        else if v_14 = (61 : Int32) then fX12_test_154 cO cT v_13.1 v_14 v_13.2
        else if v_14 = (62 : Int32) then fX12_test_154 cO cT v_13.1 v_14 v_13.2
        else fX12_test_147 cO cT v_13.2)
      else fX12_test_147 cO cT v_13.2) (pCmp f L) := by
  intro p w h
  obtain ⟨x, w1, e1, e2⟩ := sum_r ht p w h
  show ∃ b w', ((fX12_sum w).bind _) = some (b, w') ∧ _
  rw [e1, Option.bind_some]
  unfold pCmp
  cases e : pSum f L p with
  | inl q =>
    have b := e2.1 q e
    show ∃ b' w', ((fX12_here w1).bind _) = some (b', w') ∧ _
    rw [here_B ht b, Option.bind_some, if_neg (by rw [b.2.2.2]; decide)]
    exact ⟨false, _, rfl, RO.bad b.fail rfl⟩
  | inr r =>
    obtain ⟨c2, p2⟩ := r
    obtain ⟨d1, d2⟩ := e2.2 c2 p2 e
    show ∃ b' w', ((fX12_here w1).bind _) = some (b', w') ∧ RO vb F L D w0 (if pk f L p2 = 60 ∨ pk f L p2 = 61 ∨ pk f L p2 = 62 then _ else _) b' w'
    rw [here_S ht d1, Option.bind_some, if_pos d1.2.2.2.2]
    by_cases c1 : pk f L p2 = 60
    · rw [if_pos c1, if_pos (Or.inl c1)]
      exact t154 ht d1 (pz_k c1 (by decide)) d2 (Or.inl c1)
    · rw [if_neg c1]
      by_cases c3 : pk f L p2 = 61
      · rw [if_pos c3, if_pos (Or.inr (Or.inl c3))]
        exact t154 ht d1 (pz_k c3 (by decide)) d2 (Or.inr (Or.inl c3))
      · rw [if_neg c3]
        by_cases c4 : pk f L p2 = 62
        · rw [if_pos c4, if_pos (Or.inr (Or.inr c4))]
          exact t154 ht d1 (pz_k c4 (by decide)) d2 (Or.inr (Or.inr c4))
        · rw [if_neg c4, if_neg (by rintro (h | h | h) <;> contradiction)]
          exact ⟨false, _, rfl, RO.bad d1.fail rfl⟩
theorem opens_S {L D p : Nat} {w0 w : Wd} (h : RS L D p w0 w) (hD : D < 5) (hp : p < L) : ∃ w', fX12_opens w = some w' ∧ RS L (D + 1) (p + 1) w0 w' := by
  obtain ⟨h1, h2, h3, h4, h5⟩ := h
  refine ⟨si (si w 148 25 (iN (D + 1))) 148 24 (iN (p + 1)), ?_, (h1.put (by omega)).put (by omega), ?_, by omega, si_at, ?_⟩
  · unfold fX12_opens fX12_opens_13
    rw [h2, if_neg (fun e => by have := (iN_lit (by omega) (by omega)).mp e; omega), if_pos h5, nw_eq, nw_eq, add_lit, si_1, if_neg (by omega), h4, add_lit]
  · rw [si_1, if_neg (by omega), si_at]
  · rw [si_1, if_neg (by omega), si_1, if_neg (by omega)]
    exact h5
theorem opens_B {L p : Nat} {w0 w : Wd} (h : RS L 5 p w0 w) : ∃ w', fX12_opens w = some w' ∧ RB L p w0 w' := by
  refine ⟨_, ?_, h.fail⟩
  unfold fX12_opens fX12_opens_13
  rw [h.2.1, if_pos (by decide), nw_eq, if_neg (by rw [si_at]; decide)]
theorem RS.close {L D p : Nat} {w0 w : Wd} (h : RS L (D + 1) p w0 w) : RS L D p w0 (si w 148 25 (w.1 148 25 - 1)) := by
  obtain ⟨h1, h2, h3, h4, h5⟩ := h
  refine ⟨h1.put (by omega), ?_, h3, ?_, ?_⟩
  · rw [si_at, h2]
    exact iN_s1 D
  · rw [si_1, if_neg (by omega)]
    exact h4
  · rw [si_1, if_neg (by omega)]
    exact h5
theorem test_eq {cO cT : Wd → Option (Bool × Wd)} {w : Wd} {x : Int32} (hx : fX12_here w = some x) : fX12_test cO cT w = if x = 33 then ((fX12_opens w).bind fun v_3 => if (v_3.1 148 26) = 0 then ((cT v_3).bind fun v_5 => if v_5.1 = true then fX12_test_32 cO cT 1 v_5.2 else fX12_test_31 cO cT v_5.2) else fX12_test_31 cO cT v_3)
    else if x = 40 then ((fX12_opens w).bind fun v_9 => if (v_9.1 148 26) = 0 then ((cO v_9).bind fun v_11 => if v_11.1 = true then fX12_test_85 cO cT 1 v_11.2 else fX12_test_84 cO cT v_11.2) else fX12_test_84 cO cT v_9)
    else ((fX12_sum w).bind fun v_13 => (fX12_here v_13.2).bind fun v_14 =>
      if (v_13.2.1 148 26) = 0 then (
        if v_14 = (60 : Int32) then fX12_test_154 cO cT v_13.1 v_14 v_13.2
        else if v_14 = (61 : Int32) then fX12_test_154 cO cT v_13.1 v_14 v_13.2
        else if v_14 = (62 : Int32) then fX12_test_154 cO cT v_13.1 v_14 v_13.2
        else fX12_test_147 cO cT v_13.2)
      else fX12_test_147 cO cT v_13.2) := by
  unfold fX12_test
  rw [hx, Option.bind_some, Option.bind_some]
theorem t85_B {L q : Nat} {w0 w : Wd} {cO cT : Wd → Option (Bool × Wd)} {b : Bool} (h : RB L q w0 w) : ∃ w', fX12_test_85 cO cT (bI b) w = some (b, w') ∧ RB L q w0 w' := by
  refine ⟨si (si w 148 26 1) 148 25 ((si w 148 26 1).1 148 25 - 1), ?_, h.fail.deep⟩
  unfold fX12_test_85 fX12_test_100
  rw [sign_B h, Option.bind_some, if_neg (by simp), nw_eq, nw_eq]
  cases b <;> rfl
theorem test0_r {f : Nat → Int32} {L : Nat} {F : Int32 → Int64} {w0 : Wd} {cO cT : Wd → Option (Bool × Wd)} (ht : RT f L F w0) : ItR vb F L 5 w0 (fX12_test cO cT) (pTest f L 0) := by
  intro p w h
  rw [test_eq (here_S ht h)]
  unfold pTest
  by_cases c1 : pk f L p = 33
  · rw [if_pos c1, if_pos (Or.inl c1)]
    obtain ⟨w1, e1, e2⟩ := opens_B h
    rw [e1, Option.bind_some, if_neg (by rw [e2.2.2.2]; decide)]
    exact ⟨true, _, rfl, RO.bad e2.deep rfl⟩
  · rw [if_neg c1]
    by_cases c2 : pk f L p = 40
    · rw [if_pos c2, if_pos (Or.inr c2)]
      obtain ⟨w1, e1, e2⟩ := opens_B h
      rw [e1, Option.bind_some, if_neg (by rw [e2.2.2.2]; decide)]
      obtain ⟨w2, d1, d2⟩ := t85_B (cO := cO) (cT := cT) (b := false) e2
      exact ⟨false, w2, d1, RO.bad d2 rfl⟩
    · rw [if_neg c2, if_neg (by rintro (h | h) <;> contradiction)]
      exact cmp_r ht p w h
theorem testS_r {f : Nat → Int32} {L D n : Nat} {F : Int32 → Int64} {w0 : Wd} {cO cT : Wd → Option (Bool × Wd)} (ht : RT f L F w0) (hD : D < 5) (hT : ItR vb F L (D + 1) w0 cT (pTest f L n)) (hO : ItR vb F L (D + 1) w0 cO (pOrsOf (pTest f L n) f L)) : ItR vb F L D w0 (fX12_test cO cT) (pTest f L (n + 1)) := by
  intro p w h
  rw [test_eq (here_S ht h)]
  unfold pTest
  by_cases c1 : pk f L p = 33
  · rw [if_pos c1, if_pos c1]
    obtain ⟨w1, e1, e2⟩ := opens_S h hD (pz_k c1 (by decide))
    obtain ⟨b, w2, d1, d2⟩ := hT (p + 1) w1 e2
    rw [e1, Option.bind_some, if_pos e2.2.2.2.2, d1, Option.bind_some]
    have e32 : (if b = true then fX12_test_32 cO cT 1 w2 else fX12_test_31 cO cT w2) = some (!b, si w2 148 25 (w2.1 148 25 - 1)) := by
      cases b <;> rfl
    show ∃ x w', (if b = true then fX12_test_32 cO cT 1 w2 else fX12_test_31 cO cT w2) = some (x, w') ∧ _
    rw [e32]
    refine ⟨!b, _, rfl, ?_⟩
    cases e : pTest f L n (p + 1) with
    | inl q => exact RO.bad (d2.1 q e).deep rfl
    | inr r =>
      obtain ⟨c2, p2⟩ := r
      obtain ⟨g1, g2⟩ := d2.2 c2 p2 e
      refine RO.good g1.close (fun s => ?_) rfl
      rw [evs_app, g2]
      show ev1 F 20033 (vb b :: s) = vb (!b) :: s
      unfold ev1
      rw [if_neg (by decide), if_pos rfl]
      cases b <;> rfl
  · rw [if_neg c1, if_neg c1]
    by_cases c2 : pk f L p = 40
    · rw [if_pos c2, if_pos c2]
      obtain ⟨w1, e1, e2⟩ := opens_S h hD (pz_k c2 (by decide))
      obtain ⟨b, w2, d1, d2⟩ := hO (p + 1) w1 e2
      rw [e1, Option.bind_some, if_pos e2.2.2.2.2, d1, Option.bind_some]
      have e85 : (if b = true then fX12_test_85 cO cT 1 w2 else fX12_test_84 cO cT w2) = fX12_test_85 cO cT (bI b) w2 := by
        cases b <;> rfl
      show ∃ x w', (if b = true then fX12_test_85 cO cT 1 w2 else fX12_test_84 cO cT w2) = some (x, w') ∧ _
      rw [e85]
      cases e : pOrsOf (pTest f L n) f L (p + 1) with
      | inl q =>
        obtain ⟨w3, k1, k2⟩ := t85_B (cO := cO) (cT := cT) (b := b) (d2.1 q e)
        exact ⟨b, w3, k1, RO.bad k2 rfl⟩
      | inr r =>
        obtain ⟨c3, p2⟩ := r
        obtain ⟨g1, g2⟩ := d2.2 c3 p2 e
        show ∃ x w', _ = some (x, w') ∧ RO vb F L D w0 (if pk f L p2 = 41 then _ else _) x w'
        unfold fX12_test_85 fX12_test_100
        rw [sign_S ht g1]
        by_cases c4 : pk f L p2 = 41
        · rw [if_pos c4, if_pos c4, Option.bind_some, if_pos rfl, nw_eq]
          refine ⟨b, _, ?_, RO.good (g1.adv (pz_k c4 (by decide))).close g2 rfl⟩
          cases b <;> rfl
        · rw [if_neg c4, if_neg c4, Option.bind_some, if_neg (by simp), nw_eq, nw_eq]
          refine ⟨b, si (si w2 148 26 1) 148 25 ((si w2 148 26 1).1 148 25 - 1), ?_, RO.bad g1.fail.deep rfl⟩
          cases b <;> rfl
    · rw [if_neg c2, if_neg c2]
      exact cmp_r ht p w h
theorem tests_r {f : Nat → Int32} {L : Nat} {F : Int32 → Int64} {w0 : Wd} (ht : RT f L F w0) : ∀ n D, n + D = 5 → ItR vb F L D w0 (kMT (n + 1)) (pTest f L n)
  | 0, D, h => by
    obtain rfl : D = 5 := by omega
    exact test0_r ht
  | n + 1, D, h => testS_r (cO := fX12_ors (kMT (n + 1))) (cT := kMT (n + 1)) ht (by omega) (tests_r ht n (D + 1) (by omega)) (ors_r ht (adv_test n) (tests_r ht n (D + 1) (by omega)))
theorem all_r {f : Nat → Int32} {L : Nat} {F : Int32 → Int64} {w0 : Wd} (ht : RT f L F w0) : ∃ b w', fX12_reads w0 = some (b, w') ∧ RO vb F L 0 w0 (pAll f L) b w' := by
  have h0 : RS L 0 0 w0 (si (si (si w0 148 24 0) 148 25 0) 148 26 0) := by
    refine ⟨RF.put (RF.put (RF.put ⟨fun _ _ => rfl, fun _ _ _ _ => rfl, rfl⟩ (by omega)) (by omega)) (by omega), ?_, by omega, ?_, si_at⟩
    · rw [si_1, if_neg (by omega), si_at]
      rfl
    · rw [si_1, if_neg (by omega), si_1, if_neg (by omega), si_at]
      rfl
  obtain ⟨b, w1, e1, e2⟩ := (ors_r ht (adv_test 5) (tests_r ht 5 0 rfl)) 0 _ h0
  have e1' : kMO (si (si (si w0 148 24 0) 148 25 0) 148 26 0) = some (b, w1) := e1
  unfold fX12_reads
  rw [nw_eq, nw_eq, nw_eq, e1', Option.bind_some]
  unfold pAll
  cases e : pOrsOf (pTest f L 5) f L 0 with
  | inl q =>
    have k := e2.1 q e
    rw [if_neg (by rw [k.2.2.2]; decide)]
    exact ⟨b, w1, rfl, RO.bad k rfl⟩
  | inr r =>
    obtain ⟨c2, p2⟩ := r
    obtain ⟨g1, g2⟩ := e2.2 c2 p2 e
    have hL := ht.1
    have lt : w1.1 148 24 < w1.1 148 23 ↔ p2 < L := by
      rw [g1.2.2.2.1, g1.1.2.1 23 (by omega) (by omega) (by omega), ht.2.1]
      exact iN_lt (by have := g1.2.2.1; omega) (by omega)
    show ∃ x w', _ = some (x, w') ∧ RO vb F L 0 w0 (if p2 < L then _ else _) x w'
    rw [if_pos g1.2.2.2.2]
    by_cases c : p2 < L
    · rw [if_pos c, if_pos (lt.mpr c), nw_eq]
      exact ⟨b, _, rfl, RO.bad g1.fail rfl⟩
    · rw [if_neg c, if_neg (fun e => c (lt.mp e))]
      exact ⟨b, w1, rfl, RO.good g1 g2 rfl⟩
-- MATHEMATICS: m55
theorem YY.any {n : Nat} {wc wc' wm wm' : Wd} (h : YY n wc wm) (c1 : wc'.1 = wc.1) (c2 : ∀ a, ¬ a = 112 → wc'.2 a = wc.2 a) (e1 : ∀ a, ¬ (152 ≤ a ∧ a ≤ 158) → ¬ a = 148 → ¬ a = 163 → ¬ a = 164 → wm'.1 a = wm.1 a) (e2 : wm'.2 = wm.2) (e3 : ∀ j, 2 ≤ j → j ≤ 8 ∨ j = 21 → wm'.1 148 j = wm.1 148 j) : YY n wc' wm' := by
  have q : wm'.1 149 = wm.1 149 := e1 149 (by omega) (by omega) (by omega) (by omega)
  have hc : YC wc 0 (wm'.1 149) n := q.symm ▸ h.1
  have h' : YY n wc wm' := h.city hc (fun _ _ _ => ⟨rfl, rfl⟩) (fun a h1 h2 h3 h4 h5 => e1 a h2 h3 h4 h5) (by rw [e2]) e3
  obtain ⟨k1, k2, k3, k4, k5, k6, k7⟩ := h'
  refine ⟨k1.cong (fun a _ => by rw [c1]), k2.cong (fun a _ => by rw [c1]) rfl rfl, k3.cong (fun a ha => ⟨by rw [c1], c2 a (by omega)⟩) rfl rfl rfl, k4.cong (by rw [c1]) (by rw [c1]) rfl rfl, k5.cong (fun a _ => by rw [c1]) (fun _ _ => rfl) rfl, k6.cong (by rw [c1]) (fun a _ => by rw [c1]) (fun a _ => by rw [c1]) rfl (fun _ _ => rfl), ?_⟩
  rw [c1]
  exact k7
def besN (c k : Nat) : Option Nat := if k = 0 then (if c < 10 then none else some (c - 10)) else if k = 1 then (if 0 < c % 10 then some (c - 1) else none) else if k = 2 then (if c % 10 < 9 then some (c + 1) else none) else if c < 90 then some (c + 10) else none
theorem besN_adj {c k d : Nat} (hc : c < 100) (h : besN c k = some d) : d < 100 ∧ adj c d := by
  unfold besN at h
  unfold adj
  split at h
  · split at h
    · cases h
    · cases h
      omega
  · split at h
    · split at h
      · cases h
        omega
      · cases h
    · split at h
      · split at h
        · cases h
          omega
        · cases h
      · split at h
        · cases h
          omega
        · cases h
theorem bes_c {c k : Nat} {w : Wd} (hc : c < 100) (hk : k < 4) : fX11_beside (iN c) (iN k) w = some (enc1 (besN c k)) := by
  unfold fX11_beside besN
  rw [jrm10 (by omega)]
  have h4 : k = 0 ∨ k = 1 ∨ k = 2 ∨ k = 3 := by omega
  rcases h4 with rfl | rfl | rfl | rfl
  · rw [if_pos (show iN 0 = 0 from rfl), if_pos (show (0 : Nat) = 0 from rfl)]
    by_cases q : c < 10
    · rw [if_pos ((iN_lt_lit (by omega) (by omega)).mpr q), if_pos q]
      rfl
    · rw [if_neg (fun e => q ((iN_lt_lit (by omega) (by omega)).mp e)), if_neg q]
      exact congrArg some (iN_sub (a := c) (b := 10) (by omega))
  · rw [if_neg (show ¬ iN 1 = 0 by decide), if_pos (show iN 1 = 1 from rfl), if_neg (show ¬ (1 : Nat) = 0 by omega), if_pos (show (1 : Nat) = 1 from rfl)]
    by_cases q : 0 < c % 10
    · rw [if_pos (show (0 : Int32) < iN (c % 10) from (iN_lt (a := 0) (by omega) (by omega)).mpr q), if_pos q]
      exact congrArg some (iN_sub (a := c) (b := 1) (by omega))
    · rw [if_neg (show ¬ (0 : Int32) < iN (c % 10) from fun e => q ((iN_lt (a := 0) (by omega) (by omega)).mp e)), if_neg q]
      rfl
  · rw [if_neg (show ¬ iN 2 = 0 by decide), if_neg (show ¬ iN 2 = 1 by decide), if_pos (show iN 2 = 2 from rfl), if_neg (show ¬ (2 : Nat) = 0 by omega), if_neg (show ¬ (2 : Nat) = 1 by omega), if_pos (show (2 : Nat) = 2 from rfl)]
    by_cases q : c % 10 < 9
    · rw [if_pos ((iN_lt_lit (by omega) (by omega)).mpr q), if_pos q]
      exact congrArg some (add_lit 1 c)
    · rw [if_neg (fun e => q ((iN_lt_lit (by omega) (by omega)).mp e)), if_neg q]
      rfl
  · rw [if_neg (show ¬ iN 3 = 0 by decide), if_neg (show ¬ iN 3 = 1 by decide), if_neg (show ¬ iN 3 = 2 by decide), if_neg (show ¬ (3 : Nat) = 0 by omega), if_neg (show ¬ (3 : Nat) = 1 by omega), if_neg (show ¬ (3 : Nat) = 2 by omega)]
    by_cases q : c < 90
    · rw [if_pos ((iN_lt_lit (by omega) (by omega)).mpr q), if_pos q]
      exact congrArg some (add_lit 10 c)
    · rw [if_neg (fun e => q ((iN_lt_lit (by omega) (by omega)).mp e)), if_neg q]
      rfl
theorem bes_m {c k : Nat} {w : Wd} (hc : c < 100) (hk : k < 4) : fX12_beside (iN c) (iN k) w = some (enc1 (besN c k)) := bes_c (w := w) hc hk
theorem enc1_ne {d : Nat} (hd : d < 1000) : ¬ enc1 (some d) = -1 := iN_ne1 (d := d) (by omega)
theorem sb_loop {n c : Nat} {wc wm : Wd} (h : YY n wc wm) (hc : c < 100) (ha : wm.1 148 27 = iN c) : ∀ (m k fuel : Nat) (x : Int32), k + m = 4 → m < fuel → ∃ r, fX0_shutBeside_4 wc fuel (iN c) x (iN k) = some r ∧ fX12_fact_251 wm fuel x (iN k) = some r
  | 0, k, fuel + 1, x, hk, _ => by
    obtain rfl : k = 4 := by omega
    unfold fX0_shutBeside_4 fX12_fact_251
    rw [if_neg (show ¬ iN 4 < 4 by decide), if_neg (show ¬ iN 4 < 4 by decide)]
    exact ⟨_, rfl, rfl⟩
  | m + 1, k, fuel + 1, x, hk, hf => by
    have ih := fun y => sb_loop h hc ha m (k + 1) fuel y (by omega) (by omega)
    unfold fX0_shutBeside_4 fX12_fact_251
    rw [if_pos ((iN_lt_lit (by omega) (by omega)).mpr (show k < 4 by omega)), if_pos ((iN_lt_lit (by omega) (by omega)).mpr (show k < 4 by omega)), ha, bes_c hc (by omega), bes_m hc (by omega), Option.bind_some, Option.bind_some, Option.bind_some]
    unfold fX12_fact_288
    rw [add_lit, Int32.add_zero]
    cases e : besN c k with
    | none =>
      rw [if_pos (show enc1 none = -1 from rfl), if_pos (show enc1 none = -1 from rfl)]
      exact ih x
    | some d =>
      have hd := (besN_adj hc e).1
      obtain ⟨b, b1, b2⟩ := shut_eq h hd
      rw [if_neg (enc1_ne (by omega)), if_neg (enc1_ne (by omega)), show enc1 (some d) = iN d from rfl, b1, b2, Option.bind_some, Option.bind_some]
      cases b
      · rw [if_neg (by simp), if_neg (by simp)]
        exact ih x
      · rw [if_pos rfl, if_pos rfl]
        exact ih _
theorem tm_loop {n c : Nat} {wc wm : Wd} (h : YY n wc wm) (ha : wm.1 148 27 = iN c) : ∀ (m k fuel : Nat) (x : Int32), ((k + m : Nat) : Int) = (wm.1 149 4316).toInt → m < fuel → ∃ r, fX6_tellingsOf_4 wc fuel (iN c) x (iN k) = some r ∧ fX12_fact_204 wm fuel x (iN k) = some r
  | 0, k, fuel + 1, x, hk, _ => by
    have h2 := h.1.2.2.2.2.2.1.2.2.2.2.1.2
    have hn : ¬ iN k < wm.1 149 4316 := by
      rw [lt_I, iN_toInt (by omega)]
      omega
    unfold fX6_tellingsOf_4 fX12_fact_204
    rw [h.1.told, mg_16, Option.bind_some, if_neg hn, if_neg hn]
    exact ⟨_, rfl, rfl⟩
  | m + 1, k, fuel + 1, x, hk, hf => by
    have h2 := h.1.2.2.2.2.2.1.2.2.2.2.1.2
    have ih := fun y => tm_loop h ha m (k + 1) fuel y (by omega) (by omega)
    have hp : iN k < wm.1 149 4316 := by
      rw [lt_I, iN_toInt (by omega)]
      omega
    have hr : wc.1 31 k = wm.1 149 (2500 + 4 * k) := h.1.tel (t := k) (j := 0) (by omega) (by omega)
    unfold fX6_tellingsOf_4 fX12_fact_204
    rw [h.1.told, mg_16, Option.bind_some, if_pos hp, if_pos hp, inb_lt2 (by omega) (by omega), if_pos rfl, ri_iN (by omega), hr, lit_mul, lit_add, inb_lt2 (by omega) (by omega), if_pos rfl, ri_iN (by omega), ha, add_lit, Int32.add_zero]
    by_cases e : wm.1 149 (2500 + 4 * k) = iN c
    · rw [if_pos e, if_pos e]
      exact ih _
    · rw [if_neg e, if_neg e]
      exact ih _
theorem place_c {n m c : Nat} {wc w : Wd} (h : YY n wc w) (hm : (m : Int) < (w.1 149 4315).toInt) : ∀ (t i fuel : Nat), i + t = lenS (w.1 149) m → t < fuel → fX5_placeOf_2 wc fuel (36 + 7 * m) (iN c) (iN i) = some (enc1 (placeF (w.1 149) m c (lenS (w.1 149) m) t)) := by
  have hm8 := h.1.2.2.2.2.1.lt hm
  obtain ⟨e, -, l2⟩ := lenS_eq h.1 hm
  intro t
  induction t with
  | zero =>
    intro i fuel hi hf
    obtain ⟨fuel, rfl⟩ : ∃ f, fuel = f + 1 := ⟨fuel - 1, by omega⟩
    obtain rfl : i = lenS (w.1 149) m := by omega
    unfold fX5_placeOf_2
    rw [h.1.len hm, e, if_neg (by rw [lt_I]; exact Int.lt_irrefl _)]
    rfl
  | succ t ih =>
    intro i fuel hi hf
    obtain ⟨fuel, rfl⟩ : ∃ f, fuel = f + 1 := ⟨fuel - 1, by omega⟩
    have hp : iN i < w.1 149 (3300 + 125 * m) := by
      rw [e]
      exact (iN_lt (by omega) (by omega)).mpr (by omega)
    have hi2 : lenS (w.1 149) m - (t + 1) = i := by omega
    have hs : placeF (w.1 149) m c (lenS (w.1 149) m) (t + 1) = if w.1 149 (3304 + 125 * m + 6 * i) = iN c then some i else placeF (w.1 149) m c (lenS (w.1 149) m) t := by
      show (if w.1 149 (3304 + 125 * m + 6 * (lenS (w.1 149) m - (t + 1))) = iN c then some (lenS (w.1 149) m - (t + 1)) else placeF (w.1 149) m c (lenS (w.1 149) m) t) = _
      rw [hi2]
    have hr : wc.1 (37 + 7 * m) i = w.1 149 (3304 + 125 * m + 6 * i) := h.1.lnI (j := 0) hm (by rw [e, iN_toInt (by omega)]; omega) (by omega)
    unfold fX5_placeOf_2
    rw [h.1.len hm, if_pos hp, if_pos ((iN_lt_lit (by omega) (by omega)).mpr (show i < 19 by omega)), inb_lt2 (by omega) (by omega), if_pos rfl, ri_iN (by omega), show 36 + 7 * m + 1 = 37 + 7 * m by omega, hr, add_lit, hs]
    by_cases q : w.1 149 (3304 + 125 * m + 6 * i) = iN c
    · rw [if_pos q, if_pos q]
      rfl
    · rw [if_neg q, if_neg q]
      exact ih (i + 1) fuel (by omega) (by omega)
theorem dp_loop {n c : Nat} {wc wm : Wd} (h : YY n wc wm) (hc : c < 100) (ha : wm.1 148 27 = iN c) : ∀ (q m fuel : Nat) (x y : Int32), ((m + q : Nat) : Int) = (wm.1 149 4315).toInt → q < fuel → ∃ r, fX0_deepest_7 wc fuel (iN c) x y (iN m) = some r ∧ fX12_greatest_6 wm fuel y x (iN m) = some r
  | 0, m, fuel + 1, x, y, hk, _ => by
    have h8 := h.1.2.2.2.2.1.1.2
    have hn : ¬ iN m < wm.1 149 4315 := by
      rw [lt_I, iN_toInt (by omega)]
      omega
    unfold fX0_deepest_7 fX12_greatest_6
    rw [h.1.many, mg_15, Option.bind_some, if_neg hn, if_neg hn]
    exact ⟨_, rfl, rfl⟩
  | q + 1, m, fuel + 1, x, y, hk, hf => by
    have h8 := h.1.2.2.2.2.1.1.2
    have hm : (m : Int) < (wm.1 149 4315).toInt := by omega
    have ih := fun x y => dp_loop h hc ha q (m + 1) fuel x y (by omega) (by omega)
    have hp : iN m < wm.1 149 4315 := by
      rw [lt_I, iN_toInt (by omega)]
      omega
    obtain ⟨e, -, l2⟩ := lenS_eq h.1 hm
    have p1 : fX5_placeOf (36 + 7 * m) (iN c) wc = _ := place_c h hm (c := c) (lenS (wm.1 149) m) 0 FU (by omega) (by unfold FU; omega)
    have p2 : fX12_placeOn (iN m) (iN c) wm = _ := place_m h hm (c := c) (lenS (wm.1 149) m) 0 FU (by omega) (by unfold FU; omega)
    unfold fX0_deepest_7 fX12_greatest_6
    rw [h.1.many, mg_15, Option.bind_some, if_pos hp, if_pos hp, inb_lt2 (by omega) (by omega), if_pos rfl, iN_clamp (by omega), p1, ha, p2, Option.bind_some, Option.bind_some]
    cases pe : placeF (wm.1 149) m c (lenS (wm.1 149) m) (lenS (wm.1 149) m) with
    | none =>
      rw [if_pos (show enc1 none < 0 by decide), if_pos (show enc1 none = -1 from rfl), add_lit]
      exact ih x y
    | some i =>
      obtain ⟨i1, i2⟩ := placeF_lt (Nat.le_refl _) pe
      have hi : (i : Int) < (wm.1 149 (3300 + 125 * m)).toInt := by
        rw [e, iN_toInt (by omega)]
        omega
      have hr : wc.1 (37 + 7 * m) i = wm.1 149 (3304 + 125 * m + 6 * i) := h.1.lnI (j := 0) hm hi (by omega)
      have d1 := depth_c h hm (show i < 19 by omega) hi hc (hr.trans i2)
      have d2 := depth_m (w := wm) (k := 3304 + 125 * m + 6 * i) (by omega) hc i2
      rw [if_neg (show ¬ enc1 (some i) < 0 from iN_nneg (by omega)), if_neg (enc1_ne (by omega)), show enc1 (some i) = iN i from rfl, d1, msp_eq, Option.bind_some, Option.bind_some, d2, Option.bind_some]
      unfold fX0_deepest_62 fX12_greatest_65
      rw [add_lit]
      by_cases y0 : y = 0
      · rw [if_pos y0, if_pos y0]
        exact ih _ _
      · rw [if_neg y0, if_neg y0]
        by_cases c2 : x < wm.1 149 (15 * c) - wm.1 149 (3304 + 125 * m + 6 * i + 1)
        · rw [if_pos c2, if_pos c2]
          exact ih _ _
        · rw [if_neg c2, if_neg c2]
          exact ih _ _
theorem mc_j {w : Wd} {c j : Nat} (hc : c < 100) (hj : (OfNat.ofNat j : Nat) < 15) : fX12_c (iN c) (OfNat.ofNat j : Int32) w = some (w.1 149 (15 * c + (OfNat.ofNat j : Nat))) := mc_eq (j := (OfNat.ofNat j : Nat)) hc hj
def cel (wm : Wd) (c : Nat) : Prop := (wm.1 149 (15 * c + 11)).toInt + (wm.1 149 (15 * c + 12)).toInt < 2147483648
theorem fact_eq {n c : Nat} {wc wm : Wd} (h : YY n wc wm) (hc : c < 100) (hw : cel wm c) (ha : wm.1 148 27 = iN c) (b : Int32) : ∃ x, fX4_factAt b (iN c) wc = some x.toInt64 ∧ fX12_fact b wm = some x := by
  have r : ∀ j, j < 15 → wc.1 (rowA j) c = wm.1 149 (15 * c + j) := fun j hj => h.1.row hc hj
  have hW := (h.1.2.2.2.2.2.2 c hc).1
  unfold fX4_factAt fX12_fact
  rw [ha]
  by_cases h1 : b = 99
  · rw [if_pos h1, if_pos h1, mc_j hc (by decide), mc_j hc (by decide), Option.bind_some, Option.bind_some]
    unfold fX10_inCellars
    rw [inb_lt2 hc (by omega), if_pos rfl, ri_iN (by omega), ri_iN (by omega), show wc.1 17 c = wm.1 149 (15 * c + 11) from r 11 (by omega), show wc.1 18 c = wm.1 149 (15 * c + 12) from r 12 (by omega)]
    refine ⟨wm.1 149 (15 * c + 11) + wm.1 149 (15 * c + 12), ?_, rfl⟩
    rw [Option.bind_some]
    congr 1
    unfold cel at hw
    rw [← Int64.toInt_inj, Int64.toInt_add, Int32.toInt_toInt64, Int32.toInt_toInt64, Int32.toInt_toInt64, add_I (by omega) (by omega)]
    exact Int.bmod_eq_of_le (by omega) (by omega)
  rw [if_neg h1, if_neg h1]
  by_cases h2 : b = 100
  · rw [if_pos h2, if_pos h2]
    have h8 := h.1.2.2.2.2.1.1
    obtain ⟨x, x1, x2⟩ := dp_loop h hc ha (wm.1 149 4315).toNatClampNeg 0 FU 0 0 (by have := cl_nat h8.1; omega) (by have := h8.2; have := cl_nat h8.1; unfold FU; omega)
    rw [show iN 0 = 0 from rfl] at x1 x2
    have x1' : fX0_deepest (iN c) wc = some x := x1
    have x2' : fX12_greatest wm = some x := x2
    rw [x1', x2']
    exact ⟨x, rfl, rfl⟩
  rw [if_neg h2, if_neg h2]
  by_cases h3 : b = 102
  · rw [if_pos h3, if_pos h3, mc_j hc (by decide), inb_lt2 hc (by omega), if_pos rfl, ri_iN (by omega), show wc.1 15 c = wm.1 149 (15 * c + 9) from r 9 (by omega)]
    exact ⟨_, rfl, rfl⟩
  rw [if_neg h3, if_neg h3]
  by_cases h4 : b = 104
  · rw [if_pos h4, if_pos h4, mc_0 hc, inb_lt2 hc (by omega), if_pos rfl, ri_iN (by omega), show wc.1 3 c = wm.1 149 (15 * c) from r 0 (by omega)]
    exact ⟨_, rfl, rfl⟩
  rw [if_neg h4, if_neg h4]
  by_cases h5 : b = 107
  · rw [if_pos h5, if_pos h5, (today_eq h).1, (today_eq h).2]
    exact ⟨_, rfl, rfl⟩
  rw [if_neg h5, if_neg h5]
  by_cases h6 : b = 109
  · rw [if_pos h6, if_pos h6]
    have h8 := h.1.2.2.2.2.2.1.2.2.2.2.1
    obtain ⟨x, x1, x2⟩ := tm_loop h ha (wm.1 149 4316).toNatClampNeg 0 FU 0 (by have := cl_nat h8.1; omega) (by have := h8.2; have := cl_nat h8.1; unfold FU; omega)
    rw [show iN 0 = 0 from rfl] at x1 x2
    have x1' : fX6_tellingsOf (iN c) wc = some x := x1
    rw [x1', x2]
    exact ⟨x, rfl, rfl⟩
  rw [if_neg h6, if_neg h6]
  by_cases h7 : b = 111
  · rw [if_pos h7, if_pos h7, mg_0, h.1.hour]
    exact ⟨_, rfl, rfl⟩
  rw [if_neg h7, if_neg h7]
  by_cases h8 : b = 112
  · rw [if_pos h8, if_pos h8, mc_j hc (by decide), inb_lt2 hc (by omega), if_pos rfl, ri_iN (by omega), show wc.1 5 c = wm.1 149 (15 * c + 2) from r 2 (by omega)]
    exact ⟨_, rfl, rfl⟩
  rw [if_neg h8, if_neg h8]
  by_cases h9 : b = 115
  · rw [if_pos h9, if_pos h9, mc_j hc (by decide), inb_lt2 hc (by omega), if_pos rfl, ri_iN (by omega), show wc.1 4 c = wm.1 149 (15 * c + 1) from r 1 (by omega)]
    exact ⟨_, rfl, rfl⟩
  rw [if_neg h9, if_neg h9]
  by_cases h10 : b = 116
  · rw [if_pos h10, if_pos h10, mc_j hc (by decide), inb_lt2 hc (by omega), if_pos rfl, ri_iN (by omega), show wc.1 6 c = wm.1 149 (15 * c + 3) from r 3 (by omega)]
    exact ⟨_, rfl, rfl⟩
  rw [if_neg h10, if_neg h10]
  by_cases h11 : b = 119
  · rw [if_pos h11, if_pos h11, mg_0, h.1.hour, Option.bind_some]
    obtain ⟨x, x1, x2, -⟩ := level_eq h.2.2.2.1 (v := wm.1 149 4300) h.1.2.2.2.2.2.1.1.1
    rw [x1, x2]
    exact ⟨_, rfl, rfl⟩
  rw [if_neg h11, if_neg h11]
  obtain ⟨x, x1, x2⟩ := sb_loop h hc ha 4 0 FU 0 (by omega) (by unfold FU; omega)
  rw [show iN 0 = 0 from rfl] at x1 x2
  have x1' : fX0_shutBeside (iN c) wc = some x := x1
  unfold fX4_factAt_207
  rw [x1', x2]
  exact ⟨x, rfl, rfl⟩
