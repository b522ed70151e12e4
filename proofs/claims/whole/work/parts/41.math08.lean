-- MATHEMATICS: m62
def fo (g : Nat → Option Nat) : Option Nat → Nat → Nat → Option Nat
  | acc, _, 0 => acc
  | acc, j, m + 1 => fo g (omin acc (g j)) (j + 1) m
def TW (wb w : Wd) : Prop := (∀ a, ¬ a = 152 → w.1 a = wb.1 a) ∧ w.2 = wb.2
theorem TW.put {wb w : Wd} {i : Nat} {x : Int32} (hw : TW wb w) : TW wb (si w 152 i x) := ⟨fun b h1 => (si_oth h1).trans (hw.1 b h1), hw.2⟩
theorem eN_lt {o : Option Nat} (h : oB o) : eN o < 100000000 ↔ ¬ o = none := by
  cases o with
  | none => exact ⟨fun e => absurd e (by show ¬ (100000000 : Int32) < 100000000; decide), fun e => (e rfl).elim⟩
  | some v =>
    have := h v rfl
    exact ⟨(by intro _ e; cases e), fun _ => (iN_lt_lit (by omega) (by omega)).mpr (by omega)⟩
theorem rm164 {S : Nat → Int32} {a b c l : Nat} {z f v1 v5 : Int32} {w : Wd} {k74 : Int32 → Int32 → Int32 → Int32 → Int32 → Int32 → Wd → Option (Int32 × Wd)} {k84 : Int32 → Int32 → Int32 → Int32 → Int32 → Int32 → Int32 → Wd → Option (Int32 × Wd)} (h : rQq S a b z f) (hc : c < 100) (hl : l ≤ 17) (hw : ∀ d, d < 100 → adj c d → nr d b = l → w.1 152 d = eN (rVv S a b z f l d)) : ∀ (m j fuel : Nat) (acc : Option Nat), j + m = 4 → m < fuel → oB acc → oB (fo (nbR (rVv S a b z f l) l b c) acc j m) ∧ fX12_route_164 k74 k84 fuel v1 (iN b) z f v5 (iN (l + 1)) (iN c) (eN acc) (iN j) w = fX12_route_164 k74 k84 1 v1 (iN b) z f v5 (iN (l + 1)) (iN c) (eN (fo (nbR (rVv S a b z f l) l b c) acc j m)) (iN 4) w
  | 0, j, fuel + 1, acc, hj, _, ho => by
    obtain rfl : j = 4 := by omega
    refine ⟨ho, ?_⟩
    rw [fX12_route_164, fX12_route_164, if_neg (show ¬ iN 4 < 4 by decide), if_neg (show ¬ iN 4 < 4 by decide)]
    rfl
  | m + 1, j, fuel + 1, acc, hj, hf, ho => by
    have hb := h.2.2.1
    obtain ⟨i1, i2⟩ := rm164 (v1 := v1) (v5 := v5) (k74 := k74) (k84 := k84) h hc hl hw m (j + 1) fuel (omin acc (nbR (rVv S a b z f l) l b c j)) (by omega) (by omega) (omin_oB ho (nbR_oB h hc (by omega)))
    refine ⟨i1, ?_⟩
    show _ = fX12_route_164 k74 k84 1 v1 (iN b) z f v5 (iN (l + 1)) (iN c) (eN (fo (nbR (rVv S a b z f l) l b c) (omin acc (nbR (rVv S a b z f l) l b c j)) (j + 1) m)) (iN 4) w
    rw [← i2, fX12_route_164, if_pos ((iN_lt_lit (by omega) (by omega)).mpr (show j < 4 by omega)), bes_m hc (by omega), Option.bind_some, add_lit]
    have non : ∀ acc : Option Nat, omin acc none = acc := fun acc => by cases acc <;> rfl
    cases e : besN c j with
    | none =>
      have e0 : nbR (rVv S a b z f l) l b c j = none := by unfold nbR; rw [e]
      rw [if_pos (show enc1 none = -1 from rfl), e0, non]
    | some d =>
      obtain ⟨hd, had⟩ := besN_adj hc e
      have e0 : nbR (rVv S a b z f l) l b c j = if nr d b = l then rVv S a b z f l d else none := by unfold nbR; rw [e]
      rw [if_neg (enc1_ne (by omega)), show enc1 (some d) = iN d from rfl, if_pos (show (0 : Int32) < iN (l + 1) from (iN_lt (a := 0) (by omega) (by omega)).mpr (by omega)), near_m hd hb, Option.bind_some, iN_s1]
      have hn := nr_lt hd hb
      by_cases q : nr d b = l
      · rw [if_pos ((iN_inj (by omega) (by omega)).mpr q), inb_lt2 hd (by omega), if_pos rfl, ri_iN (by omega), hw d hd had q, e0, if_pos q, ← eN_min ho (rVv_oB h hd (by omega))]
        by_cases q2 : eN (rVv S a b z f l d) < eN acc
        · rw [if_pos q2, if_pos q2]
        · rw [if_neg q2, if_neg q2]
      · rw [if_neg (fun e => q ((iN_inj (by omega) (by omega)).mp e)), e0, if_neg q, non]
theorem rm164z {b c : Nat} {z f v1 v5 x : Int32} {w : Wd} {k74 : Int32 → Int32 → Int32 → Int32 → Int32 → Int32 → Wd → Option (Int32 × Wd)} {k84 : Int32 → Int32 → Int32 → Int32 → Int32 → Int32 → Int32 → Wd → Option (Int32 × Wd)} (hc : c < 100) : ∀ (m j fuel : Nat), j + m = 4 → m < fuel → fX12_route_164 k74 k84 fuel v1 (iN b) z f v5 0 (iN c) x (iN j) w = fX12_route_164 k74 k84 1 v1 (iN b) z f v5 0 (iN c) x (iN 4) w
  | 0, j, fuel + 1, hj, _ => by
    obtain rfl : j = 4 := by omega
    rw [fX12_route_164, fX12_route_164, if_neg (show ¬ iN 4 < 4 by decide), if_neg (show ¬ iN 4 < 4 by decide)]
  | m + 1, j, fuel + 1, hj, hf => by
    have ih := rm164z (b := b) (z := z) (f := f) (v1 := v1) (v5 := v5) (x := x) (w := w) (k74 := k74) (k84 := k84) hc m (j + 1) fuel (by omega) (by omega)
    rw [← ih, fX12_route_164, if_pos ((iN_lt_lit (by omega) (by omega)).mpr (show j < 4 by omega)), bes_m hc (by omega), Option.bind_some, add_lit, if_neg (show ¬ (0 : Int32) < 0 by decide)]
    by_cases q : enc1 (besN c j) = -1
    · rw [if_pos q]
    · rw [if_neg q]
theorem rm148 {S : Nat → Int32} {a b c : Nat} {z f : Int32} {w : Wd} {k74 : Int32 → Int32 → Int32 → Int32 → Int32 → Int32 → Wd → Option (Int32 × Wd)} {k84 : Int32 → Int32 → Int32 → Int32 → Int32 → Int32 → Int32 → Wd → Option (Int32 × Wd)} (h : rQq S a b z f) (hS : w.1 149 = S) (hc : c < 100) (hle : nr c b ≤ nr a b) (hriv : c = b ∨ ¬ S (15 * c + 4) = 1) (h1 : w.1 152 c = 100000000) (hw : ∀ d l, d < 100 → adj c d → nr c b = l + 1 → nr d b = l → w.1 152 d = eN (rVv S a b z f l d)) : ∃ w', fX12_route_148 k74 k84 (iN a) (iN b) z f (iN (nr a b)) (iN (nr c b)) (iN c) w = k84 (iN a) (iN b) z f (iN (nr a b)) (iN (nr c b)) (iN (c + 1)) w' ∧ TW w w' ∧ w'.1 152 c = eN (rVv S a b z f (nr c b) c) ∧ ∀ i, ¬ i = c → w'.1 152 i = w.1 152 i := by
  have hb := h.2.2.1
  have hn := nr_lt hc hb
  have hab := nr_lt h.2.1 hb
  have hdig : ∀ iv, fX12_digOf (iN c) iv w = some (digV S c iv) := fun iv => by rw [dig_m hc, hS]
  have hsub : iN (nr a b) - iN (nr c b) = iN (nr a b - nr c b) := iN_sub hle
  unfold fX12_route_148
  cases e : nr c b with
  | zero =>
    rw [e] at hsub
    rw [if_pos (show iN 0 = 0 from rfl)]
    have e2 := rm164z (b := b) (z := z) (f := f) (v1 := iN a) (v5 := iN (nr a b)) (x := 0) (w := w) (k74 := k74) (k84 := k84) hc 4 0 FU (by omega) (by unfold FU; omega)
    obtain ⟨d1, d2⟩ := dgN_ok (l := 0) h hc
    have e3 : iN 0 = (0 : Int32) := rfl
    rw [e3] at e2 hsub
    rw [e3, e2, fX12_route_164, if_neg (show ¬ iN 4 < 4 by decide), if_pos (by decide), hsub, hdig, d1, Option.bind_some, inb_lt2 hc (by omega), if_pos rfl, nw_eq, wi_iN (by omega), add_lit]
    refine ⟨_, rfl, TW.put ⟨fun _ _ => rfl, rfl⟩, ?_, fun i hi => by rw [si_1, if_neg (by omega)]⟩
    rw [si_at]
    show (0 : Int32) + iN (dgN S a b z f 0 c) = iN (dgN S a b z f 0 c)
    rw [show (0 : Int32) = iN 0 from rfl, iN_add, Nat.zero_add]
  | succ l =>
    rw [e] at hsub
    have hcb : ¬ S (15 * c + 4) = 1 := by
      rcases hriv with q | q
      · rw [q, nr_self] at e
        cases e
      · exact q
    rw [if_neg (show ¬ iN (l + 1) = 0 from fun q => by have := (iN_inj (b := 0) (by omega) (by omega)).mp q; omega)]
    obtain ⟨o1, e2⟩ := rm164 (v1 := iN a) (v5 := iN (nr a b)) (w := w) (k74 := k74) (k84 := k84) h hc (show l ≤ 17 by omega) (fun d hd ha hq => hw d l hd ha e hq) 4 0 FU none (by omega) (by unfold FU; omega) (fun v q => by cases q)
    have e0 : fo (nbR (rVv S a b z f l) l b c) none 0 4 = mn4 (nbR (rVv S a b z f l) l b c) := rfl
    rw [e0] at e2 o1
    rw [show eN none = 100000000 from rfl, show iN 0 = 0 from rfl] at e2
    obtain ⟨d1, d2⟩ := dgN_ok (l := l + 1) h hc
    rw [e2, fX12_route_164, if_neg (show ¬ iN 4 < 4 by decide), rVv_succ hcb]
    cases em : mn4 (nbR (rVv S a b z f l) l b c) with
    | none =>
      rw [if_neg (show ¬ eN none < 100000000 from (by show ¬ (100000000 : Int32) < 100000000; decide)), add_lit]
      exact ⟨w, rfl, ⟨fun _ _ => rfl, rfl⟩, h1, fun _ _ => rfl⟩
    | some v =>
      have hv := o1 v em
      rw [if_pos (show eN (some v) < 100000000 from (iN_lt_lit (by omega) (by omega)).mpr (by omega)), hsub, hdig, d1, Option.bind_some, inb_lt2 hc (by omega), if_pos rfl, nw_eq, wi_iN (by omega), add_lit]
      refine ⟨_, rfl, TW.put ⟨fun _ _ => rfl, rfl⟩, ?_, fun i hi => by rw [si_1, if_neg (by omega)]⟩
      rw [si_at]
      exact iN_add v _
theorem TW.trans {w1 w2 w3 : Wd} (h : TW w1 w2) (h' : TW w2 w3) : TW w1 w3 := ⟨fun a ha => (h'.1 a ha).trans (h.1 a ha), h'.2.trans h.2⟩
def RSt (S : Nat → Int32) (a b : Nat) (z f : Int32) (l k : Nat) (w : Wd) : Prop := ∀ c, c < 100 → inR a b c → (nr c b < l ∨ (nr c b = l ∧ c < k)) → w.1 152 c = eN (rVv S a b z f (nr c b) c)
theorem rm84 {S : Nat → Int32} {a b l : Nat} {z f : Int32} {wb : Wd} {k74 : Int32 → Int32 → Int32 → Int32 → Int32 → Int32 → Wd → Option (Int32 × Wd)} (h : rQq S a b z f) (hS : wb.1 149 = S) (hl : l ≤ nr a b) : ∀ (m k fuel : Nat) (w : Wd), k + m = 100 → m < fuel → TW wb w → RSt S a b z f l k w → ∃ w', fX12_route_84 k74 fuel (iN a) (iN b) z f (iN (nr a b)) (iN l) (iN k) w = k74 (iN a) (iN b) z f (iN (nr a b)) (iN (l + 1)) w' ∧ TW wb w' ∧ RSt S a b z f l 100 w'
  | 0, k, fuel + 1, w, hk, _, ht, hw => by
    obtain rfl : k = 100 := by omega
    rw [fX12_route_84, if_neg (show ¬ iN 100 < 100 by decide), add_lit]
    exact ⟨w, rfl, ht, hw⟩
  | m + 1, k, fuel + 1, w, hk, hf, ht, hw => by
    have hb := h.2.2.1
    have ha := h.2.1
    have hab := nr_lt ha hb
    have hkb := nr_lt (show k < 100 by omega) hb
    have hka := nr_lt (show k < 100 by omega) ha
    have skip : ∀ w1, TW wb w1 → (∀ i, ¬ i = k → w1.1 152 i = w.1 152 i) → (inR a b k → nr k b = l → w1.1 152 k = eN (rVv S a b z f l k)) → (nr k b < l → w1.1 152 k = w.1 152 k) → RSt S a b z f l (k + 1) w1 := by
      intro w1 t1 t2 t3 t4 c hc hr hq
      by_cases e : c = k
      · subst e
        rcases hq with hq | ⟨hq, -⟩
        · rw [t4 hq]
          exact hw c hc hr (Or.inl hq)
        · rw [hq]
          exact t3 hr hq
      · rw [t2 c e]
        exact hw c hc hr (by omega)
    rw [fX12_route_84, if_pos ((iN_lt_lit (by omega) (by omega)).mpr (show k < 100 by omega)), near_m (by omega) hb, Option.bind_some]
    by_cases c1 : nr k b = l
    · rw [if_pos ((iN_inj (by omega) (by omega)).mpr c1), near_m (by omega) ha, Option.bind_some, iN_add]
      by_cases c2 : nr k a + l = nr a b
      · have hin : inR a b k := by
          unfold inR
          omega
        rw [if_pos ((iN_inj (by omega) (by omega)).mpr c2), inb_lt2 (by omega) (by omega), if_pos rfl, nw_eq, wi_iN (by omega)]
        have hmc : fX12_c (iN k) 4 (si w 152 k 100000000) = some (S (15 * k + 4)) := by
          have := mc_j (w := si w 152 k 100000000) (j := 4) (show k < 100 by omega) (by decide)
          rw [si_oth (by omega), ht.1 149 (by omega), hS] at this
          exact this
        rw [hmc, Option.bind_some]
        have go : (k = b ∨ ¬ S (15 * k + 4) = 1) → ∃ w', fX12_route_148 k74 (fX12_route_84 k74 fuel) (iN a) (iN b) z f (iN (nr a b)) (iN l) (iN k) (si w 152 k 100000000) = k74 (iN a) (iN b) z f (iN (nr a b)) (iN (l + 1)) w' ∧ TW wb w' ∧ RSt S a b z f l 100 w' := by
          intro hriv
          obtain ⟨w1, r1, r2, r3, r4⟩ := rm148 (k74 := k74) (k84 := fX12_route_84 k74 fuel) (w := si w 152 k 100000000) h (by rw [si_oth (by omega), ht.1 149 (by omega), hS]) (show k < 100 by omega) (by omega) hriv si_at (fun d l' hd had q1 q2 => by
            rw [si_1, if_neg (by have := (nr_adj (show k < 100 by omega) hd).mpr had; intro q; rw [q.2, nr_self] at this; cases this)]
            rw [← q2]
            exact hw d hd (inR_step (by omega) hd hin had q1 q2) (Or.inl (by omega)))
          rw [c1] at r1 r3
          rw [r1]
          exact rm84 h hS hl m (k + 1) fuel w1 (by omega) (by omega) (ht.put.trans r2) (skip w1 (ht.put.trans r2) (fun i hi => by rw [r4 i hi, si_1, if_neg (by omega)]) (fun _ _ => r3) (fun q => by omega))
        by_cases c3 : S (15 * k + 4) = 1
        · rw [if_pos c3]
          by_cases c4 : k = b
          · rw [if_pos ((iN_inj (by omega) (by omega)).mpr c4)]
            exact go (Or.inl c4)
          · rw [if_neg (fun e => c4 ((iN_inj (by omega) (by omega)).mp e)), add_lit]
            refine rm84 h hS hl m (k + 1) fuel _ (by omega) (by omega) ht.put (skip _ ht.put (fun i hi => by rw [si_1, if_neg (by omega)]) (fun _ _ => ?_) (fun q => by omega))
            rw [si_at]
            cases l with
            | zero => exact (c4 (nr_0 c1)).elim
            | succ l =>
              rw [rVv_riv c3]
              rfl
        · rw [if_neg c3]
          exact go (Or.inr c3)
      · rw [if_neg (fun e => c2 ((iN_inj (by omega) (by omega)).mp e)), add_lit]
        exact rm84 h hS hl m (k + 1) fuel w (by omega) (by omega) ht (skip w ht (fun _ _ => rfl) (fun q1 q2 => by unfold inR at q1; omega) (fun _ => rfl))
    · rw [if_neg (fun e => c1 ((iN_inj (by omega) (by omega)).mp e)), add_lit]
      exact rm84 h hS hl m (k + 1) fuel w (by omega) (by omega) ht (skip w ht (fun _ _ => rfl) (fun q1 q2 => (c1 q2).elim) (fun _ => rfl))
theorem rm74 {S : Nat → Int32} {a b : Nat} {z f : Int32} {wb : Wd} (h : rQq S a b z f) (hS : wb.1 149 = S) : ∀ (m l fuel : Nat) (w : Wd), l + m = nr a b + 1 → m < fuel → TW wb w → RSt S a b z f l 0 w → ∃ w', fX12_route_74 fuel (iN a) (iN b) z f (iN (nr a b)) (iN l) w = fX12_route_74 1 (iN a) (iN b) z f (iN (nr a b)) (iN (nr a b + 1)) w' ∧ TW wb w' ∧ RSt S a b z f (nr a b + 1) 0 w' := by
  have hab := nr_lt h.2.1 h.2.2.1
  intro m
  induction m with
  | zero =>
    intro l fuel w hl hf ht hw
    obtain ⟨fuel, rfl⟩ : ∃ g, fuel = g + 1 := ⟨fuel - 1, by omega⟩
    obtain rfl : l = nr a b + 1 := by omega
    refine ⟨w, ?_, ht, hw⟩
    have lt : iN (nr a b) < iN (nr a b + 1) := (iN_lt (by omega) (by omega)).mpr (by omega)
    rw [fX12_route_74, fX12_route_74, if_pos lt, if_pos lt]
  | succ m ih =>
    intro l fuel w hl hf ht hw
    obtain ⟨fuel, rfl⟩ : ∃ g, fuel = g + 1 := ⟨fuel - 1, by omega⟩
    obtain ⟨w1, r1, r2, r3⟩ := rm84 (k74 := fX12_route_74 fuel) h hS (show l ≤ nr a b by omega) 100 0 FU w (by omega) (by unfold FU; omega) ht hw
    rw [show iN 0 = 0 from rfl] at r1
    rw [fX12_route_74, if_neg (fun e => by have := (iN_lt (by omega) (by omega)).mp e; omega), r1]
    exact ih (l + 1) fuel w1 (by omega) (by omega) r2 (fun c hc hr hq => r3 c hc hr (by omega))
-- MATHEMATICS: m63
def cel2 (a b x y : Nat) : Nat := (if a % 10 < b % 10 then a % 10 + x else a % 10 - x) + 10 * (if a < b then a / 10 + y else a / 10 - y)
def sX (a b : Nat) : Int32 := if a % 10 < b % 10 then 1 else -1
def sY (a b : Nat) : Int32 := if a < b then 10 else -10
def wdt (a b : Nat) : Nat := ds (b % 10) (a % 10)
def hgt (a b : Nat) : Nat := ds (b / 10) (a / 10)
def xx (a c : Nat) : Nat := ds (c % 10) (a % 10)
def yyc (a c : Nat) : Nat := ds (c / 10) (a / 10)
theorem cel2_lt {a b x y : Nat} (ha : a < 100) (hb : b < 100) (hx : x ≤ wdt a b) (hy : y ≤ hgt a b) : cel2 a b x y < 100 ∧ (cel2 a b x y) % 10 = (if a % 10 < b % 10 then a % 10 + x else a % 10 - x) ∧ (cel2 a b x y) / 10 = (if a < b then a / 10 + y else a / 10 - y) := by
  unfold wdt at hx
  unfold hgt at hy
  unfold cel2
  unfold ds at hx hy
  by_cases c1 : a % 10 < b % 10
  · rw [if_pos c1]
    by_cases c2 : a < b
    · rw [if_pos c2]
      split at hx <;> split at hy <;> omega
    · rw [if_neg c2]
      split at hx <;> split at hy <;> omega
  · rw [if_neg c1]
    by_cases c2 : a < b
    · rw [if_pos c2]
      split at hx <;> split at hy <;> omega
    · rw [if_neg c2]
      split at hx <;> split at hy <;> omega
theorem iN_subm {a x : Nat} (h : x ≤ a) : iN a + iN x * (-1) = iN (a - x) := by
  rw [Int32.mul_neg, Int32.mul_one, ← Int32.sub_eq_add_neg]
  exact iN_sub h
theorem iN_subm10 {a x : Nat} (h : 10 * x ≤ a) : iN a + iN x * (-10) = iN (a - 10 * x) := by
  rw [Int32.mul_neg, mul_lit, ← Int32.sub_eq_add_neg, Nat.mul_comm]
  exact iN_sub h
theorem cel2_eq {a b x y : Nat} (ha : a < 100) (hb : b < 100) (hx : x ≤ wdt a b) (hy : y ≤ hgt a b) : (iN a + iN x * sX a b) + iN y * sY a b = iN (cel2 a b x y) := by
  unfold wdt at hx
  unfold hgt at hy
  unfold cel2 sX sY
  unfold ds at hx hy
  by_cases c1 : a % 10 < b % 10
  · rw [if_pos c1, if_pos c1, Int32.mul_one, iN_add]
    by_cases c2 : a < b
    · rw [if_pos c2, if_pos c2, mul_lit, iN_add]
      congr 1
      omega
    · rw [if_neg c2, if_neg c2, iN_subm10 (by split at hx <;> split at hy <;> omega)]
      congr 1
      split at hx <;> split at hy <;> omega
  · rw [if_neg c1, if_neg c1, iN_subm (by split at hx <;> omega)]
    by_cases c2 : a < b
    · rw [if_pos c2, if_pos c2, mul_lit, iN_add]
      congr 1
      split at hx <;> omega
    · rw [if_neg c2, if_neg c2, iN_subm10 (by split at hx <;> split at hy <;> omega)]
      congr 1
      split at hx <;> split at hy <;> omega
theorem cel2_geo {a b x y : Nat} (ha : a < 100) (hb : b < 100) (hx : x ≤ wdt a b) (hy : y ≤ hgt a b) : inR a b (cel2 a b x y) ∧ xx a (cel2 a b x y) = x ∧ yyc a (cel2 a b x y) = y ∧ nr (cel2 a b x y) b = (wdt a b - x) + (hgt a b - y) ∧ nr a b = wdt a b + hgt a b := by
  obtain ⟨q1, q2, q3⟩ := cel2_lt ha hb hx hy
  unfold inR xx yyc nr
  rw [q2, q3]
  unfold wdt at hx ⊢
  unfold hgt at hy ⊢
  by_cases c1 : a % 10 < b % 10
  · have e1 : ds (b % 10) (a % 10) = b % 10 - a % 10 := by unfold ds; split <;> omega
    have e1' : ds (a % 10) (b % 10) = b % 10 - a % 10 := by unfold ds; split <;> omega
    rw [if_pos c1, e1, e1']
    rw [e1] at hx
    have e2 : ds (a % 10 + x) (a % 10) = x := by unfold ds; split <;> omega
    have e3 : ds (a % 10 + x) (b % 10) = b % 10 - a % 10 - x := by unfold ds; split <;> omega
    rw [e2, e3]
    by_cases c2 : a < b
    · have f1 : ds (b / 10) (a / 10) = b / 10 - a / 10 := by unfold ds; split <;> omega
      have f1' : ds (a / 10) (b / 10) = b / 10 - a / 10 := by unfold ds; split <;> omega
      rw [f1] at hy
      have f2 : ds (a / 10 + y) (a / 10) = y := by unfold ds; split <;> omega
      have f3 : ds (a / 10 + y) (b / 10) = b / 10 - a / 10 - y := by unfold ds; split <;> omega
      rw [if_pos c2, f1, f1', f2, f3]
      omega
    · have f1 : ds (b / 10) (a / 10) = a / 10 - b / 10 := by unfold ds; split <;> omega
      have f1' : ds (a / 10) (b / 10) = a / 10 - b / 10 := by unfold ds; split <;> omega
      rw [f1] at hy
      have f2 : ds (a / 10 - y) (a / 10) = y := by unfold ds; split <;> omega
      have f3 : ds (a / 10 - y) (b / 10) = a / 10 - b / 10 - y := by unfold ds; split <;> omega
      rw [if_neg c2, f1, f1', f2, f3]
      omega
  · have e1 : ds (b % 10) (a % 10) = a % 10 - b % 10 := by unfold ds; split <;> omega
    have e1' : ds (a % 10) (b % 10) = a % 10 - b % 10 := by unfold ds; split <;> omega
    rw [if_neg c1, e1, e1']
    rw [e1] at hx
    have e2 : ds (a % 10 - x) (a % 10) = x := by unfold ds; split <;> omega
    have e3 : ds (a % 10 - x) (b % 10) = a % 10 - b % 10 - x := by unfold ds; split <;> omega
    rw [e2, e3]
    by_cases c2 : a < b
    · have f1 : ds (b / 10) (a / 10) = b / 10 - a / 10 := by unfold ds; split <;> omega
      have f1' : ds (a / 10) (b / 10) = b / 10 - a / 10 := by unfold ds; split <;> omega
      rw [f1] at hy
      have f2 : ds (a / 10 + y) (a / 10) = y := by unfold ds; split <;> omega
      have f3 : ds (a / 10 + y) (b / 10) = b / 10 - a / 10 - y := by unfold ds; split <;> omega
      rw [if_pos c2, f1, f1', f2, f3]
      omega
    · have f1 : ds (b / 10) (a / 10) = a / 10 - b / 10 := by unfold ds; split <;> omega
      have f1' : ds (a / 10) (b / 10) = a / 10 - b / 10 := by unfold ds; split <;> omega
      rw [f1] at hy
      have f2 : ds (a / 10 - y) (a / 10) = y := by unfold ds; split <;> omega
      have f3 : ds (a / 10 - y) (b / 10) = a / 10 - b / 10 - y := by unfold ds; split <;> omega
      rw [if_neg c2, f1, f1', f2, f3]
      omega
theorem ds_abs (a b : Nat) : (ds a b : Int) = if a < b then (b : Int) - a else (a : Int) - b := by
  unfold ds
  split <;> omega
theorem between {p q r : Nat} (h : ds r p + ds r q = ds p q) : (p ≤ r ∧ r ≤ q) ∨ (q ≤ r ∧ r ≤ p) := by
  unfold ds at h
  split at h <;> split at h <;> split at h <;> omega
theorem inR_cel {a b c : Nat} (h : inR a b c) : c = cel2 a b (xx a c) (yyc a c) ∧ xx a c ≤ wdt a b ∧ yyc a c ≤ hgt a b := by
  unfold inR nr at h
  have t1 := ds_tri (a % 10) (c % 10) (b % 10)
  have t2 := ds_tri (a / 10) (c / 10) (b / 10)
  rw [ds_comm (a % 10) (c % 10)] at t1
  rw [ds_comm (a / 10) (c / 10)] at t2
  have b1 := between (p := a % 10) (q := b % 10) (r := c % 10) (by omega)
  have b2 := between (p := a / 10) (q := b / 10) (r := c / 10) (by omega)
  unfold cel2 xx yyc wdt hgt
  have e1 : c % 10 = if a % 10 < b % 10 then a % 10 + ds (c % 10) (a % 10) else a % 10 - ds (c % 10) (a % 10) := by
    unfold ds
    split <;> split <;> omega
  have e2 : c / 10 = if a < b then a / 10 + ds (c / 10) (a / 10) else a / 10 - ds (c / 10) (a / 10) := by
    unfold ds
    split <;> split <;> omega
  refine ⟨by rw [← e1, ← e2]; omega, ?_, ?_⟩
  · unfold ds
    split <;> split <;> omega
  · unfold ds
    split <;> split <;> omega
theorem omin_comm (x y : Option Nat) : omin x y = omin y x := by
  cases x with
  | none => cases y <;> rfl
  | some a =>
    cases y with
    | none => rfl
    | some b =>
      rw [omin_ss, omin_ss]
      split <;> split <;> first | rfl | (congr 1; omega) | omega
theorem omin_n (x : Option Nat) : omin x none = x := by cases x <;> rfl
theorem nb_2 {r : Nat → Option Nat} {l b c : Nat} (hc : c < 100) (hb : b < 100) (h : nr c b = l + 1) : nbR r l b c 2 = if c % 10 < b % 10 then r (c + 1) else none := by
  unfold nbR besN
  rw [if_neg (show ¬ (2 : Nat) = 0 by omega), if_neg (show ¬ (2 : Nat) = 1 by omega), if_pos (show (2 : Nat) = 2 from rfl)]
  unfold nr at h
  by_cases q : c % 10 < b % 10
  · rw [if_pos q, if_pos (show c % 10 < 9 by omega)]
    show (if nr (c + 1) b = l then r (c + 1) else none) = _
    rw [if_pos]
    unfold nr
    rw [show (c + 1) / 10 = c / 10 by omega, show (c + 1) % 10 = c % 10 + 1 by omega]
    have : ds (c % 10) (b % 10) = ds (c % 10 + 1) (b % 10) + 1 := by unfold ds; split <;> split <;> omega
    omega
  · rw [if_neg q]
    by_cases q2 : c % 10 < 9
    · rw [if_pos q2]
      show (if nr (c + 1) b = l then r (c + 1) else none) = _
      rw [if_neg]
      unfold nr
      rw [show (c + 1) / 10 = c / 10 by omega, show (c + 1) % 10 = c % 10 + 1 by omega]
      have : ds (c % 10) (b % 10) + 1 = ds (c % 10 + 1) (b % 10) := by unfold ds; split <;> split <;> omega
      omega
    · rw [if_neg q2]
theorem nb_1 {r : Nat → Option Nat} {l b c : Nat} (hc : c < 100) (hb : b < 100) (h : nr c b = l + 1) : nbR r l b c 1 = if b % 10 < c % 10 then r (c - 1) else none := by
  unfold nbR besN
  rw [if_neg (show ¬ (1 : Nat) = 0 by omega), if_pos (show (1 : Nat) = 1 from rfl)]
  unfold nr at h
  by_cases q : b % 10 < c % 10
  · rw [if_pos q, if_pos (show 0 < c % 10 by omega)]
    show (if nr (c - 1) b = l then r (c - 1) else none) = _
    rw [if_pos]
    unfold nr
    rw [show (c - 1) / 10 = c / 10 by omega, show (c - 1) % 10 = c % 10 - 1 by omega]
    have : ds (c % 10) (b % 10) = ds (c % 10 - 1) (b % 10) + 1 := by unfold ds; split <;> split <;> omega
    omega
  · rw [if_neg q]
    by_cases q2 : 0 < c % 10
    · rw [if_pos q2]
      show (if nr (c - 1) b = l then r (c - 1) else none) = _
      rw [if_neg]
      unfold nr
      rw [show (c - 1) / 10 = c / 10 by omega, show (c - 1) % 10 = c % 10 - 1 by omega]
      have : ds (c % 10) (b % 10) + 1 = ds (c % 10 - 1) (b % 10) := by unfold ds; split <;> split <;> omega
      omega
    · rw [if_neg q2]
theorem nb_3 {r : Nat → Option Nat} {l b c : Nat} (hc : c < 100) (hb : b < 100) (h : nr c b = l + 1) : nbR r l b c 3 = if c / 10 < b / 10 then r (c + 10) else none := by
  unfold nbR besN
  rw [if_neg (show ¬ (3 : Nat) = 0 by omega), if_neg (show ¬ (3 : Nat) = 1 by omega), if_neg (show ¬ (3 : Nat) = 2 by omega)]
  unfold nr at h
  by_cases q : c / 10 < b / 10
  · rw [if_pos q, if_pos (show c < 90 by omega)]
    show (if nr (c + 10) b = l then r (c + 10) else none) = _
    rw [if_pos]
    unfold nr
    rw [show (c + 10) / 10 = c / 10 + 1 by omega, show (c + 10) % 10 = c % 10 by omega]
    have : ds (c / 10) (b / 10) = ds (c / 10 + 1) (b / 10) + 1 := by unfold ds; split <;> split <;> omega
    omega
  · rw [if_neg q]
    by_cases q2 : c < 90
    · rw [if_pos q2]
      show (if nr (c + 10) b = l then r (c + 10) else none) = _
      rw [if_neg]
      unfold nr
      rw [show (c + 10) / 10 = c / 10 + 1 by omega, show (c + 10) % 10 = c % 10 by omega]
      have : ds (c / 10) (b / 10) + 1 = ds (c / 10 + 1) (b / 10) := by unfold ds; split <;> split <;> omega
      omega
    · rw [if_neg q2]
theorem nb_0 {r : Nat → Option Nat} {l b c : Nat} (hc : c < 100) (hb : b < 100) (h : nr c b = l + 1) : nbR r l b c 0 = if b / 10 < c / 10 then r (c - 10) else none := by
  unfold nbR besN
  rw [if_pos (show (0 : Nat) = 0 from rfl)]
  unfold nr at h
  by_cases q : b / 10 < c / 10
  · rw [if_pos q, if_neg (show ¬ c < 10 by omega)]
    show (if nr (c - 10) b = l then r (c - 10) else none) = _
    rw [if_pos]
    unfold nr
    rw [show (c - 10) / 10 = c / 10 - 1 by omega, show (c - 10) % 10 = c % 10 by omega]
    have : ds (c / 10) (b / 10) = ds (c / 10 - 1) (b / 10) + 1 := by unfold ds; split <;> split <;> omega
    omega
  · rw [if_neg q]
    by_cases q2 : c < 10
    · rw [if_pos q2]
    · rw [if_neg q2]
      show (if nr (c - 10) b = l then r (c - 10) else none) = _
      rw [if_neg]
      unfold nr
      rw [show (c - 10) / 10 = c / 10 - 1 by omega, show (c - 10) % 10 = c % 10 by omega]
      have : ds (c / 10) (b / 10) + 1 = ds (c / 10 - 1) (b / 10) := by unfold ds; split <;> split <;> omega
      omega
theorem mn4_xy {r : Nat → Option Nat} {a b l x y : Nat} (ha : a < 100) (hb : b < 100) (hx : x ≤ wdt a b) (hy : y ≤ hgt a b) (h : nr (cel2 a b x y) b = l + 1) : mn4 (nbR r l b (cel2 a b x y)) = omin (if x < wdt a b then r (cel2 a b (x + 1) y) else none) (if y < hgt a b then r (cel2 a b x (y + 1)) else none) := by
  obtain ⟨q1, q2, q3⟩ := cel2_lt ha hb hx hy
  unfold mn4
  rw [nb_0 q1 hb h, nb_1 q1 hb h, nb_2 q1 hb h, nb_3 q1 hb h, q2, q3, show omin none _ = _ from rfl]
  have hx' := hx
  have hy' := hy
  unfold wdt ds at hx'
  unfold hgt ds at hy'
  by_cases c1 : a % 10 < b % 10
  · have g1 : (if b % 10 < (if a % 10 < b % 10 then a % 10 + x else a % 10 - x) then r (cel2 a b x y - 1) else none) = none := by
      rw [if_pos c1, if_neg (by split at hx' <;> omega)]
    have g2 : (if (if a % 10 < b % 10 then a % 10 + x else a % 10 - x) < b % 10 then r (cel2 a b x y + 1) else none) = (if x < wdt a b then r (cel2 a b (x + 1) y) else none) := by
      rw [if_pos c1, show cel2 a b (x + 1) y = cel2 a b x y + 1 by unfold cel2; rw [if_pos c1, if_pos c1]; omega]
      by_cases e : a % 10 + x < b % 10
      · rw [if_pos e, if_pos (by unfold wdt ds; split <;> omega)]
      · rw [if_neg e, if_neg (by unfold wdt ds; split <;> omega)]
    rw [g1, g2, omin_n]
    by_cases c2 : a < b
    · have f0 : (if b / 10 < (if a < b then a / 10 + y else a / 10 - y) then r (cel2 a b x y - 10) else none) = none := by
        rw [if_pos c2, if_neg (by split at hy' <;> omega)]
      have f3 : (if (if a < b then a / 10 + y else a / 10 - y) < b / 10 then r (cel2 a b x y + 10) else none) = (if y < hgt a b then r (cel2 a b x (y + 1)) else none) := by
        rw [if_pos c2, show cel2 a b x (y + 1) = cel2 a b x y + 10 by unfold cel2; rw [if_pos c2, if_pos c2]; omega]
        by_cases e : a / 10 + y < b / 10
        · rw [if_pos e, if_pos (by unfold hgt ds; split <;> omega)]
        · rw [if_neg e, if_neg (by unfold hgt ds; split <;> omega)]
      rw [f0, f3]
      rfl
    · have f3 : (if (if a < b then a / 10 + y else a / 10 - y) < b / 10 then r (cel2 a b x y + 10) else none) = none := by
        rw [if_neg c2, if_neg (by split at hy' <;> omega)]
      have f0 : (if b / 10 < (if a < b then a / 10 + y else a / 10 - y) then r (cel2 a b x y - 10) else none) = (if y < hgt a b then r (cel2 a b x (y + 1)) else none) := by
        rw [if_neg c2]
        by_cases e : b / 10 < a / 10 - y
        · rw [if_pos e, if_pos (by unfold hgt ds; split <;> omega), show cel2 a b x (y + 1) = cel2 a b x y - 10 by unfold cel2; rw [if_neg c2, if_neg c2]; omega]
        · rw [if_neg e, if_neg (by unfold hgt ds; split <;> omega)]
      rw [f0, f3, omin_n, omin_comm]
      rfl
  · have g2 : (if (if a % 10 < b % 10 then a % 10 + x else a % 10 - x) < b % 10 then r (cel2 a b x y + 1) else none) = none := by
      rw [if_neg c1, if_neg (by split at hx' <;> omega)]
    have g1 : (if b % 10 < (if a % 10 < b % 10 then a % 10 + x else a % 10 - x) then r (cel2 a b x y - 1) else none) = (if x < wdt a b then r (cel2 a b (x + 1) y) else none) := by
      rw [if_neg c1]
      by_cases e : b % 10 < a % 10 - x
      · rw [if_pos e, if_pos (by unfold wdt ds; split <;> omega), show cel2 a b (x + 1) y = cel2 a b x y - 1 by unfold cel2; rw [if_neg c1, if_neg c1]; omega]
      · rw [if_neg e, if_neg (by unfold wdt ds; split <;> omega)]
    rw [g1, g2, omin_n]
    by_cases c2 : a < b
    · have f0 : (if b / 10 < (if a < b then a / 10 + y else a / 10 - y) then r (cel2 a b x y - 10) else none) = none := by
        rw [if_pos c2, if_neg (by split at hy' <;> omega)]
      have f3 : (if (if a < b then a / 10 + y else a / 10 - y) < b / 10 then r (cel2 a b x y + 10) else none) = (if y < hgt a b then r (cel2 a b x (y + 1)) else none) := by
        rw [if_pos c2, show cel2 a b x (y + 1) = cel2 a b x y + 10 by unfold cel2; rw [if_pos c2, if_pos c2]; omega]
        by_cases e : a / 10 + y < b / 10
        · rw [if_pos e, if_pos (by unfold hgt ds; split <;> omega)]
        · rw [if_neg e, if_neg (by unfold hgt ds; split <;> omega)]
      rw [f0, f3]
      rfl
    · have f3 : (if (if a < b then a / 10 + y else a / 10 - y) < b / 10 then r (cel2 a b x y + 10) else none) = none := by
        rw [if_neg c2, if_neg (by split at hy' <;> omega)]
      have f0 : (if b / 10 < (if a < b then a / 10 + y else a / 10 - y) then r (cel2 a b x y - 10) else none) = (if y < hgt a b then r (cel2 a b x (y + 1)) else none) := by
        rw [if_neg c2]
        by_cases e : b / 10 < a / 10 - y
        · rw [if_pos e, if_pos (by unfold hgt ds; split <;> omega), show cel2 a b x (y + 1) = cel2 a b x y - 10 by unfold cel2; rw [if_neg c2, if_neg c2]; omega]
        · rw [if_neg e, if_neg (by unfold hgt ds; split <;> omega)]
      rw [f0, f3, omin_n, omin_comm]
      rfl
-- MATHEMATICS: m64
def VW (wb w : Wd) : Prop := (∀ a, ¬ a = 105 → w.1 a = wb.1 a) ∧ w.2 = wb.2
theorem VW.put {wb w : Wd} {i : Nat} {x : Int32} (hw : VW wb w) : VW wb (si w 105 i x) := ⟨fun b h1 => (si_oth h1).trans (hw.1 b h1), hw.2⟩
theorem VW.yc {wb w : Wd} {n : Nat} {S : Nat → Int32} (hw : VW wb w) (h : YC wb 0 S n) : YC w 0 S n := h.cong (fun a ha => hw.1 a (by omega))
def pCs (a b u t c : Nat) : Prop := inR a b c ∧ (u ≤ yyc a c ∨ (yyc a c + 1 = u ∧ t ≤ xx a c))
def CSt (S : Nat → Int32) (a b : Nat) (z f : Int32) (u t : Nat) (w : Wd) : Prop := ∀ c, c < 100 → (pCs a b u t c → w.1 105 c = eC (rVv S a b z f (nr c b) c)) ∧ (¬ pCs a b u t c → w.1 105 c = 1000000)
theorem cel2_sx {a b x y : Nat} (ha : a < 100) (hb : b < 100) (hx : x < wdt a b) (hy : y ≤ hgt a b) : iN (cel2 a b x y) + sX a b = iN (cel2 a b (x + 1) y) := by
  unfold wdt ds at hx
  unfold cel2 sX
  by_cases c1 : a % 10 < b % 10
  · rw [if_pos c1, if_pos c1, if_pos c1]
    refine (add_lit 1 _).trans (congrArg iN ?_)
    show a % 10 + x + 10 * (if a < b then a / 10 + y else a / 10 - y) + 1 = a % 10 + (x + 1) + 10 * (if a < b then a / 10 + y else a / 10 - y)
    omega
  · rw [if_neg c1, if_neg c1, if_neg c1, add_neg1]
    refine (iN_sub (a := _) (b := 1) ?_).trans ?_
    · split at hx <;> omega
    · congr 1
      split at hx <;> omega
theorem cel2_sy {a b x y : Nat} (ha : a < 100) (hb : b < 100) (hx : x ≤ wdt a b) (hy : y < hgt a b) : iN (cel2 a b x y) + sY a b = iN (cel2 a b x (y + 1)) := by
  unfold hgt ds at hy
  unfold cel2 sY
  by_cases c1 : a < b
  · rw [if_pos c1, if_pos c1, if_pos c1]
    refine (add_lit 10 _).trans (congrArg iN ?_)
    show (if a % 10 < b % 10 then a % 10 + x else a % 10 - x) + 10 * (a / 10 + y) + 10 = (if a % 10 < b % 10 then a % 10 + x else a % 10 - x) + 10 * (a / 10 + (y + 1))
    omega
  · rw [if_neg c1, if_neg c1, if_neg c1]
    have e : ∀ q : Int32, q + (-10) = q - 10 := fun q => (Int32.sub_eq_add_neg q 10).symm
    rw [e]
    refine (iN_sub (a := _) (b := 10) ?_).trans ?_
    · split at hy <;> omega
    · congr 1
      split at hy <;> omega
theorem eC_lt {o : Option Nat} (h : oB o) : eC o < 1000000 ↔ ¬ o = none := by
  cases o with
  | none => exact ⟨fun e => absurd e (by show ¬ (1000000 : Int32) < 1000000; decide), fun e => (e rfl).elim⟩
  | some v =>
    have := h v rfl
    exact ⟨(by intro _ e; cases e), fun _ => (iN_lt_lit (by omega) (by omega)).mpr (by omega)⟩
theorem cl214 {n : Nat} {S : Nat → Int32} {a b x y : Nat} {z f v2 v3 v6 v7 v8 v9 : Int32} {w : Wd} {o : Option Nat} {k73 : Int32 → Int32 → Int32 → Int32 → Int32 → Int32 → Int32 → Int32 → Int32 → Wd → Option (Int32 × Wd)} {k82 : Int32 → Int32 → Int32 → Int32 → Int32 → Int32 → Int32 → Int32 → Int32 → Int32 → Wd → Option (Int32 × Wd)} (h : rQq S a b z f) (hY : YC w 0 S n) (hx : x ≤ wdt a b) (hy : y ≤ hgt a b) (ho : oB o) (hw : w.1 105 (cel2 a b x y) = 1000000) : ∃ w', fX7_leastDig_214 k73 k82 v2 v3 z f v6 v7 v8 v9 (iN y) (iN x) (iN (cel2 a b x y)) (eC o) w = k82 v2 v3 z f v6 v7 v8 v9 (iN y) (iN x - 1) w' ∧ VW w w' ∧ w'.1 105 (cel2 a b x y) = eC (o.map (fun v => v + dgN S a b z f (nr (cel2 a b x y) b) (cel2 a b x y))) ∧ ∀ i, ¬ i = cel2 a b x y → w'.1 105 i = w.1 105 i := by
  have ha := h.2.1
  have hb := h.2.2.1
  obtain ⟨q1, -⟩ := cel2_lt ha hb hx hy
  obtain ⟨g1, g2, g3, g4, g5⟩ := cel2_geo ha hb hx hy
  unfold fX7_leastDig_214
  rw [add_neg1, iN_add]
  cases o with
  | none =>
    rw [if_neg (show ¬ eC none < 1000000 from by show ¬ (1000000 : Int32) < 1000000; decide)]
    exact ⟨w, rfl, ⟨fun _ _ => rfl, rfl⟩, hw, fun _ _ => rfl⟩
  | some v =>
    have hv := ho v rfl
    obtain ⟨d1, d2⟩ := dgN_ok (l := nr (cel2 a b x y) b) h q1
    rw [show nr a b - nr (cel2 a b x y) b = x + y by omega] at d1
    rw [if_pos ((eC_lt ho).mpr (by simp)), dig_c hY q1, d1, Option.bind_some, inb_lt2 q1 (by omega), if_pos rfl, nw_eq, wi_iN (by omega)]
    refine ⟨_, rfl, VW.put ⟨fun _ _ => rfl, rfl⟩, ?_, fun i hi => by rw [si_1, if_neg (by omega)]⟩
    rw [si_at]
    exact iN_add v _
theorem eC_z : eC (some 0) = 0 := rfl
theorem cl130 {n : Nat} {S : Nat → Int32} {a b x y : Nat} {z f : Int32} {w : Wd} {k73 : Int32 → Int32 → Int32 → Int32 → Int32 → Int32 → Int32 → Int32 → Int32 → Wd → Option (Int32 × Wd)} {k82 : Int32 → Int32 → Int32 → Int32 → Int32 → Int32 → Int32 → Int32 → Int32 → Int32 → Wd → Option (Int32 × Wd)} (h : rQq S a b z f) (hY : YC w 0 S n) (hx : x ≤ wdt a b) (hy : y ≤ hgt a b) (hr : cel2 a b x y = b ∨ ¬ S (15 * cel2 a b x y + 4) = 1) (hw : CSt S a b z f (y + 1) (x + 1) w) : ∃ w', fX7_leastDig_130 k73 k82 (iN a) (iN b) z f (iN (wdt a b)) (iN (hgt a b)) (sX a b) (sY a b) (iN y) (iN x) (iN (cel2 a b x y)) w = k82 (iN a) (iN b) z f (iN (wdt a b)) (iN (hgt a b)) (sX a b) (sY a b) (iN y) (iN x - 1) w' ∧ VW w w' ∧ w'.1 105 (cel2 a b x y) = eC (rVv S a b z f (nr (cel2 a b x y) b) (cel2 a b x y)) ∧ ∀ i, ¬ i = cel2 a b x y → w'.1 105 i = w.1 105 i := by
  have ha := h.2.1
  have hb := h.2.2.1
  obtain ⟨q1, -⟩ := cel2_lt ha hb hx hy
  obtain ⟨g1, g2, g3, g4, g5⟩ := cel2_geo ha hb hx hy
  have hn := nr_lt q1 hb
  have hab := nr_lt ha hb
  have h0 : w.1 105 (cel2 a b x y) = 1000000 := (hw _ q1).2 (fun q => by
    obtain ⟨-, q | ⟨q, q'⟩⟩ := q
    · omega
    · omega)
  unfold fX7_leastDig_130
  by_cases cb : cel2 a b x y = b
  · have hz : nr (cel2 a b x y) b = 0 := by rw [cb, nr_self]
    rw [if_pos ((iN_inj (by omega) (by omega)).mpr cb)]
    unfold fX7_leastDig_142 fX7_leastDig_179
    rw [if_neg (fun e => by have := (iN_lt (by omega) (by omega)).mp e; omega), if_neg (fun e => by have := (iN_lt (by omega) (by omega)).mp e; omega)]
    obtain ⟨w', r1, r2, r3, r4⟩ := cl214 (o := some 0) (v2 := iN a) (v3 := iN b) (v6 := iN (wdt a b)) (v7 := iN (hgt a b)) (v8 := sX a b) (v9 := sY a b) (k73 := k73) (k82 := k82) h hY hx hy (fun v q => by cases q; omega) h0
    refine ⟨w', r1, r2, ?_, r4⟩
    rw [r3, hz]
    show iN (0 + dgN S a b z f 0 (cel2 a b x y)) = iN (dgN S a b z f 0 (cel2 a b x y))
    rw [Nat.zero_add]
  · obtain ⟨l, hl⟩ : ∃ l, nr (cel2 a b x y) b = l + 1 := ⟨nr (cel2 a b x y) b - 1, by
      have : ¬ nr (cel2 a b x y) b = 0 := fun q => cb (nr_0 q)
      omega⟩
    have hriv : ¬ S (15 * cel2 a b x y + 4) = 1 := by
      rcases hr with q | q
      · exact (cb q).elim
      · exact q
    rw [if_neg (fun e => cb ((iN_inj (by omega) (by omega)).mp e))]
    have X : fX7_leastDig_142 k73 k82 (iN a) (iN b) z f (iN (wdt a b)) (iN (hgt a b)) (sX a b) (sY a b) (iN y) (iN x) (iN (cel2 a b x y)) 1000000 w = fX7_leastDig_179 k73 k82 (iN a) (iN b) z f (iN (wdt a b)) (iN (hgt a b)) (sX a b) (sY a b) (iN y) (iN x) (iN (cel2 a b x y)) (eC (if x < wdt a b then rVv S a b z f l (cel2 a b (x + 1) y) else none)) w ∧ oB (if x < wdt a b then rVv S a b z f l (cel2 a b (x + 1) y) else none) := by
      unfold fX7_leastDig_142
      by_cases c : x < wdt a b
      · obtain ⟨p1, -⟩ := cel2_lt ha hb (show x + 1 ≤ wdt a b by omega) hy
        obtain ⟨s1, s2, s3, s4, -⟩ := cel2_geo ha hb (show x + 1 ≤ wdt a b by omega) hy
        have hv := (hw _ p1).1 ⟨s1, Or.inr ⟨by omega, by omega⟩⟩
        rw [show nr (cel2 a b (x + 1) y) b = l by omega] at hv
        have ob := rVv_oB h p1 (show l ≤ 18 by omega)
        rw [if_pos c, if_pos ((iN_lt (by omega) (by omega)).mpr c), cel2_sx ha hb c hy, isCell_c, Option.bind_some, if_pos (decide_eq_true (by rw [iN_toInt (by omega)]; omega)), inb_lt2 p1 (by omega), if_pos rfl, ri_iN (by omega), hv]
        refine ⟨?_, ob⟩
        have := eC_min (x := none) (y := rVv S a b z f l (cel2 a b (x + 1) y)) (fun v q => by cases q) ob
        rw [show eC none = 1000000 from rfl] at this
        rw [this]
        rfl
      · rw [if_neg c, if_neg (fun e => c ((iN_lt (by omega) (by omega)).mp e))]
        exact ⟨rfl, fun v q => by cases q⟩
    have Y : fX7_leastDig_179 k73 k82 (iN a) (iN b) z f (iN (wdt a b)) (iN (hgt a b)) (sX a b) (sY a b) (iN y) (iN x) (iN (cel2 a b x y)) (eC (if x < wdt a b then rVv S a b z f l (cel2 a b (x + 1) y) else none)) w = fX7_leastDig_214 k73 k82 (iN a) (iN b) z f (iN (wdt a b)) (iN (hgt a b)) (sX a b) (sY a b) (iN y) (iN x) (iN (cel2 a b x y)) (eC (mn4 (nbR (rVv S a b z f l) l b (cel2 a b x y)))) w ∧ oB (mn4 (nbR (rVv S a b z f l) l b (cel2 a b x y))) := by
      rw [mn4_xy ha hb hx hy hl]
      unfold fX7_leastDig_179
      by_cases c : y < hgt a b
      · obtain ⟨p1, -⟩ := cel2_lt ha hb hx (show y + 1 ≤ hgt a b by omega)
        obtain ⟨s1, s2, s3, s4, -⟩ := cel2_geo ha hb hx (show y + 1 ≤ hgt a b by omega)
        have hv := (hw _ p1).1 ⟨s1, Or.inl (by omega)⟩
        rw [show nr (cel2 a b x (y + 1)) b = l by omega] at hv
        have ob := rVv_oB h p1 (show l ≤ 18 by omega)
        rw [if_pos ((iN_lt (by omega) (by omega)).mpr c), cel2_sy ha hb hx c, isCell_c, Option.bind_some, if_pos (decide_eq_true (by rw [iN_toInt (by omega)]; omega)), inb_lt2 p1 (by omega), if_pos rfl, ri_iN (by omega), hv, if_pos c, eC_min X.2 ob]
        exact ⟨rfl, omin_oB X.2 ob⟩
      · rw [if_neg (fun e => c ((iN_lt (by omega) (by omega)).mp e)), if_neg c, omin_n]
        exact ⟨rfl, X.2⟩
    rw [X.1, Y.1]
    obtain ⟨w', r1, r2, r3, r4⟩ := cl214 (o := mn4 (nbR (rVv S a b z f l) l b (cel2 a b x y))) (v2 := iN a) (v3 := iN b) (v6 := iN (wdt a b)) (v7 := iN (hgt a b)) (v8 := sX a b) (v9 := sY a b) (k73 := k73) (k82 := k82) h hY hx hy Y.2 h0
    refine ⟨w', r1, r2, ?_, r4⟩
    rw [r3, hl, rVv_succ hriv]
theorem CSt.next {S : Nat → Int32} {a b x y : Nat} {z f : Int32} {w w' : Wd} (hw : CSt S a b z f (y + 1) (x + 1) w) (ha : a < 100) (hb : b < 100) (hx : x ≤ wdt a b) (hy : y ≤ hgt a b) (h1 : w'.1 105 (cel2 a b x y) = eC (rVv S a b z f (nr (cel2 a b x y) b) (cel2 a b x y))) (h2 : ∀ i, ¬ i = cel2 a b x y → w'.1 105 i = w.1 105 i) : CSt S a b z f (y + 1) x w' := by
  obtain ⟨g1, g2, g3, g4, g5⟩ := cel2_geo ha hb hx hy
  intro c hc
  by_cases e : c = cel2 a b x y
  · rw [e]
    exact ⟨fun _ => h1, fun q => (q ⟨g1, Or.inr ⟨by omega, by omega⟩⟩).elim⟩
  · rw [h2 c e]
    have key : pCs a b (y + 1) x c ↔ pCs a b (y + 1) (x + 1) c := by
      constructor
      · rintro ⟨r, q⟩
        refine ⟨r, ?_⟩
        rcases q with q | ⟨q, q'⟩
        · exact Or.inl q
        · refine Or.inr ⟨q, ?_⟩
          by_cases e2 : xx a c = x
          · have := (inR_cel r).1
            rw [e2, show yyc a c = y by omega] at this
            exact (e this).elim
          · omega
      · rintro ⟨r, q⟩
        exact ⟨r, by omega⟩
    rw [key]
    exact hw c hc
theorem cl82 {n : Nat} {S : Nat → Int32} {a b y : Nat} {z f : Int32} {wc : Wd} {k73 : Int32 → Int32 → Int32 → Int32 → Int32 → Int32 → Int32 → Int32 → Int32 → Wd → Option (Int32 × Wd)} (h : rQq S a b z f) (hY : YC wc 0 S n) (hy : y ≤ hgt a b) : ∀ (t fuel : Nat) (w : Wd), t ≤ wdt a b + 1 → t < fuel → VW wc w → CSt S a b z f (y + 1) t w → ∃ w', fX7_leastDig_82 k73 fuel (iN a) (iN b) z f (iN (wdt a b)) (iN (hgt a b)) (sX a b) (sY a b) (iN y) (iN t - 1) w = k73 (iN a) (iN b) z f (iN (wdt a b)) (iN (hgt a b)) (sX a b) (sY a b) (iN y - 1) w' ∧ VW wc w' ∧ CSt S a b z f (y + 1) 0 w'
  | 0, fuel + 1, w, _, _, hv, hw => by
    rw [fX7_leastDig_82, if_pos (show iN 0 - 1 < 0 by decide), add_neg1]
    exact ⟨w, rfl, hv, hw⟩
  | x + 1, fuel + 1, w, ht, hf, hv, hw => by
    have ha := h.2.1
    have hb := h.2.2.1
    have hx : x ≤ wdt a b := by omega
    obtain ⟨q1, -⟩ := cel2_lt ha hb hx hy
    obtain ⟨g1, g2, g3, g4, g5⟩ := cel2_geo ha hb hx hy
    have hab := nr_lt ha hb
    have hYw := hv.yc hY
    have hr : w.1 7 (cel2 a b x y) = S (15 * cel2 a b x y + 4) := hYw.row (j := 4) q1 (by omega)
    rw [fX7_leastDig_82, iN_s1, if_neg (iN_nneg (by omega)), cel2_eq ha hb hx hy, isCell_c, Option.bind_some, if_pos (decide_eq_true (by rw [iN_toInt (by omega)]; omega)), inb_lt2 q1 (by omega), if_pos rfl, ri_iN (by omega), hr, add_neg1]
    have go : (cel2 a b x y = b ∨ ¬ S (15 * cel2 a b x y + 4) = 1) → ∃ w', fX7_leastDig_130 k73 (fX7_leastDig_82 k73 fuel) (iN a) (iN b) z f (iN (wdt a b)) (iN (hgt a b)) (sX a b) (sY a b) (iN y) (iN x) (iN (cel2 a b x y)) w = k73 (iN a) (iN b) z f (iN (wdt a b)) (iN (hgt a b)) (sX a b) (sY a b) (iN y - 1) w' ∧ VW wc w' ∧ CSt S a b z f (y + 1) 0 w' := by
      intro hriv
      obtain ⟨w1, r1, r2, r3, r4⟩ := cl130 (k73 := k73) (k82 := fX7_leastDig_82 k73 fuel) h hYw hx hy hriv hw
      rw [r1]
      exact cl82 h hY hy x fuel w1 (by omega) (by omega) ⟨fun a ha => (r2.1 a ha).trans (hv.1 a ha), r2.2.trans hv.2⟩ (hw.next ha hb hx hy r3 r4)
    by_cases cb : cel2 a b x y = b
    · rw [if_pos ((iN_inj (by omega) (by omega)).mpr cb)]
      exact go (Or.inl cb)
    · rw [if_neg (fun e => cb ((iN_inj (by omega) (by omega)).mp e))]
      by_cases cr : S (15 * cel2 a b x y + 4) = 1
      · rw [if_pos cr]
        refine cl82 h hY hy x fuel w (by omega) (by omega) hv (hw.next ha hb hx hy ?_ (fun _ _ => rfl))
        have h0 : w.1 105 (cel2 a b x y) = 1000000 := (hw _ q1).2 (fun q => by
          obtain ⟨-, q | ⟨q, q'⟩⟩ := q
          · omega
          · omega)
        obtain ⟨l, hl⟩ : ∃ l, nr (cel2 a b x y) b = l + 1 := ⟨nr (cel2 a b x y) b - 1, by
          have : ¬ nr (cel2 a b x y) b = 0 := fun q => cb (nr_0 q)
          omega⟩
        rw [h0, hl, rVv_riv cr]
        rfl
      · rw [if_neg cr]
        exact go (Or.inr cr)
theorem cl73 {n : Nat} {S : Nat → Int32} {a b : Nat} {z f : Int32} {wc : Wd} (h : rQq S a b z f) (hY : YC wc 0 S n) : ∀ (u fuel : Nat) (w : Wd), u ≤ hgt a b + 1 → u < fuel → VW wc w → CSt S a b z f u (wdt a b + 1) w → ∃ w', fX7_leastDig_73 fuel (iN a) (iN b) z f (iN (wdt a b)) (iN (hgt a b)) (sX a b) (sY a b) (iN u - 1) w = some (eC (rVv S a b z f (nr a b) a), w') ∧ VW wc w' ∧ CSt S a b z f 0 0 w' := by
  have ha := h.2.1
  have hb := h.2.2.1
  have sw : ∀ y w, CSt S a b z f (y + 1) 0 w → CSt S a b z f y (wdt a b + 1) w := fun y w hw c hc => by
    have key : pCs a b y (wdt a b + 1) c ↔ pCs a b (y + 1) 0 c := by
      constructor
      · rintro ⟨r, q⟩
        have := (inR_cel r).2.1
        exact ⟨r, by omega⟩
      · rintro ⟨r, q⟩
        exact ⟨r, by omega⟩
    rw [key]
    exact hw c hc
  intro u
  induction u with
  | zero =>
    intro fuel w hu hf hv hw
    obtain ⟨fuel, rfl⟩ : ∃ g, fuel = g + 1 := ⟨fuel - 1, by omega⟩
    rw [fX7_leastDig_73, if_pos (show iN 0 - 1 < 0 by decide), inb_lt2 ha (by omega), if_pos rfl, ri_iN (by omega), (hw a ha).1 ⟨inR_a a b, Or.inl (by omega)⟩]
    refine ⟨w, rfl, hv, fun c hc => ?_⟩
    have key : pCs a b 0 0 c ↔ pCs a b 0 (wdt a b + 1) c := by
      constructor
      · rintro ⟨r, q⟩
        exact ⟨r, by omega⟩
      · rintro ⟨r, q⟩
        exact ⟨r, by omega⟩
    rw [key]
    exact hw c hc
  | succ y ih =>
    intro fuel w hu hf hv hw
    obtain ⟨fuel, rfl⟩ : ∃ g, fuel = g + 1 := ⟨fuel - 1, by omega⟩
    have hab := nr_lt ha hb
    obtain ⟨-, -, -, -, g5⟩ := cel2_geo ha hb (Nat.zero_le (wdt a b)) (Nat.zero_le (hgt a b))
    obtain ⟨w1, r1, r2, r3⟩ := cl82 (k73 := fX7_leastDig_73 fuel) h hY (show y ≤ hgt a b by omega) (wdt a b + 1) FU w (Nat.le_refl _) (by unfold FU; omega) hv hw
    rw [iN_s1] at r1
    rw [fX7_leastDig_73, iN_s1, if_neg (iN_nneg (by omega)), r1]
    exact ih fuel w1 (by omega) (by omega) r2 (sw y w1 r3)
theorem least_c {n : Nat} {S : Nat → Int32} {a b : Nat} {z f : Int32} {wc : Wd} (h : rQq S a b z f) (hY : YC wc 0 S n) : ∃ w', fX7_leastDig (iN a) (iN b) z f wc = some (eC (rVv S a b z f (nr a b) a), w') ∧ VW wc w' ∧ CSt S a b z f 0 0 w' := by
  have ha := h.2.1
  have hb := h.2.2.1
  have hv : VW wc (flI wc 105 100 1000000) := by
    refine ⟨fun q hq => ?_, rfl⟩
    funext i
    rw [flI_1, if_neg (by omega)]
  have hw : CSt S a b z f (hgt a b + 1) (wdt a b + 1) (flI wc 105 100 1000000) := by
    intro c hc
    refine ⟨fun q => ?_, fun _ => by rw [flI_1, if_pos ⟨rfl, hc⟩]⟩
    obtain ⟨r, q⟩ := q
    obtain ⟨-, q2, q3⟩ := inR_cel r
    omega
  obtain ⟨w', r1, r2, r3⟩ := cl73 h hY (hgt a b + 1) FU _ (Nat.le_refl _) (by unfold FU hgt ds; split <;> omega) hv hw
  rw [iN_s1] at r1
  refine ⟨w', ?_, r2, r3⟩
  have e58 : fX7_leastDig_58 (iN a) (iN b) z f (iN (wdt a b)) (iN (hgt a b)) (sX a b) (sY a b) wc = some (eC (rVv S a b z f (nr a b) a), w') := r1
  have e44 : fX7_leastDig_44 (iN a) (iN b) z f (iN (wdt a b)) (iN (hgt a b)) (sX a b) wc = some (eC (rVv S a b z f (nr a b) a), w') := by
    rw [← e58]
    unfold fX7_leastDig_44 sY
    by_cases c : a < b
    · rw [if_pos ((iN_lt (by omega) (by omega)).mpr c), if_pos c]
    · rw [if_neg (fun e => c ((iN_lt (by omega) (by omega)).mp e)), if_neg c]
  rw [← e44]
  unfold fX7_leastDig
  rw [jrm10 (by omega), jrm10 (by omega), div10 (by omega), div10 (by omega), mabs_eq (by omega) (by omega), mabs_eq (by omega) (by omega)]
  show (if _ then fX7_leastDig_44 (iN a) (iN b) z f (iN (wdt a b)) (iN (hgt a b)) 1 wc else fX7_leastDig_44 (iN a) (iN b) z f (iN (wdt a b)) (iN (hgt a b)) (-1) wc) = _
  unfold sX
  by_cases c : a % 10 < b % 10
  · rw [if_pos ((iN_lt (by omega) (by omega)).mpr c), if_pos c]
  · rw [if_neg (fun e => c ((iN_lt (by omega) (by omega)).mp e)), if_neg c]
-- MATHEMATICS: m65
def cnd (b c i d : Nat) : Prop := besN c i = some d ∧ nr d b + 1 = nr c b
def NXp (S : Nat → Int32) (a b : Nat) (z f : Int32) (c d : Nat) : Prop := ∃ i m, i < 4 ∧ cnd b c i d ∧ rVv S a b z f (nr d b) d = some m ∧ rVv S a b z f (nr c b) c = some (m + dgN S a b z f (nr c b) c) ∧ ∀ i' d' m', i' < i → cnd b c i' d' → rVv S a b z f (nr d' b) d' = some m' → m < m'
theorem adj_nr {b c d : Nat} (hc : c < 100) (hd : d < 100) (h : adj c d) : nr c b ≤ nr d b + 1 := by
  have h1 := nr_tri c d b
  have h2 := (nr_adj hc hd).mpr h
  omega
def eo (c : Nat) (o : Option Nat) : Int32 := match o with
  | none => iN c
  | some d => iN d
theorem nc_loop {S : Nat → Int32} {a b c l : Nat} {z f : Int32} {w : Wd} (h : rQq S a b z f) (hw : CSt S a b z f 0 0 w) (hc : c < 100) (hr : inR a b c) (hl : nr c b = l + 1) : ∀ (m j fuel : Nat) (ch : Option Nat), j + m = 4 → m < fuel → (∀ i d, i < j → cnd b c i d → ∃ e, ch = some e ∧ (w.1 105 e).toInt ≤ (w.1 105 d).toInt) → (∀ e, ch = some e → ∃ i, i < j ∧ cnd b c i e ∧ ∀ i' d, i' < i → cnd b c i' d → (w.1 105 e).toInt < (w.1 105 d).toInt) → ∃ ch', fX7_nextCell_5 w fuel (iN c) (iN b) (eo c ch) (iN j) = some (eo c ch') ∧ (∀ i d, i < 4 → cnd b c i d → ∃ e, ch' = some e ∧ (w.1 105 e).toInt ≤ (w.1 105 d).toInt) ∧ (∀ e, ch' = some e → ∃ i, i < 4 ∧ cnd b c i e ∧ ∀ i' d, i' < i → cnd b c i' d → (w.1 105 e).toInt < (w.1 105 d).toInt)
  | 0, j, fuel + 1, ch, hj, _, h1, h2 => by
    obtain rfl : j = 4 := by omega
    rw [fX7_nextCell_5, if_neg (show ¬ iN 4 < 4 by decide)]
    exact ⟨ch, rfl, h1, h2⟩
  | m + 1, j, fuel + 1, ch, hj, hf, h1, h2 => by
    have hb := h.2.2.1
    have hcb := nr_lt hc hb
    have skip : (∀ d, ¬ cnd b c j d) → ∃ ch', fX7_nextCell_5 w fuel (iN c) (iN b) (eo c ch) (iN (j + 1)) = some (eo c ch') ∧ (∀ i d, i < 4 → cnd b c i d → ∃ e, ch' = some e ∧ (w.1 105 e).toInt ≤ (w.1 105 d).toInt) ∧ (∀ e, ch' = some e → ∃ i, i < 4 ∧ cnd b c i e ∧ ∀ i' d, i' < i → cnd b c i' d → (w.1 105 e).toInt < (w.1 105 d).toInt) := fun hno => nc_loop h hw hc hr hl m (j + 1) fuel ch (by omega) (by omega) (fun i d hi hd => by
        by_cases e : i = j
        · subst e
          exact (hno d hd).elim
        · exact h1 i d (by omega) hd) (fun e he => by
        obtain ⟨i, i1, i2, i3⟩ := h2 e he
        exact ⟨i, by omega, i2, i3⟩)
    rw [fX7_nextCell_5, if_pos ((iN_lt_lit (by omega) (by omega)).mpr (show j < 4 by omega)), bes_c hc (by omega), Option.bind_some, add_lit]
    cases e : besN c j with
    | none =>
      rw [if_pos (show enc1 none = -1 from rfl)]
      exact skip (fun d q => by have := q.1; rw [e] at this; cases this)
    | some d =>
      obtain ⟨hd, had⟩ := besN_adj hc e
      have hdb := nr_lt hd hb
      have hnr := adj_nr (b := b) hc hd had
      rw [if_neg (enc1_ne (by omega)), show enc1 (some d) = iN d from rfl, near_c hd hb, near_c hc hb, Option.bind_some, Option.bind_some]
      by_cases q : nr d b < nr c b
      · have hcd : cnd b c j d := ⟨e, by omega⟩
        rw [if_pos ((iN_lt (by omega) (by omega)).mpr q)]
        cases ch with
        | none =>
          rw [if_pos (show eo c none = iN c from rfl)]
          refine nc_loop h hw hc hr hl m (j + 1) fuel (some d) (by omega) (by omega) (fun i d' hi hd' => ?_) (fun e' he' => ?_)
          · by_cases e2 : i = j
            · subst e2
              have := hd'.1
              rw [e] at this
              cases this
              exact ⟨d, rfl, Int.le_refl _⟩
            · obtain ⟨x, x1, -⟩ := h1 i d' (by omega) hd'
              cases x1
          · cases he'
            refine ⟨j, by omega, hcd, fun i' d' hi' hd' => ?_⟩
            obtain ⟨x, x1, -⟩ := h1 i' d' hi' hd'
            cases x1
        | some p =>
          obtain ⟨ip, ip1, ip2, ip3⟩ := h2 p rfl
          have hp := (besN_adj hc ip2.1).1
          rw [if_neg (show ¬ eo c (some p) = iN c from fun q2 => by
            have := (iN_inj (by omega) (by omega)).mp q2
            rw [this] at ip2
            have := ip2.2
            omega), show eo c (some p) = iN p from rfl, inb_lt2 hd (by omega), if_pos rfl, inb_lt2 hp (by omega), if_pos rfl, ri_iN (by omega), ri_iN (by omega)]
          by_cases q3 : w.1 105 d < w.1 105 p
          · have q3' := lt_I.mp q3
            rw [if_pos q3]
            refine nc_loop h hw hc hr hl m (j + 1) fuel (some d) (by omega) (by omega) (fun i d' hi hd' => ?_) (fun e' he' => ?_)
            · by_cases e2 : i = j
              · subst e2
                have := hd'.1
                rw [e] at this
                cases this
                exact ⟨d, rfl, Int.le_refl _⟩
              · obtain ⟨x, x1, x2⟩ := h1 i d' (by omega) hd'
                cases x1
                exact ⟨d, rfl, by omega⟩
            · cases he'
              refine ⟨j, by omega, hcd, fun i' d' hi' hd' => ?_⟩
              obtain ⟨x, x1, x2⟩ := h1 i' d' hi' hd'
              cases x1
              omega
          · have q3' : ¬ (w.1 105 d).toInt < (w.1 105 p).toInt := fun e => q3 (lt_I.mpr e)
            rw [if_neg q3]
            refine nc_loop h hw hc hr hl m (j + 1) fuel (some p) (by omega) (by omega) (fun i d' hi hd' => ?_) (fun e' he' => ?_)
            · by_cases e2 : i = j
              · subst e2
                have := hd'.1
                rw [e] at this
                cases this
                exact ⟨p, rfl, by omega⟩
              · exact h1 i d' (by omega) hd'
            · cases he'
              exact ⟨ip, by omega, ip2, ip3⟩
      · rw [if_neg (fun e2 => q ((iN_lt (by omega) (by omega)).mp e2))]
        exact skip (fun d' q2 => by
          have h3 := q2.1
          rw [e] at h3
          cases h3
          have := q2.2
          omega)
def zC : Option Nat → Int
  | none => 1000000
  | some v => (v : Int)
theorem eC_toInt {o : Option Nat} (h : oB o) : (eC o).toInt = zC o := by
  cases o with
  | none => rfl
  | some v =>
    have := h v rfl
    exact iN_toInt (by omega)
theorem nc_eq {S : Nat → Int32} {a b c l v : Nat} {z f : Int32} {w : Wd} (h : rQq S a b z f) (hw : CSt S a b z f 0 0 w) (hc : c < 100) (hr : inR a b c) (hl : nr c b = l + 1) (hv : rVv S a b z f (l + 1) c = some v) : ∃ d, fX7_nextCell (iN c) (iN b) w = some (iN d) ∧ NXp S a b z f c d := by
  have hb := h.2.2.1
  have hcb := nr_lt hc hb
  obtain ⟨ch, e1, e2, e3⟩ := nc_loop h hw hc hr hl 4 0 FU none (by omega) (by unfold FU; omega) (fun i d hi => by omega) (fun e he => by cases he)
  have hcr : ¬ S (15 * c + 4) = 1 := fun q => by
    rw [rVv_riv q] at hv
    cases hv
  rw [rVv_succ hcr] at hv
  cases em : mn4 (nbR (rVv S a b z f l) l b c) with
  | none =>
    rw [em] at hv
    cases hv
  | some m =>
    rw [em] at hv
    have hv' : v = m + dgN S a b z f (l + 1) c := by cases hv; rfl
    obtain ⟨k, k1, k2⟩ := mn4_of em
    obtain ⟨d0, d1, d2, d3⟩ := nbR_of k2
    have hd0 := (besN_adj hc d1).1
    have val : ∀ i d, cnd b c i d → d < 100 ∧ w.1 105 d = eC (rVv S a b z f l d) ∧ nr d b = l ∧ oB (rVv S a b z f l d) := fun i d q => by
      obtain ⟨hd, had⟩ := besN_adj hc q.1
      have hn : nr d b = l := by have := q.2; omega
      have hin := inR_step hc hd hr had hl hn
      have := (hw d hd).1 ⟨hin, Or.inl (by omega)⟩
      rw [hn] at this
      exact ⟨hd, this, hn, rVv_oB h hd (by omega)⟩
    have cd0 : cnd b c k d0 := ⟨d1, by omega⟩
    obtain ⟨e, ee, el⟩ := e2 k d0 k1 cd0
    obtain ⟨i, i1, i2, i3⟩ := e3 e ee
    obtain ⟨v1, v2, v3, v4⟩ := val i e i2
    obtain ⟨u1, u2, u3, u4⟩ := val k d0 cd0
    rw [v2, u2, eC_toInt v4, eC_toInt u4, d3] at el
    have lb : ∀ i' d' m', i' < 4 → cnd b c i' d' → rVv S a b z f l d' = some m' → m ≤ m' := fun i' d' m' h1 h2 h3 => by
      have hg : nbR (rVv S a b z f l) l b c i' = some m' := by
        unfold nbR
        rw [h2.1]
        show (if nr d' b = l then rVv S a b z f l d' else none) = _
        rw [if_pos (by have := h2.2; omega)]
        exact h3
      obtain ⟨x, x1, x2⟩ := mn4_lb h1 hg
      rw [em] at x1
      cases x1
      exact x2
    have hm0 := u4 m d3
    have he : rVv S a b z f l e = some m := by
      cases ev : rVv S a b z f l e with
      | none =>
        rw [ev] at el
        have el' : (1000000 : Int) ≤ (m : Int) := el
        omega
      | some m' =>
        rw [ev] at el
        have el' : (m' : Int) ≤ (m : Int) := el
        have := lb i e m' i1 i2 ev
        rw [show m' = m by omega]
    subst ee
    refine ⟨e, ?_, i, m, i1, i2, by rw [v3]; exact he, ?_, fun i' d' m' h1 h2 h3 => ?_⟩
    · exact e1
    · rw [hl, rVv_succ hcr, em]
      rfl
    · obtain ⟨t1, t2, t3, t4⟩ := val i' d' h2
      rw [t3] at h3
      have := i3 i' d' h1 h2
      rw [v2, t2, eC_toInt v4, eC_toInt t4, he, h3] at this
      have this' : (m : Int) < (m' : Int) := this
      omega
theorem nc_self {b : Nat} {w : Wd} (hb : b < 100) : ∀ (m j fuel : Nat), j + m = 4 → m < fuel → fX7_nextCell_5 w fuel (iN b) (iN b) (iN b) (iN j) = some (iN b)
  | 0, j, fuel + 1, hj, _ => by
    obtain rfl : j = 4 := by omega
    rw [fX7_nextCell_5, if_neg (show ¬ iN 4 < 4 by decide)]
  | m + 1, j, fuel + 1, hj, hf => by
    have ih := nc_self (w := w) hb m (j + 1) fuel (by omega) (by omega)
    rw [fX7_nextCell_5, if_pos ((iN_lt_lit (by omega) (by omega)).mpr (show j < 4 by omega)), bes_c hb (by omega), Option.bind_some, add_lit]
    cases e : besN b j with
    | none =>
      rw [if_pos (show enc1 none = -1 from rfl)]
      exact ih
    | some d =>
      have hd := (besN_adj hb e).1
      have hn := nr_lt hd hb
      rw [if_neg (enc1_ne (by omega)), show enc1 (some d) = iN d from rfl, near_c hd hb, near_c hb hb, Option.bind_some, Option.bind_some, nr_self, if_neg (fun q => by have := (iN_lt (by omega) (by omega)).mp q; omega)]
      exact ih
def UW (wb w : Wd) : Prop := (∀ a, ¬ a = 103 → ¬ a = 104 → w.1 a = wb.1 a) ∧ w.2 = wb.2
theorem UW.put {wb w : Wd} {a i : Nat} {x : Int32} (hw : UW wb w) (ha : a = 103 ∨ a = 104) : UW wb (si w a i x) := ⟨fun b h1 h2 => (si_oth (by omega)).trans (hw.1 b h1 h2), hw.2⟩
theorem fol_loop {S : Nat → Int32} {a b : Nat} {z f : Int32} {wb : Wd} (h : rQq S a b z f) (hw : CSt S a b z f 0 0 wb) (h102 : wb.1 102 0 = iN (nr a b + 1)) : ∀ (m i fuel c : Nat) (w : Wd), i + m = nr a b → m + 1 < fuel → UW wb w → c < 100 → inR a b c → nr c b = m → (∃ v, rVv S a b z f (nr c b) c = some v) → ∃ (p : Nat → Nat) (w' : Wd), fX7_follow_17 fuel (iN b) z f (iN c) (iN i) w = some w' ∧ UW wb w' ∧ p i = c ∧ (∀ j, i ≤ j → j < nr a b → NXp S a b z f (p j) (p (j + 1))) ∧ (∀ j, i ≤ j → j ≤ nr a b → w'.1 103 j = iN (p j) ∧ w'.1 104 j = z - f * iN j) ∧ ∀ j, j < i → w'.1 103 j = w.1 103 j ∧ w'.1 104 j = w.1 104 j := by
  have ha := h.2.1
  have hb := h.2.2.1
  have hab := nr_lt ha hb
  intro m
  induction m with
  | zero =>
    intro i fuel c w hi hf ht hc hr hn hv
    obtain ⟨fuel, rfl⟩ : ∃ g, fuel = g + 1 + 1 := ⟨fuel - 2, by omega⟩
    obtain rfl := nr_0 hn
    obtain rfl : i = nr a c := by omega
    have hself : ∀ w, fX7_nextCell (iN c) (iN c) w = some (iN c) := fun w => nc_self hc 4 0 FU (by omega) (by unfold FU; omega)
    have e102 : ∀ x y : Int32, (si (si w 103 (nr a c) x) 104 (nr a c) y).1 102 0 = iN (nr a c + 1) := fun x y => by rw [si_oth (by omega), si_oth (by omega), ht.1 102 (by omega) (by omega), h102]
    rw [fX7_follow_17, ht.1 102 (by omega) (by omega), h102, if_pos ((iN_lt (by omega) (by omega)).mpr (by omega)), if_pos ((iN_lt_lit (by omega) (by omega)).mpr (by omega)), inb_lt2 (by omega) (by omega), if_pos rfl, nw_eq, nw_eq, wi_iN (by omega), wi_iN (by omega), hself, Option.bind_some, add_lit, fX7_follow_17, e102, if_neg (by rw [lt_I]; exact Int.lt_irrefl _)]
    refine ⟨fun _ => c, _, rfl, (ht.put (by omega)).put (by omega), rfl, fun j h1 h2 => by omega, fun j h1 h2 => ?_, fun j hj => ?_⟩
    · obtain rfl : j = nr a c := by omega
      exact ⟨by rw [si_oth (by omega), si_at], by rw [si_at]⟩
    · exact ⟨by rw [si_oth (by omega), si_1, if_neg (by omega)], by rw [si_1, if_neg (by omega), si_oth (by omega)]⟩
  | succ m ih =>
    intro i fuel c w hi hf ht hc hr hn hv
    obtain ⟨fuel, rfl⟩ : ∃ g, fuel = g + 1 := ⟨fuel - 1, by omega⟩
    obtain ⟨v, hv⟩ := hv
    rw [hn] at hv
    have hw2 : CSt S a b z f 0 0 (si (si w 103 i (iN c)) 104 i (z - f * iN i)) := fun c hc => by
      rw [si_oth (by omega), si_oth (by omega), ht.1 105 (by omega) (by omega)]
      exact hw c hc
    obtain ⟨d, d1, d2⟩ := nc_eq h hw2 hc hr hn hv
    obtain ⟨k, mm, k1, k2, k3, k4, k5⟩ := d2
    obtain ⟨hd, had⟩ := besN_adj hc k2.1
    have hnd : nr d b = m := by have := k2.2; omega
    rw [fX7_follow_17, ht.1 102 (by omega) (by omega), h102, if_pos ((iN_lt (by omega) (by omega)).mpr (by omega)), if_pos ((iN_lt_lit (by omega) (by omega)).mpr (by omega)), inb_lt2 (by omega) (by omega), if_pos rfl, nw_eq, nw_eq, wi_iN (by omega), wi_iN (by omega), d1, Option.bind_some, add_lit]
    obtain ⟨p, w', r1, r2, r3, r4, r5, r6⟩ := ih (i + 1) fuel d (si (si w 103 i (iN c)) 104 i (z - f * iN i)) (by omega) (by omega) ((ht.put (a := 103) (by omega)).put (a := 104) (by omega)) hd (inR_step hc hd hr had hn hnd) hnd ⟨mm, k3⟩
    refine ⟨fun j => if j = i then c else p j, w', r1, r2, by simp, fun j h1 h2 => ?_, fun j h1 h2 => ?_, fun j hj => ?_⟩
    · show NXp S a b z f (if j = i then c else p j) (if j + 1 = i then c else p (j + 1))
      rw [if_neg (show ¬ j + 1 = i by omega)]
      by_cases e : j = i
      · rw [if_pos e, e, r3]
        exact ⟨k, mm, k1, k2, k3, k4, k5⟩
      · rw [if_neg e]
        exact r4 j (by omega) h2
    · show w'.1 103 j = iN (if j = i then c else p j) ∧ _
      by_cases e : j = i
      · subst e
        rw [if_pos rfl]
        obtain ⟨s1, s2⟩ := r6 j (by omega)
        exact ⟨by rw [s1, si_oth (by omega), si_at], by rw [s2, si_at]⟩
      · rw [if_neg e]
        exact r5 j (by omega) h2
    · obtain ⟨s1, s2⟩ := r6 j (by omega)
      exact ⟨by rw [s1, si_oth (by omega), si_1, if_neg (by omega)], by rw [s2, si_1, if_neg (by omega), si_oth (by omega)]⟩
theorem rm334 {S : Nat → Int32} {a b c d i0 : Nat} {z f v1 : Int32} {w : Wd} {k321 : Int32 → Int32 → Int32 → Int32 → Int32 → Int32 → Int32 → Wd → Option (Int32 × Wd)} (h : rQq S a b z f) (hS : w.1 149 = S) (hw : RSt S a b z f (nr a b + 1) 0 w) (hc : c < 100) (hr : inR a b c) (hi0 : nr c b + i0 = nr a b + 1) (hi1 : 1 ≤ i0) (hcb : ¬ c = b) {i m : Nat} (n1 : i < 4) (n2 : cnd b c i d) (n3 : rVv S a b z f (nr d b) d = some m) (n4 : rVv S a b z f (nr c b) c = some (m + dgN S a b z f (nr c b) c)) (n5 : ∀ i' d' m', i' < i → cnd b c i' d' → rVv S a b z f (nr d' b) d' = some m' → m < m') : ∀ (t fuel : Nat) (x : Int32), t ≤ 4 → t < fuel → (t ≤ i → x = iN d) → fX12_route_334 k321 fuel v1 (iN b) z f (iN (nr a b)) (iN c) (iN i0) x (iN t - 1) w = k321 v1 (iN b) z f (iN (nr a b)) (iN d) (iN (i0 + 1)) (si w 151 i0 (iN d)) := by
  have ha := h.2.1
  have hb := h.2.2.1
  have hab := nr_lt ha hb
  have hnc := nr_lt hc hb
  have hcb0 : ¬ nr c b = 0 := fun q => hcb (nr_0 q)
  have sub1 : iN (nr a b) - iN i0 = iN (nr c b - 1) := by
    rw [iN_sub (by omega)]
    congr 1
    omega
  have dge : fX12_digOf (iN c) (z - f * (iN i0 - 1)) w = some (iN (dgN S a b z f (nr c b) c)) ∧ dgN S a b z f (nr c b) c ≤ 2700 := by
    obtain ⟨q1, q2⟩ := dgN_ok (l := nr c b) h hc
    obtain ⟨j, rfl⟩ : ∃ j, i0 = j + 1 := ⟨i0 - 1, by omega⟩
    rw [iN_s1, dig_m hc, hS, ← q1, show nr a b - nr c b = j by omega]
    exact ⟨rfl, q2⟩
  have hbest : w.1 152 c = iN (m + dgN S a b z f (nr c b) c) := by
    rw [hw c hc hr (Or.inl (by omega)), n4]
    rfl
  have hm : m < 1000000 := rVv_oB h (besN_adj hc n2.1).1 (by have := n2.2; omega) m n3
  intro t
  induction t with
  | zero =>
    intro fuel x ht hf hx
    obtain ⟨fuel, rfl⟩ : ∃ g, fuel = g + 1 := ⟨fuel - 1, by omega⟩
    rw [fX12_route_334, if_pos (show iN 0 - 1 < 0 by decide), inb_lt2 (by omega) (by omega), if_pos rfl, nw_eq, wi_iN (by omega), hx (by omega), add_lit]
  | succ t ih =>
    intro fuel x ht hf hx
    obtain ⟨fuel, rfl⟩ : ∃ g, fuel = g + 1 := ⟨fuel - 1, by omega⟩
    rw [fX12_route_334, iN_s1, if_neg (iN_nneg (by omega)), bes_m hc (by omega), Option.bind_some, add_neg1]
    have skip : (¬ t = i) → fX12_route_334 k321 fuel v1 (iN b) z f (iN (nr a b)) (iN c) (iN i0) x (iN t - 1) w = k321 v1 (iN b) z f (iN (nr a b)) (iN d) (iN (i0 + 1)) (si w 151 i0 (iN d)) := fun hne => ih fuel x (by omega) (by omega) (fun q => hx (by omega))
    cases e : besN c t with
    | none =>
      rw [if_pos (show enc1 none = -1 from rfl)]
      exact skip (fun q => by rw [q, n2.1] at e; cases e)
    | some d' =>
      obtain ⟨hd', had'⟩ := besN_adj hc e
      have hnd' := nr_lt hd' hb
      rw [if_neg (enc1_ne (by omega)), show enc1 (some d') = iN d' from rfl, near_m hd' hb, Option.bind_some, sub1]
      by_cases q : nr d' b = nr c b - 1
      · have cd' : cnd b c t d' := ⟨e, by omega⟩
        have hb' : w.1 152 d' = eN (rVv S a b z f (nr d' b) d') := hw d' hd' (inR_step (l := nr d' b) hc hd' hr had' (by omega) rfl) (Or.inl (by omega))
        have ob := rVv_oB h hd' (show nr d' b ≤ 18 by omega)
        rw [if_pos ((iN_inj (by omega) (by omega)).mpr q), inb_lt2 hd' (by omega), if_pos rfl, ri_iN (by omega), hb', dge.1, Option.bind_some, inb_lt2 hc (by omega), if_pos rfl, ri_iN (by omega), hbest]
        by_cases qi : t = i
        · subst qi
          have : d' = d := by
            have := n2.1
            rw [e] at this
            cases this
            rfl
          subst this
          rw [n3, if_pos (show eN (some m) < 100000000 from (iN_lt_lit (by omega) (by omega)).mpr (by omega)), show eN (some m) = iN m from rfl, iN_add, if_pos rfl]
          exact ih fuel (iN d') (by omega) (by omega) (fun _ => rfl)
        · cases ev : rVv S a b z f (nr d' b) d' with
          | none =>
            rw [if_neg (show ¬ eN none < 100000000 by show ¬ (100000000 : Int32) < 100000000; decide)]
            exact skip qi
          | some m' =>
            have hm' := ob m' ev
            rw [if_pos (show eN (some m') < 100000000 from (iN_lt_lit (by omega) (by omega)).mpr (by omega)), show eN (some m') = iN m' from rfl, iN_add]
            by_cases q2 : m' = m
            · -- the same least further on: the later one is written over
              rw [if_pos (by rw [q2])]
              refine ih fuel (iN d') (by omega) (by omega) (fun q3 => ?_)
              have hti : t < i := by omega
              have := n5 t d' m' hti cd' ev
              omega
            · rw [if_neg (fun q3 => by have := (iN_inj (by omega) (by omega)).mp q3; omega)]
              exact skip qi
      · rw [if_neg (fun q2 => q ((iN_inj (by omega) (by omega)).mp q2))]
        exact skip (fun q2 => by
          rw [q2, n2.1] at e
          cases e
          have := n2.2
          omega)
def XW1 (wb w : Wd) : Prop := (∀ a, ¬ a = 151 → w.1 a = wb.1 a) ∧ w.2 = wb.2
theorem rm321 {S : Nat → Int32} {a b : Nat} {z f : Int32} {wb : Wd} {p : Nat → Nat} (h : rQq S a b z f) (hS : wb.1 149 = S) (hw : RSt S a b z f (nr a b + 1) 0 wb) (hn : ∀ j, j < nr a b → NXp S a b z f (p j) (p (j + 1))) (hp0 : p 0 = a) : ∀ (m i fuel : Nat) (w : Wd), i + m = nr a b → m < fuel → XW1 wb w → p i < 100 → inR a b (p i) → nr (p i) b = m → ∃ w', fX12_route_321 fuel (iN a) (iN b) z f (iN (nr a b)) (iN (p i)) (iN (i + 1)) w = some (wb.1 152 a, w') ∧ XW1 wb w' ∧ (∀ j, i < j → j ≤ nr a b → w'.1 151 j = iN (p j)) ∧ ∀ j, j ≤ i → w'.1 151 j = w.1 151 j := by
  have ha := h.2.1
  have hb := h.2.2.1
  have hab := nr_lt ha hb
  intro m
  induction m with
  | zero =>
    intro i fuel w hi hf ht hc hr hz
    obtain ⟨fuel, rfl⟩ : ∃ g, fuel = g + 1 := ⟨fuel - 1, by omega⟩
    rw [fX12_route_321, if_pos ((iN_lt (by omega) (by omega)).mpr (by omega)), inb_lt2 ha (by omega), if_pos rfl, ri_iN (by omega), ht.1 152 (by omega)]
    exact ⟨w, rfl, ht, fun j h1 h2 => by omega, fun _ _ => rfl⟩
  | succ m ih =>
    intro i fuel w hi hf ht hc hr hz
    obtain ⟨fuel, rfl⟩ : ∃ g, fuel = g + 1 := ⟨fuel - 1, by omega⟩
    obtain ⟨k, mm, k1, k2, k3, k4, k5⟩ := hn i (by omega)
    obtain ⟨hd, had⟩ := besN_adj hc k2.1
    have hnd : nr (p (i + 1)) b = m := by have := k2.2; omega
    have e := rm334 (k321 := fX12_route_321 fuel) (v1 := iN a) (i0 := i + 1) (w := w) h (by rw [ht.1 149 (by omega)]; exact hS) (fun c q1 q2 q3 => by rw [ht.1 152 (by omega)]; exact hw c q1 q2 q3) hc hr (by omega) (by omega) (fun q => by rw [q, nr_self] at hz; cases hz) k1 k2 k3 k4 k5 4 FU (-1) (Nat.le_refl _) (by unfold FU; omega) (fun q => by omega)
    rw [show iN 4 - 1 = 3 by decide] at e
    rw [fX12_route_321, if_neg (fun q => by have := (iN_lt (by omega) (by omega)).mp q; omega), e]
    obtain ⟨w', r1, r2, r3, r4⟩ := ih (i + 1) fuel (si w 151 (i + 1) (iN (p (i + 1)))) (by omega) (by omega) ⟨fun a ha => (si_oth ha).trans (ht.1 a ha), ht.2⟩ hd (inR_step hc hd hr had hz hnd) hnd
    refine ⟨w', r1, r2, fun j h1 h2 => ?_, fun j hj => ?_⟩
    · by_cases e2 : j = i + 1
      · rw [e2, r4 (i + 1) (Nat.le_refl _), si_at]
      · exact r3 j (by omega) h2
    · rw [r4 j (by omega), si_1, if_neg (by omega)]
-- MATHEMATICS: m66
theorem route_go {n a b : Nat} {wc wm : Wd} {z f : Int32} (h : YY n wc wm) (hab : ¬ a = b) (hq : rQq (wm.1 149) a b z f) : ∃ r wc' wm', ((fX7_leastDig (iN a) (iN b) z f wc).bind fun v_12 => if v_12.1 < (1000000 : Int32) then (fX7_follow (iN a) (iN b) z f v_12.2).bind fun v_14 => some (v_12.1, v_14) else some ((-3 : Int32), v_12.2)) = some (r, wc') ∧ fX12_route_74 FU (iN a) (iN b) z f (iN (nr a b)) 0 wm = some (r, wm') ∧ YY n wc' wm' := by
  have ha := hq.2.1
  have hb := hq.2.2.1
  have hN := nr_lt ha hb
  have hN0 : ¬ nr a b = 0 := fun q => hab (nr_0 q)
  obtain ⟨w1, c1, c2, c3⟩ := least_c hq h.1
  obtain ⟨w2, m1, m2, m3⟩ := rm74 (wb := wm) hq rfl (nr a b + 1) 0 FU wm (by omega) (by unfold FU; omega) ⟨fun _ _ => rfl, rfl⟩ (fun c hc hr q => by omega)
  rw [show iN 0 = 0 from rfl] at m1
  have ob := rVv_oB hq ha hN
  have hE : w2.1 152 a = eN (rVv (wm.1 149) a b z f (nr a b) a) := m3 a ha (inR_a a b) (Or.inl (by omega))
  have lt : iN (nr a b) < iN (nr a b + 1) := (iN_lt (by omega) (by omega)).mpr (by omega)
  rw [c1, Option.bind_some, m1, fX12_route_74, if_pos lt, inb_lt2 ha (by omega), if_pos rfl, ri_iN (by omega), hE]
  have hY1 : YY n w1 wm := by
    obtain ⟨k1, k2, k3, k4, k5, k6, k7⟩ := h
    refine ⟨k1.cong (fun a ha => c2.1 a (by omega)), k2.cong (fun a ha => c2.1 a (by omega)) rfl rfl, k3.cong (fun a ha => ⟨c2.1 a (by omega), by rw [c2.2]⟩) rfl rfl rfl, k4.cong (c2.1 _ (by omega)) (c2.1 _ (by omega)) rfl rfl, k5.cong (fun a ha => c2.1 a (by omega)) (fun _ _ => rfl) rfl, k6.cong (by rw [c2.1 106 (by omega)]) (fun a ha => c2.1 a (by omega)) (fun a ha => c2.1 a (by omega)) rfl (fun _ _ => rfl), ?_⟩
    rw [c2.1 0 (by omega)]
    exact k7
  have hY2 : YY n w1 w2 := hY1.fl (fun _ _ => rfl) rfl (fun a q1 q2 q3 q4 => m2.1 a (by omega)) m2.2 (fun j _ _ => by rw [m2.1 148 (by omega)])
  cases ev : rVv (wm.1 149) a b z f (nr a b) a with
  | none =>
    rw [if_neg (show ¬ eN none < 100000000 by show ¬ (100000000 : Int32) < 100000000; decide)]
    refine ⟨-3, w1, w2, ?_, rfl, hY2⟩
    show (if eC none < 1000000 then _ else some ((-3 : Int32), w1)) = _
    rw [if_neg (show ¬ eC none < 1000000 by show ¬ (1000000 : Int32) < 1000000; decide)]
  | some v =>
    have hv := ob v ev
    rw [if_pos (show eN (some v) < 100000000 from (iN_lt_lit (by omega) (by omega)).mpr (by omega))]
    have e102 : (si w1 102 0 (iN (nr a b) + 1)).1 102 0 = iN (nr a b + 1) := by
      rw [si_at]
      exact add_lit 1 _
    have c3' : CSt (wm.1 149) a b z f 0 0 (si w1 102 0 (iN (nr a b) + 1)) := fun c hc => by
      rw [si_oth (by omega)]
      exact c3 c hc
    obtain ⟨p, w3, f1, f2, f3, f4, f5, -⟩ := fol_loop hq c3' e102 (nr a b) 0 FU a (si w1 102 0 (iN (nr a b) + 1)) (by omega) (by unfold FU; omega) ⟨fun _ _ _ => rfl, rfl⟩ ha (inR_a a b) rfl ⟨v, ev⟩
    rw [show iN 0 = 0 from rfl] at f1
    have hfol : fX7_follow (iN a) (iN b) z f w1 = some w3 := by
      unfold fX7_follow
      rw [near_c ha hb, Option.bind_some, nw_eq]
      exact f1
    have hp : ∀ j, j ≤ nr a b → p j < 100 ∧ inR a b (p j) ∧ nr (p j) b + j = nr a b := by
      intro j
      induction j with
      | zero =>
        intro _
        rw [f3]
        exact ⟨ha, inR_a a b, by omega⟩
      | succ j ih =>
        intro hj
        obtain ⟨i1, i2, i3⟩ := ih (by omega)
        obtain ⟨k, mm, k1, k2, -⟩ := f4 j (by omega) (by omega)
        obtain ⟨hd, had⟩ := besN_adj i1 k2.1
        have := k2.2
        exact ⟨hd, inR_step (l := nr (p (j + 1)) b) i1 hd i2 had (by omega) rfl, by omega⟩
    have q149 : (si (si (si (si w2 148 7 z) 148 8 f) 148 6 (iN (nr a b) + 1)) 151 0 (iN a)).1 149 = wm.1 149 := by
      rw [si_oth (by omega), si_oth (by omega), si_oth (by omega), si_oth (by omega), m2.1 149 (by omega)]
    have q152 : (si (si (si (si w2 148 7 z) 148 8 f) 148 6 (iN (nr a b) + 1)) 151 0 (iN a)).1 152 = w2.1 152 := by
      rw [si_oth (by omega), si_oth (by omega), si_oth (by omega), si_oth (by omega)]
    obtain ⟨w4, g1, g2, g3, g4⟩ := rm321 (wb := si (si (si (si w2 148 7 z) 148 8 f) 148 6 (iN (nr a b) + 1)) 151 0 (iN a)) hq q149 (fun c hc hr q => by rw [q152]; exact m3 c hc hr q) (fun j hj => f4 j (by omega) hj) f3 (nr a b) 0 FU _ (by omega) (by unfold FU; omega) ⟨fun _ _ => rfl, rfl⟩ (by rw [f3]; exact ha) (by rw [f3]; exact inR_a a b) (by rw [f3])
    rw [f3, q152, hE, ev, show iN (0 + 1) = 1 from rfl] at g1
    refine ⟨iN v, w3, w4, ?_, ?_, ?_⟩
    · show (if eC (some v) < 1000000 then _ else _) = _
      rw [if_pos (show eC (some v) < 1000000 from (eC_lt (by rw [← ev]; exact ob)).mpr (by simp))]
      show ((fX7_follow (iN a) (iN b) z f w1).bind fun v_14 => some (eC (some v), v_14)) = _
      rw [hfol]
      rfl
    · rw [nw_eq, nw_eq, nw_eq, nw_eq]
      exact g1
    · have k0 : ∀ a, ¬ (102 ≤ a ∧ a ≤ 105) → w3.1 a = wc.1 a := fun a ha => by
        rw [f2.1 a (by omega) (by omega), si_oth (by omega), c2.1 a (by omega)]
      have k0' : w3.2 = wc.2 := f2.2.trans c2.2
      have e0 : ∀ a, ¬ a = 148 → ¬ a = 151 → ¬ a = 152 → w4.1 a = wm.1 a := fun a q1 q2 q3 => by
        rw [g2.1 a q2, si_oth q2, si_oth q1, si_oth q1, si_oth q1, m2.1 a q3]
      have e8 : ∀ j, w4.1 148 j = if j = 6 then iN (nr a b) + 1 else if j = 8 then f else if j = 7 then z else wm.1 148 j := fun j => by
        rw [g2.1 148 (by omega), si_oth (by omega), si_1, si_1, si_1, m2.1 148 (by omega)]
        by_cases q6 : j = 6
        · rw [if_pos ⟨rfl, q6⟩, if_pos q6]
        · rw [if_neg (by omega), if_neg q6]
          by_cases q8 : j = 8
          · rw [if_pos ⟨rfl, q8⟩, if_pos q8]
          · rw [if_neg (by omega), if_neg q8]
            by_cases q7 : j = 7
            · rw [if_pos ⟨rfl, q7⟩, if_pos q7]
            · rw [if_neg (by omega), if_neg q7]
      have e2 : w4.2 = wm.2 := g2.2.trans m2.2
      have L6 : w4.1 148 6 = iN (nr a b + 1) := by
        rw [e8, if_pos rfl]
        exact add_lit 1 _
      have r151 : ∀ i, i ≤ nr a b → w4.1 151 i = iN (p i) := fun i hi => by
        by_cases q : i = 0
        · rw [q, g4 0 (Nat.le_refl _), si_at, f3]
        · exact g3 i (by omega) hi
      obtain ⟨k1, k2, k3, k4, k5, k6, k7⟩ := h
      refine ⟨?_, k2.cong (fun a ha => k0 a (by omega)) (e0 _ (by omega) (by omega) (by omega)) (e0 _ (by omega) (by omega) (by omega)), k3.cong (fun a ha => ⟨k0 a (by omega), by rw [k0']⟩) (e0 _ (by omega) (by omega) (by omega)) (e0 _ (by omega) (by omega) (by omega)) (by rw [e2]), k4.cong (k0 _ (by omega)) (k0 _ (by omega)) (by rw [e8, if_neg (by omega), if_neg (by omega), if_neg (by omega)]) (e0 _ (by omega) (by omega) (by omega)), ?_, k6.cong (by rw [k0 106 (by omega)]) (fun a ha => k0 a (by omega)) (fun a ha => k0 a (by omega)) (by rw [e8, if_neg (by omega), if_neg (by omega), if_neg (by omega)]) (fun a ha => e0 a (by omega) (by omega) (by omega)), ?_⟩
      · rw [e0 149 (by omega) (by omega) (by omega)]
        exact k1.cong (fun a ha => k0 a (by omega))
      · unfold YO
        have lt1 : ∀ i : Nat, (i : Int) < (iN (nr a b + 1)).toInt → i ≤ nr a b := fun i hi => by
          rw [iN_toInt (by omega)] at hi
          omega
        rw [L6]
        refine ⟨?_, Or.inr ?_, fun i hi => ?_, fun i c d hi q1 q2 q3 q4 => ?_, fun i j hij hj q => ?_⟩
        · rw [f2.1 102 (by omega) (by omega), e102]
        · refine ⟨?_, ?_⟩ <;> rw [iN_toInt (by omega)] <;> omega
        · have hi' := lt1 i hi
          obtain ⟨p1, -, -⟩ := hp i hi'
          obtain ⟨r1, r2⟩ := f5 i (by omega) hi'
          rw [r151 i hi', r1, r2, e8, e8, if_neg (by omega), if_neg (by omega), if_pos rfl, if_neg (by omega), if_pos rfl]
          exact ⟨⟨p i, p1, rfl⟩, rfl, rfl, hq.inv hi'⟩
        · have hi' := lt1 (i + 1) hi
          obtain ⟨p1, -, -⟩ := hp i (by omega)
          obtain ⟨p2, -, -⟩ := hp (i + 1) hi'
          rw [r151 i (by omega)] at q1
          rw [r151 (i + 1) hi'] at q3
          have u1 := (iN_inj (by omega) (by omega)).mp q1
          have u2 := (iN_inj (by omega) (by omega)).mp q3
          obtain ⟨k, mm, kk1, kk2, -⟩ := f4 i (by omega) (by omega)
          have := (besN_adj p1 kk2.1).2
          rw [u1, u2] at this
          exact this
        · have hj' := lt1 j hj
          obtain ⟨p1, -, p3⟩ := hp i (by omega)
          obtain ⟨p2, -, p4⟩ := hp j hj'
          rw [r151 i (by omega), r151 j hj'] at q
          have := (iN_inj (by omega) (by omega)).mp q
          rw [this] at p3
          omega
      · rw [k0 0 (by omega), e8, if_neg (by omega), if_neg (by omega), if_neg (by omega)]
        exact k7
theorem route_ok {n : Nat} {wc wm : Wd} {v1 v2 v3 v4 : Int32} (h : YY n wc wm) : ∃ r wc' wm', fX11_route v1 v2 v3 v4 wc = some (r, wc') ∧ fX12_route v1 v2 v3 v4 wm = some (r, wm') ∧ YY n wc' wm' := by
  have h0 := h.thr (x := 0)
  unfold fX11_route fX12_route
  simp only [nw_eq, Option.bind_some, isCell_c, isCell_m, isTape_c, isTape_m, within_eq, in_eq, Int32.toInt_toInt64, decide_eq_true_eq, Int32.reduceToInt, Int64.reduceToInt, tn128, tm128, if_true, if_false, Bool.false_eq_true]
  by_cases h1 : 0 ≤ v1.toInt ∧ v1.toInt ≤ 99
  rotate_left
  · simp only [if_neg h1]
    exact ⟨-1, _, _, rfl, rfl, h0⟩
  simp only [if_pos h1]
  by_cases h2 : 0 ≤ v2.toInt ∧ v2.toInt ≤ 99
  rotate_left
  · simp only [if_neg h2]
    exact ⟨-1, _, _, rfl, rfl, h0⟩
  simp only [if_pos h2]
  obtain ⟨a, ha, rfl⟩ := int_cases 99 h1 (by omega)
  obtain ⟨b, hb, rfl⟩ := int_cases 99 h2 (by omega)
  by_cases h3 : iN a = iN b
  · simp only [if_pos h3]
    exact ⟨-1, _, _, rfl, rfl, h0⟩
  simp only [if_neg h3]
  have hab : ¬ a = b := fun q => h3 (by rw [q])
  by_cases h4 : 0 ≤ v3.toInt ∧ v3.toInt ≤ 300
  rotate_left
  · simp only [if_neg h4]
    exact ⟨-1, _, _, rfl, rfl, h0⟩
  simp only [if_pos h4]
  by_cases h5 : 1 ≤ v4.toInt ∧ v4.toInt ≤ 9
  rotate_left
  · simp only [if_neg h5]
    exact ⟨-1, _, _, rfl, rfl, h0⟩
  simp only [if_pos h5]
  rw [near_c (by omega) (by omega), near_m (by omega) (by omega), Option.bind_some, Option.bind_some]
  by_cases h6 : v3 - v4 * iN (nr a b) < 0
  · rw [if_pos h6, if_pos h6]
    exact ⟨-3, _, _, rfl, rfl, h0⟩
  rw [if_neg h6, if_neg h6]
  refine route_go h0 hab ⟨h0.1.2.2.1, by omega, by omega, h4, h5, ?_⟩
  have : ¬ (v3 - v4 * iN (nr a b)).toInt < 0 := fun q => h6 (by rw [lt_I]; exact q)
  omega
