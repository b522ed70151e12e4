-- MATHEMATICS: m84
def pmp (S : Nat → Int32) (p : Nat) : Bool := decide (S (15 * p + 5) = 1)
def nbN (P : Nat → Bool) (c : Nat) : Nat → Option Nat
  | 0 => none
  | k + 1 => if P k = true then (match nbN P c k with
    | none => some k
    | some b => if nr c k < nr c b then some k else some b) else nbN P c k
theorem nbN_0 {P : Nat → Bool} {c : Nat} : ∀ k, cntN P k = 0 → nbN P c k = none
  | 0, _ => rfl
  | k + 1, h => by
    have h' : cntN P k + (if P k = true then 1 else 0) = 0 := h
    by_cases q : P k = true
    · rw [if_pos q] at h'
      omega
    · unfold nbN
      rw [if_neg q]
      exact nbN_0 k (by omega)
theorem nbN_lt {P : Nat → Bool} {c : Nat} : ∀ k b, nbN P c k = some b → b < k ∧ P b = true
  | 0, b, h => by
    have : (none : Option Nat) = some b := h
    exact absurd this (by simp)
  | k + 1, b, h => by
    unfold nbN at h
    by_cases q : P k = true
    · rw [if_pos q] at h
      cases e : nbN P c k with
      | none =>
        rw [e] at h
        have : some k = some b := h
        obtain rfl := Option.some.inj this
        exact ⟨by omega, q⟩
      | some b' =>
        rw [e] at h
        have h2 : (if nr c k < nr c b' then some k else some b') = some b := h
        obtain ⟨u1, u2⟩ := nbN_lt k b' e
        by_cases x : nr c k < nr c b'
        · rw [if_pos x] at h2
          obtain rfl := Option.some.inj h2
          exact ⟨by omega, q⟩
        · rw [if_neg x] at h2
          obtain rfl := Option.some.inj h2
          exact ⟨by omega, u2⟩
    · rw [if_neg q] at h
      obtain ⟨u1, u2⟩ := nbN_lt k b h
      exact ⟨by omega, u2⟩
theorem first_pump {P : Nat → Bool} : ∀ k, 0 < cntN P k → ∃ p, p < k ∧ P p = true ∧ cntN P p = 0
  | 0, h => absurd h (Nat.lt_irrefl 0)
  | k + 1, h => by
    have h' : 0 < cntN P k + (if P k = true then 1 else 0) := h
    by_cases z : 0 < cntN P k
    · obtain ⟨p, q1, q2, q3⟩ := first_pump k z
      exact ⟨p, by omega, q2, q3⟩
    · by_cases q : P k = true
      · exact ⟨k, by omega, q, by omega⟩
      · rw [if_neg q] at h'
        omega
def PL (P : Nat → Bool) (B : Nat → Bool) (w : Wd) (k : Nat) : Prop := ∀ p, p < k → P p = true → w.1 99 (cntN P p) = iN p ∧ w.1 98 p = if B p = true then 1 else 0
theorem cntN_mn {P : Nat → Bool} : ∀ {k p : Nat}, p < k → P p = true → cntN P p < cntN P k
  | 0, p, h, _ => by omega
  | k + 1, p, h, hp => by
    show cntN P p < cntN P k + (if P k = true then 1 else 0)
    by_cases e : p = k
    · subst e
      rw [if_pos hp]
      omega
    · have := cntN_mn (k := k) (p := p) (by omega) hp
      omega
theorem list_loop {n : Nat} {wm : Wd} : ∀ (m k f : Nat) (wc : Wd), k + m = 100 → m < f → YY n wc wm → PL (pmp (wm.1 149)) (bdN (wm.1 149)) wc k → ∃ wc', fX1_drink_10 f (iN (cntN (pmp (wm.1 149)) k)) (iN k) wc = (if iN (cntN (pmp (wm.1 149)) 100) = 0 then some wc' else fX1_drink_80 FU (iN (cntN (pmp (wm.1 149)) 100)) 0 wc') ∧ YY n wc' wm ∧ HF wc wm wc' wm ∧ PL (pmp (wm.1 149)) (bdN (wm.1 149)) wc' 100 := by
  intro m
  induction m with
  | zero =>
    intro k f wc hk hf h hL
    obtain ⟨f, rfl⟩ : ∃ x, f = x + 1 := ⟨f - 1, by omega⟩
    obtain rfl : k = 100 := by omega
    exact ⟨wc, by rw [fX1_drink_10, if_neg (show ¬ iN 100 < 100 by decide)], h, HF.refl, hL⟩
  | succ m ih =>
    intro k f wc hk hf h hL
    obtain ⟨f, rfl⟩ : ∃ x, f = x + 1 := ⟨f - 1, by omega⟩
    have hkl : k < 100 := by omega
    have lk : iN k < 100 := (iN_lt_lit (by omega) (by omega)).mpr (by show k < 100; exact hkl)
    have r8 : wc.1 8 k = wm.1 149 (15 * k + 5) := h.1.row (j := 5) hkl (by omega)
    obtain ⟨p0, p1⟩ := (h.1.2.2.1 k hkl).1.2.2.2.2.2
    have hcs : cntN (pmp (wm.1 149)) (k + 1) = cntN (pmp (wm.1 149)) k + (if pmp (wm.1 149) k = true then 1 else 0) := rfl
    have hck := cntN_le (pmp (wm.1 149)) k
    by_cases q : wm.1 149 (15 * k + 5) = 0
    · have np : ¬ pmp (wm.1 149) k = true := by
        unfold pmp
        rw [q]
        decide
      rw [if_neg np, Nat.add_zero] at hcs
      obtain ⟨w1, e1, e2, e3, e4⟩ := ih (k + 1) f wc (by omega) (by omega) h (fun p hp hpp => hL p (by
        by_cases e : p = k
        · rw [e] at hpp
          exact absurd hpp np
        · omega) hpp)
      rw [hcs] at e1
      exact ⟨w1, by rw [fX1_drink_10, if_pos lk, inb_lt2 hkl (by omega), if_pos rfl, ri_iN (by omega), r8, if_pos q, add_lit 1 k]; exact e1, e2, e3, e4⟩
    · have hp : pmp (wm.1 149) k = true := by
        unfold pmp
        rw [decide_eq_true_eq, eq_I]
        have : ¬ (wm.1 149 (15 * k + 5)).toInt = 0 := fun e => q (eq_I.mpr e)
        show _ = (1 : Int)
        omega
      rw [if_pos hp] at hcs
      obtain ⟨w0, hw0⟩ : ∃ w0, w0 = si (si wc 98 k (if bdN (wm.1 149) k = true then 1 else 0)) 99 (cntN (pmp (wm.1 149)) k) (iN k) := ⟨_, rfl⟩
      have hf0 : HF wc wm w0 wm := by
        rw [hw0]
        exact (HF.cput (by omega)).trans (HF.cput (by omega))
      have h0 : YY n w0 wm := h.hf hf0 (h.1.cong (fun a ha => by rw [hw0, si_oth (by omega), si_oth (by omega)]))
      have hL0 : PL (pmp (wm.1 149)) (bdN (wm.1 149)) w0 (k + 1) := by
        intro p hpk hpp
        by_cases e : p = k
        · subst e
          constructor
          · rw [hw0, si_at]
          · rw [hw0, si_oth (by omega), si_at]
        · have hlt := cntN_mn (P := pmp (wm.1 149)) (k := k) (p := p) (by omega) hpp
          obtain ⟨z1, z2⟩ := hL p (by omega) hpp
          constructor
          · rw [hw0, si_1, if_neg (by omega), si_oth (by omega)]
            exact z1
          · rw [hw0, si_oth (by omega), si_1, if_neg (by omega)]
            exact z2
      obtain ⟨w1, e1, e2, e3, e4⟩ := ih (k + 1) f w0 (by omega) (by omega) h0 hL0
      refine ⟨w1, ?_, e2, hf0.trans e3, e4⟩
      rw [hcs] at e1
      rw [fX1_drink_10, if_pos lk, inb_lt2 hkl (by omega), if_pos rfl, ri_iN (by omega), r8, if_neg q, (bad_eq h hkl).1, Option.bind_some]
      have e54 : ∀ s2 : Int32, fX1_drink_54 (fX1_drink_10 f) (iN (cntN (pmp (wm.1 149)) k)) (iN k) (iN k) s2 wc = fX1_drink_10 f (iN (cntN (pmp (wm.1 149)) k + 1)) (iN (k + 1)) (si (si wc 98 k s2) 99 (cntN (pmp (wm.1 149)) k) (iN k)) := fun s2 => by
        unfold fX1_drink_54
        rw [inb_lt2 hkl (by omega), if_pos rfl, nw_eq, wi_iN (by omega), inb_lt2 (show cntN (pmp (wm.1 149)) k < 100 by omega) (by omega), if_pos rfl, nw_eq, wi_iN (by omega), add_lit 1 (cntN (pmp (wm.1 149)) k), add_lit 1 k]
      rw [e54, e54, ← e1, hw0]
      cases bdN (wm.1 149) k
      · rw [if_neg (by simp), if_neg (by simp)]
      · rw [if_pos rfl, if_pos rfl]
theorem near_loop {n c : Nat} {wc wm : Wd} {P B : Nat → Bool} {k80 : Int32 → Int32 → Wd → Option Wd} (h : YY n wc wm) (hL : PL P B wc 100) (hc : c < 100) : ∀ (m k b f : Nat), k + m = 100 → m < f → nbN P c k = some b → ∃ b' f', nbN P c 100 = some b' ∧ fX1_drink_111 k80 f (iN (cntN P 100)) (iN c) (iN b) (iN (cntN P k)) wc = fX1_drink_111 k80 (f' + 1) (iN (cntN P 100)) (iN c) (iN b') (iN (cntN P 100)) wc := by
  intro m
  induction m with
  | zero =>
    intro k b f hk hf hb
    obtain ⟨f, rfl⟩ : ∃ x, f = x + 1 := ⟨f - 1, by omega⟩
    obtain rfl : k = 100 := by omega
    exact ⟨b, f, hb, rfl⟩
  | succ m ih =>
    intro k b f hk hf hb
    have hkl : k < 100 := by omega
    have hcs : cntN P (k + 1) = cntN P k + (if P k = true then 1 else 0) := rfl
    obtain ⟨bk, bp⟩ := nbN_lt k b hb
    have ns : nbN P c (k + 1) = if P k = true then (if nr c k < nr c b then some k else some b) else some b := by
      conv => lhs; unfold nbN
      rw [hb]
    by_cases q : P k = true
    · obtain ⟨f, rfl⟩ : ∃ x, f = x + 1 := ⟨f - 1, by omega⟩
      rw [if_pos q] at hcs ns
      have hlt := cntN_mn hkl q
      have h100 := cntN_le P 100
      have l1 : iN (cntN P k) < iN (cntN P 100) := (iN_lt (by omega) (by omega)).mpr hlt
      have step : fX1_drink_111 k80 (f + 1) (iN (cntN P 100)) (iN c) (iN b) (iN (cntN P k)) wc = if iN (nr c k) < iN (nr c b) then fX1_drink_111 k80 f (iN (cntN P 100)) (iN c) (iN k) (iN (cntN P (k + 1))) wc else fX1_drink_111 k80 f (iN (cntN P 100)) (iN c) (iN b) (iN (cntN P (k + 1))) wc := by
        rw [fX1_drink_111, if_pos l1, inb_lt2 (show cntN P k < 100 by omega) (by omega), if_pos rfl, ri_iN (by omega), (hL k hkl q).1, near_c hc hkl, Option.bind_some, near_c hc (by omega), Option.bind_some, add_lit 1 (cntN P k), hcs]
      have n1 := nr_lt hc hkl
      have n2 := nr_lt hc (show b < 100 by omega)
      by_cases x : nr c k < nr c b
      · rw [if_pos x] at ns
        obtain ⟨b', f', z1, z2⟩ := ih (k + 1) k f (by omega) (by omega) ns
        exact ⟨b', f', z1, by rw [step, if_pos ((iN_lt (by omega) (by omega)).mpr x)]; exact z2⟩
      · rw [if_neg x] at ns
        obtain ⟨b', f', z1, z2⟩ := ih (k + 1) b f (by omega) (by omega) ns
        exact ⟨b', f', z1, by rw [step, if_neg (fun e => x ((iN_lt (by omega) (by omega)).mp e))]; exact z2⟩
    · rw [if_neg q] at hcs ns
      obtain ⟨b', f', z1, z2⟩ := ih (k + 1) b f (by omega) (by omega) ns
      rw [hcs, Nat.add_zero] at z2
      exact ⟨b', f', z1, z2⟩
theorem near_ref {n c : Nat} {wc wm : Wd} (h : YY n wc wm) (hc : c < 100) : ∀ (m k f : Nat), k + m = 100 → m < f → ∃ f', fX12_drinks_14 f (iN c) (enc1 (nbN (pmp (wm.1 149)) c k)) (iN k) wm = fX12_drinks_14 (f' + 1) (iN c) (enc1 (nbN (pmp (wm.1 149)) c 100)) (iN 100) wm := by
  intro m
  induction m with
  | zero =>
    intro k f hk hf
    obtain ⟨f, rfl⟩ : ∃ x, f = x + 1 := ⟨f - 1, by omega⟩
    obtain rfl : k = 100 := by omega
    exact ⟨f, rfl⟩
  | succ m ih =>
    intro k f hk hf
    obtain ⟨f, rfl⟩ : ∃ x, f = x + 1 := ⟨f - 1, by omega⟩
    have hkl : k < 100 := by omega
    have lk : iN k < 100 := (iN_lt_lit (by omega) (by omega)).mpr (by show k < 100; exact hkl)
    obtain ⟨f', z⟩ := ih (k + 1) f (by omega) (by omega)
    refine ⟨f', ?_⟩
    rw [← z]
    have r : fX12_c (iN k) 5 wm = some (wm.1 149 (15 * k + 5)) := mc_j (w := wm) (j := 5) hkl (by decide)
    rw [fX12_drinks_14, if_pos lk, r, Option.bind_some, add_lit 1 k]
    conv => rhs; unfold nbN
    by_cases q : wm.1 149 (15 * k + 5) = 1
    · have hp : pmp (wm.1 149) k = true := by
        unfold pmp
        rw [q]
        decide
      rw [if_pos q, if_pos hp]
      cases e : nbN (pmp (wm.1 149)) c k with
      | none =>
        rw [if_pos (show enc1 none = -1 from rfl)]
        rfl
      | some b =>
        obtain ⟨bk, bp⟩ := nbN_lt k b e
        have n1 := nr_lt hc hkl
        have n2 := nr_lt hc (show b < 100 by omega)
        rw [if_neg (enc1_ne (by omega)), show enc1 (some b) = iN b from rfl, near_m hc hkl, Option.bind_some, near_m hc (by omega), Option.bind_some]
        show _ = fX12_drinks_14 f (iN c) (enc1 (if nr c k < nr c b then some k else some b)) (iN (k + 1)) wm
        by_cases x : nr c k < nr c b
        · rw [if_pos x, if_pos ((iN_lt (by omega) (by omega)).mpr x)]
          rfl
        · rw [if_neg x, if_neg (fun e => x ((iN_lt (by omega) (by omega)).mp e))]
          rfl
    · have hp : ¬ pmp (wm.1 149) k = true := by
        unfold pmp
        rw [decide_eq_true_eq]
        exact q
      rw [if_neg q, if_neg hp]
-- MATHEMATICS: m85
theorem AU.ill {w : Wd} {S : Nat → Int32} {y : Int32} (h : AU w S) : AU w (upd S 4314 y) := by
  obtain ⟨h1, h2, h3, h4⟩ := h
  have o : ∀ k, ¬ k = 4314 → upd S 4314 y k = S k := fun k q => upd_ne q
  refine ⟨fun k hk hv => ?_, fun m hm => ?_, by rw [o _ (by omega)]; exact h3, fun m hm => ?_⟩
  · have hv2 : val S k := (val_cong hk (fun c hc => o _ (by omega)) (fun n hn => o _ (by omega)) (o _ (by omega)) (o _ (by omega))).mp hv
    have q : ¬ k = 4314 := by
      intro e
      rw [e] at hv2
      unfold val at hv2
      rw [if_neg (by omega), if_neg (by omega), if_neg (by omega), if_neg (by omega)] at hv2
      exact hv2.1 rfl
    rw [o k q]
    exact h1 k hk hv2
  · rw [o _ (by omega)] at hm
    have l := h4 m hm
    have m8 : m < 8 := by omega
    obtain ⟨u, u1, u2, u3, u4⟩ := h2 m hm
    refine ⟨u, by rw [o _ (by omega)]; exact u1, u2, fun i hi => by rw [o _ (by omega)]; exact u3 i hi, fun i hi hi2 => ?_⟩
    rw [o _ (by omega)] at hi2
    rw [o _ (by omega)]
    exact u4 i hi hi2
  · rw [o _ (by omega)] at hm
    have m8 : m < 8 := by omega
    rw [o _ (by omega)]
    exact h4 m hm
def ilS (S : Nat → Int32) (b : Nat) (x : Int32) : Nat → Int32 := upd (upd S (15 * b + 14) (S (15 * b + 14) + x)) 4314 (S 4314 + x)
theorem ilS_o {S : Nat → Int32} {b k : Nat} {x : Int32} (h1 : ¬ k = 15 * b + 14) (h2 : ¬ k = 4314) : ilS S b x k = S k := by
  unfold ilS
  rw [upd_ne h2, upd_ne h1]
theorem ilS_p {S : Nat → Int32} {b : Nat} {x : Int32} : pmp (ilS S b x) = pmp S := by
  funext p
  unfold pmp
  rw [ilS_o (by omega) (by omega)]
theorem ilS_a {S : Nat → Int32} {b c : Nat} {x : Int32} : ∀ m, bdA (ilS S b x) c m = bdA S c m
  | 0 => rfl
  | m + 1 => by
    unfold bdA
    rw [ilS_a m]
    cases besN c (3 - m) with
    | none => rfl
    | some d =>
      show (decide (0 < ilS S b x (15 * d + 11)) || bdA S c m) = _
      rw [ilS_o (by omega) (by omega)]
theorem ilS_b {S : Nat → Int32} {b : Nat} {x : Int32} : bdN (ilS S b x) = bdN S := by
  funext c
  unfold bdN
  rw [ilS_a, ilS_o (by omega) (by omega)]
theorem ill_eq {n b : Nat} {wc wm : Wd} {x : Int32} (h : YY n wc wm) (hb : b < 100) : YY n (si wc 13 b (wm.1 149 (15 * b + 14) + x)) (si (si wm 149 (15 * b + 14) (wm.1 149 (15 * b + 14) + x)) 149 4314 (wm.1 149 4314 + x)) ∧ HF wc wm (si wc 13 b (wm.1 149 (15 * b + 14) + x)) (si (si wm 149 (15 * b + 14) (wm.1 149 (15 * b + 14) + x)) 149 4314 (wm.1 149 4314 + x)) ∧ (si (si wm 149 (15 * b + 14) (wm.1 149 (15 * b + 14) + x)) 149 4314 (wm.1 149 4314 + x)).1 149 = ilS (wm.1 149) b x := by
  have hf : HF wc wm (si wc 13 b (wm.1 149 (15 * b + 14) + x)) (si (si wm 149 (15 * b + 14) (wm.1 149 (15 * b + 14) + x)) 149 4314 (wm.1 149 4314 + x)) := (HF.cput (by omega)).trans ((HF.mput (by omega)).trans (HF.mput (by omega)))
  have row : (si (si wm 149 (15 * b + 14) (wm.1 149 (15 * b + 14) + x)) 149 4314 (wm.1 149 4314 + x)).1 149 = ilS (wm.1 149) b x := by rw [si_row, si_row]; rfl
  refine ⟨h.hf hf ?_, hf, row⟩
  rw [row]
  obtain ⟨kA, kH, kL, kG, kW⟩ := h.1.2.2
  refine AU.yc (AU.ill (h.1.au.put (by unfold softK; omega) (loc_row (j := 14) hb (by omega)))) ⟨kA.cong (fun c j hc hj => ilS_o (by omega) (by omega)), kH.cong (fun k q1 q2 => ilS_o (by omega) (by omega)) (ilS_o (by omega) (by omega)), kL.cong (fun k q1 q2 => ilS_o (by omega) (by omega)) (ilS_o (by omega) (by omega)) (ilS_o (by omega) (by omega)), ?_, kW.cong (fun c j hc q1 q2 => ilS_o (by omega) (by omega)) (fun k q1 q2 => ilS_o (by omega) (by omega)) (ilS_o (by omega) (by omega))⟩
  obtain ⟨g1, g2, g3, g4, g5, g6⟩ := kG
  unfold IG
  rw [ilS_o (k := 4300) (by omega) (by omega), ilS_o (k := 4302) (by omega) (by omega), ilS_o (k := 4303) (by omega) (by omega), ilS_o (k := 4304) (by omega) (by omega), ilS_o (k := 4316) (by omega) (by omega)]
  refine ⟨g1, g2, g3, g4, g5, ?_⟩
  have e : ∀ c, c < 100 → ilS (wm.1 149) b x (15 * c + 14) = wm.1 149 (15 * c + 14) + (if c = b then x else 0) := fun c hc => by
    by_cases q : c = b
    · subst q
      rw [if_pos rfl]
      unfold ilS
      rw [upd_ne (by omega), upd_eq]
    · rw [if_neg q, Int32.add_zero, ilS_o (by omega) (by omega)]
  rw [sumN_cong 100 e, sumN_add (fun c => wm.1 149 (15 * c + 14)) (fun c => if c = b then x else 0) 100, sumN_one, if_pos hb, ← g6]
  unfold ilS
  rw [upd_eq]
def DP (n : Nat) (P B : Nat → Bool) (wc0 wm0 wc wm : Wd) : Prop := YY n wc wm ∧ HF wc0 wm0 wc wm ∧ pmp (wm.1 149) = P ∧ bdN (wm.1 149) = B ∧ PL P B wc 100 ∧ wm.1 149 4300 = wm0.1 149 4300
theorem drink_step {n k : Nat} {P B : Nat → Bool} {wc0 wm0 wc wm : Wd} (hD : DP n P B wc0 wm0 wc wm) (hP : 0 < cntN P 100) (hk : k < 100) (f g : Nat) : ∃ wc' wm', fX1_drink_80 (f + 1) (iN (cntN P 100)) (iN k) wc = fX1_drink_80 f (iN (cntN P 100)) (iN (k + 1)) wc' ∧ fX12_hour_298 (g + 1) (iN k) wm = fX12_hour_298 g (iN (k + 1)) wm' ∧ DP n P B wc0 wm0 wc' wm' := by
  have hD0 := hD
  obtain ⟨h, hf, hp, hb, hL, hH⟩ := hD
  have lk : iN k < 100 := (iN_lt_lit (by omega) (by omega)).mpr (by show k < 100; exact hk)
  have r5 : wc.1 5 k = wm.1 149 (15 * k + 2) := h.1.row (j := 2) hk (by omega)
  have r : ∀ w : Wd, fX12_c (iN k) 2 w = some (w.1 149 (15 * k + 2)) := fun w => mc_j (w := w) (j := 2) hk (by decide)
  have mtop : ∀ w', fX12_drinks (iN k) wm = some w' → fX12_hour_298 (g + 1) (iN k) wm = fX12_hour_298 g (iN (k + 1)) w' := fun w' e => by
    rw [fX12_hour_298, if_pos lk, e, Option.bind_some, add_lit 1 k]
  by_cases q : wm.1 149 (15 * k + 2) = 0
  · refine ⟨wc, wm, ?_, mtop wm ?_, hD0⟩
    · rw [fX1_drink_80, if_pos lk, inb_lt2 hk (by omega), if_pos rfl, ri_iN (by omega), r5, if_pos q, add_lit 1 k]
    · unfold fX12_drinks
      rw [r, Option.bind_some, if_pos q]
  · obtain ⟨p0, a1, a2, a3⟩ := first_pump 100 hP
    have n0 : nbN P k p0 = none := nbN_0 p0 a3
    have n1 : nbN P k (p0 + 1) = some p0 := by
      conv => lhs; unfold nbN
      rw [if_pos a2, n0]
    have c1 : cntN P (p0 + 1) = 1 := by
      show cntN P p0 + (if P p0 = true then 1 else 0) = 1
      rw [if_pos a2, a3]
    have l0 := (hL p0 a1 a2).1
    rw [a3] at l0
    have hFU : FU = 9999999 + 1 := rfl
    obtain ⟨b, f', e1, e2⟩ := near_loop (k80 := fX1_drink_80 f) h hL hk (99 - p0) (p0 + 1) p0 FU (by omega) (by unfold FU; omega) n1
    obtain ⟨g', e3⟩ := near_ref h hk 100 0 FU (by omega) (by unfold FU; omega)
    rw [hp, e1] at e3
    obtain ⟨b1, b2⟩ := nbN_lt 100 b e1
    rw [c1] at e2
    have nl : ¬ iN (cntN P 100) < iN (cntN P 100) := fun e => by
      rw [lt_I] at e
      omega
    obtain ⟨x, hx⟩ : ∃ x, x = wm.1 149 (15 * k + 2) / (50 : Int32) := ⟨_, rfl⟩
    have r13 : wc.1 13 b = wm.1 149 (15 * b + 14) := h.1.row (j := 14) b1 (by omega)
    have ctop : fX1_drink_80 (f + 1) (iN (cntN P 100)) (iN k) wc = if B b = true then fX1_drink_80 f (iN (cntN P 100)) (iN (k + 1)) (si wc 13 b (wm.1 149 (15 * b + 14) + x)) else fX1_drink_80 f (iN (cntN P 100)) (iN (k + 1)) wc := by
      rw [fX1_drink_80, if_pos lk, inb_lt2 hk (by omega), if_pos rfl, ri_iN (by omega), r5, if_neg q]
      have rz : ri wc 99 (0 : Int32) = wc.1 99 0 := ri_iN (n := 0) (by omega)
      rw [rz, l0]
      have e2' : fX1_drink_111 (fX1_drink_80 f) FU (iN (cntN P 100)) (iN k) (iN p0) 1 wc = _ := e2
      rw [e2', fX1_drink_111, if_neg nl, inb_lt2 b1 (by omega), if_pos rfl, ri_iN (by omega), (hL b b1 b2).2, add_lit 1 k]
      cases B b
      · rw [if_neg (show ¬ false = true by simp), if_neg (show ¬ (0 : Int32) = 1 by decide), if_neg (show ¬ false = true by simp)]
      · rw [if_pos (show true = true from rfl), if_pos (show (1 : Int32) = 1 from rfl), if_pos (show true = true from rfl), inb_lt2 hk (by omega), if_pos rfl, nw_eq, wi_iN (by omega), ri_iN (by omega), ri_iN (by omega), r5, r13, ← hx]
    have mpre : fX12_drinks (iN k) wm = if B b = true then some (si (si wm 149 (15 * b + 14) (wm.1 149 (15 * b + 14) + x)) 149 4314 (wm.1 149 4314 + x)) else some wm := by
      unfold fX12_drinks
      rw [r, Option.bind_some, if_neg q]
      have e3' : fX12_drinks_14 FU (iN k) (-1) 0 wm = fX12_drinks_14 (g' + 1) (iN k) (enc1 (some b)) (iN 100) wm := e3
      rw [e3', fX12_drinks_14, if_neg (show ¬ iN 100 < 100 by decide), if_neg (enc1_ne (by omega)), show enc1 (some b) = iN b from rfl, (bad_eq h b1).2, Option.bind_some, hb]
      cases B b
      · rw [if_neg (by simp), if_neg (by simp)]
      · rw [if_pos rfl, if_pos rfl, mci b1 (by decide), if_pos rfl, r, Option.bind_some, nw_eq, mcw (by decide) b1, mcr (by decide) b1, r, Option.bind_some, nw_eq, ← hx, wi_lit (by decide), ri_lit (by decide)]
        show some (si (si wm 149 (15 * b + 14) (wm.1 149 (15 * b + 14) + x)) 149 4314 ((si wm 149 (15 * b + 14) (wm.1 149 (15 * b + 14) + x)).1 149 4314 + (si wm 149 (15 * b + 14) (wm.1 149 (15 * b + 14) + x)).1 149 (15 * k + 2) / 50)) = _
        rw [z149 (show ¬ 4314 = 15 * b + 14 by omega), z149 (show ¬ 15 * k + 2 = 15 * b + 14 by omega), ← hx]
    by_cases y : B b = true
    · rw [if_pos y] at ctop mpre
      obtain ⟨y1, y2, y3⟩ := ill_eq (x := x) h b1
      refine ⟨_, _, ctop, mtop _ mpre, y1, hf.trans y2, by rw [y3, ilS_p]; exact hp, by rw [y3, ilS_b]; exact hb, fun p z1 z2 => ?_, by rw [y3, ilS_o (by omega) (by omega)]; exact hH⟩
      obtain ⟨v1, v2⟩ := hL p z1 z2
      exact ⟨by rw [si_oth (by omega)]; exact v1, by rw [si_oth (by omega)]; exact v2⟩
    · rw [if_neg y] at ctop mpre
      exact ⟨_, _, ctop, mtop _ mpre, hD0⟩
theorem drink_none {n : Nat} {wc wm : Wd} (h : YY n wc wm) (hP : cntN (pmp (wm.1 149)) 100 = 0) : ∀ (m k f : Nat), k + m = 100 → m < f → fX12_hour_298 f (iN k) wm = some wm := by
  intro m
  induction m with
  | zero =>
    intro k f hk hf
    obtain ⟨f, rfl⟩ : ∃ x, f = x + 1 := ⟨f - 1, by omega⟩
    obtain rfl : k = 100 := by omega
    rw [fX12_hour_298, if_neg (show ¬ iN 100 < 100 by decide)]
  | succ m ih =>
    intro k f hk hf
    obtain ⟨f, rfl⟩ : ∃ x, f = x + 1 := ⟨f - 1, by omega⟩
    have hkl : k < 100 := by omega
    have lk : iN k < 100 := (iN_lt_lit (by omega) (by omega)).mpr (by show k < 100; exact hkl)
    have r : fX12_c (iN k) 2 wm = some (wm.1 149 (15 * k + 2)) := mc_j (w := wm) (j := 2) hkl (by decide)
    have hd : fX12_drinks (iN k) wm = some wm := by
      unfold fX12_drinks
      rw [r, Option.bind_some]
      by_cases q : wm.1 149 (15 * k + 2) = 0
      · rw [if_pos q]
      · rw [if_neg q]
        obtain ⟨g', e3⟩ := near_ref h hkl 100 0 FU (by omega) (by unfold FU; omega)
        rw [nbN_0 100 hP] at e3
        have e3' : fX12_drinks_14 FU (iN k) (-1) 0 wm = fX12_drinks_14 (g' + 1) (iN k) (-1) (iN 100) wm := e3
        rw [e3', fX12_drinks_14, if_neg (show ¬ iN 100 < 100 by decide), if_pos rfl]
    rw [fX12_hour_298, if_pos lk, hd, Option.bind_some, add_lit 1 k]
    exact ih (k + 1) f (by omega) (by omega)
theorem drink_eq {n : Nat} {wc wm : Wd} (h : YY n wc wm) : ∃ wc' wm', fX1_drink wc = some wc' ∧ fX12_hour_298 FU 0 wm = some wm' ∧ YY n wc' wm' ∧ HF wc wm wc' wm' ∧ wm'.1 149 4300 = wm.1 149 4300 := by
  obtain ⟨w1, e1, e2, e3, e4⟩ := list_loop 100 0 FU wc (by omega) (by unfold FU; omega) h (fun p hp _ => absurd hp (by omega))
  have e1' : fX1_drink wc = _ := e1
  have hle := cntN_le (pmp (wm.1 149)) 100
  by_cases z : cntN (pmp (wm.1 149)) 100 = 0
  · rw [z, if_pos (by decide)] at e1'
    exact ⟨w1, wm, e1', drink_none h z 100 0 FU (by omega) (by unfold FU; omega), e2, e3, rfl⟩
  · rw [if_neg (fun e => z ((iN_inj (by omega) (by omega)).mp (e.trans (show (0 : Int32) = iN 0 from rfl))))] at e1'
    obtain ⟨w2, m2, f', g', a1, a2, a3, a4, -, -, -, a5⟩ := cells (C := fun f => fX1_drink_80 f (iN (cntN (pmp (wm.1 149)) 100))) (M := fX12_hour_298) (P := DP n (pmp (wm.1 149)) (bdN (wm.1 149)) w1 wm) (fun k hk wc wm' hD f g => drink_step hD (by omega) hk f g) 100 0 FU FU w1 wm (by omega) (by unfold FU; omega) (by unfold FU; omega) ⟨e2, HF.refl, rfl, rfl, e4, rfl⟩
    refine ⟨w2, m2, ?_, ?_, a3, e3.trans a4, a5⟩
    · rw [e1']
      refine Eq.trans a1 ?_
      show fX1_drink_80 (f' + 1) _ (iN 100) w2 = _
      rw [fX1_drink_80, if_neg (show ¬ iN 100 < 100 by decide)]
    · refine Eq.trans a2 ?_
      rw [fX12_hour_298, if_neg (show ¬ iN 100 < 100 by decide)]
-- MATHEMATICS: m86
theorem ln1.more {D D' : Int} {g : Nat → Int32} (h : ln1 D g) (hD : D ≤ D') : ln1 D' g := by
  obtain ⟨h1, h2, h3, h4⟩ := h
  refine ⟨h1, fun i hi => ?_, h3, h4⟩
  obtain ⟨a1, a2, a3, a4, a5⟩ := h2 i hi
  refine ⟨a1, a2, ?_, a4, a5⟩
  rcases a3 with q | ⟨q1, q2⟩
  · exact Or.inl q
  · exact Or.inr ⟨q1, by omega⟩
theorem tick {n : Nat} {wc wm : Wd} (h : YY n wc wm) (hH : (wm.1 149 4300).toInt ≤ 99998) : YY n (si wc 1 6 (wm.1 149 4300 + 1)) (si wm 149 4300 (wm.1 149 4300 + 1)) ∧ HF wc wm (si wc 1 6 (wm.1 149 4300 + 1)) (si wm 149 4300 (wm.1 149 4300 + 1)) ∧ ((si wm 149 4300 (wm.1 149 4300 + 1)).1 149 4300).toInt = (wm.1 149 4300).toInt + 1 ∧ ∀ c, c < 100 → pot ((si wm 149 4300 (wm.1 149 4300 + 1)).1 149) c + 10019 ≤ 10019 * ((si wm 149 4300 (wm.1 149 4300 + 1)).1 149 4300).toInt + 999900 * (n : Int) := by
  have hf : HF wc wm (si wc 1 6 (wm.1 149 4300 + 1)) (si wm 149 4300 (wm.1 149 4300 + 1)) := (HF.cput (by omega)).trans (HF.mput (by omega))
  obtain ⟨kA, kH, kL, kG, kW⟩ := h.1.2.2
  obtain ⟨H, hHd⟩ : ∃ H, H = wm.1 149 4300 + 1 := ⟨_, rfl⟩
  have h0 := kG.1.1
  have e1 : (wm.1 149 4300 + 1).toInt = (wm.1 149 4300).toInt + 1 := add_I (by rw [one_I]; omega) (by rw [one_I]; omega)
  have o : ∀ k, ¬ k = 4300 → upd (wm.1 149) 4300 (wm.1 149 4300 + 1) k = wm.1 149 k := fun k q => upd_ne q
  have oh : upd (wm.1 149) 4300 (wm.1 149 4300 + 1) 4300 = wm.1 149 4300 + 1 := upd_eq
  have row : (si wm 149 4300 (wm.1 149 4300 + 1)).1 149 = upd (wm.1 149) 4300 (wm.1 149 4300 + 1) := si_row
  have hpot : ∀ c, c < 100 → pot (upd (wm.1 149) 4300 (wm.1 149 4300 + 1)) c = pot (wm.1 149) c := fun c hc => by
    unfold pot wtr
    rw [coalZ_cong (S := wm.1 149) (fun k _ _ => o k (by omega)), o _ (by omega), o _ (by omega), o _ (by omega), o _ (by omega), o _ (by omega), o _ (by omega)]
  rw [row, oh, e1]
  refine ⟨h.hf hf ?_, hf, rfl, fun c hc => ?_⟩
  · rw [row]
    refine AU.yc (h.1.au.put (by unfold softK; omega) (loc_sc (j := 0) (by omega))) ⟨kA.cong (fun c j hc hj => o _ (by omega)), kH.cong (fun k q1 q2 => o _ (by omega)) (o _ (by omega)), ?_, ?_, fun c hc => ?_⟩
    · refine ⟨by rw [o _ (by omega)]; exact kL.1, fun m hm => ?_⟩
      rw [o 4315 (by omega)] at hm
      have m8 := kL.lt hm
      rw [oh, e1]
      exact ((kL.2 m hm).more (show (wm.1 149 4300).toInt / 24 ≤ ((wm.1 149 4300).toInt + 1) / 24 by omega)).cong (fun r hr => o _ (by omega))
    · obtain ⟨g1, g2, g3, g4, g5, g6⟩ := kG
      unfold IG
      rw [oh, o 4302 (by omega), o 4303 (by omega), o 4304 (by omega), o 4316 (by omega), o 4314 (by omega), sumN_cong 100 (fun c hc => o (15 * c + 14) (by omega))]
      exact ⟨⟨by rw [e1]; omega, by rw [e1]; omega⟩, g2, g3, g4, g5, g6⟩
    · obtain ⟨w1, w2, w3⟩ := kW c hc
      have p := hpot c hc
      unfold pot at p
      have pw : wtr (upd (wm.1 149) 4300 (wm.1 149 4300 + 1)) c = wtr (wm.1 149) c := by
        unfold wtr
        rw [o _ (by omega), o _ (by omega), o _ (by omega), o _ (by omega)]
      rw [oh, e1, p, pw, o _ (by omega), o _ (by omega), o _ (by omega), o _ (by omega)]
      exact ⟨w1, w2, by omega⟩
  · rw [hpot c hc]
    have := (h.1.2.2.pot hc).2.1
    omega
theorem lvl_cong {w w' : Wd} {v : Int32} (h0 : w'.1 100 = w.1 100) (h1 : w'.1 101 = w.1 101) : fX9_levelAt v w' = fX9_levelAt v w := by
  unfold fX9_levelAt ri
  rw [h0, h1]
theorem HF.fl {wc wm : Wd} {a n : Nat} {x : Int32} (ha : 96 ≤ a ∧ a ≤ 99) : HF wc wm (flI wc a n x) wm := ⟨fun b q1 q2 => by
  funext i
  rw [flI_1, if_neg (by omega)], fun _ _ => rfl, fun _ _ _ _ _ => rfl, rfl, fun _ _ _ => rfl⟩
theorem YY.chf {n : Nat} {wc wm wc' : Wd} (h : YY n wc wm) (hf : HF wc wm wc' wm) (e : ∀ a, 1 ≤ a → a ≤ 91 ∨ a = 10000 → wc'.1 a = wc.1 a) : YY n wc' wm := h.hf hf ((h.1.au.same e).yc h.1.2.2)
theorem pass_eq {n cnt : Nat} {wc wm : Wd} (h : YY n wc wm) (hn : n ≤ 512) (hb : ∀ c, c < 100 → pot (wm.1 149) c + 10019 ≤ 10019 * (wm.1 149 4300).toInt + 999900 * (n : Int)) (hcnt : wm.1 149 4315 = iN cnt) (h8 : cnt ≤ 8) (hS : St wc (fun c => ldS wm cnt c)) : ∃ wc' wm' g, fX1_passHour wc = some wc' ∧ fX12_hour_14 FU 0 wm = fX12_hour_228 (g + 1) (iN 100) wm' ∧ YY n wc' wm' ∧ (∀ a, ¬ (1 ≤ a ∧ a ≤ 91) → ¬ (96 ≤ a ∧ a ≤ 99) → wc'.1 a = wc.1 a) ∧ sameW (wm.1 149) (wm'.1 149) := by
  obtain ⟨w1, m1, a1, a2, a3, a4, a5, a6⟩ := mw_loop (n := n) 100 0 FU wc wm (by omega) (by unfold FU; omega) hn h (fun c hc _ => by have := hb c hc; omega)
  have c1 : wm.1 149 4315 = m1.1 149 4315 := (a5 _ (by unfold wk; omega)).symm
  have hr1 : m1.1 149 4300 = wm.1 149 4300 := a5 _ (by unfold wk; omega)
  obtain ⟨m2, b1, b2, b3, b4, b5⟩ := look_eq a3 (by rw [← c1]; exact hcnt) h8
  have row2 : m2.1 149 = m1.1 149 := b2 149 (by omega)
  have sw2 : sameW (wm.1 149) (m2.1 149) := by rw [row2]; exact a5
  obtain ⟨w2, hw2⟩ : ∃ w2, w2 = flI (flI w1 96 100 0) 97 100 0 := ⟨_, rfl⟩
  have hf2 : HF w1 m2 w2 m2 := by
    rw [hw2]
    exact (HF.fl (by omega)).trans (HF.fl (by omega))
  have o2 : ∀ a, ¬ a = 96 → ¬ a = 97 → w2.1 a = w1.1 a := fun a q1 q2 => by
    funext i
    rw [hw2, flI_1, if_neg (by omega), flI_1, if_neg (by omega)]
  have y2 : YY n w2 m2 := b4.chf hf2 (fun a q1 q2 => o2 a (by omega) (by omega))
  have hC : CX cnt (carB m1) (fun c => firstL (m2.1 149) (carB m2) c cnt cnt) w2 m2 := by
    have hcb : ∀ i, i < cnt → carB m2 i = carB m1 i := fun i hi => carB_cong a3 b4 (by rw [row2]; exact sameW.refl.l) (by
      rw [← c1, hcnt, iN_toInt (by omega)]
      omega)
    refine ⟨by rw [row2, ← c1]; exact hcnt, h8, b5, fun c hc => ?_, fun c hc => ?_⟩
    · exact firstL_cong (S := m2.1 149) (cb := carB m2) (cb' := carB m1) h8 (fun m hm => by
        have hm' : (m : Int) < (m2.1 149 4315).toInt := by
          rw [row2, ← c1, hcnt, iN_toInt (by omega)]
          omega
        obtain ⟨z1, z2⟩ := b4.1.lenB hm'
        have z3 := cl_nat (show 0 ≤ (m2.1 149 (3300 + 125 * m)).toInt by omega)
        unfold lenS
        omega) (fun m hm => (hcb m hm).symm) (fun _ _ _ => rfl) cnt (Nat.le_refl _)
    · obtain ⟨s1, s2, s3⟩ := hS c hc
      have e : ldS m2 cnt c = ldS wm cnt c := ldS_cong h b4 hc hcnt h8 sw2.l
      have e' : LdV (m2.1 149) (firstL (m2.1 149) (carB m2) c cnt cnt) c = ldS wm cnt c := e
      show w2.1 93 c = (LdV (m2.1 149) (firstL (m2.1 149) (carB m2) c cnt cnt) c).1 ∧ w2.1 94 c = (LdV (m2.1 149) (firstL (m2.1 149) (carB m2) c cnt cnt) c).2.1 ∧ w2.1 95 c = (LdV (m2.1 149) (firstL (m2.1 149) (carB m2) c cnt cnt) c).2.2
      rw [e', o2 93 (by omega) (by omega), o2 94 (by omega) (by omega), o2 95 (by omega) (by omega), a4.1 93 (by omega) (by omega), a4.1 94 (by omega) (by omega), a4.1 95 (by omega) (by omega)]
      exact ⟨s1, s2, s3⟩
  have hL0 : LO w2 m2 0 := ⟨fun c hc => absurd hc (by omega), fun t ht => by
    constructor
    · rw [hw2, flI_1, if_neg (by omega), flI_1, if_pos ⟨rfl, ht⟩]
      rfl
    · rw [hw2, flI_1, if_pos ⟨rfl, ht⟩]
      rfl⟩
  obtain ⟨w3, m3, d1, d2, d3, d4, d5, d6, d7⟩ := lo_loop hn 100 0 FU w2 m2 (by omega) (by unfold FU; omega) y2 hC hL0
  have hr3 : m3.1 149 4300 = wm.1 149 4300 := by rw [d5 _ (by unfold wk; omega), row2, hr1]
  obtain ⟨w4, m4, e1, e2, e3, e4, e5⟩ := come_eq d3 hn d6 (fun c hc => by
    have z1 := d7 c hc
    rw [row2] at z1
    have z2 := a6 c hc
    rw [if_pos (Nat.zero_le c)] at z2
    have z3 := hb c hc
    rw [hr3]
    omega)
  obtain ⟨w5, m5, f5, g5, p1, p2, p3, p4, p5⟩ := cells (C := fX1_liftWater_13) (M := fX12_hour_190) (P := PW n w2 m2) (fun k hk wc wm hP f g => by
    obtain ⟨x1, x2, x3⟩ := hP
    obtain ⟨wc', wm', z1, z2, z3, z4, z5⟩ := lift_step x1 hn hk f g
    exact ⟨wc', wm', z1, z2, z3, x2.trans z4, x3.trans z5⟩) 100 0 FU FU w4 m4 (by omega) (by unfold FU; omega) (by unfold FU; omega) ⟨e3, d4.trans e4, d5.trans e5⟩
  have h5 : 0 ≤ (m5.1 149 4300).toInt := p3.1.2.2.2.2.2.1.1.1
  obtain ⟨lv, l1, -, -⟩ := level_eq p3.2.2.2.1 h5
  obtain ⟨w6, m6, f6, g6, q1, q2, ⟨q3, q4, q5⟩, q6, q7⟩ := cells (C := fun f => fX1_openGates_19 f lv) (M := fX12_hour_209) (P := fun wc wm => PW n w2 m2 wc wm ∧ wm.1 149 4300 = m5.1 149 4300 ∧ fX9_levelAt (m5.1 149 4300) wc = some lv) (fun k hk wc wm hP f g => by
    obtain ⟨⟨x1, x2, x3⟩, x4, x5⟩ := hP
    obtain ⟨wc', wm', z1, z2, z3, z4, z5⟩ := out_step (lv := lv) x1 hn hk (by rw [x4]; exact x5) f g
    exact ⟨wc', wm', z1, z2, ⟨z3, x2.trans z4, x3.trans z5⟩, (z5 _ (by unfold wk; omega)).trans x4, (lvl_cong (z4.1 100 (by omega) (by omega)) (z4.1 101 (by omega) (by omega))).trans x5⟩) 100 0 FU FU w5 m5 (by omega) (by unfold FU; omega) (by unfold FU; omega) ⟨⟨p3, p4, p5⟩, rfl, l1⟩
  obtain ⟨w7, m7, f7, g7, r1, r2, r3, r4, r5⟩ := cells (C := fX1_fillCellars_2) (M := fX12_hour_228) (P := PW n w2 m2) (fun k hk wc wm hP f g => by
    obtain ⟨x1, x2, x3⟩ := hP
    obtain ⟨wc', wm', z1, z2, z3, z4, z5⟩ := rise_step x1 (hC.keep y2 x2 x3) hn hk f g
    exact ⟨wc', wm', z1, z2, z3, x2.trans z4, x3.trans z5⟩) 100 0 FU FU w6 m6 (by omega) (by unfold FU; omega) (by unfold FU; omega) ⟨q3, q4, q5⟩
  refine ⟨w7, m7, g7, ?_, ?_, r3, fun a k1 k2 => (r4.1 a k1 k2).trans ((hf2.1 a k1 k2).trans (a4.1 a k1 k2)), sw2.trans r5⟩
  · have cm : fX1_makeWater wc = some w1 := a1
    have cl : fX1_letOn w1 = some w4 := by
      unfold fX1_letOn
      rw [nw_eq, nw_eq, ← hw2]
      exact d1.trans e1
    have cli : fX1_liftWater w4 = some w5 := by
      refine Eq.trans p1 ?_
      rw [fX1_liftWater_13, if_neg (show ¬ iN 100 < 100 by decide)]
    have cg : fX1_openGates w5 = some w6 := by
      unfold fX1_openGates
      rw [p3.1.hour, l1, Option.bind_some]
      refine Eq.trans q1 ?_
      show fX1_openGates_19 (f6 + 1) lv (iN 100) w6 = _
      rw [fX1_openGates_19, if_neg (show ¬ iN 100 < 100 by decide)]
    have cf : fX1_fillCellars w6 = some w7 := by
      refine Eq.trans r1 ?_
      rw [fX1_fillCellars_2, if_neg (show ¬ iN 100 < 100 by decide)]
    unfold fX1_passHour
    rw [cm, Option.bind_some, cl, Option.bind_some, cli, Option.bind_some, cg, Option.bind_some, cf, Option.bind_some]
  · refine Eq.trans a2 ?_
    rw [fX12_hour_14, if_neg (show ¬ iN 100 < 100 by decide), b1, Option.bind_some]
    refine Eq.trans d2 (Eq.trans e2 (Eq.trans p2 ?_))
    rw [fX12_hour_190, if_neg (show ¬ iN 100 < 100 by decide)]
    refine Eq.trans q2 ?_
    rw [fX12_hour_209, if_neg (show ¬ iN 100 < 100 by decide)]
    exact r2
-- MATHEMATICS: m87
theorem hour_mid {n cnt : Nat} {wc wm : Wd} (h : YY n wc wm) (hn : n ≤ 512) (hb : ∀ c, c < 100 → pot (wm.1 149) c + 10019 ≤ 10019 * (wm.1 149 4300).toInt + 999900 * (n : Int)) (hcnt : wm.1 149 4315 = iN cnt) (h8 : cnt ≤ 8) (hS : St wc (fun c => ldS wm cnt c)) (k32 : Int32 → Int32 → Wd → Option (Int32 × Wd)) (v1 v2 : Int32) : ∃ wc' wm', fX11_hours_88 k32 v1 v2 (jrm (wm.1 149 4300) 24) wc = k32 v1 (v2 + 1) wc' ∧ fX12_hour_14 FU 0 wm = some wm' ∧ YY n wc' wm' ∧ wm'.1 149 4300 = wm.1 149 4300 ∧ (jrm (wm.1 149 4300) 24 = 0 ∨ (wm'.1 149 4315 = iN cnt ∧ St wc' (fun c => ldS wm' cnt c))) := by
  obtain ⟨w1, m1, g, a1, a2, a3, a4, a5⟩ := pass_eq h hn hb hcnt h8 hS
  have e4 : m1.1 149 4300 = wm.1 149 4300 := a5 _ (by unfold wk; omega)
  have e5 : m1.1 149 4315 = wm.1 149 4315 := a5 _ (by unfold wk; omega)
  have mt : fX12_hour_14 FU 0 wm = if jrm (wm.1 149 4300) 24 = 0 then fX12_hour_275 FU 0 (si m1 149 4301 (m1.1 149 4301 + m1.1 149 4302)) else some m1 := by
    rw [a2, fX12_hour_228, if_neg (show ¬ iN 100 < 100 by decide), mg_0, Option.bind_some, mg_2, Option.bind_some, nw_eq, wi_lit (by decide), ri_lit (by decide), e4]
  by_cases z : jrm (wm.1 149 4300) 24 = 0
  · obtain ⟨w2, m2, b1, b2, b3, -, b5⟩ := works_eq a3 hn
    obtain ⟨w3, m3, c1, c2, c3, -, c5⟩ := drink_eq b3
    refine ⟨w3, m3, ?_, ?_, c3, c5.trans (b5.trans e4), Or.inl z⟩
    · unfold fX11_hours_88
      rw [a1, Option.bind_some, if_pos z, b1, Option.bind_some, c1, Option.bind_some]
    · rw [mt, if_pos z, b2, c2]
  · refine ⟨w1, m1, ?_, ?_, a3, e4, Or.inr ⟨e5.trans hcnt, fun c hc => ?_⟩⟩
    · unfold fX11_hours_88
      rw [a1, Option.bind_some, if_neg z]
    · rw [mt, if_neg z]
    · have e : ldS m1 cnt c = ldS wm cnt c := ldS_cong h a3 hc hcnt h8 a5.l
      show w1.1 93 c = (ldS m1 cnt c).1 ∧ w1.1 94 c = (ldS m1 cnt c).2.1 ∧ w1.1 95 c = (ldS m1 cnt c).2.2
      rw [a4 93 (by omega) (by omega), a4 94 (by omega) (by omega), a4 95 (by omega) (by omega)]
      show wc.1 93 c = (ldS m1 cnt c).1 ∧ wc.1 94 c = (ldS m1 cnt c).2.1 ∧ wc.1 95 c = (ldS m1 cnt c).2.2
      rw [e]
      exact hS c hc
theorem i24 : (24 : Int32).toInt = 24 := rfl
theorem hours_loop {n V : Nat} (hn : n ≤ 512) (hV : V ≤ 240) : ∀ (q i f g : Nat) (wc wm : Wd), i + q = V → q < f → q < g → YY n wc wm → (wm.1 149 4300).toInt + (q : Int) ≤ 99999 → (i = 0 ∨ jrm (wm.1 149 4300) 24 = 0 ∨ ∃ cnt : Nat, cnt ≤ 8 ∧ wm.1 149 4315 = iN cnt ∧ St wc (fun c => ldS wm cnt c)) → ∃ r wc' wm', fX11_hours_32 f (iN V) (iN i) wc = some (r, wc') ∧ fX12_hours_36 g (iN V) (iN i) wm = some (r, wm') ∧ YY n wc' wm' := by
  intro q
  induction q with
  | zero =>
    intro i f g wc wm hi hf hg h hH _
    obtain ⟨f, rfl⟩ : ∃ x, f = x + 1 := ⟨f - 1, by omega⟩
    obtain ⟨g, rfl⟩ : ∃ x, g = x + 1 := ⟨g - 1, by omega⟩
    have nl : ¬ iN i < iN V := fun e => by
      have := (iN_lt (by omega) (by omega)).mp e
      omega
    refine ⟨wm.1 149 4300, wc, wm, ?_, ?_, h⟩
    · rw [fX11_hours_32, if_neg nl, h.1.hour]
    · rw [fX12_hours_36, if_neg nl, mg_0, Option.bind_some]
  | succ q ih =>
    intro i f g wc wm hi hf hg h hH hI
    obtain ⟨f, rfl⟩ : ∃ x, f = x + 1 := ⟨f - 1, by omega⟩
    obtain ⟨g, rfl⟩ : ∃ x, g = x + 1 := ⟨g - 1, by omega⟩
    have pl : iN i < iN V := (iN_lt (by omega) (by omega)).mpr (by omega)
    obtain ⟨t1, t2, t3, t4⟩ := tick h (by omega)
    have h0 : 0 ≤ (wm.1 149 4300).toInt := h.1.2.2.2.2.2.1.1.1
    obtain ⟨w1, hw1⟩ : ∃ w1, w1 = si wc 1 6 (wm.1 149 4300 + 1) := ⟨_, rfl⟩
    obtain ⟨m1, hm1⟩ : ∃ m1, m1 = si wm 149 4300 (wm.1 149 4300 + 1) := ⟨_, rfl⟩
    rw [← hw1, ← hm1] at t1 t2
    rw [← hm1] at t3 t4
    have jr : (jrm (m1.1 149 4300) 24).toInt = ((wm.1 149 4300).toInt + 1) % 24 := by rw [jrm_I (by rw [t3]; omega) (by decide), t3, i24]
    have jr0 : (jrm (wm.1 149 4300) 24).toInt = (wm.1 149 4300).toInt % 24 := by rw [jrm_I h0 (by decide), i24]
    have o1 : ∀ k, ¬ k = 4300 → m1.1 149 k = wm.1 149 k := fun k hk => by rw [hm1, z149 hk]
    have mst : ∀ wm', fX12_hour_14 FU 0 m1 = some wm' → fX12_hours_36 (g + 1) (iN V) (iN i) wm = fX12_hours_36 g (iN V) (iN (i + 1)) wm' := fun wm' e => by
      rw [fX12_hours_36, if_pos pl]
      unfold fX12_hour
      rw [nw_eq, wi_lit (by decide), ri_lit (by decide)]
      have e' : fX12_hour_14 FU 0 (si wm 149 4300 (wm.1 149 4300 + 1)) = some wm' := by rw [← hm1]; exact e
      rw [e', Option.bind_some, add_lit 1 i]
    have hour1 : w1.1 1 6 = m1.1 149 4300 := t1.1.hour
    have cst : fX11_hours_32 (f + 1) (iN V) (iN i) wc = if iN i = 0 then fX11_hours_70 (fX11_hours_32 f) (iN V) (iN i) (jrm (m1.1 149 4300) 24) w1 else if jrm (m1.1 149 4300) 24 < 2 then fX11_hours_70 (fX11_hours_32 f) (iN V) (iN i) (jrm (m1.1 149 4300) 24) w1 else fX11_hours_88 (fX11_hours_32 f) (iN V) (iN i) (jrm (m1.1 149 4300) 24) w1 := by
      rw [fX11_hours_32, if_pos pl, nw_eq, h.1.hour, ← hw1, hour1]
    have go : ∀ (w2 : Wd) (cnt : Nat), YY n w2 m1 → m1.1 149 4315 = iN cnt → cnt ≤ 8 → St w2 (fun c => ldS m1 cnt c) → fX11_hours_32 (f + 1) (iN V) (iN i) wc = fX11_hours_88 (fX11_hours_32 f) (iN V) (iN i) (jrm (m1.1 149 4300) 24) w2 → ∃ r wc' wm', fX11_hours_32 (f + 1) (iN V) (iN i) wc = some (r, wc') ∧ fX12_hours_36 (g + 1) (iN V) (iN i) wm = some (r, wm') ∧ YY n wc' wm' := by
      intro w2 cnt y2 hc h8 hS ec
      obtain ⟨w3, m3, a1, a2, a3, a4, a5⟩ := hour_mid y2 hn t4 hc h8 hS (fX11_hours_32 f) (iN V) (iN i)
      rw [add_lit 1 i] at a1
      obtain ⟨r, w4, m4, b1, b2, b3⟩ := ih (i + 1) f g w3 m3 (by omega) (by omega) (by omega) a3 (by rw [a4, t3]; omega) (by
        rw [a4]
        rcases a5 with z | ⟨z1, z2⟩
        · exact Or.inr (Or.inl z)
        · exact Or.inr (Or.inr ⟨cnt, h8, z1, z2⟩))
      exact ⟨r, w4, m4, ec.trans (a1.trans b1), (mst m3 a2).trans b2, b3⟩
    have lead : fX11_hours_32 (f + 1) (iN V) (iN i) wc = fX11_hours_70 (fX11_hours_32 f) (iN V) (iN i) (jrm (m1.1 149 4300) 24) w1 → ∃ r wc' wm', fX11_hours_32 (f + 1) (iN V) (iN i) wc = some (r, wc') ∧ fX12_hours_36 (g + 1) (iN V) (iN i) wm = some (r, wm') ∧ YY n wc' wm' := by
      intro ec
      obtain ⟨mk, cnt, w2, k1, k2, k3, k4, k5, k6, k7⟩ := lead_eq t1
      refine go w2 cnt (t1.fl (fun a ha => k5 a (by omega)) k6 (fun _ _ _ _ _ => rfl) rfl (fun _ _ _ => rfl)) k1 k2 k7 (ec.trans ?_)
      unfold fX11_hours_70
      rw [k3, Option.bind_some, k4, Option.bind_some]
    by_cases z : i = 0
    · exact lead (by rw [cst, if_pos (by rw [z]; rfl)])
    · have iz : ¬ iN i = 0 := fun e => z ((iN_inj (by omega) (by omega)).mp (e.trans (show (0 : Int32) = iN 0 from rfl)))
      by_cases y : jrm (m1.1 149 4300) 24 < 2
      · exact lead (by rw [cst, if_neg iz, if_pos y])
      · rcases hI with e | e | ⟨cnt, h8, hc, hS⟩
        · exact absurd e z
        · have y' : ¬ ((wm.1 149 4300).toInt + 1) % 24 < 2 := fun q => y (lt_I.mpr (by rw [jr]; exact q))
          have e0 : (jrm (wm.1 149 4300) 24).toInt = 0 := by rw [e]; rfl
          rw [jr0] at e0
          omega
        · have y' : ¬ ((wm.1 149 4300).toInt + 1) % 24 < 2 := fun q => y (lt_I.mpr (by rw [jr]; exact q))
          have d24 : m1.1 149 4300 / 24 = wm.1 149 4300 / 24 := by
            rw [eq_I, div_I (by rw [t3]; omega) (by decide), div_I h0 (by decide), t3, i24]
            omega
          have sl : sameL (wm.1 149) (m1.1 149) := ⟨fun k q1 q2 => o1 k (by omega), fun c hc => ⟨o1 _ (by omega), o1 _ (by omega), o1 _ (by omega)⟩, o1 _ (by omega), d24⟩
          refine go w1 cnt t1 ((o1 4315 (by omega)).trans hc) h8 (fun c hcc => ?_) (by rw [cst, if_neg iz, if_neg y])
          have e : ldS m1 cnt c = ldS wm cnt c := ldS_cong h t1 hcc hc h8 sl
          show w1.1 93 c = (ldS m1 cnt c).1 ∧ w1.1 94 c = (ldS m1 cnt c).2.1 ∧ w1.1 95 c = (ldS m1 cnt c).2.2
          rw [e, t2.1 93 (by omega) (by omega), t2.1 94 (by omega) (by omega), t2.1 95 (by omega) (by omega)]
          exact hS c hcc
theorem hours_ok {n : Nat} {wc wm : Wd} {v1 : Int32} (h : YY n wc wm) (hn : n ≤ 512) : ∃ r wc' wm', fX11_hours v1 wc = some (r, wc') ∧ fX12_hours v1 wm = some (r, wm') ∧ YY n wc' wm' := by
  have h0 := h.thr (x := 0)
  have hh := h0.1.2.2.2.2.2.1.1
  unfold fX11_hours fX12_hours
  simp only [nw_eq, Option.bind_some, isCell_c, isCell_m, isTape_c, isTape_m, within_eq, in_eq, Int32.toInt_toInt64, decide_eq_true_eq, Int32.reduceToInt, Int64.reduceToInt, tn128, tm128, if_true, if_false, Bool.false_eq_true]
  by_cases h1 : 1 ≤ v1.toInt ∧ v1.toInt ≤ 240
  · simp only [if_pos h1]
    obtain ⟨V, hV, rfl⟩ := int_cases 240 (show 0 ≤ v1.toInt ∧ v1.toInt ≤ (240 : Nat) by omega) (by omega)
    have hb1 := hh.1
    have hb2 := hh.2
    have e1 : ((si wm 148 0 0).1 149 4300 + iN V).toInt = ((si wm 148 0 0).1 149 4300).toInt + (V : Int) := by
      rw [add_I (by rw [iN_toInt (by omega)]; omega) (by rw [iN_toInt (by omega)]; omega), iN_toInt (by omega)]
    have i9 : (99999 : Int32).toInt = 99999 := rfl
    rw [mg_0, Option.bind_some, h0.1.hour]
    by_cases q : (99999 : Int32) < (si wm 148 0 0).1 149 4300 + iN V
    · rw [if_pos q, if_pos q]
      exact ⟨-2, _, _, rfl, rfl, h0⟩
    · rw [if_neg q, if_neg q]
      rw [lt_I, e1, i9] at q
      obtain ⟨r, wc', wm', a1, a2, a3⟩ := hours_loop (V := V) hn hV V 0 FU FU wc (si wm 148 0 0) (by omega) (by unfold FU; omega) (by unfold FU; omega) h0 (by omega) (Or.inl rfl)
      exact ⟨r, wc', wm', a1, a2, a3⟩
  · simp only [if_neg h1]
    exact ⟨-1, _, _, rfl, rfl, h0⟩
