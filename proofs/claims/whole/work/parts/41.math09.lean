-- MATHEMATICS: m67
def gN (S : Nat → Int32) (cb : Nat → Bool) (cnt c : Nat) : Int32 := if S (1500 + 10 * c) = 1 then S (1500 + 10 * c + 1) else (LdV S (firstL S cb c cnt cnt) c).1
def nxN (S : Nat → Int32) (cb : Nat → Bool) (cnt c : Nat) : Option Nat := if gN S cb cnt c = -1 then none else some (gN S cb cnt c).toNatClampNeg
def rvB (S : Nat → Int32) (c : Nat) : Bool := decide (S (15 * c + 4) = 1)
def FN (S : Nat → Int32) (cb : Nat → Bool) (cnt : Nat) : Nat → Nat → Bool
  | 0, c => rvB S c
  | n + 1, c => rvB S c || (!(decide (S (1500 + 10 * c) = 2)) && match nxN S cb cnt c with
    | none => false
    | some d => FN S cb cnt n d)
theorem gN_rng {S : Nat → Int32} {cb : Nat → Bool} {n cnt c : Nat} {w : Wd} (h : YC w 0 S n) (hc : c < 100) (hcnt : S 4315 = iN cnt) (h8 : cnt ≤ 8) : gN S cb cnt c = -1 ∨ ∃ d, d < 100 ∧ gN S cb cnt c = iN d := by
  obtain ⟨hA, hH, hL, -⟩ := h.2.2
  unfold gN
  by_cases q : S (1500 + 10 * c) = 1
  · rw [if_pos q]
    obtain ⟨t, t1, t2, -⟩ := ((hH.1 c hc).1.2.1 q).1
    exact Or.inr ⟨t, t1, t2⟩
  · rw [if_neg q]
    have hd := (hA c hc).2.1
    have hdn : S (15 * c + 6) = -1 ∨ ∃ d, d < 100 ∧ S (15 * c + 6) = iN d := by
      rcases hd with e | ⟨d, d1, d2, -⟩
      · exact Or.inl e
      · exact Or.inr ⟨d, d1, d2⟩
    cases e : firstL S cb c cnt cnt with
    | none => exact hdn
    | some p =>
      obtain ⟨m, i⟩ := p
      obtain ⟨m1, m2, -, -⟩ := firstL_lt (Nat.le_refl _) e
      have hm : (m : Int) < (S 4315).toInt := by
        rw [hcnt, iN_toInt (by omega)]
        omega
      show (if i + 1 < lenS S m then S (3304 + 125 * m + 6 * (i + 1)) else S (15 * c + 6)) = -1 ∨ ∃ d, d < 100 ∧ (if i + 1 < lenS S m then S (3304 + 125 * m + 6 * (i + 1)) else S (15 * c + 6)) = iN d
      by_cases q2 : i + 1 < lenS S m
      · rw [if_pos q2]
        obtain ⟨l1, l2, l3⟩ := lenS_eq h hm
        exact Or.inr (h.lcell hm (by rw [l1, iN_toInt (by omega)]; omega))
      · rw [if_neg q2]
        exact hdn
theorem nxN_some {S : Nat → Int32} {cb : Nat → Bool} {n cnt c d : Nat} {w : Wd} (h : YC w 0 S n) (hc : c < 100) (hcnt : S 4315 = iN cnt) (h8 : cnt ≤ 8) (e : nxN S cb cnt c = some d) : d < 100 ∧ gN S cb cnt c = iN d := by
  unfold nxN at e
  split at e
  · cases e
  · rcases gN_rng (cb := cb) h hc hcnt h8 with q | ⟨d', d1, d2⟩
    · contradiction
    · rw [d2, iN_clamp (by omega)] at e
      cases e
      exact ⟨d1, d2⟩
theorem nxN_none {S : Nat → Int32} {cb : Nat → Bool} {cnt c : Nat} (e : nxN S cb cnt c = none) : gN S cb cnt c = -1 := by
  unfold nxN at e
  split at e
  · assumption
  · cases e
theorem FN_mono {S : Nat → Int32} {cb : Nat → Bool} {cnt : Nat} : ∀ n c, FN S cb cnt n c = true → FN S cb cnt (n + 1) c = true
  | 0, c, h => by
    show (rvB S c || _) = true
    rw [show rvB S c = true from h]
    rfl
  | n + 1, c, h => by
    have ih := FN_mono (S := S) (cb := cb) (cnt := cnt) n
    unfold FN at h ⊢
    rw [Bool.or_eq_true] at h ⊢
    rcases h with h | h
    · exact Or.inl h
    · refine Or.inr ?_
      rw [Bool.and_eq_true] at h ⊢
      refine ⟨h.1, ?_⟩
      have h2 := h.2
      split
      · rename_i e
        rw [e] at h2
        exact h2
      · rename_i d e
        rw [e] at h2
        exact ih d h2
theorem FN_le {S : Nat → Int32} {cb : Nat → Bool} {cnt c n : Nat} : ∀ k, FN S cb cnt n c = true → FN S cb cnt (n + k) c = true
  | 0, h => h
  | k + 1, h => FN_mono _ _ (FN_le k h)
theorem cnt_same {p q : Nat → Bool} : ∀ n, (∀ i, i < n → p i = true → q i = true) → cntN p n = cntN q n → ∀ i, i < n → p i = q i
  | 0, _, _, i, hi => by omega
  | n + 1, h, e, i, hi => by
    have h1 := cntN_mono n (fun i hi => h i (by omega))
    have h2 := h n (by omega)
    have e' : cntN p n + (if p n = true then 1 else 0) = cntN q n + (if q n = true then 1 else 0) := e
    have key : p n = q n ∧ cntN p n = cntN q n := by
      cases hp : p n <;> cases hq : q n
      · rw [hp, hq] at e'
        exact ⟨rfl, by omega⟩
      · rw [hp, hq, if_neg (by simp), if_pos rfl] at e'
        omega
      · rw [h2 hp] at hq
        cases hq
      · rw [hp, hq] at e'
        exact ⟨rfl, by omega⟩
    by_cases q : i = n
    · rw [q]
      exact key.1
    · exact cnt_same n (fun i hi => h i (by omega)) key.2 i (by omega)
def tQ (S : Nat → Int32) (cnt : Nat) (w : Wd) (n : Nat) : Prop := YC w 0 S n ∧ S 4315 = iN cnt ∧ cnt ≤ 8
theorem FN_stable {S : Nat → Int32} {cb : Nat → Bool} {cnt n m : Nat} {w : Wd} (h : tQ S cnt w n) (e : ∀ c, c < 100 → FN S cb cnt (m + 1) c = FN S cb cnt m c) : ∀ k c, c < 100 → FN S cb cnt (m + k) c = FN S cb cnt m c
  | 0, c, _ => rfl
  | k + 1, c, hc => by
    have ih := FN_stable h e k
    have : FN S cb cnt (m + k + 1) c = FN S cb cnt (m + 1) c := by
      unfold FN
      split
      · rfl
      · rename_i d q
        rw [ih d (nxN_some h.1 hc h.2.1 h.2.2 q).1]
    rw [← e c hc, ← this]
    rfl
theorem FN_grow {S : Nat → Int32} {cb : Nat → Bool} {cnt : Nat} : ∀ k, (∃ m, m ≤ k ∧ cntN (FN S cb cnt (m + 1)) 100 = cntN (FN S cb cnt m) 100) ∨ k + 1 ≤ cntN (FN S cb cnt (k + 1)) 100
  | 0 => by
    have h := cntN_mono (p := FN S cb cnt 0) (q := FN S cb cnt 1) 100 (fun i _ => FN_mono 0 i)
    by_cases e : cntN (FN S cb cnt 1) 100 = cntN (FN S cb cnt 0) 100
    · exact Or.inl ⟨0, Nat.le_refl _, e⟩
    · exact Or.inr (by show 0 + 1 ≤ cntN (FN S cb cnt 1) 100; omega)
  | k + 1 => by
    rcases FN_grow (S := S) (cb := cb) (cnt := cnt) k with ⟨m, m1, m2⟩ | q
    · exact Or.inl ⟨m, by omega, m2⟩
    · have h := cntN_mono (p := FN S cb cnt (k + 1)) (q := FN S cb cnt (k + 2)) 100 (fun i _ => FN_mono (k + 1) i)
      by_cases e : cntN (FN S cb cnt (k + 2)) 100 = cntN (FN S cb cnt (k + 1)) 100
      · exact Or.inl ⟨k + 1, Nat.le_refl _, e⟩
      · exact Or.inr (by show k + 1 + 1 ≤ cntN (FN S cb cnt (k + 2)) 100; omega)
def foB (S : Nat → Int32) (cb : Nat → Bool) (cnt c : Nat) : Bool := FN S cb cnt 200 c
theorem fo_any {S : Nat → Int32} {cb : Nat → Bool} {cnt n c k : Nat} {w : Wd} (h : tQ S cnt w n) (hc : c < 100) (e : FN S cb cnt k c = true) : foB S cb cnt c = true := by
  rcases FN_grow (S := S) (cb := cb) (cnt := cnt) 100 with ⟨m, m1, m2⟩ | q
  · have st := cnt_same (p := FN S cb cnt m) (q := FN S cb cnt (m + 1)) 100 (fun i _ => FN_mono m i) m2.symm
    have al := FN_stable h (fun c hc => (st c hc).symm)
    unfold foB
    by_cases q : k ≤ m
    · have := FN_le (m - k) e
      rw [show k + (m - k) = m by omega] at this
      have := FN_le (200 - m) this
      rw [show m + (200 - m) = 200 by omega] at this
      exact this
    · have h1 := al (k - m) c hc
      rw [show m + (k - m) = k by omega, e] at h1
      have := FN_le (200 - m) h1.symm
      rw [show m + (200 - m) = 200 by omega] at this
      exact this
  · have := cntN_le (FN S cb cnt (100 + 1)) 100
    omega
theorem fo_riv {S : Nat → Int32} {cb : Nat → Bool} {cnt c : Nat} (e : rvB S c = true) : foB S cb cnt c = true := by
  show (rvB S c || _) = true
  rw [e]
  rfl
theorem fo_end {S : Nat → Int32} {cb : Nat → Bool} {cnt c : Nat} (e : rvB S c = false) (q : S (1500 + 10 * c) = 2 ∨ nxN S cb cnt c = none) : foB S cb cnt c = false := by
  unfold foB FN
  rw [e]
  rcases q with q | q
  · rw [decide_eq_true q]
    rfl
  · rw [q]
    simp
theorem fo_step {S : Nat → Int32} {cb : Nat → Bool} {cnt n c d : Nat} {w : Wd} (h : tQ S cnt w n) (hc : c < 100) (e : rvB S c = false) (q : ¬ S (1500 + 10 * c) = 2) (hn : nxN S cb cnt c = some d) : foB S cb cnt c = foB S cb cnt d := by
  have hd := (nxN_some h.1 hc h.2.1 h.2.2 hn).1
  have e1 : ∀ k, FN S cb cnt (k + 1) c = FN S cb cnt k d := fun k => by
    rw [FN, e, hn, decide_eq_false q]
    rfl
  rw [Bool.eq_iff_iff]
  constructor
  · intro h1
    have h2 : FN S cb cnt (199 + 1) c = true := h1
    rw [e1] at h2
    exact fo_any h hd h2
  · intro h1
    have h2 : FN S cb cnt 200 d = true := h1
    rw [← e1] at h2
    exact fo_any h hc h2
theorem fo_cyc {S : Nat → Int32} {cb : Nat → Bool} {cnt : Nat} {T : Nat → Bool} (hT : ∀ x, x < 100 → T x = true → rvB S x = false ∧ (S (1500 + 10 * x) = 2 ∨ ∀ d, nxN S cb cnt x = some d → d < 100 ∧ T d = true)) : ∀ k x, x < 100 → T x = true → FN S cb cnt k x = false
  | 0, x, hx, h => (hT x hx h).1
  | k + 1, x, hx, h => by
    obtain ⟨h1, h2⟩ := hT x hx h
    unfold FN
    rw [h1]
    rcases h2 with h2 | h2
    · rw [decide_eq_true h2]
      rfl
    · split
      · simp
      · rename_i d e
        obtain ⟨d1, d2⟩ := h2 d e
        rw [fo_cyc hT k d d1 d2]
        simp
theorem mh_j {w : Wd} {c j : Nat} (hc : c < 100) (hj : (OfNat.ofNat j : Nat) < 10) : fX12_h (iN c) (OfNat.ofNat j : Int32) w = some (w.1 149 (1500 + 10 * c + (OfNat.ofNat j : Nat))) := mh_eq (j := (OfNat.ofNat j : Nat)) hc hj
theorem nb_loop {n c cnt : Nat} {cb : Nat → Bool} {wc w : Wd} (h : YY n wc w) (hc : c < 100) (hcnt : w.1 149 4315 = iN cnt) (h8 : cnt ≤ 8) : ∀ (t k fuel : Nat), k + t = cnt → t < fuel → fX12_nextBy_19 w fuel (maskL cb cnt) (iN c) (iN k) = some (LdV (w.1 149) (firstL (w.1 149) cb c cnt t) c).1
  | 0, k, fuel + 1, hk, _ => by
    obtain rfl : k = cnt := by omega
    rw [fX12_nextBy_19, mg_15, Option.bind_some, hcnt, if_neg (by rw [lt_I]; exact Int.lt_irrefl _), mc_j hc (by decide)]
    rfl
  | t + 1, k, fuel + 1, hk, hf => by
    have ih := nb_loop (cb := cb) h hc hcnt h8 t (k + 1) fuel (by omega) (by omega)
    have hm : (k : Int) < (w.1 149 4315).toInt := by
      rw [hcnt, iN_toInt (by omega)]
      omega
    obtain ⟨l1, l2, l3⟩ := lenS_eq h.1 hm
    have hk2 : cnt - (t + 1) = k := by omega
    have hF : firstL (w.1 149) cb c cnt (t + 1) = match placeF (w.1 149) k c (lenS (w.1 149) k) (lenS (w.1 149) k) with
        | none => firstL (w.1 149) cb c cnt t
        | some i => if cb k = true then some (k, i) else firstL (w.1 149) cb c cnt t := by
      show (match placeF (w.1 149) (cnt - (t + 1)) c (lenS (w.1 149) (cnt - (t + 1))) (lenS (w.1 149) (cnt - (t + 1))) with
        | none => firstL (w.1 149) cb c cnt t
        | some i => if cb (cnt - (t + 1)) = true then some (cnt - (t + 1), i) else firstL (w.1 149) cb c cnt t) = _
      rw [hk2]
    have p2 : fX12_placeOn (iN k) (iN c) w = _ := place_m h hm (c := c) (lenS (w.1 149) k) 0 FU (by omega) (by unfold FU; omega)
    rw [fX12_nextBy_19, mg_15, Option.bind_some, hcnt, if_pos ((iN_lt (by omega) (by omega)).mpr (by omega)), hF]
    have go1 : fX12_nextBy_48 (fX12_nextBy_19 w fuel) (maskL cb cnt) (iN c) (iN k) (-1) w = some (LdV (w.1 149) (firstL (w.1 149) cb c cnt t) c).1 := by
      unfold fX12_nextBy_48
      rw [if_pos rfl, add_lit]
      exact ih
    by_cases q : cb k = true
    · rw [if_pos ((mask_bit h8 (by omega)).mpr q), p2, Option.bind_some]
      cases pe : placeF (w.1 149) k c (lenS (w.1 149) k) (lenS (w.1 149) k) with
      | none => exact go1
      | some i =>
        obtain ⟨i1, -⟩ := placeF_lt (Nat.le_refl _) pe
        show _ = some (LdV (w.1 149) (if cb k = true then some (k, i) else _) c).1
        rw [if_pos q]
        unfold fX12_nextBy_48
        rw [if_neg (enc1_ne (by omega)), show enc1 (some i) = iN i from rfl, ml_0 (by omega), Option.bind_some, l1, show iN (lenS (w.1 149) k) - 1 = iN (lenS (w.1 149) k - 1) from sub_lit (n := 1) (by show 1 ≤ _; omega), add_lit, msp_eq, Option.bind_some, add_lit, inb_lt2 (by omega) (by omega), if_pos rfl, ri_iN (by omega), mc_j hc (by decide)]
        show _ = some (if i + 1 < lenS (w.1 149) k then w.1 149 (3304 + 125 * k + 6 * (i + 1)) else w.1 149 (15 * c + 6))
        by_cases q2 : i + 1 < lenS (w.1 149) k
        · rw [if_pos q2, if_pos ((iN_lt (by omega) (by omega)).mpr (by omega))]
          rfl
        · rw [if_neg q2, if_neg (fun e => by have := (iN_lt (by omega) (by omega)).mp e; omega)]
          rfl
    · rw [if_neg (fun e => q ((mask_bit h8 (by omega)).mp e))]
      have : (match placeF (w.1 149) k c (lenS (w.1 149) k) (lenS (w.1 149) k) with
        | none => firstL (w.1 149) cb c cnt t
        | some i => if cb k = true then some (k, i) else firstL (w.1 149) cb c cnt t) = firstL (w.1 149) cb c cnt t := by
        split
        · rfl
        · rw [if_neg q]
      rw [this]
      exact go1
theorem next_m {n c cnt : Nat} {cb : Nat → Bool} {wc w : Wd} (h : YY n wc w) (hc : c < 100) (hcnt : w.1 149 4315 = iN cnt) (h8 : cnt ≤ 8) : fX12_nextBy (maskL cb cnt) (iN c) w = some (gN (w.1 149) cb cnt c) := by
  unfold fX12_nextBy gN
  rw [mh_0 hc, Option.bind_some]
  by_cases q : w.1 149 (1500 + 10 * c) = 1
  · rw [if_pos q, if_pos q, mh_j hc (by decide)]
    rfl
  · rw [if_neg q, if_neg q]
    exact nb_loop h hc hcnt h8 cnt 0 FU (by omega) (by unfold FU; omega)
def GW (wb w : Wd) : Prop := (∀ a, ¬ a = 164 → w.1 a = wb.1 a) ∧ w.2 = wb.2
theorem GW.yy {n : Nat} {wc wb w : Wd} (h : YY n wc wb) (hw : GW wb w) : YY n wc w := h.fl (fun _ _ => rfl) rfl (fun a h1 h2 h3 h4 => hw.1 a h4) hw.2 (fun j _ _ => by rw [hw.1 148 (by omega)])
theorem fb2 {n cnt : Nat} {cb : Nat → Bool} {wc wb : Wd} (h : YY n wc wb) (hcnt : wb.1 149 4315 = iN cnt) (h8 : cnt ≤ 8) : ∀ (m k fuel : Nat) (w : Wd), k + m = 100 → m < fuel → GW wb w → (∀ c, c < k → w.1 164 c = gN (wb.1 149) cb cnt c) → ∃ w', fX12_fouledBy_2 fuel (maskL cb cnt) (iN k) w = fX12_fouledBy_30 FU 0 0 w' ∧ GW wb w' ∧ ∀ c, c < 100 → w'.1 164 c = gN (wb.1 149) cb cnt c
  | 0, k, fuel + 1, w, hk, _, hw, hg => by
    obtain rfl : k = 100 := by omega
    rw [fX12_fouledBy_2, if_neg (show ¬ iN 100 < 100 by decide)]
    exact ⟨w, rfl, hw, hg⟩
  | m + 1, k, fuel + 1, w, hk, hf, hw, hg => by
    have hY := hw.yy h
    have h149 : w.1 149 = wb.1 149 := hw.1 149 (by omega)
    rw [fX12_fouledBy_2, if_pos ((iN_lt_lit (by omega) (by omega)).mpr (show k < 100 by omega)), next_m hY (by omega) (by rw [h149]; exact hcnt) h8, Option.bind_some, inb_lt2 (by omega) (by omega), if_pos rfl, nw_eq, wi_iN (by omega), add_lit, h149]
    refine fb2 h hcnt h8 m (k + 1) fuel _ (by omega) (by omega) ⟨fun a ha => (si_oth ha).trans (hw.1 a ha), hw.2⟩ (fun c hc => ?_)
    rw [si_1]
    by_cases e : c = k
    · rw [if_pos ⟨rfl, e⟩, e]
    · rw [if_neg (by omega)]
      exact hg c (by omega)
def popF (S : Nat → Int32) (cb : Nat → Bool) (cnt c : Nat) : Int32 := if S (15 * c + 2) = 0 then 0 else if rvB S c = true then 0 else if foB S cb cnt c = true then S (15 * c + 2) else 0
theorem fb64 {n cnt c0 : Nat} {cb : Nat → Bool} {wc w : Wd} {k30 : Int32 → Int32 → Wd → Option (Int32 × Wd)} {x : Int32} (h : YY n wc w) (hcnt : w.1 149 4315 = iN cnt) (h8 : cnt ≤ 8) (hc0 : c0 < 100) (hg : ∀ c, c < 100 → w.1 164 c = gN (w.1 149) cb cnt c) : ∀ (m c k fuel : Nat), k + m = 200 → m < fuel → c < 100 → fX12_fouledBy_64 k30 fuel x (iN c0) (iN c) (iN k) w = k30 (x + (if FN (w.1 149) cb cnt m c = true then w.1 149 (15 * c0 + 2) else 0)) (iN (c0 + 1)) w := by
  have e114 : ∀ c, c < 100 → fX12_fouledBy_114 k30 x (iN c0) (iN c) w = k30 (x + (if rvB (w.1 149) c = true then w.1 149 (15 * c0 + 2) else 0)) (iN (c0 + 1)) w := fun c hc => by
    unfold fX12_fouledBy_114 fX12_fouledBy_141 rvB
    rw [if_neg (iN_ne1 (by omega)), mc_j hc (by decide), Option.bind_some, mc_j hc0 (by decide), Option.bind_some, add_lit]
    by_cases q : w.1 149 (15 * c + 4) = 1
    · rw [if_pos q, decide_eq_true q]
      rfl
    · rw [if_neg q, decide_eq_false q]
      rfl
  intro m
  induction m with
  | zero =>
    intro c k fuel hk hf hc
    obtain ⟨fuel, rfl⟩ : ∃ g, fuel = g + 1 := ⟨fuel - 1, by omega⟩
    obtain rfl : k = 200 := by omega
    rw [fX12_fouledBy_64, if_neg (show ¬ iN 200 < 200 by decide), e114 c hc]
    rfl
  | succ m ih =>
    intro c k fuel hk hf hc
    obtain ⟨fuel, rfl⟩ : ∃ g, fuel = g + 1 := ⟨fuel - 1, by omega⟩
    have hb := (h.1.2.2.1 c hc).1.2.2.2.2.1
    rw [fX12_fouledBy_64, if_pos ((iN_lt_lit (by omega) (by omega)).mpr (show k < 200 by omega)), if_neg (iN_ne1 (by omega)), mc_j hc (by decide), Option.bind_some, mh_0 hc, Option.bind_some, inb_lt2 hc (by omega), if_pos rfl, ri_iN (by omega), hg c hc, e114 c hc]
    show (if w.1 149 (15 * c + 4) = 0 then _ else _) = _
    unfold FN
    by_cases q : w.1 149 (15 * c + 4) = 0
    · have hr : rvB (w.1 149) c = false := by
        unfold rvB
        rw [q]
        rfl
      rw [if_pos q, hr]
      by_cases q2 : w.1 149 (1500 + 10 * c) = 2
      · rw [if_pos q2, decide_eq_true q2]
        rfl
      · rw [if_neg q2, decide_eq_false q2]
        cases en : nxN (w.1 149) cb cnt c with
        | none =>
          rw [nxN_none en, add_lit]
          cases m with
          | zero =>
            obtain ⟨fuel, rfl⟩ : ∃ g, fuel = g + 1 := ⟨fuel - 1, by omega⟩
            rw [fX12_fouledBy_64, if_neg (show ¬ iN (k + 1) < 200 from fun e => by have := (iN_lt_lit (by omega) (by omega)).mp e; omega)]
            unfold fX12_fouledBy_114 fX12_fouledBy_141
            rw [if_pos rfl, add_lit]
            rfl
          | succ m =>
            obtain ⟨fuel, rfl⟩ : ∃ g, fuel = g + 1 := ⟨fuel - 1, by omega⟩
            rw [fX12_fouledBy_64, if_pos ((iN_lt_lit (by omega) (by omega)).mpr (show k + 1 < 200 by omega)), if_pos rfl]
            unfold fX12_fouledBy_114 fX12_fouledBy_141
            rw [if_pos rfl, add_lit]
            rfl
        | some d =>
          obtain ⟨d1, d2⟩ := nxN_some h.1 hc hcnt h8 en
          rw [d2, add_lit, ih d (k + 1) fuel (by omega) (by omega) d1]
          rfl
    · have hr : rvB (w.1 149) c = true := by
        unfold rvB
        rcases bit_or hb with e | e
        · exact (q e).elim
        · rw [decide_eq_true e]
      rw [if_neg q, hr]
      rfl
theorem fb30 {n cnt : Nat} {cb : Nat → Bool} {wc w : Wd} (h : YY n wc w) (hcnt : w.1 149 4315 = iN cnt) (h8 : cnt ≤ 8) (hg : ∀ c, c < 100 → w.1 164 c = gN (w.1 149) cb cnt c) : ∀ (m k fuel : Nat), k + m = 100 → m < fuel → fX12_fouledBy_30 fuel (sumN (popF (w.1 149) cb cnt) k) (iN k) w = some (sumN (popF (w.1 149) cb cnt) 100, w)
  | 0, k, fuel + 1, hk, _ => by
    obtain rfl : k = 100 := by omega
    rw [fX12_fouledBy_30, if_neg (show ¬ iN 100 < 100 by decide)]
  | m + 1, k, fuel + 1, hk, hf => by
    have ih := fb30 h hcnt h8 hg m (k + 1) fuel (by omega) (by omega)
    rw [show sumN (popF (w.1 149) cb cnt) (k + 1) = sumN (popF (w.1 149) cb cnt) k + popF (w.1 149) cb cnt k from rfl] at ih
    have e64 := fb64 (k30 := fX12_fouledBy_30 fuel) (x := sumN (popF (w.1 149) cb cnt) k) h hcnt h8 (show k < 100 by omega) hg 200 k 0 FU (by omega) (by unfold FU; omega) (by omega)
    rw [show iN 0 = 0 from rfl] at e64
    rw [fX12_fouledBy_30, if_pos ((iN_lt_lit (by omega) (by omega)).mpr (show k < 100 by omega)), mc_j (by omega) (by decide), Option.bind_some, mc_j (by omega) (by decide), Option.bind_some, add_lit, e64]
    unfold popF at ih
    show (if w.1 149 (15 * k + 4) = 1 then _ else if w.1 149 (15 * k + 2) = 0 then _ else _) = _
    by_cases q : w.1 149 (15 * k + 4) = 1
    · rw [if_pos q]
      have hr : rvB (w.1 149) k = true := decide_eq_true q
      rw [hr, if_pos rfl, ite_self, Int32.add_zero] at ih
      exact ih
    · rw [if_neg q]
      have hr : rvB (w.1 149) k = false := decide_eq_false q
      rw [hr] at ih
      by_cases q2 : w.1 149 (15 * k + 2) = 0
      · rw [if_pos q2]
        rw [if_pos q2, Int32.add_zero] at ih
        exact ih
      · rw [if_neg q2]
        rw [if_neg q2, if_neg (by simp)] at ih
        exact ih
theorem fouled_m {n cnt : Nat} {cb : Nat → Bool} {wc wm : Wd} (h : YY n wc wm) (hcnt : wm.1 149 4315 = iN cnt) (h8 : cnt ≤ 8) : ∃ w', fX12_fouledBy (maskL cb cnt) wm = some (sumN (popF (wm.1 149) cb cnt) 100, w') ∧ GW wm w' := by
  obtain ⟨w', e1, e2, e3⟩ := fb2 (cb := cb) h hcnt h8 100 0 FU wm (by omega) (by unfold FU; omega) ⟨fun _ _ => rfl, rfl⟩ (fun c hc => by omega)
  have h149 : w'.1 149 = wm.1 149 := e2.1 149 (by omega)
  refine ⟨w', ?_, e2⟩
  have e30 := fb30 (cb := cb) (e2.yy h) (by rw [h149]; exact hcnt) h8 (fun c hc => by rw [h149]; exact e3 c hc) 100 0 FU (by omega) (by unfold FU; omega)
  rw [h149] at e30
  unfold fX12_fouledBy
  rw [show iN 0 = 0 from rfl] at e1
  rw [e1]
  exact e30
-- MATHEMATICS: m68
def JMk (S : Nat → Int32) (cb : Nat → Bool) (cnt c : Nat) (x : Int32) : Prop := x = 0 ∨ (x = 1 ∧ foB S cb cnt c = false) ∨ (x = 2 ∧ foB S cb cnt c = true)
def JM (S : Nat → Int32) (cb : Nat → Bool) (cnt : Nat) (w : Wd) : Prop := ∀ c, c < 100 → JMk S cb cnt c (w.1 98 c)
def TI (wl : Wd) (S : Nat → Int32) (cb : Nat → Bool) (cnt s : Nat) (T : Nat → Bool) (c : Nat) (w : Wd) : Prop := CW wl w ∧ c < 100 ∧ s = cntN T 100 ∧ (∀ i, i < s → ∃ x, x < 100 ∧ w.1 99 i = iN x ∧ T x = true) ∧ (∀ x, x < 100 → T x = true → ∃ i, i < s ∧ w.1 99 i = iN x) ∧ (∀ x, x < 100 → T x = true → w.1 98 x = 1 ∧ rvB S x = false ∧ foB S cb cnt x = foB S cb cnt c ∧ (S (1500 + 10 * x) = 2 ∨ ∀ d, nxN S cb cnt x = some d → d < 100 ∧ (T d = true ∨ d = c))) ∧ ∀ x, x < 100 → T x = false → JMk S cb cnt x (w.1 98 x)
theorem tr154 {wl : Wd} {S : Nat → Int32} {cb T : Nat → Bool} {cnt s : Nat} (hs : s ≤ 100) (hf : ∀ x, x < 100 → T x = true → foB S cb cnt x = true) : ∀ (m i fuel : Nat) (w : Wd), i + m = s → m < fuel → CW wl w → (∀ j, j < s → ∃ x, x < 100 ∧ w.1 99 j = iN x ∧ T x = true) → (∀ x, x < 100 → T x = true → ∃ j, j < s ∧ w.1 99 j = iN x) → (∀ x, x < 100 → T x = false → JMk S cb cnt x (w.1 98 x)) → (∀ j x, j < i → x < 100 → w.1 99 j = iN x → w.1 98 x = 2) → ∃ w', fX1_traceIsFouled_154 fuel (iN s) (iN i) w = some (true, w') ∧ CW wl w' ∧ JM S cb cnt w'
  | 0, i, fuel + 1, w, hi, _, hw, h1, h2, h3, h4 => by
    obtain rfl : i = s := by omega
    rw [fX1_traceIsFouled_154, if_neg (by rw [lt_I]; exact Int.lt_irrefl _)]
    refine ⟨w, rfl, hw, fun c hc => ?_⟩
    cases e : T c
    · exact h3 c hc e
    · obtain ⟨j, j1, j2⟩ := h2 c hc e
      exact Or.inr (Or.inr ⟨h4 j c j1 hc j2, hf c hc e⟩)
  | m + 1, i, fuel + 1, w, hi, hfu, hw, h1, h2, h3, h4 => by
    obtain ⟨x, x1, x2, x3⟩ := h1 i (by omega)
    rw [fX1_traceIsFouled_154, if_pos ((iN_lt (by omega) (by omega)).mpr (by omega)), inb_lt2 (by omega) (by omega), if_pos rfl, ri_iN (by omega), x2, inb_lt2 x1 (by omega), if_pos rfl, nw_eq, wi_iN (by omega), add_lit]
    have o99 : ∀ v, (si w 98 x v).1 99 = w.1 99 := fun v => si_oth (by omega)
    refine tr154 hs hf m (i + 1) fuel _ (by omega) (by omega) (hw.put (by omega)) (by rw [o99]; exact h1) (by rw [o99]; exact h2) (fun y hy e => ?_) (fun j y hj hy e => ?_)
    · rw [si_1, if_neg (by rintro ⟨-, q⟩; rw [q, x3] at e; cases e)]
      exact h3 y hy e
    · rw [o99] at e
      rw [si_1]
      by_cases q : y = x
      · rw [if_pos ⟨rfl, q⟩]
      · rw [if_neg (by omega)]
        by_cases q2 : j = i
        · rw [q2, x2] at e
          have := (iN_inj (by omega) (by omega)).mp e
          omega
        · exact h4 j y (by omega) hy e
theorem tr_end {wl : Wd} {S : Nat → Int32} {cb T : Nat → Bool} {cnt s c : Nat} {w : Wd} {x v3 : Int32} {b : Bool} (h : TI wl S cb cnt s T c w) (hb : foB S cb cnt c = b) (hx : (x = 2 ∧ b = true) ∨ (¬ x = 2 ∧ b = false)) : ∃ w', fX1_traceIsFouled_143 (iN s) x w = some (b, w') ∧ CW wl w' ∧ JM S cb cnt w' := by
  obtain ⟨h1, h2, h3, h4, h5, h6, h7⟩ := h
  have hs : s ≤ 100 := by
    rw [h3]
    exact cntN_le T 100
  unfold fX1_traceIsFouled_143
  rcases hx with ⟨q, q2⟩ | ⟨q, q2⟩
  · subst q2
    rw [if_pos q]
    have := tr154 hs (fun x hx e => by rw [(h6 x hx e).2.2.1]; exact hb) s 0 FU w (by omega) (by unfold FU; omega) h1 h4 h5 h7 (fun j x hj => by omega)
    rw [show iN 0 = 0 from rfl] at this
    exact this
  · subst q2
    rw [if_neg q]
    refine ⟨w, rfl, h1, fun c' hc' => ?_⟩
    cases e : T c'
    · exact h7 c' hc' e
    · obtain ⟨a1, a2, a3, a4⟩ := h6 c' hc' e
      exact Or.inr (Or.inl ⟨a1, by rw [a3]; exact hb⟩)
theorem TI.closed {wl : Wd} {S : Nat → Int32} {cb T : Nat → Bool} {cnt s c : Nat} {w : Wd} (h : TI wl S cb cnt s T c w) (hT : T c = true) : foB S cb cnt c = false := by
  obtain ⟨h1, h2, h3, h4, h5, h6, h7⟩ := h
  exact fo_cyc (T := T) (fun x hx e => by
    obtain ⟨a1, a2, a3, a4⟩ := h6 x hx e
    refine ⟨a2, ?_⟩
    rcases a4 with a4 | a4
    · exact Or.inl a4
    · refine Or.inr (fun d hd => ?_)
      obtain ⟨d1, d2⟩ := a4 d hd
      refine ⟨d1, ?_⟩
      rcases d2 with q | q
      · exact q
      · rw [q]
        exact hT) 200 c h2 hT
theorem tr8_end {fuel : Nat} {v3 : Int32} {s : Nat} {x : Int32} {w : Wd} (hx : ¬ x = 0) : fX1_traceIsFouled_8 (fuel + 1) v3 (iN s) x w = fX1_traceIsFouled_143 (iN s) x w := by
  rw [fX1_traceIsFouled_8, if_neg hx]
theorem tr8 {n cnt : Nat} {wl wm : Wd} {cb : Nat → Bool} (h : YY n wl wm) (hcnt : wm.1 149 4315 = iN cnt) (h8 : cnt ≤ 8) (hl : ∀ c, c < 100 → wl.1 93 c = (LdV (wm.1 149) (firstL (wm.1 149) cb c cnt cnt) c).1) : ∀ (m s fuel : Nat) (T : Nat → Bool) (c : Nat) (w : Wd), s + m = 100 → m + 2 < fuel → TI wl (wm.1 149) cb cnt s T c w → ∃ w', fX1_traceIsFouled_8 fuel (iN c) (iN s) 0 w = some (foB (wm.1 149) cb cnt c, w') ∧ CW wl w' ∧ JM (wm.1 149) cb cnt w' := by
  intro m
  induction m with
  | zero =>
    intro s fuel T c w hs hf hI
    obtain ⟨fuel, rfl⟩ : ∃ g, fuel = g + 1 := ⟨fuel - 1, by omega⟩
    obtain rfl : s = 100 := by omega
    have hT : T c = true := cntN_full 100 (by rw [← hI.2.2.1]) c hI.2.1
    have hfo := hI.closed hT
    rw [fX1_traceIsFouled_8, if_pos rfl, if_neg (show ¬ iN 100 < 100 by decide), hfo]
    exact tr_end (v3 := 0) hI hfo (Or.inr ⟨by decide, rfl⟩)
  | succ m ih =>
    intro s fuel T c w hs hf hI
    obtain ⟨fuel, rfl⟩ : ∃ g, fuel = g + 1 + 1 := ⟨fuel - 2, by omega⟩
    have hI0 := hI
    obtain ⟨h1, h2, h3, h4, h5, h6, h7⟩ := hI
    have hY := h1.yy h
    have hr7 : w.1 7 c = wm.1 149 (15 * c + 4) := hY.1.row (j := 4) h2 (by omega)
    rw [fX1_traceIsFouled_8, if_pos rfl, if_pos ((iN_lt_lit (by omega) (by omega)).mpr (show s < 100 by omega)), inb_lt2 h2 (by omega), if_pos rfl, ri_iN (by omega), ri_iN (by omega), hr7]
    by_cases q : w.1 98 c = 0
    · have hTc : T c = false := by
        cases e : T c
        · rfl
        · have := (h6 c h2 e).1
          rw [q] at this
          exact absurd this (by decide)
      rw [if_pos q]
      by_cases q2 : wm.1 149 (15 * c + 4) = 1
      · have hfo : foB (wm.1 149) cb cnt c = true := fo_riv (decide_eq_true q2)
        rw [if_pos q2, tr8_end (by decide), hfo]
        exact tr_end (v3 := 0) hI0 hfo (Or.inl ⟨rfl, rfl⟩)
      · have hrv : rvB (wm.1 149) c = false := decide_eq_false q2
        have o1 : ∀ a i, ¬ a = 98 → ¬ a = 99 → (si (si w 98 c 1) 99 s (iN c)).1 a i = w.1 a i := fun a i q1 q2 => by rw [si_oth q2, si_oth q1]
        have k20 : (si (si w 98 c 1) 99 s (iN c)).1 20 c = wm.1 149 (1500 + 10 * c) := by
          rw [o1 20 c (by omega) (by omega)]
          exact hY.1.hse (j := 0) h2 (Or.inl rfl)
        have k93 : (si (si w 98 c 1) 99 s (iN c)).1 93 c = (LdV (wm.1 149) (firstL (wm.1 149) cb c cnt cnt) c).1 := by
          rw [o1 93 c (by omega) (by omega), h1.1 93 (by omega) (by omega)]
          exact hl c h2
        have nxt : ∀ c', c' < 100 → foB (wm.1 149) cb cnt c' = foB (wm.1 149) cb cnt c → (wm.1 149 (1500 + 10 * c) = 2 ∨ ∀ d, nxN (wm.1 149) cb cnt c = some d → d < 100 ∧ (addM T c d = true ∨ d = c')) → TI wl (wm.1 149) cb cnt (s + 1) (addM T c) c' (si (si w 98 c 1) 99 s (iN c)) := by
          intro c' hc' hfo hnx
          have addc : addM T c c = true := by unfold addM; rw [if_pos rfl]
          refine ⟨(h1.put (by omega)).put (by omega), hc', ?_, fun i hi => ?_, fun x hx e => ?_, fun x hx e => ?_, fun x hx e => ?_⟩
          · rw [cntN_one (p := T) (c := c) (fun i hi => by unfold addM; rw [if_neg hi]) hTc addc, if_pos h2, h3]
          · by_cases e : i = s
            · exact ⟨c, h2, by rw [e, si_at], addc⟩
            · obtain ⟨x, x1, x2, x3⟩ := h4 i (by omega)
              exact ⟨x, x1, by rw [si_1, if_neg (by omega), si_oth (by omega)]; exact x2, addM_of x3⟩
          · by_cases e2 : x = c
            · exact ⟨s, by omega, by rw [e2, si_at]⟩
            · unfold addM at e
              rw [if_neg e2] at e
              obtain ⟨i, i1, i2⟩ := h5 x hx e
              exact ⟨i, by omega, by rw [si_1, if_neg (by omega), si_oth (by omega)]; exact i2⟩
          · by_cases e2 : x = c
            · subst e2
              exact ⟨by rw [si_oth (by omega), si_at], hrv, hfo.symm, hnx⟩
            · unfold addM at e
              rw [if_neg e2] at e
              obtain ⟨a1, a2, a3, a4⟩ := h6 x hx e
              refine ⟨by rw [si_oth (by omega), si_1, if_neg (by omega)]; exact a1, a2, a3.trans hfo.symm, ?_⟩
              rcases a4 with a4 | a4
              · exact Or.inl a4
              · refine Or.inr (fun d hd => ?_)
                obtain ⟨d1, d2⟩ := a4 d hd
                refine ⟨d1, Or.inl ?_⟩
                rcases d2 with d2 | d2
                · exact addM_of d2
                · rw [d2]
                  exact addc
          · have e2 : ¬ x = c := fun e2 => by
              rw [e2, addc] at e
              cases e
            unfold addM at e
            rw [if_neg e2] at e
            rw [si_oth (by omega), si_1, if_neg (by omega)]
            exact h7 x hx e
        have go : ∃ w', fX1_traceIsFouled_108 (fX1_traceIsFouled_8 (fuel + 1)) (iN c) (iN (s + 1)) 0 (gN (wm.1 149) cb cnt c) (si (si w 98 c 1) 99 s (iN c)) = some (foB (wm.1 149) cb cnt c, w') ∧ CW wl w' ∧ JM (wm.1 149) cb cnt w' := by
          unfold fX1_traceIsFouled_108
          rw [inb_lt2 h2 (by omega), if_pos rfl, ri_iN (by omega), k20]
          by_cases q3 : wm.1 149 (1500 + 10 * c) = 2
          · have hfo : foB (wm.1 149) cb cnt c = false := fo_end hrv (Or.inl q3)
            rw [if_pos q3, tr8_end (by decide), hfo]
            exact tr_end (v3 := 0) (nxt c h2 rfl (Or.inl q3)) hfo (Or.inr ⟨by decide, rfl⟩)
          · rw [if_neg q3, isCell_c, Option.bind_some]
            cases en : nxN (wm.1 149) cb cnt c with
            | none =>
              have hfo : foB (wm.1 149) cb cnt c = false := fo_end hrv (Or.inr en)
              rw [nxN_none en, if_neg (by decide), tr8_end (by decide), hfo]
              exact tr_end (v3 := 0) (nxt c h2 rfl (Or.inr (fun d hd => by rw [en] at hd; cases hd))) hfo (Or.inr ⟨by decide, rfl⟩)
            | some d =>
              obtain ⟨d1, d2⟩ := nxN_some hY.1 h2 hcnt h8 en
              have hst := fo_step (cb := cb) ⟨hY.1, hcnt, h8⟩ h2 hrv q3 en
              rw [d2, if_pos (decide_eq_true (by rw [iN_toInt (by omega)]; omega)), hst]
              exact ih (s + 1) (fuel + 1) (addM T c) d _ (by omega) (by omega) (nxt d d1 hst.symm (Or.inr (fun d' hd' => by
                rw [en] at hd'
                cases hd'
                exact ⟨d1, Or.inr rfl⟩)))
        rw [if_neg q2, nw_eq, inb_lt2 (by omega) (by omega), if_pos rfl, nw_eq, wi_iN (by omega), wi_iN (by omega), ri_iN (by omega), ri_iN (by omega), ri_iN (by omega), k20, k93, add_lit]
        unfold gN at go
        by_cases q3 : wm.1 149 (1500 + 10 * c) = 1
        · have k21 : (si (si w 98 c 1) 99 s (iN c)).1 21 c = wm.1 149 (1500 + 10 * c + 1) := by
            rw [o1 21 c (by omega) (by omega)]
            exact hY.1.hse (j := 1) h2 (Or.inr (Or.inr (Or.inl ⟨by omega, q3⟩)))
          rw [if_pos q3] at go
          rw [if_pos q3, k21]
          exact go
        · rw [if_neg q3] at go
          rw [if_neg q3]
          exact go
    · rw [if_neg q, tr8_end q]
      cases e : T c
      · rcases h7 c h2 e with j | ⟨j, j2⟩ | ⟨j, j2⟩
        · exact (q j).elim
        · rw [j2]
          exact tr_end (v3 := 0) hI0 j2 (Or.inr ⟨by rw [j]; decide, rfl⟩)
        · rw [j2]
          exact tr_end (v3 := 0) hI0 j2 (Or.inl ⟨j, rfl⟩)
      · have hfo := hI0.closed e
        rw [hfo]
        exact tr_end (v3 := 0) hI0 hfo (Or.inr ⟨by rw [(h6 c h2 e).1]; decide, rfl⟩)
theorem trace_c {n cnt c : Nat} {wl wm w : Wd} {cb : Nat → Bool} (h : YY n wl wm) (hcnt : wm.1 149 4315 = iN cnt) (h8 : cnt ≤ 8) (hl : ∀ c, c < 100 → wl.1 93 c = (LdV (wm.1 149) (firstL (wm.1 149) cb c cnt cnt) c).1) (hc : c < 100) (hw : CW wl w) (hj : JM (wm.1 149) cb cnt w) : ∃ w', fX1_traceIsFouled (iN c) w = some (foB (wm.1 149) cb cnt c, w') ∧ CW wl w' ∧ JM (wm.1 149) cb cnt w' := by
  have := tr8 h hcnt h8 hl 100 0 FU (fun _ => false) c w (by omega) (by unfold FU; omega) ⟨hw, hc, (cntN_0 100 (fun _ _ => rfl)).symm, (by intro i hi; omega), (by intro x _ e; cases e), (by intro x _ e; cases e), fun x hx _ => hj x hx⟩
  rw [show iN 0 = 0 from rfl] at this
  exact this
theorem pf19 {n cnt : Nat} {wl wm : Wd} {cb : Nat → Bool} (h : YY n wl wm) (hcnt : wm.1 149 4315 = iN cnt) (h8 : cnt ≤ 8) (hl : ∀ c, c < 100 → wl.1 93 c = (LdV (wm.1 149) (firstL (wm.1 149) cb c cnt cnt) c).1) : ∀ (m k fuel : Nat) (w : Wd), k + m = 100 → m < fuel → CW wl w → JM (wm.1 149) cb cnt w → ∃ w', fX1_peopleFouled_19 fuel (sumN (popF (wm.1 149) cb cnt) k) (iN k) w = some (sumN (popF (wm.1 149) cb cnt) 100, w') ∧ CW wl w'
  | 0, k, fuel + 1, w, hk, _, hw, _ => by
    obtain rfl : k = 100 := by omega
    rw [fX1_peopleFouled_19, if_neg (show ¬ iN 100 < 100 by decide)]
    exact ⟨w, rfl, hw⟩
  | m + 1, k, fuel + 1, w, hk, hf, hw, hj => by
    have hY := hw.yy h
    have ih := fun w hw hj => pf19 h hcnt h8 hl m (k + 1) fuel w (by omega) (by omega) hw hj
    rw [show sumN (popF (wm.1 149) cb cnt) (k + 1) = sumN (popF (wm.1 149) cb cnt) k + popF (wm.1 149) cb cnt k from rfl] at ih
    have r5 : w.1 5 k = wm.1 149 (15 * k + 2) := hY.1.row (j := 2) (by omega) (by omega)
    have r7 : w.1 7 k = wm.1 149 (15 * k + 4) := hY.1.row (j := 4) (by omega) (by omega)
    rw [fX1_peopleFouled_19, if_pos ((iN_lt_lit (by omega) (by omega)).mpr (show k < 100 by omega)), inb_lt2 (by omega) (by omega), if_pos rfl, ri_iN (by omega), ri_iN (by omega), r5, r7, add_lit]
    unfold popF at ih
    by_cases q : wm.1 149 (15 * k + 2) = 0
    · rw [if_pos q]
      rw [if_pos q, Int32.add_zero] at ih
      exact ih w hw hj
    · rw [if_neg q]
      rw [if_neg q] at ih
      by_cases q2 : wm.1 149 (15 * k + 4) = 1
      · have hr : rvB (wm.1 149) k = true := decide_eq_true q2
        rw [if_pos q2]
        rw [hr, if_pos rfl, Int32.add_zero] at ih
        exact ih w hw hj
      · have hr : rvB (wm.1 149) k = false := decide_eq_false q2
        rw [if_neg q2]
        rw [hr, if_neg (by simp)] at ih
        obtain ⟨w1, t1, t2, t3⟩ := trace_c h hcnt h8 hl (show k < 100 by omega) hw hj
        have r5' : w1.1 5 k = wm.1 149 (15 * k + 2) := (t2.yy h).1.row (j := 2) (by omega) (by omega)
        rw [t1, Option.bind_some]
        show ∃ w', (if foB (wm.1 149) cb cnt k = true then fX1_peopleFouled_19 fuel (_ + ri w1 5 (iN k)) (iN (k + 1)) w1 else fX1_peopleFouled_19 fuel _ (iN (k + 1)) w1) = _ ∧ _
        rw [ri_iN (by omega), r5']
        cases e : foB (wm.1 149) cb cnt k
        · rw [if_neg (by simp)]
          rw [e, if_neg (by simp), Int32.add_zero] at ih
          exact ih w1 t2 t3
        · rw [if_pos rfl]
          rw [e, if_pos rfl] at ih
          exact ih w1 t2 t3
theorem lead_any {n cnt : Nat} {wc wm : Wd} (h : YY n wc wm) (ec : wm.1 149 4315 = iN cnt) (h8 : cnt ≤ 8) (cb : Nat → Bool) : ∃ wc', fX1_lead (maskL cb cnt) wc = some wc' ∧ (∀ a, ¬ (93 ≤ a ∧ a ≤ 95) → wc'.1 a = wc.1 a) ∧ wc'.2 = wc.2 ∧ St wc' (fun c => LdV (wm.1 149) (firstL (wm.1 149) cb c cnt cnt) c) := by
  obtain ⟨w1, e1, e2, e3, e4⟩ := lead8 (v2 := maskL cb cnt) 100 0 FU wc (by omega) (by unfold FU; omega) h.1 (fun c hc => by omega)
  rw [show iN 0 = 0 from rfl, h.1.many, ec] at e1
  obtain ⟨w2, f1, f2, f3, f4⟩ := lead82 (cb := cb) ec h8 cnt FU w1 (Nat.le_refl _) (by unfold FU; omega) (h.1.cong (fun a ha => e2 a (by omega))) (by
    rw [Nat.sub_self]
    exact e4)
  refine ⟨w2, ?_, fun a ha => by rw [f2 a ha, e2 a ha], by rw [f3, e3], f4⟩
  unfold fX1_lead
  rw [e1]
  exact f1
theorem fouled_c {n cnt : Nat} {cb : Nat → Bool} {wc wm : Wd} (h : YY n wc wm) (hcnt : wm.1 149 4315 = iN cnt) (h8 : cnt ≤ 8) : ∃ w', fX1_peopleFouled (maskL cb cnt) wc = some (sumN (popF (wm.1 149) cb cnt) 100, w') ∧ (∀ a, ¬ (92 ≤ a ∧ a ≤ 99) → w'.1 a = wc.1 a) ∧ w'.2 = wc.2 := by
  obtain ⟨wl, l1, l2, l3, l4⟩ := lead_any h hcnt h8 cb
  have hl : YY n wl wm := h.leads l2 l3
  have hw : CW wl (flI wl 98 100 0) := by
    refine ⟨fun a h1 h2 => ?_, rfl⟩
    funext i
    rw [flI_1, if_neg (by omega)]
  obtain ⟨w', e1, e2⟩ := pf19 (cb := cb) hl hcnt h8 (fun c hc => (l4 c hc).1) 100 0 FU _ (by omega) (by unfold FU; omega) hw (fun c hc => Or.inl (by rw [flI_1, if_pos ⟨rfl, hc⟩]))
  refine ⟨w', ?_, fun a ha => by rw [e2.1 a (by omega) (by omega), l2 a (by omega)], by rw [e2.2, l3]⟩
  unfold fX1_peopleFouled
  rw [l1, Option.bind_some, nw_eq]
  exact e1
-- MATHEMATICS: m69
def CLf (S : Nat → Int32) (m i : Nat) : Int32 := digV S (S (3304 + 125 * m + 6 * i)).toNatClampNeg (S (3304 + 125 * m + 6 * i + 1)) + 10 * S (3301 + 125 * m)
def CL (S : Nat → Int32) (m : Nat) : Int32 := sumN (CLf S m) (lenS S m)
def cstS (S : Nat → Int32) (cb : Nat → Bool) (k : Nat) : Int32 := sumN (fun m => if cb m = true then CL S m else 0) k
theorem cost_c {n m : Nat} {w : Wd} {S : Nat → Int32} (h : YC w 0 S n) (hm : (m : Int) < (S 4315).toInt) : fX0_costOf (36 + 7 * m) w = some (CL S m) := by
  obtain ⟨l1, l2, l3⟩ := lenS_eq h hm
  have hm8 := h.2.2.2.2.1.lt hm
  have loop : ∀ (t i fuel : Nat), i + t = lenS S m → t < fuel → fX0_costOf_4 w fuel (36 + 7 * m) (sumN (CLf S m) i) (iN i) = some (CL S m) := by
    intro t
    induction t with
    | zero =>
      intro i fuel hi hf
      obtain ⟨fuel, rfl⟩ : ∃ g, fuel = g + 1 := ⟨fuel - 1, by omega⟩
      obtain rfl : i = lenS S m := by omega
      rw [fX0_costOf_4, h.len hm, l1, if_neg (by rw [lt_I]; exact Int.lt_irrefl _)]
      rfl
    | succ t ih =>
      intro i fuel hi hf
      obtain ⟨fuel, rfl⟩ : ∃ g, fuel = g + 1 := ⟨fuel - 1, by omega⟩
      have hi2 : (i : Int) < (S (3300 + 125 * m)).toInt := by
        rw [l1, iN_toInt (by omega)]
        omega
      obtain ⟨c, hc, ec⟩ := h.lcell hm hi2
      have r0 : w.1 (37 + 7 * m) i = S (3304 + 125 * m + 6 * i) := h.lnI (j := 0) hm hi2 (by omega)
      have r1 : w.1 (37 + 7 * m + 1) i = S (3304 + 125 * m + 6 * i + 1) := h.lnI (j := 1) hm hi2 (by omega)
      have rw0 : w.1 (36 + 7 * m) 0 = S (3301 + 125 * m) := h.width hm
      rw [fX0_costOf_4, h.len hm, l1, if_pos ((iN_lt (by omega) (by omega)).mpr (by omega)), inb_lt2 (by omega) (by omega), if_pos rfl, ri_iN (by omega), ri_iN (by omega), show 36 + 7 * m + 1 = 37 + 7 * m by omega, show 36 + 7 * m + 2 = 37 + 7 * m + 1 by omega, r0, r1, ec, dig_c h hc, Option.bind_some, rw0, add_lit]
      have e : CLf S m i = digV S c (S (3304 + 125 * m + 6 * i + 1)) + 10 * S (3301 + 125 * m) := by
        unfold CLf
        rw [ec, iN_clamp (by omega)]
      rw [← e]
      exact ih (i + 1) fuel (by omega) (by omega)
  have := loop (lenS S m) 0 FU (by omega) (by unfold FU; omega)
  rw [show iN 0 = 0 from rfl] at this
  exact this
def bitOf (v : Int32) (m : Nat) : Prop := (v >>> (iN m &&& 31)) &&& 1 = 1
theorem cost_m {n cnt : Nat} {cb : Nat → Bool} {wc w : Wd} {v : Int32} (h : YY n wc w) (hcnt : w.1 149 4315 = iN cnt) (h8 : cnt ≤ 8) (hb : ∀ m, m < cnt → (bitOf v m ↔ cb m = true)) : fX12_costOf v w = some (cstS (w.1 149) cb cnt) := by
  have line : ∀ (k4 : Int32 → Int32 → Int32 → Option Int32) (m : Nat) (acc : Int32), m < cnt → bitOf v m → ∀ (t i fuel : Nat), i + t = lenS (w.1 149) m → t < fuel → fX12_costOf_17 k4 w fuel v (acc + sumN (CLf (w.1 149) m) i) (iN m) (iN i) = k4 v (acc + CL (w.1 149) m) (iN (m + 1)) := by
    intro k4 m acc hmc hbit t
    have hm : (m : Int) < (w.1 149 4315).toInt := by
      rw [hcnt, iN_toInt (by omega)]
      omega
    obtain ⟨l1, l2, l3⟩ := lenS_eq h.1 hm
    induction t with
    | zero =>
      intro i fuel hi hf
      obtain ⟨fuel, rfl⟩ : ∃ g, fuel = g + 1 := ⟨fuel - 1, by omega⟩
      obtain rfl : i = lenS (w.1 149) m := by omega
      rw [fX12_costOf_17, ml_0 (by omega), Option.bind_some, l1, if_neg (by rw [lt_I]; exact Int.lt_irrefl _), add_lit]
      rfl
    | succ t ih =>
      intro i fuel hi hf
      obtain ⟨fuel, rfl⟩ : ∃ g, fuel = g + 1 := ⟨fuel - 1, by omega⟩
      have hi2 : (i : Int) < (w.1 149 (3300 + 125 * m)).toInt := by
        rw [l1, iN_toInt (by omega)]
        omega
      obtain ⟨c, hc, ec⟩ := h.1.lcell hm hi2
      have hb' : (v >>> (iN m &&& 31)) &&& 1 = 1 := hbit
      rw [fX12_costOf_17, ml_0 (by omega), Option.bind_some, l1, if_pos ((iN_lt (by omega) (by omega)).mpr (by omega)), if_pos hb', msp_eq, Option.bind_some, dig_line_m (by omega) hc ec, Option.bind_some, ml_1 (by omega), Option.bind_some, add_lit]
      have e : CLf (w.1 149) m i = digV (w.1 149) c (w.1 149 (3304 + 125 * m + 6 * i + 1)) + 10 * w.1 149 (3301 + 125 * m) := by
        unfold CLf
        rw [ec, iN_clamp (by omega)]
      rw [← e, Int32.add_assoc]
      exact ih (i + 1) fuel (by omega) (by omega)
  have all : ∀ (t k fuel : Nat), k + t = cnt → t < fuel → fX12_costOf_4 w fuel v (cstS (w.1 149) cb k) (iN k) = some (cstS (w.1 149) cb cnt) := by
    intro t
    induction t with
    | zero =>
      intro k fuel hk hf
      obtain ⟨fuel, rfl⟩ : ∃ g, fuel = g + 1 := ⟨fuel - 1, by omega⟩
      obtain rfl : k = cnt := by omega
      rw [fX12_costOf_4, mg_15, Option.bind_some, hcnt, if_neg (by rw [lt_I]; exact Int.lt_irrefl _)]
    | succ t ih =>
      intro k fuel hk hf
      obtain ⟨fuel, rfl⟩ : ∃ g, fuel = g + 1 := ⟨fuel - 1, by omega⟩
      have ih' := ih (k + 1) fuel (by omega) (by omega)
      have st : cstS (w.1 149) cb (k + 1) = cstS (w.1 149) cb k + (if cb k = true then CL (w.1 149) k else 0) := rfl
      rw [fX12_costOf_4, mg_15, Option.bind_some, hcnt, if_pos ((iN_lt (by omega) (by omega)).mpr (by omega))]
      by_cases q : cb k = true
      · have := line (fX12_costOf_4 w fuel) k (cstS (w.1 149) cb k) (by omega) ((hb k (by omega)).mpr q) (lenS (w.1 149) k) 0 FU (by omega) (by
          have hm : (k : Int) < (w.1 149 4315).toInt := by
            rw [hcnt, iN_toInt (by omega)]
            omega
          have := (lenS_eq h.1 hm).2.2
          unfold FU
          omega)
        rw [show sumN (CLf (w.1 149) k) 0 = 0 from rfl, Int32.add_zero, show iN 0 = 0 from rfl] at this
        rw [st, if_pos q] at ih'
        rw [this]
        exact ih'
      · have hm : (k : Int) < (w.1 149 4315).toInt := by
          rw [hcnt, iN_toInt (by omega)]
          omega
        obtain ⟨l1, l2, l3⟩ := lenS_eq h.1 hm
        have hb' : ¬ (v >>> (iN k &&& 31)) &&& 1 = 1 := fun e => q ((hb k (by omega)).mp e)
        have hFU : FU = 9999999 + 1 := rfl
        rw [st, if_neg q, Int32.add_zero] at ih'
        rw [hFU, fX12_costOf_17, ml_0 (by omega), Option.bind_some, l1, if_pos (show (0 : Int32) < iN (lenS (w.1 149) k) from (iN_lt (a := 0) (by omega) (by omega)).mpr (by omega)), if_neg hb', add_lit]
        exact ih'
  have := all cnt 0 FU (by omega) (by unfold FU; omega)
  rw [show iN 0 = 0 from rfl, show cstS (w.1 149) cb 0 = 0 from rfl] at this
  exact this
theorem YY.bst {n : Nat} {wc wc' wm wm' : Wd} (h : YY n wc wm) (c1 : ∀ a, ¬ (92 ≤ a ∧ a ≤ 99) → ¬ a = 0 → ¬ a = 147 → wc'.1 a = wc.1 a) (c2 : wc'.2 = wc.2) (c3 : wc'.1 0 7 = wc.1 0 7) (hw : GW wm wm') : YY n wc' wm' := by
  obtain ⟨k1, k2, k3, k4, k5, k6, k7⟩ := hw.yy h
  refine ⟨k1.cong (fun a ha => c1 a (by omega) (by omega) (by omega)), k2.cong (fun a ha => c1 a (by omega) (by omega) (by omega)) rfl rfl, k3.cong (fun a ha => ⟨c1 a (by omega) (by omega) (by omega), by rw [c2]⟩) rfl rfl rfl, k4.cong (c1 _ (by omega) (by omega) (by omega)) (c1 _ (by omega) (by omega) (by omega)) rfl rfl, k5.cong (fun a ha => c1 a (by omega) (by omega) (by omega)) (fun _ _ => rfl) rfl, k6.cong (by rw [c1 106 (by omega) (by omega) (by omega)]) (fun a ha => c1 a (by omega) (by omega) (by omega)) (fun a ha => c1 a (by omega) (by omega) (by omega)) rfl (fun _ _ => rfl), ?_⟩
  rw [c3]
  exact k7
theorem mask_N : ∀ cnt, cnt < 9 → ∀ N, N < 256 → N < 2 ^ cnt → iN N = maskL (fun k => N.testBit k) cnt := by decide +kernel
theorem pow_N : ∀ cnt, cnt < 9 → (1 : Int32) <<< (iN cnt &&& 31) = iN (2 ^ cnt) ∧ 2 ^ cnt ≤ 256 ∧ 1 ≤ 2 ^ cnt := by decide +kernel
theorem fb87 {cnt N : Nat} {cb : Nat → Bool} {S : Nat → Int32} {w : Wd} {sum : Int32} {k69 : Int32 → Int32 → Wd → Option Wd} (h8 : cnt ≤ 8) (h5 : w.1 1 5 = iN cnt) (hN : iN N = maskL cb cnt) (hr : ∀ k, k < cnt → w.1 147 k = CL S k) : ∀ (t k fuel : Nat), k + t = cnt → t < fuel → fX11_findBest_87 k69 fuel sum (iN N) (cstS S cb k) (iN k) w = if sum < cstS S cb cnt then k69 sum (iN (N + 1)) w else (fX1_peopleFouled (maskL cb cnt) w).bind fun v_5 => (
      if v_5.1 < (v_5.2.1 0 9) then (
        fX11_findBest_173 k69 sum (iN N) (cstS S cb cnt) v_5.1 v_5.2)
      else (
        if v_5.1 = (v_5.2.1 0 9) then (
          if (cstS S cb cnt) < (v_5.2.1 0 10) then (
            fX11_findBest_173 k69 sum (iN N) (cstS S cb cnt) v_5.1 v_5.2)
          else (
            k69 sum (iN (N + 1)) v_5.2))
        else (
          k69 sum (iN (N + 1)) v_5.2)))
  | 0, k, fuel + 1, hk, _ => by
    obtain rfl : k = cnt := by omega
    rw [fX11_findBest_87, h5, if_neg (by rw [lt_I]; exact Int.lt_irrefl _), add_lit, ← hN]
  | t + 1, k, fuel + 1, hk, hf => by
    have ih := fb87 (k69 := k69) (sum := sum) h8 h5 hN hr t (k + 1) fuel (by omega) (by omega)
    have st : cstS S cb (k + 1) = cstS S cb k + (if cb k = true then CL S k else 0) := rfl
    rw [st] at ih
    rw [fX11_findBest_87, h5, if_pos ((iN_lt (by omega) (by omega)).mpr (by omega)), inb_lt2 (by omega) (by omega), if_pos rfl, ri_iN (by omega), hr k (by omega), add_lit]
    have hb := mask_bit (b := cb) h8 (show k < cnt by omega)
    rw [← hN] at hb
    by_cases q : cb k = true
    · rw [if_pos (hb.mpr q)]
      rw [if_pos q] at ih
      exact ih
    · rw [if_neg (fun e => q (hb.mp e))]
      rw [if_neg q, Int32.add_zero] at ih
      exact ih
theorem bst_loop {n cnt : Nat} {sum v2 : Int32} (h8 : cnt ≤ 8) : ∀ (m N fuel : Nat) (wc wm : Wd), N + m = 2 ^ cnt → m < fuel → YY n wc wm → wm.1 149 4315 = iN cnt → (∀ k, k < cnt → wc.1 147 k = CL (wm.1 149) k) → ∃ wc' wm', fX11_findBest_69 fuel sum (iN N) wc = some wc' ∧ fX12_best_46 fuel sum v2 (wc.1 0 8) (wc.1 0 9) (wc.1 0 10) (iN N) wm = some ((if v2 = 0 then wc'.1 0 8 else if v2 = 1 then wc'.1 0 9 else wc'.1 0 10), wm') ∧ YY n wc' wm' := by
  obtain ⟨p1, p2, p3⟩ := pow_N cnt (by omega)
  intro m
  induction m with
  | zero =>
    intro N fuel wc wm hN hf h hcnt hr
    obtain ⟨fuel, rfl⟩ : ∃ g, fuel = g + 1 := ⟨fuel - 1, by omega⟩
    obtain rfl : N = 2 ^ cnt := by omega
    have hn : ¬ iN (2 ^ cnt) < iN (2 ^ cnt) := by
      rw [lt_I]
      exact Int.lt_irrefl _
    rw [fX11_findBest_69, h.1.many, hcnt, p1, if_neg hn]
    refine ⟨wc, wm, rfl, ?_, h⟩
    rw [fX12_best_46, mg_15, Option.bind_some, hcnt, p1, if_neg hn]
    by_cases q : v2 = 0
    · rw [if_pos q, if_pos q]
    · rw [if_neg q, if_neg q]
      by_cases q2 : v2 = 1
      · rw [if_pos q2, if_pos q2]
      · rw [if_neg q2, if_neg q2]
  | succ m ih =>
    intro N fuel wc wm hN hf h hcnt hr
    obtain ⟨fuel, rfl⟩ : ∃ g, fuel = g + 1 := ⟨fuel - 1, by omega⟩
    have hlt : iN N < iN (2 ^ cnt) := (iN_lt (by omega) (by omega)).mpr (by omega)
    have hmN := mask_N cnt (by omega) N (by omega) (by omega)
    have hco := cost_m (v := iN N) (cb := fun k => N.testBit k) h hcnt h8 (fun k hk => by
      unfold bitOf
      rw [hmN]
      exact mask_bit h8 hk)
    have e87 := fb87 (k69 := fX11_findBest_69 fuel) (sum := sum) (w := wc) h8 (by rw [h.1.many, hcnt]) hmN hr cnt 0 FU (by omega) (by unfold FU; omega)
    rw [show iN 0 = 0 from rfl, show cstS (wm.1 149) (fun k => N.testBit k) 0 = 0 from rfl] at e87
    rw [fX11_findBest_69, h.1.many, hcnt, p1, if_pos hlt, e87, fX12_best_46, mg_15, Option.bind_some, hcnt, p1, if_pos hlt, hco, Option.bind_some, add_lit]
    by_cases c1 : sum < cstS (wm.1 149) (fun k => N.testBit k) cnt
    · rw [if_pos c1, if_pos c1]
      exact ih (N + 1) fuel wc wm (by omega) (by omega) h hcnt hr
    · rw [if_neg c1, if_neg c1]
      obtain ⟨wc1, f1, f2, f3⟩ := fouled_c (cb := fun k => N.testBit k) h hcnt h8
      obtain ⟨wm1, g1, g2⟩ := fouled_m (cb := fun k => N.testBit k) h hcnt h8
      rw [← hmN] at g1
      rw [f1, g1, Option.bind_some, Option.bind_some]
      have h1 : YY n wc1 wm1 := h.bst (fun a q _ _ => f2 a q) f3 (by rw [f2 0 (by omega)]) g2
      have h149 : wm1.1 149 = wm.1 149 := g2.1 149 (by omega)
      have z0 : wc1.1 0 = wc.1 0 := f2 0 (by omega)
      have stay : ∃ wc' wm', fX11_findBest_69 fuel sum (iN (N + 1)) wc1 = some wc' ∧ fX12_best_46 fuel sum v2 (wc.1 0 8) (wc.1 0 9) (wc.1 0 10) (iN (N + 1)) wm1 = some ((if v2 = 0 then wc'.1 0 8 else if v2 = 1 then wc'.1 0 9 else wc'.1 0 10), wm') ∧ YY n wc' wm' := by
        have := ih (N + 1) fuel wc1 wm1 (by omega) (by omega) h1 (by rw [h149]; exact hcnt) (fun k hk => by rw [f2 147 (by omega), h149]; exact hr k hk)
        rw [z0] at this
        exact this
      have take : ∃ wc' wm', fX11_findBest_173 (fX11_findBest_69 fuel) sum (iN N) (cstS (wm.1 149) (fun k => N.testBit k) cnt) (sumN (popF (wm.1 149) (fun k => N.testBit k) cnt) 100) wc1 = some wc' ∧ fX12_best_108 (fX12_best_46 fuel) sum v2 (iN N) (cstS (wm.1 149) (fun k => N.testBit k) cnt) (sumN (popF (wm.1 149) (fun k => N.testBit k) cnt) 100) wm1 = some ((if v2 = 0 then wc'.1 0 8 else if v2 = 1 then wc'.1 0 9 else wc'.1 0 10), wm') ∧ YY n wc' wm' := by
        unfold fX11_findBest_173 fX12_best_108
        rw [nw_eq, nw_eq, nw_eq, add_lit]
        have h2 : YY n (si (si (si wc1 0 8 (iN N)) 0 9 (sumN (popF (wm.1 149) (fun k => N.testBit k) cnt) 100)) 0 10 (cstS (wm.1 149) (fun k => N.testBit k) cnt)) wm1 := h1.bst (fun a q1 q2 q3 => by rw [si_oth q2, si_oth q2, si_oth q2]) rfl (by rw [si_1, if_neg (by omega), si_1, if_neg (by omega), si_1, if_neg (by omega)]) ⟨fun _ _ => rfl, rfl⟩
        have := ih (N + 1) fuel _ wm1 (by omega) (by omega) h2 (by rw [h149]; exact hcnt) (fun k hk => by rw [si_oth (by omega), si_oth (by omega), si_oth (by omega), f2 147 (by omega), h149]; exact hr k hk)
        rw [show (si (si (si wc1 0 8 (iN N)) 0 9 (sumN (popF (wm.1 149) (fun k => N.testBit k) cnt) 100)) 0 10 (cstS (wm.1 149) (fun k => N.testBit k) cnt)).1 0 8 = iN N by rw [si_1, if_neg (by omega), si_1, if_neg (by omega), si_at], show (si (si (si wc1 0 8 (iN N)) 0 9 (sumN (popF (wm.1 149) (fun k => N.testBit k) cnt) 100)) 0 10 (cstS (wm.1 149) (fun k => N.testBit k) cnt)).1 0 9 = sumN (popF (wm.1 149) (fun k => N.testBit k) cnt) 100 by rw [si_1, if_neg (by omega), si_at], si_at] at this
        exact this
      show ∃ wc' wm', (if sumN (popF (wm.1 149) (fun k => N.testBit k) cnt) 100 < wc1.1 0 9 then _ else if sumN (popF (wm.1 149) (fun k => N.testBit k) cnt) 100 = wc1.1 0 9 then if cstS (wm.1 149) (fun k => N.testBit k) cnt < wc1.1 0 10 then _ else _ else _) = some wc' ∧ (if wc.1 0 9 < sumN (popF (wm.1 149) (fun k => N.testBit k) cnt) 100 then _ else if sumN (popF (wm.1 149) (fun k => N.testBit k) cnt) 100 = wc.1 0 9 then if cstS (wm.1 149) (fun k => N.testBit k) cnt < wc.1 0 10 then _ else _ else _) = _ ∧ _
      rw [z0]
      by_cases q1 : sumN (popF (wm.1 149) (fun k => N.testBit k) cnt) 100 < wc.1 0 9
      · have q1' := lt_I.mp q1
        rw [if_pos q1, if_neg (fun e => by have := lt_I.mp e; omega), if_neg (fun e => by rw [e] at q1'; omega)]
        exact take
      · rw [if_neg q1]
        by_cases q2 : sumN (popF (wm.1 149) (fun k => N.testBit k) cnt) 100 = wc.1 0 9
        · rw [if_pos q2, if_neg (show ¬ wc.1 0 9 < sumN (popF (wm.1 149) (fun k => N.testBit k) cnt) 100 from fun e => by rw [q2, lt_I] at e; omega), if_pos q2]
          by_cases q3 : cstS (wm.1 149) (fun k => N.testBit k) cnt < wc.1 0 10
          · rw [if_pos q3, if_pos q3]
            exact take
          · rw [if_neg q3, if_neg q3]
            exact stay
        · have q4 : wc.1 0 9 < sumN (popF (wm.1 149) (fun k => N.testBit k) cnt) 100 := by
            rw [lt_I] at q1 ⊢
            have : ¬ (sumN (popF (wm.1 149) (fun k => N.testBit k) cnt) 100).toInt = (wc.1 0 9).toInt := fun e => q2 (eq_I.mpr e)
            omega
          rw [if_neg q2, if_pos q4]
          exact stay
theorem fb2_loop {n cnt : Nat} {sum : Int32} {wm : Wd} (h8 : cnt ≤ 8) (hcnt : wm.1 149 4315 = iN cnt) : ∀ (t k fuel : Nat) (w : Wd), k + t = cnt → t < fuel → YY n w wm → (∀ i, i < k → w.1 147 i = CL (wm.1 149) i) → ∃ w', fX11_findBest_2 fuel sum (iN k) w = fX11_findBest_2 1 sum (iN cnt) w' ∧ YY n w' wm ∧ ∀ i, i < cnt → w'.1 147 i = CL (wm.1 149) i
  | 0, k, fuel + 1, w, hk, _, h, hr => by
    obtain rfl : k = cnt := by omega
    refine ⟨w, ?_, h, hr⟩
    rw [fX11_findBest_2, fX11_findBest_2, h.1.many, hcnt, if_neg (by rw [lt_I]; exact Int.lt_irrefl _), if_neg (by rw [lt_I]; exact Int.lt_irrefl _)]
  | t + 1, k, fuel + 1, w, hk, hf, h, hr => by
    have hm : (k : Int) < (wm.1 149 4315).toInt := by
      rw [hcnt, iN_toInt (by omega)]
      omega
    rw [fX11_findBest_2, h.1.many, hcnt, if_pos ((iN_lt (by omega) (by omega)).mpr (by omega)), inb_lt2 (by omega) (by omega), if_pos rfl, iN_clamp (by omega), cost_c h.1 hm, Option.bind_some, nw_eq, wi_iN (by omega), add_lit]
    refine fb2_loop h8 hcnt t (k + 1) fuel _ (by omega) (by omega) (h.bst (fun a _ _ q => si_oth q) rfl (by rw [si_oth (by omega)]) ⟨fun _ _ => rfl, rfl⟩) (fun i hi => ?_)
    rw [si_1]
    by_cases e : i = k
    · rw [if_pos ⟨rfl, e⟩, e]
    · rw [if_neg (by omega)]
      exact hr i (by omega)
theorem mask_0 : ∀ cnt, cnt < 9 → maskL (fun _ => false) cnt = 0 := by decide +kernel
theorem best_ok {n : Nat} {wc wm : Wd} {v1 v2 : Int32} (h : YY n wc wm) : ∃ r wc' wm', fX11_best v1 v2 wc = some (r, wc') ∧ fX12_best v1 v2 wm = some (r, wm') ∧ YY n wc' wm' := by
  have h0 := h.thr (x := 0)
  unfold fX11_best fX12_best
  simp only [nw_eq, Option.bind_some, isCell_c, isCell_m, isTape_c, isTape_m, within_eq, in_eq, Int32.toInt_toInt64, decide_eq_true_eq, Int32.reduceToInt, Int64.reduceToInt, tn128, tm128, if_true, if_false, Bool.false_eq_true]
  by_cases h1 : 0 ≤ v1.toInt ∧ v1.toInt ≤ 9999999
  rotate_left
  · simp only [if_neg h1]
    exact ⟨-1, _, _, rfl, rfl, h0⟩
  simp only [if_pos h1]
  by_cases h2 : 0 ≤ v2.toInt ∧ v2.toInt ≤ 2
  rotate_left
  · simp only [if_neg h2]
    exact ⟨-1, _, _, rfl, rfl, h0⟩
  simp only [if_pos h2]
  have hb := h0.1.2.2.2.2.1.1
  obtain ⟨cnt, hc, ec⟩ := of_range (v := (si wm 148 0 0).1 149 4315) 9 hb.1 (by have := hb.2; omega)
  obtain ⟨p1, p2, p3⟩ := pow_N cnt (by omega)
  obtain ⟨w1, a1, a2, a3⟩ := fb2_loop (sum := v1) (show cnt ≤ 8 by omega) ec cnt 0 FU wc (by omega) (by unfold FU; omega) h0 (fun i hi => by omega)
  rw [show iN 0 = 0 from rfl] at a1
  have hz := mask_0 cnt hc
  have hw2 : YY n (si (si w1 0 8 0) 0 10 0) (si wm 148 0 0) := a2.bst (fun a q1 q2 q3 => by rw [si_oth q2, si_oth q2]) rfl (by rw [si_1, if_neg (by omega), si_1, if_neg (by omega)]) ⟨fun _ _ => rfl, rfl⟩
  obtain ⟨w3, f1, f2, f3⟩ := fouled_c (cb := fun _ => false) hw2 ec (by omega)
  obtain ⟨m3, g1, g2⟩ := fouled_m (cb := fun _ => false) a2 ec (by omega)
  rw [hz] at f1 g1
  rw [g1, Option.bind_some]
  have hw4 : YY n (si w3 0 9 (sumN (popF ((si wm 148 0 0).1 149) (fun _ => false) cnt) 100)) m3 := hw2.bst (fun a q1 q2 q3 => by rw [si_oth q2, f2 a q1]) f3 (by rw [si_1, if_neg (by omega), f2 0 (by omega)]) g2
  have m149 : m3.1 149 = (si wm 148 0 0).1 149 := g2.1 149 (by omega)
  obtain ⟨wc', wm', r1, r2, r3⟩ := bst_loop (sum := v1) (v2 := v2) (show cnt ≤ 8 by omega) (2 ^ cnt - 1) 1 FU _ m3 (by omega) (by unfold FU; omega) hw4 (by rw [m149]; exact ec) (fun k hk => by
    rw [si_oth (by omega), f2 147 (by omega), si_oth (by omega), si_oth (by omega), m149]
    exact a3 k hk)
  have z8 : (si w3 0 9 (sumN (popF ((si wm 148 0 0).1 149) (fun _ => false) cnt) 100)).1 0 8 = 0 := by
    rw [si_1, if_neg (by omega), f2 0 (by omega), si_1, if_neg (by omega), si_at]
  have z10 : (si w3 0 9 (sumN (popF ((si wm 148 0 0).1 149) (fun _ => false) cnt) 100)).1 0 10 = 0 := by
    rw [si_1, if_neg (by omega), f2 0 (by omega), si_at]
  rw [z8, z10, si_at, show iN 1 = 1 from rfl] at r2
  rw [show iN 1 = 1 from rfl] at r1
  refine ⟨_, wc', wm', ?_, r2, r3⟩
  have hfb : fX11_findBest v1 wc = some wc' := by
    unfold fX11_findBest
    rw [a1, fX11_findBest_2, a2.1.many, ec, if_neg (by rw [lt_I]; exact Int.lt_irrefl _), nw_eq, nw_eq, f1, Option.bind_some, nw_eq]
    exact r1
  rw [hfb, Option.bind_some]
  by_cases q : v2 = 0
  · rw [if_pos q, if_pos q]
  · rw [if_neg q, if_neg q]
    by_cases q2 : v2 = 1
    · rw [if_pos q2, if_pos q2]
    · rw [if_neg q2, if_neg q2]
-- MATHEMATICS: m70
theorem mask_ext {b : Nat → Bool} {k : Nat} : ∀ cnt, k ≤ cnt → maskL (fun m => decide (m < k) && b m) cnt = maskL b k := by
  have h1 : maskL (fun m => decide (m < k) && b m) k = maskL b k := maskL_cong k (fun i hi => by rw [decide_eq_true hi]; rfl)
  intro cnt
  induction cnt with
  | zero =>
    intro h
    obtain rfl : k = 0 := by omega
    rfl
  | succ c ih =>
    intro h
    by_cases e : k = c + 1
    · rw [← e]
      exact h1
    · have := ih (by omega)
      show (if (decide (c < k) && b c) = true then _ else maskL (fun m => decide (m < k) && b m) c) = _
      rw [decide_eq_false (by omega), if_neg (by simp)]
      exact this
theorem cst_ext {S : Nat → Int32} {b : Nat → Bool} {k : Nat} : ∀ cnt, k ≤ cnt → cstS S (fun m => decide (m < k) && b m) cnt = cstS S b k := by
  have h1 : cstS S (fun m => decide (m < k) && b m) k = cstS S b k := sumN_cong k (fun i hi => by
    show (if (decide (i < k) && b i) = true then CL S i else 0) = _
    rw [decide_eq_true hi]
    rfl)
  intro cnt
  induction cnt with
  | zero =>
    intro h
    obtain rfl : k = 0 := by omega
    rfl
  | succ c ih =>
    intro h
    by_cases e : k = c + 1
    · rw [← e]
      exact h1
    · have := ih (by omega)
      show cstS S (fun m => decide (m < k) && b m) c + (if (decide (c < k) && b c) = true then _ else 0) = _
      rw [decide_eq_false (by omega), if_neg (by simp), Int32.add_zero]
      exact this
theorem judge_end {n cnt d : Nat} {b : Nat → Bool} {wc wm : Wd} (h : YY n wc wm) (hcnt : wm.1 149 4315 = iN cnt) (h8 : cnt ≤ 8) (hd : d < 6) {i L : Nat} (hL : wm.1 166 d = iN L) (hL2 : L ≤ 100) (hi : i ≤ cnt) (hi2 : i = cnt ∨ L ≤ i) (hi3 : i ≤ L) : ∃ r wc' wm', fX11_judge_150 (135 + 2 * d) (maskL b i) wc = some (r, wc') ∧ fX12_judge_135 (iN d) (maskL b i) wm = some (r, wm') ∧ YY n wc' wm' := by
  obtain ⟨⟨s1, s2, s3, s4⟩, s5, s6⟩ := h.2.2.1 d hd
  unfold fX11_judge_150 fX12_judge_135
  rw [s3, hL, h.1.many, hcnt, inb_lt2 hd (by omega), if_pos rfl, mg_15, Option.bind_some, ri_iN (by omega), hL, hcnt]
  by_cases q : L < cnt
  · have lt : iN L < iN cnt := (iN_lt (by omega) (by omega)).mpr q
    rw [if_pos lt, if_pos lt]
    obtain ⟨wc', wm', r1, r2, r3⟩ := host_ok (x := -13) h
    rw [r1, r2]
    exact ⟨_, wc', wm', rfl, rfl, r3⟩
  · have lt : ¬ iN L < iN cnt := fun e => q ((iN_lt (by omega) (by omega)).mp e)
    obtain rfl : i = cnt := by omega
    rw [if_neg lt, if_neg lt]
    obtain ⟨wc1, f1, f2, f3⟩ := fouled_c (cb := b) h hcnt h8
    obtain ⟨wm1, g1, g2⟩ := fouled_m (cb := b) h hcnt h8
    rw [f1, g1]
    exact ⟨_, wc1, wm1, rfl, rfl, h.bst (fun a q _ _ => f2 a q) f3 (by rw [f2 0 (by omega)]) g2⟩
theorem judge_loop {n cnt d L : Nat} {b : Nat → Bool} {wc wm : Wd} {v2 : Int32} (h : YY n wc wm) (hcnt : wm.1 149 4315 = iN cnt) (h8 : cnt ≤ 8) (hd : d < 6) (hL : wm.1 166 d = iN L) (hL2 : L ≤ 100) (hb : ∀ i, i < 100 → (b i = true ↔ ¬ wm.2 167 (100 * d + i) = 0)) : ∀ (m i fuel : Nat), i + m = cnt → m < fuel → i ≤ L → ¬ v2 < cstS (wm.1 149) b i → ∃ r wc' wm', fX11_judge_65 fuel v2 (135 + 2 * d) (maskL b i) (cstS (wm.1 149) b i) (iN i) wc = some (r, wc') ∧ fX12_judge_64 fuel (iN d) v2 (maskL b i) (iN i) wm = some (r, wm') ∧ YY n wc' wm' := by
  obtain ⟨⟨s1, s2, s3, s4⟩, s5, s6⟩ := h.2.2.1 d hd
  intro m
  induction m with
  | zero =>
    intro i fuel hi hf hiL hinv
    obtain ⟨fuel, rfl⟩ : ∃ g, fuel = g + 1 := ⟨fuel - 1, by omega⟩
    obtain rfl : i = cnt := by omega
    have lt : ¬ iN i < iN i := by rw [lt_I]; exact Int.lt_irrefl _
    rw [fX11_judge_65, h.1.many, hcnt, if_neg lt, fX12_judge_64, mg_15, Option.bind_some, hcnt, if_neg lt]
    exact judge_end h hcnt h8 hd hL hL2 (Nat.le_refl _) (Or.inl rfl) hiL
  | succ m ih =>
    intro i fuel hi hf hiL hinv
    obtain ⟨fuel, rfl⟩ : ∃ g, fuel = g + 1 := ⟨fuel - 1, by omega⟩
    have lt : iN i < iN cnt := (iN_lt (by omega) (by omega)).mpr (by omega)
    rw [fX11_judge_65, h.1.many, hcnt, if_pos lt, s3, hL, fX12_judge_64, mg_15, Option.bind_some, hcnt, if_pos lt, inb_lt2 hd (by omega), if_pos rfl, ri_iN (by omega), hL]
    by_cases q : i < L
    · have lt2 : iN i < iN L := (iN_lt (by omega) (by omega)).mpr q
      have hm : (i : Int) < (wm.1 149 4315).toInt := by
        rw [hcnt, iN_toInt (by omega)]
        omega
      have hbi := hb i (by omega)
      have hcst : fX12_costOf (maskL b (i + 1)) wm = some (cstS (wm.1 149) b (i + 1)) := by
        have := cost_m (v := maskL b (i + 1)) (cb := fun m => decide (m < i + 1) && b m) h hcnt h8 (fun k hk => by
          unfold bitOf
          rw [← mask_ext cnt (show i + 1 ≤ cnt by omega)]
          exact mask_bit h8 hk)
        rw [cst_ext cnt (by omega)] at this
        exact this
      have stm : maskL b (i + 1) = if b i = true then maskL b i ||| ((1 : Int32) <<< (iN i &&& 31)) else maskL b i := rfl
      have stc : cstS (wm.1 149) b (i + 1) = cstS (wm.1 149) b i + (if b i = true then CL (wm.1 149) i else 0) := rfl
      have e12 : ∀ s : Int32, maskL b i ||| s = maskL b (i + 1) → fX12_judge_112 (fX12_judge_64 fuel) (iN d) v2 (iN i) (maskL b i) s wm = if v2 < cstS (wm.1 149) b (i + 1) then some ((-100 : Int32) - iN i, wm) else fX12_judge_64 fuel (iN d) v2 (maskL b (i + 1)) (iN (i + 1)) wm := fun s hs => by
        unfold fX12_judge_112
        rw [hs, hcst, Option.bind_some, add_lit]
      rw [if_pos lt2, if_pos lt2, inb_lt2 (by omega) (by omega), if_pos rfl, rl_iN (by omega), show 135 + 2 * d + 1 = 136 + 2 * d by omega, s5 i (by omega), inb_lt2 (by omega) (by omega), if_pos rfl, iN_clamp (by omega), cost_c h.1 hm, Option.bind_some, lit_mul, iN_add, inb_lt2 (by omega) (by omega), if_pos rfl, rl_iN (by omega), add_lit]
      by_cases c1 : wm.2 167 (100 * d + i) = 0
      · have hbf : ¬ b i = true := fun e => (hbi.mp e) c1
        rw [if_neg hbf] at stm stc
        rw [Int32.add_zero] at stc
        rw [if_pos c1, if_pos c1, e12 0 (by rw [stm]; exact Int32.or_zero), stc, if_neg hinv]
        have := ih (i + 1) fuel (by omega) (by omega) (by omega) (by rw [stc]; exact hinv)
        rw [stc, stm] at this
        rw [stm]
        exact this
      · have hbt : b i = true := hbi.mpr c1
        rw [if_pos hbt] at stm stc
        rw [if_neg c1, if_neg c1, e12 _ stm.symm, ← stc, ← stm]
        by_cases c2 : v2 < cstS (wm.1 149) b (i + 1)
        · rw [if_pos c2, if_pos c2]
          exact ⟨_, wc, wm, rfl, rfl, h⟩
        · rw [if_neg c2, if_neg c2]
          exact ih (i + 1) fuel (by omega) (by omega) (by omega) c2
    · have lt2 : ¬ iN i < iN L := fun e => q ((iN_lt (by omega) (by omega)).mp e)
      rw [if_neg lt2, if_neg lt2]
      exact judge_end h hcnt h8 hd hL hL2 (by omega) (Or.inr (by omega)) hiL
theorem judge_ok {n : Nat} {wc wm : Wd} {v1 v2 : Int32} (h : YY n wc wm) : ∃ r wc' wm', fX11_judge v1 v2 wc = some (r, wc') ∧ fX12_judge v1 v2 wm = some (r, wm') ∧ YY n wc' wm' := by
  have h0 := h.thr (x := 0)
  unfold fX11_judge fX12_judge
  simp only [nw_eq, Option.bind_some, isCell_c, isCell_m, isTape_c, isTape_m, within_eq, in_eq, Int32.toInt_toInt64, decide_eq_true_eq, Int32.reduceToInt, Int64.reduceToInt, tn128, tm128, if_true, if_false, Bool.false_eq_true]
  by_cases h1 : 0 ≤ v1.toInt ∧ v1.toInt ≤ 5
  rotate_left
  · simp only [if_neg h1]
    exact ⟨-1, _, _, rfl, rfl, h0⟩
  simp only [if_pos h1]
  by_cases h2 : 0 ≤ v2.toInt ∧ v2.toInt ≤ 9999999
  rotate_left
  · simp only [if_neg h2]
    exact ⟨-1, _, _, rfl, rfl, h0⟩
  simp only [if_pos h2]
  obtain ⟨d, hd, rfl⟩ := tape_cases h1
  obtain ⟨⟨s1, s2, s3, s4⟩, s5, s6⟩ := h0.2.2.1 d hd
  simp only [inb_lt2 hd (show 6 < 1000000 by omega), if_true, iN_clamp (show d < 2147483648 by omega), ri_iN (show d < 2147483648 by omega), s1]
  by_cases h5 : (si wm 148 0 0).1 165 d = 0
  · simp only [if_pos h5]
    obtain ⟨wc', wm', r1, r2, r3⟩ := host_ok (x := -11) h0
    rw [r1, r2]
    exact ⟨_, wc', wm', rfl, rfl, r3⟩
  simp only [if_neg h5]
  by_cases h6 : (si wm 148 0 0).1 165 d = 5
  rotate_left
  · simp only [if_neg h6]
    obtain ⟨wc', wm', r1, r2, r3⟩ := host_ok (x := -12) h0
    rw [r1, r2]
    exact ⟨_, wc', wm', rfl, rfl, r3⟩
  simp only [if_pos h6]
  obtain ⟨L, hL, eL⟩ := int_cases 100 s4 (by omega)
  have hb := h0.1.2.2.2.2.1.1
  obtain ⟨cnt, hc, ec⟩ := of_range (v := (si wm 148 0 0).1 149 4315) 9 hb.1 (by have := hb.2; omega)
  have := judge_loop (v2 := v2) (b := fun i => decide (¬ (si wm 148 0 0).2 167 (100 * d + i) = 0)) h0 ec (by omega) hd eL hL (fun i _ => decide_eq_true_iff) cnt 0 FU (by omega) (by unfold FU; omega) (by omega) (by
    rw [lt_I]
    show ¬ v2.toInt < (0 : Int32).toInt
    rw [show (0 : Int32).toInt = 0 from rfl]
    omega)
  rw [show iN 0 = 0 from rfl] at this
  exact this
-- MATHEMATICS: m71
def softK (k : Nat) : Prop := k < 4340 ∧ ((k < 1500 ∧ 9 ≤ k % 15) ∨ (1500 ≤ k ∧ k < 2500 ∧ ((k - 1500) % 10 = 3 ∨ (k - 1500) % 10 = 8 ∨ (k - 1500) % 10 = 9)) ∨ (4300 ≤ k ∧ k < 4315))
def AU (w : Wd) (S : Nat → Int32) : Prop := (∀ k, k < 4340 → val S k → V w 0 k = S k) ∧ UL w 0 S ∧ (S 4315).toInt ≤ 8 ∧ ∀ m : Nat, (m : Int) < (S 4315).toInt → (S (3300 + 125 * m)).toInt ≤ 19
theorem YC.au {w : Wd} {n : Nat} {S : Nat → Int32} (h : YC w 0 S n) : AU w S := ⟨h.1, h.2.1, h.2.2.2.2.1.1.2, fun _ hm => (h.lenB hm).2⟩
theorem AU.yc {w : Wd} {n : Nat} {S : Nat → Int32} (h : AU w S) (hI : Inv S n) : YC w 0 S n := ⟨h.1, h.2.1, hI⟩
theorem softK_key {k : Nat} (h : softK k) : (∀ c, c < 100 → ¬ k = 1500 + 10 * c) ∧ (¬ (3300 ≤ k ∧ k < 4300)) ∧ ¬ k = 4315 ∧ ¬ k = 4316 := by
  obtain ⟨h1, h2⟩ := h
  refine ⟨fun c hc => ?_, ?_, ?_, ?_⟩ <;> omega
theorem AU.put {w : Wd} {S : Nat → Int32} {k0 o i : Nat} {x : Int32} (h : AU w S) (hk : softK k0) (hl : loc k0 = (o, i)) : AU (si w o i x) (upd S k0 x) := by
  obtain ⟨h1, h2, h3, h4⟩ := h
  obtain ⟨k1, k2, k4, k5⟩ := softK_key hk
  have e15 : upd S k0 x 4315 = S 4315 := upd_ne (Ne.symm k4)
  have hln : ∀ k, 3300 ≤ k → k < 4300 → upd S k0 x k = S k := fun k q1 q2 => upd_ne (fun e => k2 (by omega))
  refine ⟨fun k hk' hv => ?_, fun m hm => ?_, by rw [e15]; exact h3, fun m hm => ?_⟩
  · have hv2 : val S k := (val_cong hk' (fun c hc => upd_ne (Ne.symm (k1 c hc))) (fun n hn => hln _ (by omega) (by omega)) e15 (upd_ne (Ne.symm k5))).mp hv
    rw [V_si0 hl hk.1 hk']
    unfold upd
    by_cases e : k = k0
    · rw [if_pos e, if_pos e]
    · rw [if_neg e, if_neg e]
      exact h1 k hk' hv2
  · rw [e15] at hm
    obtain ⟨u, u1, u2, u3, u4⟩ := h2 m hm
    have hu := h4 m hm
    refine ⟨u, ?_, ?_, fun i hi => ?_, fun i hi hi2 => ?_⟩
    · rw [hln _ (by omega) (by omega)]
      exact u1
    · rw [si_1, if_neg]
      · exact u2
      · rintro ⟨e1, e2⟩
        refine loc_ul (k := k0) (m := m) hk.1 (by omega) ?_
        rw [hl]
        exact ⟨by omega, e2.symm⟩
    · rw [hln _ (by omega) (by omega)]
      exact u3 i hi
    · rw [hln _ (by omega) (by omega)] at hi2
      rw [hln _ (by omega) (by omega)]
      exact u4 i hi hi2
  · rw [e15] at hm
    rw [hln _ (by omega) (by omega)]
    exact h4 m hm
theorem AU.same {w w' : Wd} {S : Nat → Int32} (h : AU w S) (e : ∀ a, 1 ≤ a → a ≤ 91 ∨ a = 10000 → w'.1 a = w.1 a) : AU w' S := by
  refine ⟨fun k hk hv => (V_cong hk (fun a ha => e a (by omega) (by omega))).trans (h.1 k hk hv), fun m hm => ?_, h.2.2⟩
  obtain ⟨u, u1, u2, u3⟩ := h.2.1 m hm
  have := h.2.2.1
  exact ⟨u, u1, by rw [e _ (by omega) (Or.inl (by omega))]; exact u2, u3⟩
def wk (k : Nat) : Prop := (k < 1500 ∧ 9 ≤ k % 15 ∧ k % 15 ≤ 12) ∨ (1500 ≤ k ∧ k < 2500 ∧ ((k - 1500) % 10 = 3 ∨ 8 ≤ (k - 1500) % 10)) ∨ k = 4301 ∨ (4305 ≤ k ∧ k ≤ 4313)
def sameW (S S' : Nat → Int32) : Prop := ∀ k, ¬ wk k → S' k = S k
theorem sameW.refl {S : Nat → Int32} : sameW S S := fun _ _ => rfl
theorem sameW.trans {S S' S'' : Nat → Int32} (h : sameW S S') (h' : sameW S' S'') : sameW S S'' := fun k hk => (h' k hk).trans (h k hk)
theorem sameW.put {S S' : Nat → Int32} {k0 : Nat} {x : Int32} (h : sameW S S') (hk : wk k0) : sameW S (upd S' k0 x) := fun k hk' => (upd_ne (fun e => hk' (by rw [e]; exact hk))).trans (h k hk')
def pot (S : Nat → Int32) (c : Nat) : Int := wtr S c + (S (15 * c + 11)).toInt + (S (15 * c + 12)).toInt + 100 * coalZ S
def nnW (S : Nat → Int32) (c : Nat) : Prop := 0 ≤ (S (15 * c + 9)).toInt ∧ 0 ≤ (S (15 * c + 10)).toInt ∧ 0 ≤ (S (15 * c + 11)).toInt ∧ 0 ≤ (S (15 * c + 12)).toInt
theorem Inv.wat {S S' : Nat → Int32} {n : Nat} (h : Inv S n) (e : sameW S S') (hn : n ≤ 512) (hh : ∀ c, c < 100 → hs c (fun j => S' (1500 + 10 * c + j))) (hw : ∀ c, c < 100 → nnW S' c ∧ pot S' c ≤ 10019 * (S 4300).toInt + 999900 * (n : Int)) : Inv S' n := by
  obtain ⟨hA, hH, hL, hG, hW⟩ := h
  have e0 : ∀ c, c < 100 → S' (1500 + 10 * c) = S (1500 + 10 * c) := fun c hc => e _ (by unfold wk; omega)
  have q : cntN (fun c => decide (¬ S' (1500 + 10 * c) = 0)) 100 = cntN (fun c => decide (¬ S (1500 + 10 * c) = 0)) 100 := cntN_cong 100 (fun c hc => by rw [e0 c hc])
  have hH' : IH S' := ⟨hh, by rw [e 4317 (by unfold wk; omega), hH.2.1, q], by rw [q]; exact hH.2.2⟩
  refine ⟨hA.cong (fun c j hc hj => e _ (by unfold wk; omega)), hH', hL.cong (fun k _ _ => e _ (by unfold wk; omega)) (e _ (by unfold wk; omega)) (e _ (by unfold wk; omega)), ?_, fun c hc => ?_⟩
  · unfold IG
    rw [e 4300 (by unfold wk; omega), e 4302 (by unfold wk; omega), e 4303 (by unfold wk; omega), e 4304 (by unfold wk; omega), e 4316 (by unfold wk; omega), e 4314 (by unfold wk; omega), sumN_cong 100 (fun c hc => e (15 * c + 14) (by unfold wk; omega))]
    exact hG
  · obtain ⟨w1, w2⟩ := hw c hc
    have hcoal := coal_nn hH'
    have hour := hG.1.2
    have e4 : S' 4300 = S 4300 := e _ (by unfold wk; omega)
    unfold nnW at w1
    unfold pot at w2
    rw [e4]
    refine ⟨w1, ?_, w2⟩
    omega
theorem Inv.pot {S : Nat → Int32} {n c : Nat} (h : Inv S n) (hc : c < 100) : nnW S c ∧ pot S c ≤ 10019 * (S 4300).toInt + 999900 * (n : Int) ∧ 0 ≤ wtr S c := ⟨(h.2.2.2.2 c hc).1, (h.2.2.2.2 c hc).2.2, wtr_nn h.2.1 h.2.2.2.2 hc⟩
def HF (wc wm wc' wm' : Wd) : Prop := (∀ a, ¬ (1 ≤ a ∧ a ≤ 91) → ¬ (96 ≤ a ∧ a ≤ 99) → wc'.1 a = wc.1 a) ∧ (∀ a, ¬ a = 112 → wc'.2 a = wc.2 a) ∧ (∀ a, ¬ a = 149 → ¬ (154 ≤ a ∧ a ≤ 156) → ¬ a = 148 → ¬ a = 163 → wm'.1 a = wm.1 a) ∧ wm'.2 = wm.2 ∧ ∀ j, ¬ j = 10 → ¬ (23 ≤ j ∧ j ≤ 27) → wm'.1 148 j = wm.1 148 j
theorem HF.refl {wc wm : Wd} : HF wc wm wc wm := ⟨fun _ _ _ => rfl, fun _ _ => rfl, fun _ _ _ _ _ => rfl, rfl, fun _ _ _ => rfl⟩
theorem HF.trans {wc wm wc1 wm1 wc2 wm2 : Wd} (h : HF wc wm wc1 wm1) (h' : HF wc1 wm1 wc2 wm2) : HF wc wm wc2 wm2 := ⟨fun a q1 q2 => (h'.1 a q1 q2).trans (h.1 a q1 q2), fun a q => (h'.2.1 a q).trans (h.2.1 a q), fun a q1 q2 q3 q4 => (h'.2.2.1 a q1 q2 q3 q4).trans (h.2.2.1 a q1 q2 q3 q4), h'.2.2.2.1.trans h.2.2.2.1, fun j q1 q2 => (h'.2.2.2.2 j q1 q2).trans (h.2.2.2.2 j q1 q2)⟩
theorem YY.hf {n : Nat} {wc wm wc' wm' : Wd} (h : YY n wc wm) (hf : HF wc wm wc' wm') (hc : YC wc' 0 (wm'.1 149) n) : YY n wc' wm' := by
  obtain ⟨f1, f2, f3, f4, f5⟩ := hf
  obtain ⟨-, k2, k3, k4, k5, k6, k7⟩ := h
  have g1 : ∀ a, ¬ (1 ≤ a ∧ a ≤ 91) → ¬ (92 ≤ a ∧ a ≤ 99) → wc'.1 a = wc.1 a := fun a q1 q2 => f1 a q1 (by omega)
  have g2 : ∀ a, ¬ a = 112 → wc'.2 a = wc.2 a := f2
  refine ⟨hc, k2.cong (fun a ha => g1 a (by omega) (by omega)) (f3 _ (by omega) (by omega) (by omega) (by omega)) (f3 _ (by omega) (by omega) (by omega) (by omega)), k3.cong (fun a ha => ⟨g1 a (by omega) (by omega), g2 a (by omega)⟩) (f3 _ (by omega) (by omega) (by omega) (by omega)) (f3 _ (by omega) (by omega) (by omega) (by omega)) (by rw [f4]), k4.cong (g1 _ (by omega) (by omega)) (g1 _ (by omega) (by omega)) (f5 4 (by omega) (by omega)) (f3 _ (by omega) (by omega) (by omega) (by omega)), k5.cong (fun a ha => g1 a (by omega) (by omega)) (fun j hj => f5 j (by omega) (by omega)) (f3 _ (by omega) (by omega) (by omega) (by omega)), k6.cong (by rw [g1 106 (by omega) (by omega)]) (fun a ha => g1 a (by omega) (by omega)) (fun a ha => g1 a (by omega) (by omega)) (f5 21 (by omega) (by omega)) (fun a ha => f3 a (by omega) (by omega) (by omega) (by omega)), ?_⟩
  rw [g1 0 (by omega) (by omega), f5 2 (by omega) (by omega)]
  exact k7
theorem HF.cput {wc wm : Wd} {a i : Nat} {x : Int32} (ha : (1 ≤ a ∧ a ≤ 91) ∨ (96 ≤ a ∧ a ≤ 99)) : HF wc wm (si wc a i x) wm := ⟨fun b q1 q2 => si_oth (by omega), fun _ _ => rfl, fun _ _ _ _ _ => rfl, rfl, fun _ _ _ => rfl⟩
theorem HF.mput {wc wm : Wd} {a i : Nat} {x : Int32} (ha : a = 149 ∨ (154 ≤ a ∧ a ≤ 156) ∨ (a = 148 ∧ i = 10)) : HF wc wm wc (si wm a i x) := ⟨fun _ _ _ => rfl, fun _ _ => rfl, fun b q1 q2 q3 q4 => si_oth (by omega), rfl, fun j q1 q2 => by rw [si_1, if_neg (by omega)]⟩
theorem ri_lit {w : Wd} {a k : Nat} (hk : (OfNat.ofNat k : Nat) < 100000) : ri w a (OfNat.ofNat k : Int32) = w.1 a (OfNat.ofNat k : Nat) := ri_iN (n := (OfNat.ofNat k : Nat)) (by omega)
theorem mw_step {n k : Nat} {wc wm : Wd} (h : YY n wc wm) (hn : n ≤ 512) (hk : k < 100) (hr : ¬ wm.1 149 (15 * k + 4) = 1) (hb : pot (wm.1 149) k + 299 ≤ 10019 * (wm.1 149 4300).toInt + 999900 * (n : Int)) (fc fm : Nat) : ∃ wc' wm', fX1_makeWater_7 (fc + 1) (iN k) wc = fX1_makeWater_7 fc (iN (k + 1)) wc' ∧ fX12_hour_14 (fm + 1) (iN k) wm = fX12_hour_14 fm (iN (k + 1)) wm' ∧ YY n wc' wm' ∧ HF wc wm wc' wm' ∧ sameW (wm.1 149) (wm'.1 149) ∧ pot (wm'.1 149) k ≤ pot (wm.1 149) k + 299 ∧ ∀ c, c < 100 → ¬ c = k → pot (wm'.1 149) c = pot (wm.1 149) c := by
  have hI := h.1.2.2
  obtain ⟨⟨p0, p1⟩, ⟨r0, r1⟩⟩ : bt 0 9999 (wm.1 149 (15 * k + 2)) ∧ bt 0 200 (wm.1 149 4303) := ⟨(hI.1 k hk).1.2.2.1, hI.2.2.2.1.2.2.1⟩
  obtain ⟨⟨n1, n2, n3, n4⟩, n5, n6⟩ := hI.pot hk
  have hour := hI.2.2.2.1.1.2
  have hcoal := coal_nn hI.2.1
  have hpd := n5
  unfold pot wtr at hpd
  have hH := hI.2.1
  have t8 : 0 ≤ (wm.1 149 (1508 + 10 * k)).toInt := by
    have := (hH.1 k hk).2.1.1
    rw [show 1508 + 10 * k = 1500 + 10 * k + 8 by omega]
    exact this
  have t9 : 0 ≤ (wm.1 149 (1509 + 10 * k)).toInt := by
    have := (hH.1 k hk).2.2.1.1
    rw [show 1509 + 10 * k = 1500 + 10 * k + 9 by omega]
    exact this
  have ed : (wm.1 149 (15 * k + 2) / 100).toInt = (wm.1 149 (15 * k + 2)).toInt / 100 := div_I p0 (by decide)
  have r7 : wc.1 7 k = wm.1 149 (15 * k + 4) := h.1.row (j := 4) hk (by omega)
  have r5 : wc.1 5 k = wm.1 149 (15 * k + 2) := h.1.row (j := 2) hk (by omega)
  have r15 : wc.1 15 k = wm.1 149 (15 * k + 9) := h.1.row (j := 9) hk (by omega)
  have r16 : wc.1 16 k = wm.1 149 (15 * k + 10) := h.1.row (j := 10) hk (by omega)
  have s3 : wc.1 14 4 = wm.1 149 4303 := h.1.scal (j := 3) (by omega)
  have s5 : wc.1 14 5 = wm.1 149 4305 := h.1.scal (j := 5) (by omega)
  have s6 : wc.1 14 6 = wm.1 149 4306 := h.1.scal (j := 6) (by omega)
  let p := wm.1 149 (15 * k + 2) / 100
  let r := wm.1 149 4303
  let S := wm.1 149
  have au : AU (si (si (si (si wc 15 k (S (15 * k + 9) + p)) 16 k (S (15 * k + 10) + r)) 14 5 (S 4305 + p)) 14 6 (S 4306 + r)) (upd (upd (upd (upd S (15 * k + 9) (S (15 * k + 9) + p)) (15 * k + 10) (S (15 * k + 10) + r)) 4305 (S 4305 + p)) 4306 (S 4306 + r)) := (((h.1.au.put (by unfold softK; omega) (loc_row (j := 9) hk (by omega))).put (by unfold softK; omega) (loc_row (j := 10) hk (by omega))).put (by unfold softK; omega) (loc_sc (j := 5) (by omega))).put (by unfold softK; omega) (loc_sc (j := 6) (by omega))
  have sw : sameW S (upd (upd (upd (upd S (15 * k + 9) (S (15 * k + 9) + p)) (15 * k + 10) (S (15 * k + 10) + r)) 4305 (S 4305 + p)) 4306 (S 4306 + r)) := (((sameW.refl.put (by unfold wk; omega)).put (by unfold wk; omega)).put (by unfold wk; omega)).put (by unfold wk; omega)
  have v9 : ∀ c, c < 100 → (upd (upd (upd (upd S (15 * k + 9) (S (15 * k + 9) + p)) (15 * k + 10) (S (15 * k + 10) + r)) 4305 (S 4305 + p)) 4306 (S 4306 + r)) (15 * c + 9) = if c = k then S (15 * k + 9) + p else S (15 * c + 9) := fun c hc => by
    rw [upd_ne (by omega), upd_ne (by omega), upd_ne (by omega)]
    by_cases e : c = k
    · rw [if_pos e, e, upd_eq]
    · rw [if_neg e, upd_ne (by omega)]
  have v10 : ∀ c, c < 100 → (upd (upd (upd (upd S (15 * k + 9) (S (15 * k + 9) + p)) (15 * k + 10) (S (15 * k + 10) + r)) 4305 (S 4305 + p)) 4306 (S 4306 + r)) (15 * c + 10) = if c = k then S (15 * k + 10) + r else S (15 * c + 10) := fun c hc => by
    rw [upd_ne (by omega), upd_ne (by omega)]
    by_cases e : c = k
    · rw [if_pos e, e, upd_eq]
    · rw [if_neg e, upd_ne (by omega), upd_ne (by omega)]
  have vo : ∀ q, ¬ (q < 1500 ∧ (q % 15 = 9 ∨ q % 15 = 10)) → ¬ q = 4305 → ¬ q = 4306 → (upd (upd (upd (upd S (15 * k + 9) (S (15 * k + 9) + p)) (15 * k + 10) (S (15 * k + 10) + r)) 4305 (S 4305 + p)) 4306 (S 4306 + r)) q = S q := fun q q1 q2 q3 => by
    rw [upd_ne q3, upd_ne q2, upd_ne (by omega), upd_ne (by omega)]
  have a1 : (S (15 * k + 9) + p).toInt = (S (15 * k + 9)).toInt + p.toInt := add_I (by show _ ≤ (wm.1 149 (15 * k + 9)).toInt + (wm.1 149 (15 * k + 2) / 100).toInt; omega) (by show (wm.1 149 (15 * k + 9)).toInt + (wm.1 149 (15 * k + 2) / 100).toInt < _; omega)
  have a2 : (S (15 * k + 10) + r).toInt = (S (15 * k + 10)).toInt + r.toInt := add_I (by show _ ≤ (wm.1 149 (15 * k + 10)).toInt + (wm.1 149 4303).toInt; omega) (by show (wm.1 149 (15 * k + 10)).toInt + (wm.1 149 4303).toInt < _; omega)
  have hp99 : 0 ≤ p.toInt ∧ p.toInt ≤ 99 := by
    show 0 ≤ (wm.1 149 (15 * k + 2) / 100).toInt ∧ (wm.1 149 (15 * k + 2) / 100).toInt ≤ 99
    omega
  have hr200 : 0 ≤ r.toInt ∧ r.toInt ≤ 200 := ⟨r0, r1⟩
  have coalE : coalZ (upd (upd (upd (upd S (15 * k + 9) (S (15 * k + 9) + p)) (15 * k + 10) (S (15 * k + 10) + r)) 4305 (S 4305 + p)) 4306 (S 4306 + r)) = coalZ S := coalZ_cong (fun q q1 q2 => vo q (by omega) (by omega) (by omega))
  have potE : ∀ c, c < 100 → pot (upd (upd (upd (upd S (15 * k + 9) (S (15 * k + 9) + p)) (15 * k + 10) (S (15 * k + 10) + r)) 4305 (S 4305 + p)) 4306 (S 4306 + r)) c = pot S c + (if c = k then p.toInt + r.toInt else 0) := fun c hc => by
    unfold pot wtr
    rw [coalE, v9 c hc, v10 c hc, vo (15 * c + 11) (by omega) (by omega) (by omega), vo (15 * c + 12) (by omega) (by omega) (by omega), vo (1508 + 10 * c) (by omega) (by omega) (by omega), vo (1509 + 10 * c) (by omega) (by omega) (by omega)]
    by_cases e : c = k
    · rw [if_pos e, if_pos e, if_pos e, a1, a2, e]
      omega
    · rw [if_neg e, if_neg e, if_neg e]
      omega
  have inv : Inv (upd (upd (upd (upd S (15 * k + 9) (S (15 * k + 9) + p)) (15 * k + 10) (S (15 * k + 10) + r)) 4305 (S 4305 + p)) 4306 (S 4306 + r)) n := hI.wat sw hn (fun c hc => (hI.2.1.1 c hc).cong (fun j hj => vo _ (by omega) (by omega) (by omega))) (fun c hc => by
    obtain ⟨⟨m1, m2, m3, m4⟩, m5, m6⟩ := hI.pot hc
    rw [potE c hc]
    unfold nnW
    rw [v9 c hc, v10 c hc, vo (15 * c + 11) (by omega) (by omega) (by omega), vo (15 * c + 12) (by omega) (by omega) (by omega)]
    by_cases e : c = k
    · subst e
      rw [if_pos rfl, if_pos rfl, if_pos rfl, a1, a2]
      refine ⟨⟨?_, ?_, m3, m4⟩, ?_⟩
      · show 0 ≤ (wm.1 149 (15 * c + 9)).toInt + p.toInt
        omega
      · show 0 ≤ (wm.1 149 (15 * c + 10)).toInt + r.toInt
        omega
      · show pot (wm.1 149) c + _ ≤ _
        omega
    · rw [if_neg e, if_neg e, if_neg e]
      exact ⟨⟨m1, m2, m3, m4⟩, by show pot (wm.1 149) c + 0 ≤ _; omega⟩)
  have hf1 : HF wc wm (si (si (si (si wc 15 k (S (15 * k + 9) + p)) 16 k (S (15 * k + 10) + r)) 14 5 (S 4305 + p)) 14 6 (S 4306 + r)) (si (si (si (si wm 149 (15 * k + 9) (S (15 * k + 9) + p)) 149 (15 * k + 10) (S (15 * k + 10) + r)) 149 4305 (S 4305 + p)) 149 4306 (S 4306 + r)) :=
    (((HF.cput (by omega)).trans (HF.cput (by omega))).trans ((HF.cput (by omega)).trans (HF.cput (by omega)))).trans (((HF.mput (by omega)).trans (HF.mput (by omega))).trans ((HF.mput (by omega)).trans (HF.mput (by omega))))
  have row : (si (si (si (si wm 149 (15 * k + 9) (S (15 * k + 9) + p)) 149 (15 * k + 10) (S (15 * k + 10) + r)) 149 4305 (S 4305 + p)) 149 4306 (S 4306 + r)).1 149 = upd (upd (upd (upd S (15 * k + 9) (S (15 * k + 9) + p)) (15 * k + 10) (S (15 * k + 10) + r)) 4305 (S 4305 + p)) 4306 (S 4306 + r) := by
    rw [si_row, si_row, si_row, si_row]
  refine ⟨_, _, ?_, ?_, h.hf hf1 (by rw [row]; exact au.yc inv), hf1, by rw [row]; exact sw, ?_, fun c hc hne => ?_⟩
  · rw [fX1_makeWater_7, if_pos ((iN_lt_lit (by omega) (by omega)).mpr hk), inb_lt2 hk (by omega), if_pos rfl, ri_iN (by omega), r7, if_neg hr, nw_eq, nw_eq, nw_eq, nw_eq, wi_iN (by omega), wi_iN (by omega), ri_iN (by omega), ri_iN (by omega), ri_iN (by omega), add_lit, r15, r5]
    refine congrArg (fX1_makeWater_7 fc (iN (k + 1))) ?_
    simp only [si_1, Nat.reduceEqDiff, false_and, and_false, true_and, if_false, if_true, r16, s3, s5, s6]
    rfl
  · have hp : ∀ w : Wd, fX12_c (iN k) 2 w = some (w.1 149 (15 * k + 2)) := fun w => mc_j hk (by decide)
    have hc4 : fX12_c (iN k) 4 wm = some (wm.1 149 (15 * k + 4)) := mc_j hk (by decide)
    rw [fX12_hour_14, if_pos ((iN_lt_lit (by omega) (by omega)).mpr hk), hc4, Option.bind_some, if_neg hr, mci hk (by decide), if_pos rfl, hp, Option.bind_some, nw_eq, mcw (by decide) hk, mcr (by decide) hk, mci hk (by decide), if_pos rfl, mg_3, Option.bind_some, nw_eq, mcw (by decide) hk, mcr (by decide) hk, hp, Option.bind_some, nw_eq, mg_3, Option.bind_some, nw_eq, add_lit]
    refine congrArg (fX12_hour_14 fm (iN (k + 1))) ?_
    rw [wi_lit (by decide), wi_lit (by decide), ri_lit (by decide), ri_lit (by decide)]
    have e1 : ¬ 15 * k + 10 = 15 * k + 9 := by omega
    have e2 : ¬ 4303 = 15 * k + 9 := by omega
    have e3 : ¬ 4303 = 15 * k + 10 := by omega
    have e4 : ¬ 15 * k + 2 = 15 * k + 9 := by omega
    have e5 : ¬ 15 * k + 2 = 15 * k + 10 := by omega
    have e6 : ¬ 4305 = 15 * k + 9 := by omega
    have e7 : ¬ 4305 = 15 * k + 10 := by omega
    have e8 : ¬ 4306 = 15 * k + 9 := by omega
    have e9 : ¬ 4306 = 15 * k + 10 := by omega
    simp only [si_1, Nat.reduceEqDiff, e1, e2, e3, e4, e5, e6, e7, e8, e9, and_false, true_and, if_false]
    rfl
  · rw [row, potE k hk, if_pos rfl]
    show pot (wm.1 149) k + _ ≤ _
    omega
  · rw [row, potE c hc, if_neg hne]
    show pot (wm.1 149) c + 0 = _
    omega
-- MATHEMATICS: m72
theorem mw_loop {n : Nat} : ∀ (m k fuel : Nat) (wc wm : Wd), k + m = 100 → m < fuel → n ≤ 512 → YY n wc wm → (∀ c, c < 100 → k ≤ c → pot (wm.1 149) c + 299 ≤ 10019 * (wm.1 149 4300).toInt + 999900 * (n : Int)) → ∃ wc' wm', fX1_makeWater_7 fuel (iN k) wc = some wc' ∧ fX12_hour_14 fuel (iN k) wm = fX12_hour_14 1 (iN 100) wm' ∧ YY n wc' wm' ∧ HF wc wm wc' wm' ∧ sameW (wm.1 149) (wm'.1 149) ∧ ∀ c, c < 100 → pot (wm'.1 149) c ≤ pot (wm.1 149) c + (if k ≤ c then 299 else 0) := by
  intro m
  induction m with
  | zero =>
    intro k fuel wc wm hk hf hn h hb
    obtain ⟨fuel, rfl⟩ : ∃ g, fuel = g + 1 := ⟨fuel - 1, by omega⟩
    obtain rfl : k = 100 := by omega
    refine ⟨wc, wm, ?_, ?_, h, HF.refl, sameW.refl, fun c hc => by rw [if_neg (by omega)]; omega⟩
    · rw [fX1_makeWater_7, if_neg (show ¬ iN 100 < 100 by decide)]
    · rw [fX12_hour_14, fX12_hour_14, if_neg (show ¬ iN 100 < 100 by decide), if_neg (show ¬ iN 100 < 100 by decide)]
  | succ m ih =>
    intro k fuel wc wm hk hf hn h hb
    obtain ⟨fuel, rfl⟩ : ∃ g, fuel = g + 1 := ⟨fuel - 1, by omega⟩
    by_cases hr : wm.1 149 (15 * k + 4) = 1
    · obtain ⟨wc', wm', e1, e2, e3, e4, e5, e6⟩ := ih (k + 1) fuel wc wm (by omega) (by omega) hn h (fun c hc hkc => hb c hc (by omega))
      refine ⟨wc', wm', ?_, ?_, e3, e4, e5, fun c hc => ?_⟩
      · have r7 : wc.1 7 k = wm.1 149 (15 * k + 4) := h.1.row (j := 4) (by omega) (by omega)
        rw [fX1_makeWater_7, if_pos ((iN_lt_lit (by omega) (by omega)).mpr (show k < 100 by omega)), inb_lt2 (by omega) (by omega), if_pos rfl, ri_iN (by omega), r7, if_pos hr, add_lit]
        exact e1
      · have hc4 : fX12_c (iN k) 4 wm = some (wm.1 149 (15 * k + 4)) := mc_j (by omega) (by decide)
        rw [fX12_hour_14, if_pos ((iN_lt_lit (by omega) (by omega)).mpr (show k < 100 by omega)), hc4, Option.bind_some, if_pos hr, add_lit]
        exact e2
      · have := e6 c hc
        by_cases q : k + 1 ≤ c
        · rw [if_pos q] at this
          rw [if_pos (by omega)]
          exact this
        · rw [if_neg q] at this
          by_cases q2 : k ≤ c
          · rw [if_pos q2]
            omega
          · rw [if_neg q2]
            exact this
    · obtain ⟨w1, m1, s1, s2, s3, s4, s5, s6, s7⟩ := mw_step h hn (show k < 100 by omega) hr (hb k (by omega) (Nat.le_refl _)) fuel fuel
      have hH : m1.1 149 4300 = wm.1 149 4300 := s5 4300 (by unfold wk; omega)
      obtain ⟨wc', wm', e1, e2, e3, e4, e5, e6⟩ := ih (k + 1) fuel w1 m1 (by omega) (by omega) hn s3 (fun c hc hkc => by
        rw [s7 c hc (by omega), hH]
        exact hb c hc (by omega))
      refine ⟨wc', wm', s1.trans e1, s2.trans e2, e3, s4.trans e4, s5.trans e5, fun c hc => ?_⟩
      have := e6 c hc
      by_cases q : c = k
      · subst q
        rw [if_neg (by omega)] at this
        rw [if_pos (Nat.le_refl _)]
        omega
      · rw [s7 c hc q] at this
        by_cases q2 : k + 1 ≤ c
        · rw [if_pos q2] at this
          rw [if_pos (by omega)]
          exact this
        · rw [if_neg q2] at this
          rw [if_neg (by omega)]
          exact this
def sameL (S S' : Nat → Int32) : Prop := (∀ k, 3300 ≤ k → k < 4300 → S' k = S k) ∧ (∀ c, c < 100 → S' (15 * c) = S (15 * c) ∧ S' (15 * c + 6) = S (15 * c + 6) ∧ S' (15 * c + 8) = S (15 * c + 8)) ∧ S' 4315 = S 4315 ∧ S' 4300 / 24 = S 4300 / 24
theorem sameW.l {S S' : Nat → Int32} (h : sameW S S') : sameL S S' := ⟨fun k q1 q2 => h k (by unfold wk; omega), fun c hc => ⟨h _ (by unfold wk; omega), h _ (by unfold wk; omega), h _ (by unfold wk; omega)⟩, h _ (by unfold wk; omega), by rw [h 4300 (by unfold wk; omega)]⟩
theorem carB_cong {n n' m : Nat} {wc wm wc' wm' : Wd} (h : YY n wc wm) (h' : YY n' wc' wm') (e : sameL (wm.1 149) (wm'.1 149)) (hm : (m : Int) < (wm.1 149 4315).toInt) : carB wm' m = carB wm m := by
  obtain ⟨e1, e2, e3, e4⟩ := e
  have hm8 := h.1.2.2.2.2.1.lt hm
  have hm' : (m : Int) < (wm'.1 149 4315).toInt := by rw [e3]; exact hm
  have hl := (h.1.lenB hm)
  have loop : ∀ (q i fuel : Nat), ((i + q : Nat) : Int) = (wm.1 149 (3300 + 125 * m)).toInt → q < fuel → fX12_isCarrying_2 wm' fuel (iN m) (iN i) = fX12_isCarrying_2 wm fuel (iN m) (iN i) := by
    intro q
    induction q with
    | zero =>
      intro i fuel hi hf
      obtain ⟨fuel, rfl⟩ : ∃ g, fuel = g + 1 := ⟨fuel - 1, by omega⟩
      have hn : ¬ iN i < wm.1 149 (3300 + 125 * m) := by
        rw [lt_I, iN_toInt (by omega)]
        omega
      rw [fX12_isCarrying_2, fX12_isCarrying_2, ml_0 hm8, ml_0 hm8, Option.bind_some, Option.bind_some, e1 _ (by omega) (by omega), if_neg hn, if_neg hn]
    | succ q ih =>
      intro i fuel hi hf
      obtain ⟨fuel, rfl⟩ : ∃ g, fuel = g + 1 := ⟨fuel - 1, by omega⟩
      have ih' := ih (i + 1) fuel (by omega) (by omega)
      have hi2 : (i : Int) < (wm.1 149 (3300 + 125 * m)).toInt := by omega
      have hi2' : (i : Int) < (wm'.1 149 (3300 + 125 * m)).toInt := by rw [e1 _ (by omega) (by omega)]; exact hi2
      have hp : iN i < wm.1 149 (3300 + 125 * m) := by
        rw [lt_I, iN_toInt (by omega)]
        omega
      obtain ⟨c, hc, q1⟩ := h.1.lcell hm hi2
      have q1' : wm'.1 149 (3304 + 125 * m + 6 * i) = iN c := by rw [e1 _ (by omega) (by omega)]; exact q1
      rw [fX12_isCarrying_2, fX12_isCarrying_2, ml_0 hm8, ml_0 hm8, Option.bind_some, Option.bind_some, e1 _ (by omega) (by omega), if_pos hp, if_pos hp, msp_eq, msp_eq, Option.bind_some, Option.bind_some, add_lit, inb_lt2 (by omega) (by omega), if_pos rfl, if_pos rfl, ri_iN (by omega), ri_iN (by omega), (today_eq h).2, (today_eq h').2, Option.bind_some, Option.bind_some, bear_m h hm hi2 hc q1, bear_m h' hm' hi2' hc q1', Option.bind_some, Option.bind_some, e4, e1 (3302 + 125 * m) (by omega) (by omega), e1 (3304 + 125 * m + 6 * i + 4) (by omega) (by omega), e1 (3304 + 125 * m + 6 * i + 5) (by omega) (by omega), e1 (3304 + 125 * m + 6 * i + 3) (by omega) (by omega), e1 (3304 + 125 * m + 6 * i + 1) (by omega) (by omega), (e2 c hc).1, add_lit, ih']
  have := loop (wm.1 149 (3300 + 125 * m)).toNatClampNeg 0 FU (by have := cl_nat (show 0 ≤ (wm.1 149 (3300 + 125 * m)).toInt by omega); omega) (by have := cl_nat (show 0 ≤ (wm.1 149 (3300 + 125 * m)).toInt by omega); unfold FU; omega)
  rw [show iN 0 = 0 from rfl] at this
  unfold carB fX12_isCarrying
  rw [this]
theorem placeF_cong {S S' : Nat → Int32} {m c len : Nat} (hm : m < 8) (hl : len ≤ 19) (e : ∀ k, 3300 ≤ k → k < 4300 → S' k = S k) : ∀ t, t ≤ len → placeF S' m c len t = placeF S m c len t
  | 0, _ => rfl
  | t + 1, ht => by
    unfold placeF
    rw [e _ (by omega) (by omega), placeF_cong hm hl e t (by omega)]
theorem firstL_cong {S S' : Nat → Int32} {cb cb' : Nat → Bool} {c cnt : Nat} (h8 : cnt ≤ 8) (hl : ∀ m, m < cnt → lenS S m ≤ 19) (hcb : ∀ m, m < cnt → cb' m = cb m) (e : ∀ k, 3300 ≤ k → k < 4300 → S' k = S k) : ∀ t, t ≤ cnt → firstL S' cb' c cnt t = firstL S cb c cnt t
  | 0, _ => rfl
  | t + 1, ht => by
    have e1 : lenS S' (cnt - (t + 1)) = lenS S (cnt - (t + 1)) := by
      unfold lenS
      rw [e _ (by omega) (by omega)]
    unfold firstL
    rw [e1, placeF_cong (by omega) (hl _ (by omega)) e _ (Nat.le_refl _), firstL_cong h8 hl hcb e t (by omega), hcb _ (by omega)]
theorem LdV_cong {S S' : Nat → Int32} {c cnt : Nat} {o : Option (Nat × Nat)} (hc : c < 100) (h8 : cnt ≤ 8) (ho : ∀ m i, o = some (m, i) → m < cnt ∧ i < lenS S m ∧ lenS S m ≤ 19) (e : sameL S S') : LdV S' o c = LdV S o c := by
  obtain ⟨e1, e2, e3, e4⟩ := e
  cases o with
  | none =>
    unfold LdV
    rw [(e2 c hc).2.1, (e2 c hc).2.2]
  | some p =>
    obtain ⟨m, i⟩ := p
    obtain ⟨h1, h2, h3⟩ := ho m i rfl
    have el : lenS S' m = lenS S m := by
      unfold lenS
      rw [e1 _ (by omega) (by omega)]
    show lineV S' m i c = lineV S m i c
    unfold lineV
    rw [el, (e2 c hc).2.1, (e2 c hc).2.2, e1 (3301 + 125 * m) (by omega) (by omega)]
    by_cases q : i + 1 < lenS S m
    · rw [e1 _ (by omega) (by omega)]
    · simp only [if_neg q]
def ldS (wm : Wd) (cnt c : Nat) : Int32 × Int32 × Int32 := LdV (wm.1 149) (firstL (wm.1 149) (carB wm) c cnt cnt) c
theorem ldS_cong {n n' cnt c : Nat} {wc wm wc' wm' : Wd} (h : YY n wc wm) (h' : YY n' wc' wm') (hc : c < 100) (hcnt : wm.1 149 4315 = iN cnt) (h8 : cnt ≤ 8) (e : sameL (wm.1 149) (wm'.1 149)) : ldS wm' cnt c = ldS wm cnt c := by
  have hm : ∀ m, m < cnt → (m : Int) < (wm.1 149 4315).toInt := fun m hm => by
    rw [hcnt, iN_toInt (by omega)]
    omega
  have hl : ∀ m, m < cnt → lenS (wm.1 149) m ≤ 19 := fun m q => (lenS_eq h.1 (hm m q)).2.2
  unfold ldS
  rw [firstL_cong (S := wm.1 149) (cb := carB wm) h8 hl (fun m q => carB_cong h h' e (hm m q)) e.1 cnt (Nat.le_refl _)]
  exact LdV_cong hc h8 (fun m i q => by
    obtain ⟨q1, q2, -⟩ := firstL_lt (Nat.le_refl _) q
    exact ⟨q1, q2, hl m q1⟩) e
