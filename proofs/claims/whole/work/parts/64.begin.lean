theorem wcl_RL_8 : Cond.classLink RL 8 RX11 ∈ gtbl := gq (by decide +kernel) (by decide +kernel)
theorem wins_X11 : Cond.instantiable RX11 11 ∈ gtbl := gq (by decide +kernel) (by decide +kernel)
theorem wi_X11_init : Cond.instanceMethod yX11_init ∈ gtbl := gq (by decide +kernel) (by decide +kernel)
theorem wk_X11_init : Cond.code yX11_init cX11_init 2 none ∈ gtbl := gq (by decide +kernel) (by decide +kernel)
theorem wm_RL_32 : Cond.methodLink RL 32 yX11_init ∈ gtbl := gq (by decide +kernel) (by decide +kernel)
theorem wcl_RL_33 : Cond.classLink RL 33 RX12 ∈ gtbl := gq (by decide +kernel) (by decide +kernel)
theorem wins_X12 : Cond.instantiable RX12 33 ∈ gtbl := gq (by decide +kernel) (by decide +kernel)
theorem wi_X12_init : Cond.instanceMethod yX12_init ∈ gtbl := gq (by decide +kernel) (by decide +kernel)
theorem wk_X12_init : Cond.code yX12_init cX12_init 1 none ∈ gtbl := gq (by decide +kernel) (by decide +kernel)
theorem wm_RL_35 : Cond.methodLink RL 35 yX12_init ∈ gtbl := gq (by decide +kernel) (by decide +kernel)
theorem mp_RL_32 : MIP RL 32 yX11_init cX11_init 2 := ⟨⟨wm_RL_32, wi_X11_init, wz_X11, wk_X11_init⟩, ⟨by decide +kernel, by decide +kernel, by decide +kernel⟩, rfl⟩
theorem mp_RL_35 : MIP RL 35 yX12_init cX12_init 1 := ⟨⟨wm_RL_35, wi_X12_init, wz_X12, wk_X12_init⟩, ⟨by decide +kernel, by decide +kernel, by decide +kernel⟩, rfl⟩
theorem low_other : otherL.filter (fun q => Nat.blt q.1 148) = ([1, 93, 94, 95, 96, 97, 98, 99, 100, 101, 102, 103, 104, 105, 106, 107, 108, 109, 110, 111, 132, 133, 134, 112, 113, 114, 115, 116, 117, 118, 119, 120, 121, 122, 123, 124, 125, 126, 127, 128, 129, 130, 131, 0, 136, 137, 138, 139, 140, 141, 142, 143, 144, 145, 146, 147, 135] : List Nat).filterMap (fun i => lowL[i]?) := rfl
theorem low_in {q : Nat × Kd} (h : q ∈ otherL) (h2 : q.1 < 148) : q ∈ lowL := by
  have h3 : q ∈ otherL.filter (fun q => Nat.blt q.1 148) := List.mem_filter.mpr ⟨h, Nat.ble_eq_true_of_le h2⟩
  rw [low_other] at h3
  obtain ⟨i, -, hi⟩ := List.mem_filterMap.mp h3
  exact List.mem_of_getElem? hi
theorem low_city {q : Nat × Kd} (h : q ∈ cityL 0) : q ∈ lowL := by
  refine List.mem_cons_of_mem _ (List.mem_cons_of_mem _ (List.mem_append_left _ (List.mem_append_left _ ?_)))
  exact List.mem_append_left _ (List.mem_append_left _ (List.mem_append_left _ (List.mem_append_left _ h)))
theorem low_all : ∀ a, a < 148 → a ∈ lowL.map Prod.fst := by decide +kernel
theorem low_no2 : lowL.all (fun q => no2 q.2 || (Nat.ble 135 q.1 && Nat.ble q.1 145 && Nat.beq (q.1 % 2) 1)) = true := by decide +kernel
theorem ref_all : ∀ a, a < 169 → 148 ≤ a → a ∈ refL.map Prod.fst := by decide +kernel
theorem ref_no2 : refL.all (fun q => no2 q.2) = true := by decide +kernel
def w00 : Wd := (fun _ _ => 0, fun _ _ => 0)
theorem flag0 : ∀ d, d < 6 → (Wlow (zi w00 0)).1 (135 + 2 * d) 3 = 0 := by decide +kernel
def wRef : Wd := Wref (zi (Wlow (zi w00 0)) 148)
theorem wRef_low {a : Nat} (h : a < 148) : wRef.1 a = (Wlow (zi w00 0)).1 a := by
  have e : ∀ j, 148 ≤ j → ¬ a = j := fun j hj => by omega
  simp [wRef, Wref, zi, e 148 (by omega), e 149 (by omega), e 150 (by omega), e 151 (by omega), e 152 (by omega), e 153 (by omega), e 154 (by omega), e 155 (by omega), e 156 (by omega), e 157 (by omega), e 158 (by omega), e 159 (by omega), e 160 (by omega), e 161 (by omega), e 162 (by omega), e 163 (by omega), e 164 (by omega), e 165 (by omega), e 166 (by omega), e 167 (by omega), e 168 (by omega)]
theorem no2_n2 {k : Kd} (h : no2 k = true) : n2 k := (no2_of h).imp id (fun h => h.imp fun ci h => h.imp fun ds h => ⟨h.1, h.2.1⟩)
theorem Kn_c {K : KT} {S : KS} {c s : Nat} : (Kn K S c s).cells = c := rfl
theorem Kn_s {K : KT} {S : KS} {c s : Nat} : (Kn K S c s).slots = s := rfl
theorem Kn_R {K : KT} {S : KS} {c s : Nat} : (Kn K S c s).R = K.R := rfl
theorem beq_ne {a v : Nat} (h : ¬ a = v) : Nat.beq a v = false := by
  cases hb : Nat.beq a v
  · rfl
  · exact absurd (Nat.eq_of_beq_eq_true hb) h
theorem noV8 {v : Nat} (h : ¬ 170 = v) : noV v [some (.ref 170), none, none, none, none, none, none, none] = true := by
  simp [noV, beq_ne h]
theorem noV8b {v : Nat} (h : ¬ 170 = v) (h2 : ¬ 0 = v) : noV v [some (.ref 170), some (.ref 0), none, none, none, none, none, none] = true := by
  simp [noV, beq_ne h, beq_ne h2]
set_option maxHeartbeats 8000000 in
theorem law_begin {I : Nat → Wd → Prop} (hm : LMath I) (hup : ∀ {n w}, I n w → I (n + 1) w) {rS : Wd} (hrS : fX12_start wRef = some rS) (hI0 : I 0 (zi rS 169)) {b L : Nat} {xs : Nat → Int32} {K : KT} (G : GK K code RL 8 300) (hD : ∀ a, ¬ K.ks.D a) (hXG : ∀ A U H, K.ks.X A U H → XG K.ks A U H) (hX : XCs K.ks) (hc0 : K.cells = 0) (hs0 : K.slots = 0) (hst : K.l.stackTraces = false) (hb : K.ks.ad 170 = b) (hscr : va_X b L xs K.s K.H0) (hbl : b < K.H0.size) (hbA : ¬ K.A b) (hL : L ≤ 3072) (hE : LE K b) : XW K 0 [some (.ref 170), none, none, none, none, none, none, none] [] w00 := by
  have hcR : K.R.cells = 601024 := by rw [hE.1]; rfl
  have hsR : K.R.slots = 7293033 := by rw [hE.1]; rfl
  have hC0 : Clo K.ks w00 := fun a ha => absurd ha (hD a)
  refine x_newO G (v := 0) (ds := [(3, 0), (3, 0), (3, 0), (3, 0), (3, 0), (3, 0), (3, 0), (0, 0), (0, 0), (0, 0), (0, 0)]) cl11 wcl_RL_8 wins_X11 wz_X11 (fun j hj => match j, hj with | 0, _ => rfl | 1, _ => rfl | 2, _ => rfl | 3, _ => rfl | 4, _ => rfl | 5, _ => rfl | 6, _ => rfl | 7, _ => rfl | 8, _ => rfl | 9, _ => rfl | 10, _ => rfl | m + 11, h => absurd h (by omega)) (by decide) hC0 (hD 0) (by omega) (by omega) rfl rfl dL_law_0 (fun q1 hq1 G1 c1 => ?_)
  refine x_dup G1 dL_law_3 rfl ?_
  have hM1 := kX11_init (l := K.l) (S := KSx K.ks 0 q1 (.inl (11, [(3, 0), (3, 0), (3, 0), (3, 0), (3, 0), (3, 0), (3, 0), (0, 0), (0, 0), (0, 0), (0, 0)]))) (w := zi w00 0) hX G1.2.2.2.2.2.2.1 ⟨Or.inr rfl, rfl⟩ (fun a a1 a2 h => (show K.ks.D a ∨ a = 0 from h).elim (hD a) (by omega)) c1
  obtain ⟨cA, sA, hcA, hsA, hM1⟩ : ∃ cA sA, cA = 147 ∧ sA = 7499 ∧ CK K.l yX11_init cX11_init 2 6 cA sA (KSx K.ks 0 q1 (.inl (11, [(3, 0), (3, 0), (3, 0), (3, 0), (3, 0), (3, 0), (3, 0), (0, 0), (0, 0), (0, 0), (0, 0)]))) 0 1 147 (zi w00 0) (Wlow (zi w00 0)) lowL := ⟨_, _, rfl, rfl, hM1⟩
  refine x_ctorP G1 hM1 mp_RL_32 (Or.inr rfl) (by omega) rfl rfl rfl (by simp only [Kn_c, Kn_s, Kn_R]; omega) (by simp only [Kn_c, Kn_s, Kn_R]; omega) (fun v a1 a2 => noV8 (by omega)) (fun v a1 a2 => noVs1 (by omega)) dL_law_4 (fun S1 z1 hz1 E1 L1 G2 => ?_)
  have hnD : ∀ a, 148 ≤ a → ¬ S1.D a := fun a ha h => by
    obtain ⟨u1, -⟩ := E1.2.1 a (by omega) (by omega)
    exact (show K.ks.D a ∨ a = 0 from u1.mp h).elim (hD a) (by omega)
  have had : ∀ a, 148 ≤ a → S1.ad a = K.ks.ad a := fun a ha => (E1.2.2.1 a (by omega)).trans (if_neg (by omega) : (KSx K.ks 0 q1 (.inl (11, [(3, 0), (3, 0), (3, 0), (3, 0), (3, 0), (3, 0), (3, 0), (0, 0), (0, 0), (0, 0), (0, 0)]))).ad a = K.ks.ad a)
  refine x_astore_n G2 (lv' := [some (.ref 170), some (.ref 0), none, none, none, none, none, none]) dL_law_7 rfl rfl rfl rfl ?_
  have hX1 : S1.X = K.ks.X := E1.1.2.2
  refine x_newO G2 (v := 148) (ds := [(0, 0), (3, 0), (0, 0), (3, 0), (0, 0), (3, 0), (0, 0), (0, 0), (0, 0), (3, 0), (0, 0), (3, 0), (3, 0), (3, 0), (3, 0), (3, 0), (3, 0), (3, 0), (3, 0), (3, 0), (3, 0), (0, 0), (3, 0), (0, 0), (0, 0), (0, 0), (0, 0), (0, 0), (3, 0), (3, 0), (3, 0), (3, 0), (3, 0)]) cl12 wcl_RL_33 wins_X12 wz_X12 (fun j hj => match j, hj with | 0, _ => rfl | 1, _ => rfl | 2, _ => rfl | 3, _ => rfl | 4, _ => rfl | 5, _ => rfl | 6, _ => rfl | 7, _ => rfl | 8, _ => rfl | 9, _ => rfl | 10, _ => rfl | 11, _ => rfl | 12, _ => rfl | 13, _ => rfl | 14, _ => rfl | 15, _ => rfl | 16, _ => rfl | 17, _ => rfl | 18, _ => rfl | 19, _ => rfl | 20, _ => rfl | 21, _ => rfl | 22, _ => rfl | 23, _ => rfl | 24, _ => rfl | 25, _ => rfl | 26, _ => rfl | 27, _ => rfl | 28, _ => rfl | 29, _ => rfl | 30, _ => rfl | 31, _ => rfl | 32, _ => rfl | m + 33, h => absurd h (by omega)) (by decide) E1.2.2.2.2.2 (hnD 148 (by omega)) (by simp only [Kn_c, Kn_s, Kn_R]; omega) (by simp only [Kn_c, Kn_s, Kn_R]; omega) (noV8b (by omega) (by omega)) rfl dL_law_8 (fun q2 hq2 G3 c3 => ?_)
  refine x_dup G3 dL_law_11 rfl ?_
  have M0 : Main0 (KSx S1 148 q2 (.inl (12, [(0, 0), (3, 0), (0, 0), (3, 0), (0, 0), (3, 0), (0, 0), (0, 0), (0, 0), (3, 0), (0, 0), (3, 0), (3, 0), (3, 0), (3, 0), (3, 0), (3, 0), (3, 0), (3, 0), (3, 0), (3, 0), (0, 0), (3, 0), (0, 0), (0, 0), (0, 0), (0, 0), (0, 0), (3, 0), (3, 0), (3, 0), (3, 0), (3, 0)]))) := by
    refine ⟨⟨fun q hq h => (L1 q (low_in hq h)).x (hnD 148 (by omega)), fun A U H h => ?_⟩, fun q hq => (L1 q (low_city hq)).x (hnD 148 (by omega))⟩
    have h8 := hXG A U H (by rw [← hX1]; exact h)
    have e1 : (KSx S1 148 q2 (.inl (12, [(0, 0), (3, 0), (0, 0), (3, 0), (0, 0), (3, 0), (0, 0), (0, 0), (0, 0), (3, 0), (0, 0), (3, 0), (3, 0), (3, 0), (3, 0), (3, 0), (3, 0), (3, 0), (3, 0), (3, 0), (3, 0), (0, 0), (3, 0), (0, 0), (0, 0), (0, 0), (0, 0), (0, 0), (3, 0), (3, 0), (3, 0), (3, 0), (3, 0)]))).ad 9000 = K.ks.ad 9000 := had 9000 (by omega)
    have e2 : (KSx S1 148 q2 (.inl (12, [(0, 0), (3, 0), (0, 0), (3, 0), (0, 0), (3, 0), (0, 0), (0, 0), (0, 0), (3, 0), (0, 0), (3, 0), (3, 0), (3, 0), (3, 0), (3, 0), (3, 0), (3, 0), (3, 0), (3, 0), (3, 0), (0, 0), (3, 0), (0, 0), (0, 0), (0, 0), (0, 0), (0, 0), (3, 0), (3, 0), (3, 0), (3, 0), (3, 0)]))).ad 9001 = K.ks.ad 9001 := had 9001 (by omega)
    unfold XG at h8 ⊢
    rw [e1, e2]
    exact h8
  have hM2 := kX12_init (l := K.l) (S := KSx S1 148 q2 (.inl (12, [(0, 0), (3, 0), (0, 0), (3, 0), (0, 0), (3, 0), (0, 0), (0, 0), (0, 0), (3, 0), (0, 0), (3, 0), (3, 0), (3, 0), (3, 0), (3, 0), (3, 0), (3, 0), (3, 0), (3, 0), (3, 0), (0, 0), (3, 0), (0, 0), (0, 0), (0, 0), (0, 0), (0, 0), (3, 0), (3, 0), (3, 0), (3, 0), (3, 0)]))) (w := zi (Wlow (zi w00 0)) 148) M0 hrS G3.2.2.2.2.2.2.1 ⟨Or.inr rfl, rfl⟩ (fun a a1 a2 h => (show S1.D a ∨ a = 148 from h).elim (hnD a (by omega)) (by omega)) c3
  obtain ⟨cB, sB, hcB, hsB, hM2⟩ : ∃ cB sB, cB = 20 ∧ sB = 33139 ∧ CK K.l yX12_init cX12_init 1 2 cB sB (KSx S1 148 q2 (.inl (12, [(0, 0), (3, 0), (0, 0), (3, 0), (0, 0), (3, 0), (0, 0), (0, 0), (0, 0), (3, 0), (0, 0), (3, 0), (3, 0), (3, 0), (3, 0), (3, 0), (3, 0), (3, 0), (3, 0), (3, 0), (3, 0), (0, 0), (3, 0), (0, 0), (0, 0), (0, 0), (0, 0), (0, 0), (3, 0), (3, 0), (3, 0), (3, 0), (3, 0)]))) 148 149 168 (zi (Wlow (zi w00 0)) 148) rS refL := ⟨_, _, rfl, rfl, hM2⟩
  refine x_ctorP G3 hM2 mp_RL_35 (Or.inr rfl) (by omega) rfl rfl rfl (by simp only [Kn_c, Kn_s, Kn_R]; omega) (by simp only [Kn_c, Kn_s, Kn_R]; omega) (fun v a1 a2 => noV8b (by omega) (by omega)) (fun v a1 a2 => noVs1 (by omega)) dL_law_12 (fun S2 z2 hz2 E2 L2 G4 => ?_)
  refine x_astore_n G4 (lv' := [some (.ref 170), some (.ref 0), some (.ref 148), none, none, none, none, none]) dL_law_15 rfl rfl rfl rfl ?_
  refine x_iconst G4 (v := 1) dL_law_16 (by decide) ?_
  have hnD2 : ∀ a, 169 ≤ a → ¬ S2.D a := fun a ha h => by
    obtain ⟨u1, -⟩ := E2.2.1 a (by omega) (by omega)
    exact (show S1.D a ∨ a = 148 from u1.mp h).elim (hnD a (by omega)) (by omega)
  have had2 : ∀ a, 169 ≤ a → S2.ad a = K.ks.ad a := fun a ha => ((E2.2.2.1 a (by omega)).trans (if_neg (by omega) : (KSx S1 148 q2 (.inl (12, [(0, 0), (3, 0), (0, 0), (3, 0), (0, 0), (3, 0), (0, 0), (0, 0), (0, 0), (3, 0), (0, 0), (3, 0), (3, 0), (3, 0), (3, 0), (3, 0), (3, 0), (3, 0), (3, 0), (3, 0), (3, 0), (0, 0), (3, 0), (0, 0), (0, 0), (0, 0), (0, 0), (0, 0), (3, 0), (3, 0), (3, 0), (3, 0), (3, 0)]))).ad a = S1.ad a)).trans (had a (by omega))
  refine x_newA G4 (at0 := .long) (ty := .long) (t0 := 1) (n := 1) (v := 169) rfl (Or.inr (Or.inl ⟨rfl, rfl⟩)) wa_long (by decide) (by decide) (by decide) E2.2.2.2.2.2 (hnD2 169 (by omega)) (by simp only [Kn_c, Kn_s, Kn_R]; omega) (by simp only [Kn_c, Kn_s, Kn_R]; omega) rfl rfl dL_law_17 (fun q3 hq3 G5 c5 => ?_)
  refine x_astore_n G5 (lv' := [some (.ref 170), some (.ref 0), some (.ref 148), some (.ref 169), none, none, none, none]) dL_law_19 rfl rfl rfl rfl ?_
  refine x_iconst G5 (v := 0) dL_law_20 (by decide) ?_
  refine x_istore G5 (lv' := LV 0) dL_law_21 rfl rfl rfl ?_
  have old2 : ∀ q ∈ lowL, KD (KSx S2 169 q3 (.inr (1, 1, nt))) q.1 q.2 := fun q hq => by
    have hk := (L1 q hq).x (k' := .inl (12, [(0, 0), (3, 0), (0, 0), (3, 0), (0, 0), (3, 0), (0, 0), (0, 0), (0, 0), (3, 0), (0, 0), (3, 0), (3, 0), (3, 0), (3, 0), (3, 0), (3, 0), (3, 0), (3, 0), (3, 0), (3, 0), (0, 0), (3, 0), (0, 0), (0, 0), (0, 0), (0, 0), (0, 0), (3, 0), (3, 0), (3, 0), (3, 0), (3, 0)])) (q := q2) (hnD 148 (by omega))
    have hlt : q.1 < 148 := by
      rcases Nat.lt_or_ge q.1 148 with h | h
      · exact h
      · exact absurd (L1 q hq).1 (hnD _ h)
    obtain ⟨u1, u2⟩ := E2.2.1 q.1 (by omega) (by omega)
    exact KD.x ⟨u1.mpr hk.1, u2.trans hk.2⟩ (hnD2 169 (by omega))
  have new2 : ∀ q ∈ refL, KD (KSx S2 169 q3 (.inr (1, 1, nt))) q.1 q.2 := fun q hq => (L2 q hq).x (hnD2 169 (by omega))
  have hX2 : S2.X = K.ks.X := E2.1.2.2.trans hX1
  have M : Main (KSx S2 169 q3 (.inr (1, 1, nt))) := by
    refine ⟨⟨fun q hq => ?_, fun A U H h => ?_⟩, fun q hq => old2 q (low_city hq)⟩
    · by_cases h : q.1 < 148
      · exact old2 q (low_in hq h)
      · exact new2 q (refL_eq ▸ List.mem_filter.mpr ⟨hq, Nat.ble_eq_true_of_le (by omega)⟩)
    · have h8 := hXG A U H (by rw [← hX2]; exact h)
      have e1 : (KSx S2 169 q3 (.inr (1, 1, nt))).ad 9000 = K.ks.ad 9000 := had2 9000 (by omega)
      have e2 : (KSx S2 169 q3 (.inr (1, 1, nt))).ad 9001 = K.ks.ad 9001 := had2 9001 (by omega)
      unfold XG at h8 ⊢
      rw [e1, e2]
      exact h8
  have k169 : KD (KSx S2 169 q3 (.inr (1, 1, nt))) 169 (.inr (1, 1, nt)) := ⟨Or.inr rfl, rfl⟩
  have hsm : ∀ a, (KSx S2 169 q3 (.inr (1, 1, nt))).D a → a ≤ 169 := fun a ha => by
    rcases Nat.lt_or_ge a 170 with h | h
    · omega
    · exact absurd ((show S2.D a ∨ a = 169 from ha).elim id (by omega)) (hnD2 a (by omega))
  have hT : TPs (KSx S2 169 q3 (.inr (1, 1, nt))) := fun a ha => by
    have h9 := hsm a ha
    by_cases e1 : a < 148
    · obtain ⟨q, hq, rfl⟩ := List.mem_map.mp (low_all a e1)
      have hk := old2 q hq
      have h2 := List.all_eq_true.mp low_no2 q hq
      rw [Bool.or_eq_true] at h2
      rcases h2 with h2 | h2
      · exact Or.inl (by rw [hk.2]; exact no2_n2 h2)
      · rw [Bool.and_eq_true, Bool.and_eq_true] at h2
        have a1 := Nat.le_of_ble_eq_true h2.1.1
        have a2 := Nat.le_of_ble_eq_true h2.1.2
        have a3 := Nat.eq_of_beq_eq_true h2.2
        exact Or.inr ⟨(q.1 - 135) / 2, by omega, by omega⟩
    · by_cases e2 : a = 169
      · subst e2
        exact Or.inl (by rw [k169.2]; exact Or.inl ⟨_, rfl⟩)
      · obtain ⟨q, hq, rfl⟩ := List.mem_map.mp (ref_all a (by omega) (by omega))
        exact Or.inl (by rw [(new2 q hq).2]; exact no2_n2 (List.all_eq_true.mp ref_no2 q hq))
  have hfl : ∀ d, d < 6 → (zi rS 169).1 (135 + 2 * d) 3 = 0 := fun d hd => by
    have e1 : (zi rS 169).1 (135 + 2 * d) = rS.1 (135 + 2 * d) := if_neg (by omega)
    have e2 := (frfX12_start hrS (135 + 2 * d) (by simp; omega)).1
    rw [e1, e2, wRef_low (by omega)]
    exact flag0 d hd
  refine law_loop hm hup 513 0 _ (zi rS 169) (LV 0) rfl ⟨⟨G5, M, k169, hT, fun A U H h => hX A U H (by rw [← hX2]; exact h)⟩, ⟨fun T (hT2 : IsTape (KSx S2 169 q3 (.inr (1, 1, nt))) T) hn => ?_, fun d hd hn a a1 a2 h => by have := hsm a h; omega, c5⟩, ⟨by simp only [Kn_c]; omega, by simp only [Kn_s]; omega⟩, ⟨hst, (rfl : (KSx S2 169 q3 (.inr (1, 1, nt))).ad 170 = S2.ad 170).trans ((had2 170 (by omega)).trans hb), hscr, hbl, hbA, hL⟩, hE⟩ hI0 rfl rfl
  rcases hT T hT2.1.1 with (⟨x, e⟩ | ⟨ci, ds, e, h2⟩) | ⟨d, hd, rfl⟩
  · rw [hT2.1.2] at e
    cases e
  · rw [hT2.1.2] at e
    cases e
    exact absurd rfl (h2 _ (List.mem_of_getElem? (i := 3) rfl))
  · exact absurd (hfl d hd) hn
