-- MATHEMATICS: m31
theorem loc_zone0 : ∀ q, q < 434 → ∀ r, r < 10 → (if 3300 ≤ 10 * q + r ∧ 10 * q + r < 4300 then (36 + 7 * ((10 * q + r - 3300) / 125) ≤ (loc (10 * q + r)).1 ∧ (loc (10 * q + r)).1 ≤ 42 + 7 * ((10 * q + r - 3300) / 125)) ∨ (loc (10 * q + r)).1 = 10000 else (loc (10 * q + r)).1 ≤ 34 ∨ (loc (10 * q + r)).1 = 10000) := by decide +kernel
theorem loc_zone {k : Nat} (h : k < 4340) : if 3300 ≤ k ∧ k < 4300 then (36 + 7 * ((k - 3300) / 125) ≤ (loc k).1 ∧ (loc k).1 ≤ 42 + 7 * ((k - 3300) / 125)) ∨ (loc k).1 = 10000 else (loc k).1 ≤ 34 ∨ (loc k).1 = 10000 := by
  have := loc_zone0 (k / 10) (by omega) (k % 10) (by omega)
  rwa [Nat.div_add_mod] at this
def tkV (w : Wd) (i j : Nat) : Int32 := if j = 0 then w.1 151 i else if j = 1 then w.1 148 7 - w.1 148 8 * iN i else if j = 3 then -9 else 0
theorem take_loop {m L : Nat} (hm : m < 8) (hL : L ≤ 19) : ∀ (q i fuel : Nat) (w : Wd), i + q = L → q < fuel → w.1 148 6 = iN L → ∃ w', fX12_take_142 fuel (iN m) (iN i) w = some (iN m, w') ∧ (∀ a, ¬ a = 149 → w'.1 a = w.1 a) ∧ w'.2 = w.2 ∧ (∀ i' j, j < 6 → i ≤ i' → i' < L → w'.1 149 (3304 + 125 * m + 6 * i' + j) = tkV w i' j) ∧ (∀ k, ¬ (3304 + 125 * m + 6 * i ≤ k ∧ k < 3304 + 125 * m + 6 * L) → w'.1 149 k = w.1 149 k)
  | 0, i, fuel + 1, w, hk, _, hw => by
    obtain rfl : i = L := by omega
    unfold fX12_take_142
    rw [hw, if_neg (by rw [lt_I]; exact Int.lt_irrefl _)]
    exact ⟨w, rfl, fun _ _ => rfl, rfl, fun i' j _ h1 h2 => by omega, fun _ _ => rfl⟩
  | q + 1, i, fuel + 1, w, hk, hf, hw => by
    obtain ⟨w', e1, e2, e3, e4, e5⟩ := take_loop hm hL q (i + 1) fuel (si (si (si (si (si (si w 149 (3304 + 125 * m + 6 * i + 0) (w.1 151 i)) 149 (3304 + 125 * m + 6 * i + 1) (w.1 148 7 - w.1 148 8 * iN i)) 149 (3304 + 125 * m + 6 * i + 2) 0) 149 (3304 + 125 * m + 6 * i + 3) (-9)) 149 (3304 + 125 * m + 6 * i + 4) 0) 149 (3304 + 125 * m + 6 * i + 5) 0) (by omega) (by omega) (by rw [si_oth (by omega), si_oth (by omega), si_oth (by omega), si_oth (by omega), si_oth (by omega), si_oth (by omega)]; exact hw)
    have o : ∀ a, ¬ a = 149 → (si (si (si (si (si (si w 149 (3304 + 125 * m + 6 * i + 0) (w.1 151 i)) 149 (3304 + 125 * m + 6 * i + 1) (w.1 148 7 - w.1 148 8 * iN i)) 149 (3304 + 125 * m + 6 * i + 2) 0) 149 (3304 + 125 * m + 6 * i + 3) (-9)) 149 (3304 + 125 * m + 6 * i + 4) 0) 149 (3304 + 125 * m + 6 * i + 5) 0).1 a = w.1 a := fun a ha => by
      rw [si_oth ha, si_oth ha, si_oth ha, si_oth ha, si_oth ha, si_oth ha]
    have hp : iN i < iN L := (iN_lt (by omega) (by omega)).mpr (by omega)
    unfold fX12_take_142
    simp only [nw_eq]
    rw [hw, if_pos hp, msp_eq, Option.bind_some, inb_lt2 (by omega) (by omega), if_pos rfl, add_lit, add_lit, add_lit, add_lit, add_lit, add_lit, inb_lt2 (by omega) (by omega), if_pos rfl, inb_lt2 (by omega) (by omega), if_pos rfl, inb_lt2 (by omega) (by omega), if_pos rfl, inb_lt2 (by omega) (by omega), if_pos rfl, inb_lt2 (by omega) (by omega), if_pos rfl, inb_lt2 (by omega) (by omega), if_pos rfl, wi_iN (by omega), wi_iN (by omega), wi_iN (by omega), wi_iN (by omega), wi_iN (by omega), wi_iN (by omega), ri_iN (by omega), si_oth (b := 148) (by omega), add_lit]
    refine ⟨w', e1, fun a ha => by rw [e2 a ha, o a ha], by rw [e3]; rfl, fun i' j hj h1 h2 => ?_, fun k hk => ?_⟩
    · by_cases c : i' = i
      · subst c
        rw [e5 _ (by omega), si_1, si_1, si_1, si_1, si_1, si_1]
        unfold tkV
        simp only [true_and, Nat.add_left_cancel_iff]
        have h9 : j = 0 ∨ j = 1 ∨ j = 2 ∨ j = 3 ∨ j = 4 ∨ j = 5 := by omega
        rcases h9 with rfl | rfl | rfl | rfl | rfl | rfl <;> rfl
      · rw [e4 i' j hj (by omega) h2]
        unfold tkV
        rw [o 151 (by omega), o 148 (by omega)]
    · rw [e5 k (by omega), si_1, if_neg (by omega), si_1, if_neg (by omega), si_1, if_neg (by omega), si_1, if_neg (by omega), si_1, if_neg (by omega), si_1, if_neg (by omega)]
theorem YY.more {n m L : Nat} {wc wc' wm wm' : Wd} {v1 v2 : Int32} (h : YY n wc wm) (hm : m < 8) (hM : wm.1 149 4315 = iN m) (hL : wm.1 148 6 = iN L) (hL2 : 2 ≤ L ∧ L ≤ 19) (h1 : bt 1 9 v1) (h2 : bt 0 1 v2) (em : ∀ a, ¬ a = 149 → wm'.1 a = wm.1 a) (em2 : wm'.2 = wm.2) (ec2 : wc'.2 = wc.2) (eS : ∀ k, ¬ k = 4315 → ¬ (3300 + 125 * m ≤ k ∧ k < 3425 + 125 * m) → wm'.1 149 k = wm.1 149 k) (eM : wm'.1 149 4315 = iN (m + 1)) (s0 : wm'.1 149 (3300 + 125 * m) = iN L) (s1 : wm'.1 149 (3301 + 125 * m) = v1) (s2 : wm'.1 149 (3302 + 125 * m) = v2) (s3 : wm'.1 149 (3303 + 125 * m) = 0) (sj : ∀ i j, j < 6 → i < L → wm'.1 149 (3304 + 125 * m + 6 * i + j) = tkV wm i j) (ec : ∀ a i, ¬ (36 + 7 * m ≤ a ∧ a ≤ 42 + 7 * m) → ¬ (a = 1 ∧ i = 5) → wc'.1 a i = wc.1 a i) (eC : wc'.1 1 5 = iN (m + 1)) (x0 : wc'.1 (36 + 7 * m) 0 = v1) (x1 : wc'.1 (36 + 7 * m) 1 = v2) (x2 : wc'.1 (36 + 7 * m) 2 = 0) (x3 : wc'.1 (36 + 7 * m) 3 = iN L) (x4 : wc'.1 (36 + 7 * m) 4 = iN L) (cj : ∀ i j, j < 6 → i < L → wc'.1 (37 + 7 * m + j) i = tkV wm i j) : YY n wc' wm' := by
  have hO := h.2.2.2.2.1
  obtain ⟨o1, o2, o3, o4, o5⟩ := hO
  rw [hL] at o3 o4 o5
  rw [iN_toInt (show L < 2147483648 by omega)] at o3 o4 o5
  have hI := h.1.2.2
  have hIL : IL (wm'.1 149) := by
    refine ⟨by rw [eM]; exact ⟨by rw [iN_toInt (by omega)]; omega, by rw [iN_toInt (by omega)]; omega⟩, fun m' hm' => ?_⟩
    rw [eM, iN_toInt (by omega)] at hm'
    have e0 : wm'.1 149 4300 = wm.1 149 4300 := eS _ (by omega) (by omega)
    rw [e0]
    by_cases e : m' = m
    · subst e
      have tj : ∀ i j, j < 6 → i < L → (fun r => wm'.1 149 (3300 + 125 * m' + r)) (4 + j + 6 * i) = tkV wm i j := fun i j hj hi => by
        rw [← sj i j hj hi]
        exact congrArg _ (by omega)
      have z0 : (fun r => wm'.1 149 (3300 + 125 * m' + r)) 0 = iN L := s0
      have z1 : (fun r => wm'.1 149 (3300 + 125 * m' + r)) 1 = v1 := by rw [← s1]; exact congrArg _ (by omega)
      have z2 : (fun r => wm'.1 149 (3300 + 125 * m' + r)) 2 = v2 := by rw [← s2]; exact congrArg _ (by omega)
      have z3 : (fun r => wm'.1 149 (3300 + 125 * m' + r)) 3 = 0 := by rw [← s3]; exact congrArg _ (by omega)
      unfold ln1
      rw [z0, z1, z2, z3, iN_toInt (show L < 2147483648 by omega)]
      refine ⟨⟨⟨by rw [iN_toInt (by omega)]; omega, by rw [iN_toInt (by omega)]; omega⟩, h1, h2, ⟨by decide, by decide⟩⟩, fun i hi => ?_, fun i c d hi a1 a2 a3 a4 => ?_, fun i j hij hj => ?_⟩
      · have hi' : i < L := by omega
        obtain ⟨p1, p2, p3, p4, p5⟩ := o3 i (by omega)
        unfold lnS
        rw [show 4 + 6 * i = 4 + 0 + 6 * i by omega, tj i 0 (by omega) hi', show 5 + 6 * i = 4 + 1 + 6 * i by omega, tj i 1 (by omega) hi', show 7 + 6 * i = 4 + 3 + 6 * i by omega, tj i 3 (by omega) hi', show 8 + 6 * i = 4 + 4 + 6 * i by omega, tj i 4 (by omega) hi', show 9 + 6 * i = 4 + 5 + 6 * i by omega, tj i 5 (by omega) hi']
        have zb : bt 0 1 (0 : Int32) := ⟨by decide, by decide⟩
        refine ⟨p1, ?_, Or.inl rfl, zb, zb⟩
        show bt 0 300 (wm.1 148 7 - wm.1 148 8 * iN i)
        rw [← p3]
        exact ⟨p4, p5⟩
      · have hi' : i + 1 < L := by omega
        rw [show 4 + 6 * i = 4 + 0 + 6 * i by omega, tj i 0 (by omega) (by omega)] at a1
        rw [show 10 + 6 * i = 4 + 0 + 6 * (i + 1) by omega, tj (i + 1) 0 (by omega) hi'] at a3
        exact o4 i c d (by omega) a1 a2 a3 a4
      · rw [show 4 + 6 * i = 4 + 0 + 6 * i by omega, tj i 0 (by omega) (by omega), show 4 + 6 * j = 4 + 0 + 6 * j by omega, tj j 0 (by omega) (by omega)]
        exact o5 i j hij (by omega)
    · have hm2 : (m' : Int) < (wm.1 149 4315).toInt := by
        rw [hM, iN_toInt (by omega)]
        omega
      exact (hI.2.2.1.2 m' hm2).cong (fun r hr => eS _ (by omega) (by omega))
  have hInv : Inv (wm'.1 149) n := ⟨hI.1.cong (fun c j _ _ => eS _ (by omega) (by omega)), hI.2.1.cong (fun k _ _ => eS _ (by omega) (by omega)) (eS _ (by omega) (by omega)), hIL, hI.2.2.2.1.cong (fun c _ => eS _ (by omega) (by omega)) (fun j _ => eS _ (by omega) (by omega)), hI.2.2.2.2.cong (fun c j _ _ _ => eS _ (by omega) (by omega)) (fun k _ _ => eS _ (by omega) (by omega)) (eS _ (by omega) (by omega))⟩
  refine h.city ⟨fun k hk hv => ?_, fun m' hm' => ?_, hInv⟩ (fun a q _ => ⟨by funext i; exact ec a i (by omega) (by omega), by rw [ec2]⟩) (fun a q _ _ _ _ => em a q) (by rw [em2]) (fun j _ _ => by rw [em _ (by omega)])
  · by_cases c1 : 3300 + 125 * m ≤ k ∧ k < 3425 + 125 * m
    · by_cases c2 : k < 3304 + 125 * m
      · have h9 : k = 3300 + 125 * m + 0 ∨ k = 3300 + 125 * m + 1 ∨ k = 3300 + 125 * m + 2 ∨ k = 3300 + 125 * m + 3 := by omega
        unfold V
        rcases h9 with rfl | rfl | rfl | rfl
        · rw [loc_lnH hm (by omega), Nat.zero_add]
          exact x3.trans s0.symm
        · rw [loc_lnH hm (by omega), Nat.zero_add, show 3300 + 125 * m + 1 = 3301 + 125 * m by omega]
          exact x0.trans s1.symm
        · rw [loc_lnH hm (by omega), Nat.zero_add, show 3300 + 125 * m + 2 = 3302 + 125 * m by omega]
          exact x1.trans s2.symm
        · rw [loc_lnH hm (by omega), Nat.zero_add, show 3300 + 125 * m + 3 = 3303 + 125 * m by omega]
          exact x2.trans s3.symm
      · obtain ⟨i, j, hj, rfl⟩ : ∃ i j, j < 6 ∧ k = 3304 + 125 * m + 6 * i + j := ⟨(k - (3304 + 125 * m)) / 6, (k - (3304 + 125 * m)) % 6, by omega, by omega⟩
        have hi : i < L := by
          unfold val at hv
          rw [if_neg (by omega), if_neg (by omega), if_neg (by omega), if_pos (by omega), show (3304 + 125 * m + 6 * i + j - 3300) / 125 = m by omega, show (3304 + 125 * m + 6 * i + j - 3300) % 125 = 4 + 6 * i + j by omega, s0, iN_clamp (by omega)] at hv
          omega
        unfold V
        rw [loc_lnI hm (by omega) hj, Nat.zero_add, sj i j hj hi]
        exact cj i j hj hi
    · by_cases c3 : k = 4315
      · subst c3
        unfold V
        rw [show loc 4315 = (1, 5) from loc_sc (j := 15) (by omega), Nat.zero_add, eM]
        exact eC
      · rw [eS k c3 c1]
        have hz := loc_zone hk
        have e1 : V wc' 0 k = V wc 0 k := by
          unfold V
          rw [Nat.zero_add]
          refine ec _ _ (fun q => ?_) (fun q => ?_)
          · by_cases d : 3300 ≤ k ∧ k < 4300
            · rw [if_pos d] at hz
              omega
            · rw [if_neg d] at hz
              omega
          · refine c3 (loc_inj hk (by omega) ?_)
            rw [show loc 4315 = (1, 5) from loc_sc (j := 15) (by omega)]
            exact Prod.ext q.1 q.2
        rw [e1]
        refine h.1.1 k hk ?_
        by_cases d : 3300 ≤ k ∧ k < 4300
        · unfold val at hv ⊢
          rw [if_neg (by omega), if_neg (by omega), if_neg (by omega), if_pos (by omega), eM, iN_clamp (by omega)] at hv
          rw [if_neg (by omega), if_neg (by omega), if_neg (by omega), if_pos (by omega), hM, iN_clamp (by omega)]
          have hne : ¬ (k - 3300) / 125 = m := by omega
          rw [eS (3300 + 125 * ((k - 3300) / 125)) (by omega) (by omega)] at hv
          exact ⟨by omega, hv.2⟩
        · by_cases d0 : 1500 ≤ k ∧ k < 2500
          · obtain ⟨c, j, hc, hj, rfl⟩ : ∃ c j, c < 100 ∧ j < 10 ∧ k = 1500 + 10 * c + j := ⟨(k - 1500) / 10, (k - 1500) % 10, by omega, by omega, by omega⟩
            have := (val_hse hc hj).mp hv
            rw [eS (1500 + 10 * c) (by omega) (by omega)] at this
            exact (val_hse hc hj).mpr this
          unfold val at hv ⊢
          by_cases d1 : k < 1500
          · rw [if_pos d1]
            trivial
          · rw [if_neg d1] at hv ⊢
            by_cases d2 : k < 2500
            · omega
            · rw [if_neg d2] at hv ⊢
              by_cases d3 : k < 3300
              · rw [if_pos d3] at hv ⊢
                rw [eS 4316 (by omega) (by omega)] at hv
                exact hv
              · rw [if_neg d3] at hv ⊢
                rw [if_neg (by omega)] at hv ⊢
                exact hv
  · rw [eM, iN_toInt (by omega)] at hm'
    by_cases e : m' = m
    · subst e
      refine ⟨L, by rw [s0, iN_toInt (by omega)]; omega, by rw [Nat.zero_add]; exact x4, fun i hi => ?_, fun i h1 h2 => ?_⟩
      · rw [show 3307 + 125 * m' + 6 * i = 3304 + 125 * m' + 6 * i + 3 by omega, sj i 3 (by omega) hi]
        rfl
      · rw [s0, iN_toInt (by omega)] at h2
        omega
    · obtain ⟨u, u1, u2, u3, u4⟩ := h.1.2.1 m' (by rw [hM, iN_toInt (by omega)]; omega)
      have hl := (hI.2.2.1.2 m' (by rw [hM, iN_toInt (by omega)]; omega)).1.1.2
      have hl' : (wm.1 149 (3300 + 125 * m')).toInt ≤ 19 := hl
      refine ⟨u, by rw [eS _ (by omega) (by omega)]; exact u1, ?_, fun i hi => by rw [eS _ (by omega) (by omega)]; exact u3 i hi, fun i h1 h2 => ?_⟩
      · rw [Nat.zero_add] at u2 ⊢
        rw [ec _ _ (by omega) (by omega)]
        exact u2
      · rw [eS _ (by omega) (by omega)] at h2
        rw [eS _ (by omega) (by omega)]
        exact u4 i h1 h2
theorem flI_1 {w : Wd} {a n b i : Nat} {x : Int32} : (flI w a n x).1 b i = if b = a ∧ i < n then x else w.1 b i := by
  show (if b = a then (fun i => if i < n then x else w.1 a i) else w.1 b) i = _
  by_cases c : b = a
  · rw [if_pos c, c]
    show (if i < n then x else w.1 a i) = _
    by_cases c2 : i < n
    · rw [if_pos c2, if_pos ⟨rfl, c2⟩]
    · rw [if_neg c2, if_neg (fun q => c2 q.2)]
  · rw [if_neg c, if_neg (fun q => c q.1)]
theorem lnw {w : Wd} {m j : Nat} {x : Int32} (hm : m < 8) (hj : (OfNat.ofNat j : Nat) < 125) : wi w 149 (((3300 : Int32) + ((125 : Int32) * iN m)) + (OfNat.ofNat j : Int32)) x = si w 149 (3300 + 125 * m + (OfNat.ofNat j : Nat)) x := by
  rw [lit_mul, lit_add, add_lit, wi_iN (by omega)]
theorem lni {m j : Nat} (hm : m < 8) (hj : (OfNat.ofNat j : Nat) < 125) : inb (((3300 : Int32) + ((125 : Int32) * iN m)) + (OfNat.ofNat j : Int32)) 4340 = true := by
  rw [lit_mul, lit_add, add_lit]
  exact inb_lt2 (by omega) (by omega)
def startW (w : Wd) (v : Nat) (v1 v2 : Int32) : Wd := flI (flI (flI (flI (cpI (cpI (si (si (si (si (si w v 0 v1) v 1 v2) v 2 0) v 3 (w.1 102 0)) v 4 (w.1 102 0)) 103 0 (v + 1) 0 (mmin (Int32.ofNat 19) (Int32.ofNat 19))) 104 0 (v + 2) 0 (mmin (Int32.ofNat 19) (Int32.ofNat 19))) (v + 3) 19 0) (v + 4) 19 (-9)) (v + 5) 19 0) (v + 6) 19 0
theorem start_c {w : Wd} {v : Nat} {v1 v2 : Int32} (hv : v < 100) : fX5_start v v1 v2 w = some (startW w v v1 v2) := by
  have e1 : (si (si (si w v 0 v1) v 1 v2) v 2 0).1 102 0 = w.1 102 0 := by rw [si_oth (by omega), si_oth (by omega), si_oth (by omega)]
  have e2 : (si (si (si (si w v 0 v1) v 1 v2) v 2 0) v 3 (w.1 102 0)).1 102 0 = w.1 102 0 := by rw [si_oth (by omega), si_oth (by omega), si_oth (by omega), si_oth (by omega)]
  unfold fX5_start startW
  simp only [nw_eq]
  rw [e1, e2, copyRow_eq (by omega), Option.bind_some, copyRow_eq (by omega), Option.bind_some]
theorem start_v {w : Wd} {v a i : Nat} {v1 v2 : Int32} : (startW w v v1 v2).1 a i = if a = v + 6 ∧ i < 19 then 0 else if a = v + 5 ∧ i < 19 then 0 else if a = v + 4 ∧ i < 19 then -9 else if a = v + 3 ∧ i < 19 then 0 else if a = v + 2 ∧ i < 19 then (if 104 = v + 1 ∧ i < 19 then (si (si (si (si (si w v 0 v1) v 1 v2) v 2 0) v 3 (w.1 102 0)) v 4 (w.1 102 0)).1 103 i else (si (si (si (si (si w v 0 v1) v 1 v2) v 2 0) v 3 (w.1 102 0)) v 4 (w.1 102 0)).1 104 i) else if a = v + 1 ∧ i < 19 then (si (si (si (si (si w v 0 v1) v 1 v2) v 2 0) v 3 (w.1 102 0)) v 4 (w.1 102 0)).1 103 i else if a = v ∧ i = 4 then w.1 102 0 else if a = v ∧ i = 3 then w.1 102 0 else if a = v ∧ i = 2 then 0 else if a = v ∧ i = 1 then v2 else if a = v ∧ i = 0 then v1 else w.1 a i := by
  unfold startW
  rw [flI_1, flI_1, flI_1, flI_1, cpI_1 (by omega), cpI_1 (by omega), cpI_1 (by omega), si_1 (b := a), si_1 (b := a), si_1 (b := a), si_1 (b := a), si_1 (b := a)]
theorem take_ok {n : Nat} {wc wm : Wd} {v1 v2 : Int32} (h : YY n wc wm) : ∃ r wc' wm', fX11_take v1 v2 wc = some (r, wc') ∧ fX12_take v1 v2 wm = some (r, wm') ∧ YY n wc' wm' := by
  have h0 := h.thr (x := 0)
  obtain ⟨o1, o2, o3, -, -⟩ := h0.2.2.2.2.1
  obtain ⟨b1, b2, b3⟩ := h0.many0
  unfold fX11_take fX12_take
  simp only [nw_eq, Option.bind_some, isCell_c, isCell_m, isTape_c, isTape_m, within_eq, in_eq, Int32.toInt_toInt64, decide_eq_true_eq, Int32.reduceToInt, Int64.reduceToInt, tn128, tm128, if_true, if_false, Bool.false_eq_true, show (1 : Int32).toInt = 1 from rfl, show (9 : Int32).toInt = 9 from rfl, mg_15]
  by_cases h1 : 1 ≤ v1.toInt ∧ v1.toInt ≤ 9
  · rw [if_pos h1, if_pos h1]
    by_cases h2 : 0 ≤ v2.toInt ∧ v2.toInt ≤ 1
    · rw [if_pos h2, if_pos h2, o1]
      by_cases z : (si wm 148 0 0).1 148 6 = 0
      · rw [if_pos z, if_pos z]
        exact ⟨_, _, _, rfl, rfl, h0⟩
      · rw [if_neg z, if_neg z, h0.1.many]
        rw [h0.1.many] at b3
        obtain ⟨m, hm, em⟩ := of_range (v := (si wm 148 0 0).1 149 4315) 9 b2 (by omega)
        have hL0 : bt 2 19 ((si wm 148 0 0).1 148 6) := o2.resolve_left z
        have hL1 := hL0.1
        have hL2 := hL0.2
        obtain ⟨L, hL, eL⟩ := of_range (v := (si wm 148 0 0).1 148 6) 20 (by omega) (by omega)
        rw [eL, iN_toInt (by omega)] at hL1 hL2
        rw [em]
        by_cases k8 : m = 8
        · rw [if_neg (by rw [k8]; decide), if_pos (by rw [k8]; rfl)]
          exact ⟨_, _, _, rfl, rfl, h0⟩
        · have hm8 : m < 8 := by omega
          rw [if_pos (show iN m < 8 from (iN_lt (b := 8) (by omega) (by omega)).mpr hm8), if_neg (show ¬ iN m = 8 from fun q => k8 ((iN_inj (b := 8) (by omega) (by omega)).mp q)), inb_lt2 hm8 (by omega), if_pos rfl, iN_clamp (by omega), start_c (by omega), Option.bind_some]
          have hri : ri (si wm 148 0 0) 149 4315 = iN m := em
          have hwi : ∀ x, wi (si wm 148 0 0) 149 4315 x = si (si wm 148 0 0) 149 4315 x := fun _ => rfl
          rw [hri, hwi, if_pos (lni hm8 (by decide)), if_pos (lni hm8 (by decide)), if_pos (lni hm8 (by decide)), if_pos (lni hm8 (by decide)), lnw hm8 (by decide), lnw hm8 (by decide), lnw hm8 (by decide), lnw hm8 (by decide), si_oth (b := 148) (a := 149) (by omega), eL]
          obtain ⟨wm', f1, f2, f3, f4, f5⟩ := take_loop (m := m) (L := L) hm8 (by omega) L 0 FU (si (si (si (si (si (si wm 148 0 0) 149 4315 (iN m + 1)) 149 (3300 + 125 * m + 0) (iN L)) 149 (3300 + 125 * m + 1) v1) 149 (3300 + 125 * m + 2) v2) 149 (3300 + 125 * m + 3) 0) (by omega) (by unfold FU; omega) (by rw [si_oth (by omega), si_oth (by omega), si_oth (by omega), si_oth (by omega), si_oth (by omega)]; exact eL)
          rw [show iN 0 = 0 from rfl] at f1
          rw [f1]
          have e102 : wc.1 102 0 = iN L := o1.trans eL
          have e15 : wc.1 1 5 = iN m := h0.1.many.trans em
          have hst : ∀ a i, ¬ (36 + 7 * m ≤ a ∧ a ≤ 42 + 7 * m) → (startW wc (36 + 7 * m) v1 v2).1 a i = wc.1 a i := fun a i q => by
            rw [start_v, if_neg (by omega), if_neg (by omega), if_neg (by omega), if_neg (by omega), if_neg (by omega), if_neg (by omega), if_neg (by omega), if_neg (by omega), if_neg (by omega), if_neg (by omega), if_neg (by omega)]
          have hs5 : (startW wc (36 + 7 * m) v1 v2).1 1 5 = iN m := (hst 1 5 (by omega)).trans e15
          have hc : ∀ a i, ¬ (a = 1 ∧ i = 5) → (si (startW wc (36 + 7 * m) v1 v2) 1 5 (iN m + 1)).1 a i = (startW wc (36 + 7 * m) v1 v2).1 a i := fun a i q => by rw [si_1, if_neg q]
          have w5 : ∀ a, ¬ a = 149 → (si (si (si (si (si (si wm 148 0 0) 149 4315 (iN m + 1)) 149 (3300 + 125 * m + 0) (iN L)) 149 (3300 + 125 * m + 1) v1) 149 (3300 + 125 * m + 2) v2) 149 (3300 + 125 * m + 3) 0).1 a = (si wm 148 0 0).1 a := fun a ha => by rw [si_oth ha, si_oth ha, si_oth ha, si_oth ha, si_oth ha]
          have w6 : ∀ k, (si (si (si (si (si (si wm 148 0 0) 149 4315 (iN m + 1)) 149 (3300 + 125 * m + 0) (iN L)) 149 (3300 + 125 * m + 1) v1) 149 (3300 + 125 * m + 2) v2) 149 (3300 + 125 * m + 3) 0).1 149 k = if k = 3300 + 125 * m + 3 then 0 else if k = 3300 + 125 * m + 2 then v2 else if k = 3300 + 125 * m + 1 then v1 else if k = 3300 + 125 * m + 0 then iN L else if k = 4315 then iN m + 1 else (si wm 148 0 0).1 149 k := fun k => by
            rw [si_1, si_1, si_1, si_1, si_1]
            simp only [true_and]
          rw [hs5]
          have hr : (si (startW wc (36 + 7 * m) v1 v2) 1 5 (iN m + 1)).1 1 5 - 1 = iN m := by
            rw [si_1, if_pos ⟨rfl, rfl⟩, add_lit, iN_s1]
          rw [hr]
          refine ⟨_, _, _, rfl, rfl, h0.more (m := m) (L := L) (v1 := v1) (v2 := v2) hm8 em eL ⟨by omega, by omega⟩ h1 h2 (fun a ha => by rw [f2 a ha, w5 a ha]) (by rw [f3]; rfl) rfl (fun k k1 k2 => ?_) ?_ ?_ ?_ ?_ ?_ (fun i j hj hi => ?_) (fun a i q1 q2 => ?_) ?_ ?_ ?_ ?_ ?_ ?_ (fun i j hj hi => ?_)⟩
          · rw [f5 k (by omega), w6, if_neg (by omega), if_neg (by omega), if_neg (by omega), if_neg (by omega), if_neg k1]
          · rw [f5 _ (by omega), w6, if_neg (by omega), if_neg (by omega), if_neg (by omega), if_neg (by omega), if_pos rfl, add_lit]
          · rw [f5 _ (by omega), w6, if_neg (by omega), if_neg (by omega), if_neg (by omega), if_pos (by omega)]
          · rw [f5 _ (by omega), w6, if_neg (by omega), if_neg (by omega), if_pos (by omega)]
          · rw [f5 _ (by omega), w6, if_neg (by omega), if_pos (by omega)]
          · rw [f5 _ (by omega), w6, if_pos (by omega)]
          · rw [f4 i j hj (Nat.zero_le _) hi]
            unfold tkV
            rw [w5 151 (by omega), w5 148 (by omega)]
          · rw [hc a i q2, hst a i q1]
          · rw [si_1, if_pos ⟨rfl, rfl⟩, add_lit]
          · rw [hc _ _ (by omega), start_v, if_neg (by omega), if_neg (by omega), if_neg (by omega), if_neg (by omega), if_neg (by omega), if_neg (by omega), if_neg (by omega), if_neg (by omega), if_neg (by omega), if_neg (by omega), if_pos ⟨rfl, rfl⟩]
          · rw [hc _ _ (by omega), start_v, if_neg (by omega), if_neg (by omega), if_neg (by omega), if_neg (by omega), if_neg (by omega), if_neg (by omega), if_neg (by omega), if_neg (by omega), if_neg (by omega), if_pos ⟨rfl, rfl⟩]
          · rw [hc _ _ (by omega), start_v, if_neg (by omega), if_neg (by omega), if_neg (by omega), if_neg (by omega), if_neg (by omega), if_neg (by omega), if_neg (by omega), if_neg (by omega), if_pos ⟨rfl, rfl⟩]
          · rw [hc _ _ (by omega), start_v, if_neg (by omega), if_neg (by omega), if_neg (by omega), if_neg (by omega), if_neg (by omega), if_neg (by omega), if_neg (by omega), if_pos ⟨rfl, rfl⟩, e102]
          · rw [hc _ _ (by omega), start_v, if_neg (by omega), if_neg (by omega), if_neg (by omega), if_neg (by omega), if_neg (by omega), if_neg (by omega), if_pos ⟨rfl, rfl⟩, e102]
          · have hi19 : i < 19 := by omega
            obtain ⟨-, p2, p3, -⟩ := o3 i (by rw [eL, iN_toInt (by omega)]; omega)
            have q103 : ∀ (b : Nat) (hb : b = 103 ∨ b = 104), (si (si (si (si (si wc (36 + 7 * m) 0 v1) (36 + 7 * m) 1 v2) (36 + 7 * m) 2 0) (36 + 7 * m) 3 (wc.1 102 0)) (36 + 7 * m) 4 (wc.1 102 0)).1 b = wc.1 b := fun b hb => by
              rw [si_oth (by omega), si_oth (by omega), si_oth (by omega), si_oth (by omega), si_oth (by omega)]
            rw [hc _ _ (by omega), start_v]
            unfold tkV
            have h9 : j = 0 ∨ j = 1 ∨ j = 2 ∨ j = 3 ∨ j = 4 ∨ j = 5 := by omega
            rcases h9 with rfl | rfl | rfl | rfl | rfl | rfl
            · rw [if_neg (by omega), if_neg (by omega), if_neg (by omega), if_neg (by omega), if_neg (by omega), if_pos ⟨by omega, hi19⟩, q103 _ (Or.inl rfl), p2, if_pos rfl]
            · rw [if_neg (by omega), if_neg (by omega), if_neg (by omega), if_neg (by omega), if_pos ⟨by omega, hi19⟩, if_neg (by omega), q103 _ (Or.inr rfl), p3, if_neg (by omega), if_pos rfl]
            · rw [if_neg (by omega), if_neg (by omega), if_neg (by omega), if_pos ⟨by omega, hi19⟩, if_neg (by omega), if_neg (by omega), if_neg (by omega)]
            · rw [if_neg (by omega), if_neg (by omega), if_pos ⟨by omega, hi19⟩, if_neg (by omega), if_neg (by omega), if_pos rfl]
            · rw [if_neg (by omega), if_pos ⟨by omega, hi19⟩, if_neg (by omega), if_neg (by omega), if_neg (by omega)]
            · rw [if_pos ⟨by omega, hi19⟩, if_neg (by omega), if_neg (by omega), if_neg (by omega)]
    · rw [if_neg h2, if_neg h2]
      exact ⟨_, _, _, rfl, rfl, h0⟩
  · rw [if_neg h1, if_neg h1]
    exact ⟨_, _, _, rfl, rfl, h0⟩
-- MATHEMATICS: m43
def maskL (b : Nat → Bool) : Nat → Int32
  | 0 => 0
  | k + 1 => if b k = true then maskL b k ||| ((1 : Int32) <<< (iN k &&& 31)) else maskL b k
def mask8 (b0 b1 b2 b3 b4 b5 b6 b7 : Bool) (k : Nat) : Int32 := maskL (fun i => match i with | 0 => b0 | 1 => b1 | 2 => b2 | 3 => b3 | 4 => b4 | 5 => b5 | 6 => b6 | _ => b7) k
theorem maskL_cong {b b' : Nat → Bool} : ∀ k, (∀ i, i < k → b i = b' i) → maskL b k = maskL b' k
  | 0, _ => rfl
  | k + 1, h => by
    show (if b k = true then maskL b k ||| _ else maskL b k) = (if b' k = true then maskL b' k ||| _ else maskL b' k)
    rw [maskL_cong k (fun i hi => h i (by omega)), h k (by omega)]
theorem mask8_bit : ∀ b0 b1 b2 b3 b4 b5 b6 b7 : Bool, ∀ k, k < 9 → ∀ m, m < 8 → m < k → (decide (((mask8 b0 b1 b2 b3 b4 b5 b6 b7 k) >>> (iN m &&& 31)) &&& 1 = 1) = (match m with | 0 => b0 | 1 => b1 | 2 => b2 | 3 => b3 | 4 => b4 | 5 => b5 | 6 => b6 | _ => b7)) := by decide +kernel
theorem mask_bit {b : Nat → Bool} {k m : Nat} (hk : k ≤ 8) (hm : m < k) : ((maskL b k >>> (iN m &&& 31)) &&& 1 = 1) ↔ b m = true := by
  have h := mask8_bit (b 0) (b 1) (b 2) (b 3) (b 4) (b 5) (b 6) (b 7) k (by omega) m (by omega) hm
  have e : mask8 (b 0) (b 1) (b 2) (b 3) (b 4) (b 5) (b 6) (b 7) k = maskL b k := maskL_cong k (fun i hi => by
    have h9 : i = 0 ∨ i = 1 ∨ i = 2 ∨ i = 3 ∨ i = 4 ∨ i = 5 ∨ i = 6 ∨ i = 7 := by omega
    rcases h9 with rfl | rfl | rfl | rfl | rfl | rfl | rfl | rfl <;> rfl)
  rw [e] at h
  have h9 : m = 0 ∨ m = 1 ∨ m = 2 ∨ m = 3 ∨ m = 4 ∨ m = 5 ∨ m = 6 ∨ m = 7 := by omega
  rcases h9 with rfl | rfl | rfl | rfl | rfl | rfl | rfl | rfl
  · rw [show b 0 = _ from h.symm, decide_eq_true_iff]
  · rw [show b 1 = _ from h.symm, decide_eq_true_iff]
  · rw [show b 2 = _ from h.symm, decide_eq_true_iff]
  · rw [show b 3 = _ from h.symm, decide_eq_true_iff]
  · rw [show b 4 = _ from h.symm, decide_eq_true_iff]
  · rw [show b 5 = _ from h.symm, decide_eq_true_iff]
  · rw [show b 6 = _ from h.symm, decide_eq_true_iff]
  · rw [show b 7 = _ from h.symm, decide_eq_true_iff]
def carB (wm : Wd) (m : Nat) : Bool := (fX12_isCarrying (iN m) wm).getD false
theorem carB_eq {n m : Nat} {wc wm : Wd} (h : YY n wc wm) (hm : (m : Int) < (wm.1 149 4315).toInt) : fX0_lineCarries (36 + 7 * m) wc = some (carB wm m) ∧ fX12_isCarrying (iN m) wm = some (carB wm m) := by
  obtain ⟨b, e1, e2⟩ := carrying_eq h hm
  unfold carB
  rw [e1, e2]
  exact ⟨rfl, rfl⟩
theorem YY.notes {n : Nat} {wc wm wm' : Wd} (h : YY n wc wm) (e1 : ∀ a, ¬ (152 ≤ a ∧ a ≤ 158) → ¬ a = 148 → wm'.1 a = wm.1 a) (e2 : wm'.2 = wm.2) (e3 : ∀ j, 2 ≤ j → j ≤ 8 ∨ j = 21 → wm'.1 148 j = wm.1 148 j) : YY n wc wm' := by
  have q : wm'.1 149 = wm.1 149 := e1 149 (by omega) (by omega)
  have hc : YC wc 0 (wm'.1 149) n := q.symm ▸ h.1
  exact h.city hc (fun _ _ _ => ⟨rfl, rfl⟩) (fun a h1 h2 h3 _ _ => e1 a h2 h3) (by rw [e2]) e3
theorem look_loop {n : Nat} {wc : Wd} {cb : Nat → Bool} : ∀ (q m fuel : Nat) (w : Wd), YY n wc w → ((m + q : Nat) : Int) = (w.1 149 4315).toInt → q < fuel → (∀ i : Nat, (i : Int) < (w.1 149 4315).toInt → fX0_lineCarries (36 + 7 * i) wc = some (cb i)) → ∃ w', fX12_lookAtLines_2 fuel (iN m) w = some w' ∧ (∀ a, ¬ a = 153 → w'.1 a = w.1 a) ∧ w'.2 = w.2 ∧ (∀ i, (i < m → w'.1 153 i = w.1 153 i) ∧ (m ≤ i → (i : Int) < (w.1 149 4315).toInt → w'.1 153 i = if cb i = true then 1 else 0)) := by
  intro q
  induction q with
  | zero =>
    intro m fuel w h hk hf hcb
    obtain ⟨fuel, rfl⟩ : ∃ f, fuel = f + 1 := ⟨fuel - 1, by omega⟩
    have h8 := h.1.2.2.2.2.1.1.2
    have hn : ¬ iN m < w.1 149 4315 := by
      rw [lt_I, iN_toInt (by omega)]
      omega
    unfold fX12_lookAtLines_2
    rw [mg_15, Option.bind_some, if_neg hn]
    exact ⟨w, rfl, fun _ _ => rfl, rfl, fun i => ⟨fun _ => rfl, fun a b => by omega⟩⟩
  | succ q ih =>
    intro m fuel w h hk hf hcb
    obtain ⟨fuel, rfl⟩ : ∃ f, fuel = f + 1 := ⟨fuel - 1, by omega⟩
    have h8 := h.1.2.2.2.2.1.1.2
    have hm : (m : Int) < (w.1 149 4315).toInt := by omega
    have hp : iN m < w.1 149 4315 := by
      rw [lt_I, iN_toInt (by omega)]
      omega
    obtain ⟨b, c1, c2⟩ := carrying_eq h hm
    have hb : b = cb m := Option.some.inj (c1.symm.trans (hcb m hm))
    have o149 : (si w 153 m (vp_nar .boolean (bI b))).1 149 = w.1 149 := si_oth (by omega)
    obtain ⟨w', e1, e2, e3, e4⟩ := ih (m + 1) fuel (si w 153 m (vp_nar .boolean (bI b))) (h.notes (fun a h1 _ => si_oth (by omega)) rfl (fun j _ _ => by rw [si_oth (by omega)])) (by rw [o149]; omega) (by omega) (by rw [o149]; exact hcb)
    rw [o149] at e4
    unfold fX12_lookAtLines_2
    rw [mg_15, Option.bind_some, if_pos hp, c2, Option.bind_some, inb_lt2 (by omega) (by omega), if_pos rfl, nw_eq, wi_iN (by omega), add_lit]
    refine ⟨w', e1, fun a ha => by rw [e2 a ha, si_oth ha], by rw [e3]; rfl, fun i => ⟨fun hi => ?_, fun hi hi2 => ?_⟩⟩
    · rw [(e4 i).1 (by omega), si_1, if_neg (by omega)]
    · by_cases e : i = m
      · subst e
        rw [(e4 i).1 (by omega), si_1, if_pos ⟨rfl, rfl⟩, hb]
        cases cb i <;> rfl
      · exact (e4 i).2 (by omega) hi2
theorem mask_loop {n cnt : Nat} {wc wm : Wd} (h : YY n wc wm) (hc : wm.1 149 4315 = iN cnt) (h8 : cnt ≤ 8) : ∀ (q m fuel : Nat), m + q = cnt → q < fuel → fX0_carryingLines_4 wc fuel (maskL (carB wm) m) (iN m) = some (maskL (carB wm) cnt)
  | 0, m, fuel + 1, hk, _ => by
    obtain rfl : m = cnt := by omega
    unfold fX0_carryingLines_4
    rw [h.1.many, hc, if_neg (by rw [lt_I]; exact Int.lt_irrefl _)]
  | q + 1, m, fuel + 1, hk, hf => by
    have ih := mask_loop h hc h8 q (m + 1) fuel (by omega) (by omega)
    have hm : (m : Int) < (wm.1 149 4315).toInt := by
      rw [hc, iN_toInt (by omega)]
      omega
    have hs : maskL (carB wm) (m + 1) = if carB wm m = true then maskL (carB wm) m ||| ((1 : Int32) <<< (iN m &&& 31)) else maskL (carB wm) m := rfl
    unfold fX0_carryingLines_4
    rw [h.1.many, hc, if_pos ((iN_lt (by omega) (by omega)).mpr (by omega)), inb_lt2 (by omega) (by omega), if_pos rfl, iN_clamp (by omega), (carB_eq h hm).1, Option.bind_some, add_lit]
    by_cases c : carB wm m = true
    · rw [hs, if_pos c] at ih
      rw [if_pos c]
      exact ih
    · rw [hs, if_neg c] at ih
      rw [if_neg c]
      exact ih
-- MATHEMATICS: m44
def placeF (S : Nat → Int32) (m c len : Nat) : Nat → Option Nat
  | 0 => none
  | t + 1 => if S (3304 + 125 * m + 6 * (len - (t + 1))) = iN c then some (len - (t + 1)) else placeF S m c len t
def lenS (S : Nat → Int32) (m : Nat) : Nat := (S (3300 + 125 * m)).toNatClampNeg
def firstL (S : Nat → Int32) (cb : Nat → Bool) (c cnt : Nat) : Nat → Option (Nat × Nat)
  | 0 => none
  | t + 1 => match placeF S (cnt - (t + 1)) c (lenS S (cnt - (t + 1))) (lenS S (cnt - (t + 1))) with
    | none => firstL S cb c cnt t
    | some i => if cb (cnt - (t + 1)) = true then some (cnt - (t + 1), i) else firstL S cb c cnt t
theorem lenS_eq {n m : Nat} {w : Wd} {S : Nat → Int32} (h : YC w 0 S n) (hm : (m : Int) < (S 4315).toInt) : S (3300 + 125 * m) = iN (lenS S m) ∧ 2 ≤ lenS S m ∧ lenS S m ≤ 19 := by
  obtain ⟨l1, l2⟩ := h.lenB hm
  have := cl_nat (x := S (3300 + 125 * m)) (by omega)
  unfold lenS
  refine ⟨?_, by omega, by omega⟩
  rw [eq_I, iN_toInt (by omega)]
  omega
theorem place_m {n m c : Nat} {wc w : Wd} (h : YY n wc w) (hm : (m : Int) < (w.1 149 4315).toInt) : ∀ (t i fuel : Nat), i + t = lenS (w.1 149) m → t < fuel → fX12_placeOn_2 w fuel (iN m) (iN c) (iN i) = some (enc1 (placeF (w.1 149) m c (lenS (w.1 149) m) t)) := by
  have hm8 := h.1.2.2.2.2.1.lt hm
  obtain ⟨e, -, l2⟩ := lenS_eq h.1 hm
  intro t
  induction t with
  | zero =>
    intro i fuel hi hf
    obtain ⟨fuel, rfl⟩ : ∃ f, fuel = f + 1 := ⟨fuel - 1, by omega⟩
    obtain rfl : i = lenS (w.1 149) m := by omega
    unfold fX12_placeOn_2
    rw [ml_0 hm8, Option.bind_some, e, if_neg (by rw [lt_I]; exact Int.lt_irrefl _)]
    rfl
  | succ t ih =>
    intro i fuel hi hf
    obtain ⟨fuel, rfl⟩ : ∃ f, fuel = f + 1 := ⟨fuel - 1, by omega⟩
    have hp : iN i < w.1 149 (3300 + 125 * m) := by
      rw [e]
      exact (iN_lt (by omega) (by omega)).mpr (by omega)
    have hi2 : lenS (w.1 149) m - (t + 1) = i := by omega
    have hs : placeF (w.1 149) m c (lenS (w.1 149) m) (t + 1) = if w.1 149 (3304 + 125 * m + 6 * i) = iN c then some i else placeF (w.1 149) m c (lenS (w.1 149) m) t := by
      show (if w.1 149 (3304 + 125 * m + 6 * (lenS (w.1 149) m - (t + 1))) = iN c then some (lenS (w.1 149) m - (t + 1)) else placeF (w.1 149) m c (lenS (w.1 149) m) t) = _
      rw [hi2]
    unfold fX12_placeOn_2
    rw [ml_0 hm8, Option.bind_some, if_pos hp, msp_eq, Option.bind_some, add_lit, inb_lt2 (by omega) (by omega), if_pos rfl, ri_iN (by omega), show 3304 + 125 * m + 6 * i + 0 = 3304 + 125 * m + 6 * i from rfl, add_lit, hs]
    by_cases q : w.1 149 (3304 + 125 * m + 6 * i) = iN c
    · rw [if_pos q, if_pos q]
      rfl
    · rw [if_neg q, if_neg q]
      exact ih (i + 1) fuel (by omega) (by omega)
theorem placeF_lt {S : Nat → Int32} {m c len : Nat} : ∀ {t i : Nat}, t ≤ len → placeF S m c len t = some i → i < len ∧ S (3304 + 125 * m + 6 * i) = iN c
  | 0, i, _, h => by cases h
  | t + 1, i, ht, h => by
    unfold placeF at h
    split at h
    · rename_i q
      cases h
      exact ⟨by omega, q⟩
    · exact placeF_lt (by omega) h
theorem firstL_lt {S : Nat → Int32} {cb : Nat → Bool} {c cnt : Nat} : ∀ {t m i : Nat}, t ≤ cnt → firstL S cb c cnt t = some (m, i) → m < cnt ∧ i < lenS S m ∧ S (3304 + 125 * m + 6 * i) = iN c ∧ cb m = true
  | 0, m, i, _, h => by cases h
  | t + 1, m, i, ht, h => by
    unfold firstL at h
    split at h
    · exact firstL_lt (by omega) h
    · rename_i j q
      split at h
      · rename_i q2
        cases h
        obtain ⟨a, b⟩ := placeF_lt (Nat.le_refl _) q
        exact ⟨by omega, a, b, q2⟩
      · exact firstL_lt (by omega) h
theorem carrying_m {n c cnt : Nat} {wc w : Wd} {cb : Nat → Bool} (h : YY n wc w) (hc : w.1 149 4315 = iN cnt) (h8 : cnt ≤ 8) (h153 : ∀ i, i < cnt → w.1 153 i = if cb i = true then 1 else 0) : ∀ (t k fuel : Nat), k + t = cnt → t < fuel → fX12_carrying_2 fuel (iN c) (iN k) w = some (match firstL (w.1 149) cb c cnt t with
    | none => (-1, w)
    | some (m, i) => (iN m, si w 148 10 (iN i))) := by
  intro t
  induction t with
  | zero =>
    intro k fuel hk hf
    obtain ⟨fuel, rfl⟩ : ∃ f, fuel = f + 1 := ⟨fuel - 1, by omega⟩
    obtain rfl : k = cnt := by omega
    unfold fX12_carrying_2
    rw [mg_15, Option.bind_some, hc, if_neg (by rw [lt_I]; exact Int.lt_irrefl _)]
    rfl
  | succ t ih =>
    intro k fuel hk hf
    obtain ⟨fuel, rfl⟩ : ∃ f, fuel = f + 1 := ⟨fuel - 1, by omega⟩
    have ih := ih (k + 1) fuel (by omega) (by omega)
    have hm : (k : Int) < (w.1 149 4315).toInt := by
      rw [hc, iN_toInt (by omega)]
      omega
    obtain ⟨-, l1, l2⟩ := lenS_eq h.1 hm
    have pm : fX12_placeOn (iN k) (iN c) w = some (enc1 (placeF (w.1 149) k c (lenS (w.1 149) k) (lenS (w.1 149) k))) := by
      have := place_m (c := c) h hm (lenS (w.1 149) k) 0 FU (by omega) (by unfold FU; omega)
      rw [show iN 0 = 0 from rfl] at this
      exact this
    have hk2 : cnt - (t + 1) = k := by omega
    have hs : firstL (w.1 149) cb c cnt (t + 1) = match placeF (w.1 149) k c (lenS (w.1 149) k) (lenS (w.1 149) k) with
        | none => firstL (w.1 149) cb c cnt t
        | some i => if cb k = true then some (k, i) else firstL (w.1 149) cb c cnt t := by
      rw [firstL, hk2]
    unfold fX12_carrying_2
    rw [mg_15, Option.bind_some, hc, if_pos ((iN_lt (by omega) (by omega)).mpr (by omega)), pm, Option.bind_some, add_lit, hs]
    cases hp : placeF (w.1 149) k c (lenS (w.1 149) k) (lenS (w.1 149) k) with
    | none =>
      rw [if_pos (show enc1 none = -1 from rfl)]
      exact ih
    | some i =>
      obtain ⟨i1, -⟩ := placeF_lt (Nat.le_refl _) hp
      have hne : ¬ enc1 (some i) = -1 := fun q => iN_nneg (a := i) (by omega) (by rw [show iN i = -1 from q]; decide)
      rw [if_neg hne, inb_lt2 (by omega) (by omega), if_pos rfl, ri_iN (by omega), h153 k (by omega)]
      by_cases b : cb k = true
      · simp only [b, if_true]
        rfl
      · simp only [b]
        exact ih
-- MATHEMATICS: m45
def lineV (S : Nat → Int32) (m i c : Nat) : Int32 × Int32 × Int32 :=
  (if i + 1 < lenS S m then S (3304 + 125 * m + 6 * (i + 1)) else S (15 * c + 6), if i + 1 < lenS S m then 30 * S (3301 + 125 * m) * S (3301 + 125 * m) else 20 * S (15 * c + 8) * S (15 * c + 8), 50 + 40 * S (15 * c + 8) + 60 * S (3301 + 125 * m))
def LdV (S : Nat → Int32) (o : Option (Nat × Nat)) (c : Nat) : Int32 × Int32 × Int32 := match o with
  | none => (S (15 * c + 6), 20 * S (15 * c + 8) * S (15 * c + 8), 50 + 40 * S (15 * c + 8))
  | some (m, i) => lineV S m i c
def St (w : Wd) (f : Nat → Int32 × Int32 × Int32) : Prop := ∀ c, c < 100 → w.1 93 c = (f c).1 ∧ w.1 94 c = (f c).2.1 ∧ w.1 95 c = (f c).2.2
theorem St.put {w : Wd} {f : Nat → Int32 × Int32 × Int32} {c0 : Nat} {x y z : Int32} (h : St w f) : St (si (si (si w 93 c0 x) 94 c0 y) 95 c0 z) (fun c => if c = c0 then (x, y, z) else f c) := by
  intro c hc
  obtain ⟨h1, h2, h3⟩ := h c hc
  refine ⟨?_, ?_, ?_⟩
  · rw [si_1, if_neg (by omega), si_1, if_neg (by omega), si_1]
    by_cases e : c = c0
    · rw [if_pos ⟨rfl, e⟩]
      simp [e]
    · rw [if_neg (fun q => e q.2)]
      simp [e, h1]
  · rw [si_1, if_neg (by omega), si_1]
    by_cases e : c = c0
    · rw [if_pos ⟨rfl, e⟩]
      simp [e]
    · rw [if_neg (fun q => e q.2), si_1, if_neg (by omega)]
      simp [e, h2]
  · rw [si_1]
    by_cases e : c = c0
    · rw [if_pos ⟨rfl, e⟩]
      simp [e]
    · rw [if_neg (fun q => e q.2), si_1, if_neg (by omega), si_1, if_neg (by omega)]
      simp [e, h3]
theorem leadLine_step {n m i c : Nat} {w : Wd} {S : Nat → Int32} {k : Nat → Int32 → Wd → Option Wd} (h : YC w 0 S n) (hm : (m : Int) < (S 4315).toInt) (hm8 : m < 8) (hi : i < lenS S m) (hl : lenS S m ≤ 19) (hc : c < 100) (e : w.1 (37 + 7 * m) i = iN c) (hw : w.1 (36 + 7 * m) 0 = S (3301 + 125 * m)) (hn : i + 1 < lenS S m → w.1 (37 + 7 * m) (i + 1) = S (3304 + 125 * m + 6 * (i + 1))) (h9 : w.1 9 c = S (15 * c + 6)) (v6 : Int32) (hv6 : (i + 1 < lenS S m → v6 = 0) ∧ (¬ i + 1 < lenS S m → v6 = 1)) : fX1_leadLine_56 k (36 + 7 * m) (iN i) (iN c) (S (15 * c + 8)) v6 w = k (36 + 7 * m) (iN (i + 1)) (si (si (si w 93 c (lineV S m i c).1) 94 c (lineV S m i c).2.1) 95 c (lineV S m i c).2.2) := by
  unfold fX1_leadLine_56 lineV
  have o : ∀ x, (si w 93 c x).1 (36 + 7 * m) 0 = S (3301 + 125 * m) := fun x => by rw [si_oth (by omega), hw]
  have o2 : ∀ x y, (si (si w 93 c x) 94 c y).1 (36 + 7 * m) 0 = S (3301 + 125 * m) := fun x y => by rw [si_oth (by omega), si_oth (by omega), hw]
  by_cases q : i + 1 < lenS S m
  · rw [hv6.1 q, if_pos rfl, add_lit, inb_lt2 (by omega) (by omega), if_pos rfl, show 36 + 7 * m + 1 = 37 + 7 * m by omega, ri_iN (by omega), hn q]
    unfold fX1_leadLine_87 fX1_leadLine_122
    simp only [nw_eq]
    rw [inb_lt2 hc (by omega), if_pos rfl, if_pos rfl, if_pos rfl, if_pos rfl, wi_iN (by omega), wi_iN (by omega), wi_iN (by omega), o, o2, if_pos q, if_pos q, add_lit, if_pos trivial]
  · rw [hv6.2 q, if_neg (by decide), inb_lt2 hc (by omega), if_pos rfl, ri_iN (by omega), h9]
    unfold fX1_leadLine_87 fX1_leadLine_122
    simp only [nw_eq]
    rw [inb_lt2 hc (by omega), if_pos rfl, if_neg (by decide), if_pos rfl, if_pos rfl, wi_iN (by omega), wi_iN (by omega), wi_iN (by omega), o2, if_neg q, if_neg q, add_lit]
theorem placeF_ge {S : Nat → Int32} {m c len i : Nat} : ∀ {t j : Nat}, i + 1 + t ≤ len → placeF S m c len t = some j → i < j
  | 0, j, _, h => by cases h
  | t + 1, j, ht, h => by
    unfold placeF at h
    split at h
    · cases h
      omega
    · exact placeF_ge (by omega) h
theorem YC.line_distinct {w : Wd} {n m i j : Nat} {S : Nat → Int32} (h : YC w 0 S n) (hm : (m : Int) < (S 4315).toInt) (hij : i < j) (hj : j < lenS S m) : ¬ S (3304 + 125 * m + 6 * i) = S (3304 + 125 * m + 6 * j) := by
  obtain ⟨e, -, -⟩ := lenS_eq h hm
  have hd := (h.2.2.2.2.1.2 m hm).2.2.2 i j hij (by
    show (j : Int) < (S (3300 + 125 * m)).toInt
    have l2 := (lenS_eq h hm).2.2
    rw [e, iN_toInt (by omega)]
    omega)
  rw [show 3304 + 125 * m + 6 * i = 3300 + 125 * m + (4 + 6 * i) by omega, show 3304 + 125 * m + 6 * j = 3300 + 125 * m + (4 + 6 * j) by omega]
  exact hd
theorem leadLine_loop {n m : Nat} {S : Nat → Int32} (hm : (m : Int) < (S 4315).toInt) (hm8 : m < 8) : ∀ (q i fuel : Nat) (w : Wd) (f : Nat → Int32 × Int32 × Int32), i + q = lenS S m → q < fuel → YC w 0 S n → St w f → ∃ w', fX1_leadLine_2 fuel (36 + 7 * m) (iN i) w = some w' ∧ (∀ a, ¬ (93 ≤ a ∧ a ≤ 95) → w'.1 a = w.1 a) ∧ w'.2 = w.2 ∧ St w' (fun c => match placeF S m c (lenS S m) q with
    | none => f c
    | some j => lineV S m j c) := by
  intro q
  induction q with
  | zero =>
    intro i fuel w f hi hf h hs
    obtain ⟨fuel, rfl⟩ : ∃ f, fuel = f + 1 := ⟨fuel - 1, by omega⟩
    obtain ⟨e, l1, l2⟩ := lenS_eq h hm
    obtain rfl : i = lenS S m := by omega
    unfold fX1_leadLine_2
    rw [h.len hm, e, if_neg (by rw [lt_I]; exact Int.lt_irrefl _)]
    exact ⟨w, rfl, fun _ _ => rfl, rfl, hs⟩
  | succ q ih =>
    intro i fuel w f hi hf h hs
    obtain ⟨fuel, rfl⟩ : ∃ f, fuel = f + 1 := ⟨fuel - 1, by omega⟩
    obtain ⟨e, l1, l2⟩ := lenS_eq h hm
    have hi2 : (i : Int) < (S (3300 + 125 * m)).toInt := by
      rw [e, iN_toInt (by omega)]
      omega
    obtain ⟨c, hc, ec⟩ := h.lcell hm hi2
    have r0 : w.1 (37 + 7 * m) i = iN c := (h.lnI hm hi2 (j := 0) (by omega)).trans ec
    have hp : iN i < iN (lenS S m) := (iN_lt (by omega) (by omega)).mpr (by omega)
    have h19 : iN i < 19 := (iN_lt (b := 19) (by omega) (by omega)).mpr (by omega)
    have hn : i + 1 < lenS S m → w.1 (37 + 7 * m) (i + 1) = S (3304 + 125 * m + 6 * (i + 1)) := fun q => h.lnI hm (by rw [e, iN_toInt (by omega)]; omega) (j := 0) (by omega)
    have h9 : w.1 9 c = S (15 * c + 6) := h.row (j := 6) hc (by omega)
    have h11 : w.1 11 c = S (15 * c + 8) := h.row (j := 8) hc (by omega)
    have st := fun v6 hv6 => leadLine_step (k := fX1_leadLine_2 fuel) h hm hm8 (show i < lenS S m by omega) l2 hc r0 (h.width hm) hn h9 v6 hv6
    obtain ⟨w', e1, e2, e3, e4⟩ := ih (i + 1) fuel (si (si (si w 93 c (lineV S m i c).1) 94 c (lineV S m i c).2.1) 95 c (lineV S m i c).2.2) (fun d => if d = c then lineV S m i c else f d) (by omega) (by omega) (h.cong (fun a ha => by rw [si_oth (by omega), si_oth (by omega), si_oth (by omega)])) hs.put
    have hgo : fX1_leadLine_2 (fuel + 1) (36 + 7 * m) (iN i) w = some w' := by
      unfold fX1_leadLine_2
      rw [h.len hm, e, if_pos hp, if_pos h19, inb_lt2 (by omega) (by omega), if_pos rfl, show 36 + 7 * m + 1 = 37 + 7 * m by omega, ri_iN (by omega), r0, inb_lt2 hc (by omega), if_pos rfl, ri_iN (by omega), h11, add_lit]
      by_cases q2 : i + 1 < lenS S m
      · rw [if_pos ((iN_lt (by omega) (by omega)).mpr q2), if_pos (show iN (i + 1) < 19 from (iN_lt (b := 19) (by omega) (by omega)).mpr (by omega)), st 0 ⟨fun _ => rfl, fun q => absurd q2 q⟩]
        exact e1
      · rw [if_neg (fun q => q2 ((iN_lt (by omega) (by omega)).mp q)), st 1 ⟨fun q => absurd q q2, fun _ => rfl⟩]
        exact e1
    refine ⟨w', hgo, fun a ha => by rw [e2 a ha, si_oth (by omega), si_oth (by omega), si_oth (by omega)], by rw [e3]; rfl, fun d hd => ?_⟩
    have hd4 := e4 d hd
    have hi3 : lenS S m - (q + 1) = i := by omega
    have hpl : placeF S m d (lenS S m) (q + 1) = if S (3304 + 125 * m + 6 * i) = iN d then some i else placeF S m d (lenS S m) q := by
      rw [placeF, hi3]
    dsimp only at hd4 ⊢
    rw [hpl]
    by_cases ed : d = c
    · subst ed
      rw [if_pos ec]
      have hnone : placeF S m d (lenS S m) q = none := by
        cases hq : placeF S m d (lenS S m) q with
        | none => rfl
        | some j =>
          exfalso
          have hj : i < j := placeF_ge (by omega) hq
          obtain ⟨j1, j2⟩ := placeF_lt (by omega) hq
          exact h.line_distinct hm hj j1 (ec.trans j2.symm)
      rw [hnone] at hd4
      simp only [if_true] at hd4
      exact hd4
    · rw [if_neg (fun q => ed ((iN_inj (by omega) (by omega)).mp (q.symm.trans ec)))]
      rw [if_neg ed] at hd4
      exact hd4
-- MATHEMATICS: m46
theorem lead82 {n cnt : Nat} {S : Nat → Int32} {cb : Nat → Bool} (hcnt : S 4315 = iN cnt) (h8 : cnt ≤ 8) : ∀ (r fuel : Nat) (w : Wd), r ≤ cnt → r < fuel → YC w 0 S n → St w (fun c => LdV S (firstL S cb c cnt (cnt - r)) c) → ∃ w', fX1_lead_82 fuel (maskL cb cnt) (iN r - 1) w = some w' ∧ (∀ a, ¬ (93 ≤ a ∧ a ≤ 95) → w'.1 a = w.1 a) ∧ w'.2 = w.2 ∧ St w' (fun c => LdV S (firstL S cb c cnt cnt) c) := by
  intro r
  induction r with
  | zero =>
    intro fuel w hr hf h hs
    obtain ⟨fuel, rfl⟩ : ∃ f, fuel = f + 1 := ⟨fuel - 1, by omega⟩
    unfold fX1_lead_82
    rw [if_pos (show iN 0 - 1 < 0 by decide)]
    exact ⟨w, rfl, fun _ _ => rfl, rfl, hs⟩
  | succ r ih =>
    intro fuel w hr hf h hs
    obtain ⟨fuel, rfl⟩ : ∃ f, fuel = f + 1 := ⟨fuel - 1, by omega⟩
    have hm : (r : Int) < (S 4315).toInt := by
      rw [hcnt, iN_toInt (by omega)]
      omega
    have hfl : ∀ c, firstL S cb c cnt (cnt - r) = match placeF S r c (lenS S r) (lenS S r) with
        | none => firstL S cb c cnt (cnt - (r + 1))
        | some i => if cb r = true then some (r, i) else firstL S cb c cnt (cnt - (r + 1)) := fun c => by
      rw [show cnt - r = (cnt - (r + 1)) + 1 by omega, firstL, show cnt - (cnt - (r + 1) + 1) = r by omega]
      try (cases placeF S r c (lenS S r) (lenS S r) <;> rfl)
    unfold fX1_lead_82
    rw [iN_s1, if_neg (iN_nneg (by omega)), add_neg1]
    by_cases b : cb r = true
    · rw [if_pos ((mask_bit h8 (by omega)).mpr b), inb_lt2 (by omega) (by omega), if_pos rfl, iN_clamp (by omega)]
      obtain ⟨w1, e1, e2, e3, e4⟩ := leadLine_loop hm (show r < 8 by omega) (lenS S r) 0 FU w _ (by omega) (by have := (lenS_eq h hm).2.2; unfold FU; omega) h hs
      rw [show iN 0 = 0 from rfl] at e1
      obtain ⟨w', f1, f2, f3, f4⟩ := ih fuel w1 (by omega) (by omega) (h.cong (fun a ha => e2 a (by omega))) (fun c hc => by
        have := e4 c hc
        dsimp only at this ⊢
        rw [hfl c]
        cases hp : placeF S r c (lenS S r) (lenS S r) with
        | none =>
          rw [hp] at this
          exact this
        | some i =>
          rw [hp] at this
          simp only [b, if_true]
          exact this)
      unfold fX1_leadLine
      rw [e1, Option.bind_some]
      exact ⟨w', f1, fun a ha => by rw [f2 a ha, e2 a ha], by rw [f3, e3], f4⟩
    · rw [if_neg (fun q => b ((mask_bit h8 (by omega)).mp q))]
      refine ih fuel w (by omega) (by omega) h (fun c hc => ?_)
      have := hs c hc
      dsimp only at this ⊢
      rw [hfl c]
      cases hp : placeF S r c (lenS S r) (lenS S r) with
      | none => exact this
      | some i =>
        simp only [b]
        exact this
theorem lead8 {n : Nat} {S : Nat → Int32} {v2 : Int32} : ∀ (q k fuel : Nat) (w : Wd), k + q = 100 → q < fuel → YC w 0 S n → (∀ c, c < k → w.1 93 c = (LdV S none c).1 ∧ w.1 94 c = (LdV S none c).2.1 ∧ w.1 95 c = (LdV S none c).2.2) → ∃ w', fX1_lead_8 fuel v2 (iN k) w = fX1_lead_82 FU v2 (w.1 1 5 - 1) w' ∧ (∀ a, ¬ (93 ≤ a ∧ a ≤ 95) → w'.1 a = w.1 a) ∧ w'.2 = w.2 ∧ St w' (fun c => LdV S none c) := by
  intro q
  induction q with
  | zero =>
    intro k fuel w hk hf h hs
    obtain ⟨fuel, rfl⟩ : ∃ f, fuel = f + 1 := ⟨fuel - 1, by omega⟩
    obtain rfl : k = 100 := by omega
    unfold fX1_lead_8
    rw [if_neg (show ¬ iN 100 < 100 by decide)]
    exact ⟨w, rfl, fun _ _ => rfl, rfl, hs⟩
  | succ q ih =>
    intro k fuel w hk hf h hs
    obtain ⟨fuel, rfl⟩ : ∃ f, fuel = f + 1 := ⟨fuel - 1, by omega⟩
    have hp : iN k < (100 : Int32) := (iN_lt (b := 100) (by omega) (by omega)).mpr (by omega)
    have h9 : w.1 9 k = S (15 * k + 6) := h.row (j := 6) (by omega) (by omega)
    have h11 : w.1 11 k = S (15 * k + 8) := h.row (j := 8) (by omega) (by omega)
    obtain ⟨w', e1, e2, e3, e4⟩ := ih (k + 1) fuel (si (si (si w 93 k (S (15 * k + 6))) 94 k (20 * S (15 * k + 8) * S (15 * k + 8))) 95 k (50 + 40 * S (15 * k + 8))) (by omega) (by omega) (h.cong (fun a ha => by rw [si_oth (by omega), si_oth (by omega), si_oth (by omega)])) (fun c hc => by
      by_cases e : c = k
      · subst e
        refine ⟨?_, ?_, ?_⟩
        · rw [si_1, if_neg (by omega), si_1, if_neg (by omega), si_1, if_pos ⟨rfl, rfl⟩]
          rfl
        · rw [si_1, if_neg (by omega), si_1, if_pos ⟨rfl, rfl⟩]
          rfl
        · rw [si_1, if_pos ⟨rfl, rfl⟩]
          rfl
      · obtain ⟨a, b, d⟩ := hs c (by omega)
        refine ⟨?_, ?_, ?_⟩
        · rw [si_1, if_neg (by omega), si_1, if_neg (by omega), si_1, if_neg (by omega)]
          exact a
        · rw [si_1, if_neg (by omega), si_1, if_neg (by omega), si_1, if_neg (by omega)]
          exact b
        · rw [si_1, if_neg (by omega), si_1, if_neg (by omega), si_1, if_neg (by omega)]
          exact d)
    have o15 : (si (si (si w 93 k (S (15 * k + 6))) 94 k (20 * S (15 * k + 8) * S (15 * k + 8))) 95 k (50 + 40 * S (15 * k + 8))).1 1 5 = w.1 1 5 := by rw [si_oth (by omega), si_oth (by omega), si_oth (by omega)]
    have q11 : ∀ x y, (si (si w 93 k x) 94 k y).1 11 k = S (15 * k + 8) := fun x y => by rw [si_oth (by omega), si_oth (by omega), h11]
    have q11' : ∀ x, (si w 93 k x).1 11 k = S (15 * k + 8) := fun x => by rw [si_oth (by omega), h11]
    rw [o15] at e1
    unfold fX1_lead_8
    simp only [nw_eq]
    rw [if_pos hp, inb_lt2 (by omega) (by omega), if_pos rfl, ri_iN (by omega), wi_iN (by omega), wi_iN (by omega), wi_iN (by omega), ri_iN (by omega), h9, h11, add_lit]
    exact ⟨w', e1, fun a ha => by rw [e2 a ha, si_oth (by omega), si_oth (by omega), si_oth (by omega)], by rw [e3]; rfl, e4⟩
theorem lead_eq {n : Nat} {wc wm : Wd} (h : YY n wc wm) : ∃ mk cnt wc', wm.1 149 4315 = iN cnt ∧ cnt ≤ 8 ∧ fX0_carryingLines wc = some mk ∧ fX1_lead mk wc = some wc' ∧ (∀ a, ¬ (93 ≤ a ∧ a ≤ 95) → wc'.1 a = wc.1 a) ∧ wc'.2 = wc.2 ∧ St wc' (fun c => LdV (wm.1 149) (firstL (wm.1 149) (carB wm) c cnt cnt) c) := by
  have hb := h.1.2.2.2.2.1.1
  obtain ⟨cnt, hc, ec⟩ := of_range (v := wm.1 149 4315) 9 hb.1 (by have := hb.2; omega)
  have hm := mask_loop h ec (by omega) cnt 0 FU (by omega) (by unfold FU; omega)
  rw [show iN 0 = 0 from rfl] at hm
  obtain ⟨w1, e1, e2, e3, e4⟩ := lead8 (v2 := maskL (carB wm) cnt) 100 0 FU wc (by omega) (by unfold FU; omega) h.1 (fun c hc => by omega)
  rw [show iN 0 = 0 from rfl, h.1.many, ec] at e1
  obtain ⟨w2, f1, f2, f3, f4⟩ := lead82 (cb := carB wm) ec (by omega) cnt FU w1 (Nat.le_refl _) (by unfold FU; omega) (h.1.cong (fun a ha => e2 a (by omega))) (by
    rw [Nat.sub_self]
    exact e4)
  refine ⟨maskL (carB wm) cnt, cnt, w2, ec, by omega, hm, ?_, fun a ha => by rw [f2 a ha, e2 a ha], by rw [f3, e3], f4⟩
  unfold fX1_lead
  rw [e1]
  exact f1
-- MATHEMATICS: m47
theorem YY.leads {n : Nat} {wc wc' wm : Wd} (h : YY n wc wm) (e1 : ∀ a, ¬ (93 ≤ a ∧ a ≤ 95) → wc'.1 a = wc.1 a) (e2 : wc'.2 = wc.2) : YY n wc' wm := (h.city (wm' := wm) (h.1.cong (fun a ha => e1 a (by omega))) (fun a h1 h2 => ⟨e1 a (by omega), by rw [e2]⟩) (fun a _ _ _ _ _ => rfl) rfl (fun j _ _ => rfl))
theorem look_eq {n cnt : Nat} {wc wm : Wd} (h : YY n wc wm) (hc : wm.1 149 4315 = iN cnt) (h8 : cnt ≤ 8) : ∃ w1, fX12_lookAtLines wm = some w1 ∧ (∀ a, ¬ a = 153 → w1.1 a = wm.1 a) ∧ w1.2 = wm.2 ∧ YY n wc w1 ∧ ∀ i, i < cnt → w1.1 153 i = if carB wm i = true then 1 else 0 := by
  have hi : ∀ i : Nat, (i : Int) < (wm.1 149 4315).toInt → fX0_lineCarries (36 + 7 * i) wc = some (carB wm i) := fun i hi => (carB_eq h hi).1
  obtain ⟨w1, e1, e2, e3, e4⟩ := look_loop (cb := carB wm) cnt 0 FU wm h (by rw [hc, iN_toInt (by omega)]; omega) (by unfold FU; omega) hi
  rw [show iN 0 = 0 from rfl] at e1
  refine ⟨w1, e1, e2, e3, h.notes (fun a q _ => e2 a (by omega)) e3 (fun j _ _ => by rw [e2 _ (by omega)]), fun i hi2 => (e4 i).2 (Nat.zero_le _) ?_⟩
  rw [hc, iN_toInt (by omega)]
  omega
theorem mc_8 {w : Wd} {c : Nat} (hc : c < 100) : fX12_c (iN c) 8 w = some (w.1 149 (15 * c + 8)) := mc_eq (j := 8) hc (by omega)
theorem hold_eq {n c : Nat} {wc wm : Wd} (h : YY n wc wm) (hc : c < 100) : ∃ x wc' wm', fX11_holdNow (iN c) wc = some (x, wc') ∧ fX12_holdOf (iN c) wm = some (x, wm') ∧ YY n wc' wm' ∧ wm'.1 149 = wm.1 149 ∧ wm'.1 148 0 = wm.1 148 0 := by
  obtain ⟨mk, cnt, wc', k1, k2, k3, k4, k5, k6, k7⟩ := lead_eq h
  obtain ⟨w1, a1, a2, a3, a4, a5⟩ := look_eq h k1 k2
  have o149 : w1.1 149 = wm.1 149 := a2 _ (by omega)
  have hcar := carrying_m (c := c) a4 (by rw [o149]; exact k1) k2 a5 cnt 0 FU (by omega) (by unfold FU; omega)
  rw [show iN 0 = 0 from rfl, o149] at hcar
  obtain ⟨-, -, s3⟩ := k7 c hc
  have hcl : fX11_holdNow (iN c) wc = some ((LdV (wm.1 149) (firstL (wm.1 149) (carB wm) c cnt cnt) c).2.2, wc') := by
    unfold fX11_holdNow
    rw [k3, Option.bind_some, k4, Option.bind_some, inb_lt2 hc (by omega), if_pos rfl, ri_iN (by omega), s3]
  have hy : YY n wc' w1 := a4.leads k5 k6
  unfold fX12_holdOf fX12_hold fX12_carrying
  rw [a1, Option.bind_some, hcar, Option.bind_some]
  cases hf : firstL (wm.1 149) (carB wm) c cnt cnt with
  | none =>
    rw [hf] at hcl
    simp only [mc_8 hc, Option.bind_some, o149]
    rw [if_pos trivial, Int32.add_zero]
    exact ⟨_, _, _, hcl, rfl, hy, o149, by rw [a2 _ (by omega)]⟩
  | some p =>
    obtain ⟨m, i⟩ := p
    rw [hf] at hcl
    obtain ⟨m1, -, -, -⟩ := firstL_lt (Nat.le_refl _) hf
    have hm8 : m < 8 := by omega
    have hne : ¬ iN m = -1 := fun q => iN_nneg (a := m) (by omega) (by rw [q]; decide)
    have o2 : (si w1 148 10 (iN i)).1 149 = wm.1 149 := by rw [si_oth (by omega), o149]
    simp only [mc_8 hc, Option.bind_some, o2, ml_1 hm8]
    rw [if_neg hne]
    exact ⟨_, _, _, hcl, rfl, hy.notes (fun a _ q => si_oth q) rfl (fun j _ _ => by rw [si_1, if_neg (by omega)]), o2, by rw [si_1, if_neg (by omega), a2 _ (by omega)]⟩
-- MATHEMATICS: m48
theorem mulc_I {a : Int32} {k b : Nat} (hb : k * b < 2147483648) (h0 : 0 ≤ a.toInt) (h1 : a.toInt ≤ b) (hk : k < 2147483648) : (iN k * a).toInt = k * a.toInt := by
  have q0 : 0 ≤ (k : Int) * a.toInt := Int.mul_nonneg (Int.natCast_nonneg k) h0
  have q1 : (k : Int) * a.toInt ≤ k * b := Int.mul_le_mul_of_nonneg_left h1 (Int.natCast_nonneg k)
  have q2 : ((k * b : Nat) : Int) < 2147483648 := by omega
  rw [Int.natCast_mul] at q2
  rw [mul_I (by rw [iN_toInt hk]; omega) (by rw [iN_toInt hk]; omega), iN_toInt hk]
theorem LdV_rng {n c cnt : Nat} {w : Wd} {S : Nat → Int32} {o : Option (Nat × Nat)} (h : YC w 0 S n) (hc : c < 100) (hcnt : S 4315 = iN cnt) (h8 : cnt ≤ 8) (ho : ∀ m i, o = some (m, i) → m < cnt) : 50 ≤ (LdV S o c).2.2.toInt ∧ (LdV S o c).2.2.toInt ≤ 950 := by
  obtain ⟨s1, s2⟩ := (h.2.2.1 c hc).2.2.2.1
  have e1 : ((40 : Int32) * S (15 * c + 8)).toInt = 40 * (S (15 * c + 8)).toInt := mulc_I (k := 40) (b := 9) (by omega) s1 s2 (by omega)
  have i50 : (50 : Int32).toInt = 50 := rfl
  have e2 : ((50 : Int32) + 40 * S (15 * c + 8)).toInt = 50 + 40 * (S (15 * c + 8)).toInt := by
    rw [add_I (by rw [i50, e1]; omega) (by rw [i50, e1]; omega), i50, e1]
  cases o with
  | none =>
    show 50 ≤ ((50 : Int32) + 40 * S (15 * c + 8)).toInt ∧ ((50 : Int32) + 40 * S (15 * c + 8)).toInt ≤ 950
    rw [e2]
    omega
  | some p =>
    obtain ⟨m, i⟩ := p
    have hm := ho m i rfl
    have hm2 : (m : Int) < (S 4315).toInt := by
      rw [hcnt, iN_toInt (by omega)]
      omega
    have hw := (h.2.2.2.2.1.2 m hm2).1.2.1
    rw [show (fun r => S (3300 + 125 * m + r)) 1 = S (3301 + 125 * m) from congrArg _ (by omega)] at hw
    obtain ⟨w1, w2⟩ := hw
    have e3 : ((60 : Int32) * S (3301 + 125 * m)).toInt = 60 * (S (3301 + 125 * m)).toInt := mulc_I (k := 60) (b := 9) (by omega) (by omega) w2 (by omega)
    show 50 ≤ ((50 : Int32) + 40 * S (15 * c + 8) + 60 * S (3301 + 125 * m)).toInt ∧ ((50 : Int32) + 40 * S (15 * c + 8) + 60 * S (3301 + 125 * m)).toInt ≤ 950
    rw [add_I (by rw [e2, e3]; omega) (by rw [e2, e3]; omega), e2, e3]
    omega
theorem hold_rng {n c : Nat} {wc wm wc' : Wd} {x : Int32} (h : YY n wc wm) (hc : c < 100) (hx : fX11_holdNow (iN c) wc = some (x, wc')) : 50 ≤ x.toInt ∧ x.toInt ≤ 950 := by
  obtain ⟨mk, cnt, wc2, k1, k2, k3, k4, k5, k6, k7⟩ := lead_eq h
  obtain ⟨-, -, s3⟩ := k7 c hc
  unfold fX11_holdNow at hx
  rw [k3, Option.bind_some, k4, Option.bind_some, inb_lt2 hc (by omega), if_pos rfl, ri_iN (by omega), s3] at hx
  cases hx
  exact LdV_rng h.1 hc k1 k2 (fun m i q => (firstL_lt (Nat.le_refl _) q).1)
theorem lasts_ok {n : Nat} {wc wm : Wd} {v1 v2 : Int32} (h : YY n wc wm) : ∃ r wc' wm', fX11_lasts v1 v2 wc = some (r, wc') ∧ fX12_lasts v1 v2 wm = some (r, wm') ∧ YY n wc' wm' := by
  have h0 := h.thr (x := 0)
  unfold fX11_lasts fX12_lasts
  simp only [nw_eq, Option.bind_some, isCell_c, isCell_m, isTape_c, isTape_m, within_eq, in_eq, Int32.toInt_toInt64, decide_eq_true_eq, Int32.reduceToInt, Int64.reduceToInt, tn128, tm128, if_true, if_false, Bool.false_eq_true]
  by_cases h1 : 0 ≤ v1.toInt ∧ v1.toInt ≤ 99
  · obtain ⟨c, hc, rfl⟩ := of_range (v := v1) 100 h1.1 (by omega)
    rw [if_pos h1, if_pos h1]
    by_cases h2 : v2 < 0
    · rw [if_pos h2, if_pos h2]
      exact ⟨_, _, _, rfl, rfl, h0⟩
    · rw [if_neg h2, if_neg h2]
      rw [lt_I, z_I] at h2
      obtain ⟨x, wc', wm', e1, e2, hy, e4⟩ := hold_eq h0 hc
      obtain ⟨x1, x2⟩ := hold_rng h0 hc e1
      have r9 : wc'.1 15 c = wm'.1 149 (15 * c + 9) := hy.1.row (j := 9) hc (by omega)
      have r10 : wc'.1 16 c = wm'.1 149 (15 * c + 10) := hy.1.row (j := 10) hc (by omega)
      obtain ⟨⟨w1, w2, -, -⟩, wt, -⟩ := hy.1.2.2.2.2.2.2 c hc
      have hg := hs.get hy.1.2.2.2.1 hc
      have g8 : 0 ≤ (wm'.1 149 (1500 + 10 * c + 8)).toInt := hg.2.1.1
      have g9 : 0 ≤ (wm'.1 149 (1500 + 10 * c + 9)).toInt := hg.2.2.1.1
      unfold wtr at wt
      rw [show 1508 + 10 * c = 1500 + 10 * c + 8 by omega, show 1509 + 10 * c = 1500 + 10 * c + 9 by omega] at wt
      rw [e1, e2]
      simp only [Option.bind_some]
      unfold fX10_inDrain
      rw [inb_lt2 hc (by omega), if_pos rfl, ri_iN (by omega), ri_iN (by omega), r9, r10, Option.bind_some, show fX12_c (iN c) 9 wm' = _ from mc_eq (j := 9) hc (by omega), Option.bind_some, show fX12_c (iN c) 10 wm' = _ from mc_eq (j := 10) hc (by omega), Option.bind_some]
      have d1 : ((wm'.1 149 (15 * c + 9)).toInt64 + (wm'.1 149 (15 * c + 10)).toInt64).toInt = (wm'.1 149 (15 * c + 9)).toInt + (wm'.1 149 (15 * c + 10)).toInt := by
        rw [ladd_I (by rw [Int32.toInt_toInt64, Int32.toInt_toInt64]; omega) (by rw [Int32.toInt_toInt64, Int32.toInt_toInt64]; omega), Int32.toInt_toInt64, Int32.toInt_toInt64]
      have d2 : (x.toInt64 - ((wm'.1 149 (15 * c + 9)).toInt64 + (wm'.1 149 (15 * c + 10)).toInt64)).toInt = x.toInt - (wm'.1 149 (15 * c + 9)).toInt - (wm'.1 149 (15 * c + 10)).toInt := by
        rw [lsub_I (by rw [d1, Int32.toInt_toInt64]; omega) (by rw [d1, Int32.toInt_toInt64]; omega), d1, Int32.toInt_toInt64]
        omega
      have d3 : (x - wm'.1 149 (15 * c + 9)).toInt = x.toInt - (wm'.1 149 (15 * c + 9)).toInt := sub_I (by omega) (by omega)
      have d4 : (x - wm'.1 149 (15 * c + 9) - wm'.1 149 (15 * c + 10)).toInt = x.toInt - (wm'.1 149 (15 * c + 9)).toInt - (wm'.1 149 (15 * c + 10)).toInt := by
        rw [sub_I (by omega) (by omega), d3]
      have d5 : x.toInt64 - ((wm'.1 149 (15 * c + 9)).toInt64 + (wm'.1 149 (15 * c + 10)).toInt64) = (x - wm'.1 149 (15 * c + 9) - wm'.1 149 (15 * c + 10)).toInt64 := by
        rw [leq_I, d2, Int32.toInt_toInt64, d4]
      rw [d5]
      generalize hA : x - wm'.1 149 (15 * c + 9) - wm'.1 149 (15 * c + 10) = A at *
      have hlt : (0 : Int64) < A.toInt64 ↔ 0 < A := by
        rw [llt_I, lt_I, Int32.toInt_toInt64]
        exact Iff.rfl
      by_cases z : 0 < A
      · rw [if_pos z, if_pos (hlt.mpr z)]
        by_cases z2 : v2 = 0
        · rw [if_pos z2, if_pos z2]
          obtain ⟨wc2, wm2, f1, f2, f3⟩ := host_ok (x := -16) hy
          rw [f1, f2]
          exact ⟨_, _, _, rfl, rfl, f3⟩
        · have z3 : 0 < v2.toInt := by
            rw [eq_I, z_I] at z2
            omega
          have z4 : ¬ v2.toInt64 = 0 := by
            rw [leq_I, lz_I, Int32.toInt_toInt64]
            omega
          have zb := toInt_lt v2
          rw [lt_I, z_I] at z
          have l1 : (1 : Int64).toInt = 1 := rfl
          have a1 : (A.toInt64 - 1).toInt = A.toInt - 1 := by
            rw [lsub_I (by rw [Int32.toInt_toInt64, l1]; omega) (by rw [Int32.toInt_toInt64, l1]; omega), Int32.toInt_toInt64, l1]
          have a2 : (A.toInt64 + v2.toInt64).toInt = A.toInt + v2.toInt := by
            rw [ladd_I (by rw [Int32.toInt_toInt64, Int32.toInt_toInt64]; omega) (by rw [Int32.toInt_toInt64, Int32.toInt_toInt64]; omega), Int32.toInt_toInt64, Int32.toInt_toInt64]
          have a3 : (A.toInt64 + v2.toInt64 - 1).toInt = A.toInt + v2.toInt - 1 := by
            rw [lsub_I (by rw [a2, l1]; omega) (by rw [a2, l1]; omega), a2, l1]
          have b1 : ((A.toInt64 - 1) / v2.toInt64).toInt = (A.toInt - 1) / v2.toInt := by
            rw [ldiv_I (by omega) (by rw [Int32.toInt_toInt64]; omega), a1, Int32.toInt_toInt64]
          have b2 : ((A.toInt64 + v2.toInt64 - 1) / v2.toInt64).toInt = (A.toInt + v2.toInt - 1) / v2.toInt := by
            rw [ldiv_I (by omega) (by rw [Int32.toInt_toInt64]; omega), a3, Int32.toInt_toInt64]
          have b3 : (A.toInt + v2.toInt - 1) / v2.toInt = (A.toInt - 1) / v2.toInt + 1 := by
            rw [show A.toInt + v2.toInt - 1 = (A.toInt - 1) + v2.toInt by omega, Int.add_ediv_of_dvd_right (Int.dvd_refl _), Int.ediv_self (by omega)]
          have b4 : 0 ≤ (A.toInt - 1) / v2.toInt := Int.ediv_nonneg (by omega) (by omega)
          have b5 : (A.toInt - 1) / v2.toInt ≤ A.toInt - 1 := Int.ediv_le_self _ (by omega)
          have c1 : (A.toInt64 - 1) / v2.toInt64 + 1 = (A.toInt64 + v2.toInt64 - 1) / v2.toInt64 := by
            rw [leq_I, ladd_I (by rw [b1, l1]; omega) (by rw [b1, l1]; omega), b1, b2, b3, l1]
          rw [if_neg z2, if_neg z2, if_neg z4, if_neg z4, c1]
          exact ⟨_, _, _, rfl, rfl, hy⟩
      · rw [if_neg z, if_neg (fun q => z (hlt.mp q))]
        exact ⟨_, _, _, rfl, rfl, hy⟩
  · rw [if_neg h1, if_neg h1]
    exact ⟨_, _, _, rfl, rfl, h0⟩
-- MATHEMATICS: m49
theorem told_c {n c j : Nat} {w : Wd} {S : Nat → Int32} (h : YC w 0 S n) (hc : c < 100) (hj : j < 9) : fX2_told (iN c) (iN j) w = some (S (15 * c + j)) := by
  have hr := h.row (c := c) (j := j) hc (by omega)
  have h9 : j = 0 ∨ j = 1 ∨ j = 2 ∨ j = 3 ∨ j = 4 ∨ j = 5 ∨ j = 6 ∨ j = 7 ∨ j = 8 := by omega
  unfold fX2_told
  rcases h9 with rfl | rfl | rfl | rfl | rfl | rfl | rfl | rfl | rfl
  · rw [row_lt6 (by omega), ← hr, Option.bind_some]
    simp only [inb_lt2 hc (show 100 < 1000000 by omega), if_true, ri_iN (show c < 2147483648 by omega)]
    rfl
  · rw [row_lt6 (by omega), ← hr, Option.bind_some]
    simp only [inb_lt2 hc (show 100 < 1000000 by omega), if_true, ri_iN (show c < 2147483648 by omega)]
    rfl
  · rw [row_lt6 (by omega), ← hr, Option.bind_some]
    simp only [inb_lt2 hc (show 100 < 1000000 by omega), if_true, ri_iN (show c < 2147483648 by omega)]
    rfl
  · rw [row_lt6 (by omega), ← hr, Option.bind_some]
    simp only [inb_lt2 hc (show 100 < 1000000 by omega), if_true, ri_iN (show c < 2147483648 by omega)]
    rfl
  · rw [row_lt6 (by omega), ← hr, Option.bind_some]
    simp only [inb_lt2 hc (show 100 < 1000000 by omega), if_true, ri_iN (show c < 2147483648 by omega)]
    rfl
  · rw [row_lt6 (by omega), ← hr, Option.bind_some]
    simp only [inb_lt2 hc (show 100 < 1000000 by omega), if_true, ri_iN (show c < 2147483648 by omega)]
    rfl
  · rw [row_no (by decide), ← hr, Option.bind_some]
    simp only [inb_lt2 hc (show 100 < 1000000 by omega), if_true, ri_iN (show c < 2147483648 by omega)]
    rw [if_pos (show iN 6 = 6 from rfl)]
    rfl
  · rw [row_no (by decide), ← hr, Option.bind_some]
    simp only [inb_lt2 hc (show 100 < 1000000 by omega), if_true, ri_iN (show c < 2147483648 by omega)]
    rw [if_neg (show ¬ iN 7 = 6 by decide), if_pos (show iN 7 = 7 from rfl)]
    rfl
  · rw [row_no (by decide), ← hr, Option.bind_some]
    simp only [inb_lt2 hc (show 100 < 1000000 by omega), if_true, ri_iN (show c < 2147483648 by omega)]
    rw [if_neg (show ¬ iN 8 = 6 by decide), if_neg (show ¬ iN 8 = 7 by decide)]
    rfl
-- MATHEMATICS: m50
theorem of_ok {n : Nat} {wc wm : Wd} {v1 v2 : Int32} (h : YY n wc wm) : ∃ (o : Int32 ⊕ Bool) (r : Int32) (wc' wm' : Wd), fX11_of v1 v2 wc = some (o, wc') ∧ fX12_of v1 v2 wm = some (r, wm') ∧ YY n wc' wm' ∧ wm'.1 148 0 = (oI (o, wc')).1 ∧ (∀ x, o = .inl x → r = x) := by
  have h0 := h.thr (x := 0)
  unfold fX11_of fX12_of
  simp only [nw_eq, Option.bind_some, isCell_c, isCell_m, isTape_c, isTape_m, within_eq, in_eq, Int32.toInt_toInt64, decide_eq_true_eq, Int32.reduceToInt, Int64.reduceToInt, tn128, tm128, if_true, if_false, Bool.false_eq_true, show (16 : Int32).toInt = 16 from rfl]
  by_cases h1 : 0 ≤ v1.toInt ∧ v1.toInt ≤ 99
  · obtain ⟨c, hc, rfl⟩ := of_range (v := v1) 100 h1.1 (by omega)
    rw [if_pos h1, if_pos h1]
    by_cases h2 : 0 ≤ v2.toInt ∧ v2.toInt ≤ 16
    · rw [if_pos h2, if_pos h2]
      obtain ⟨j, hj, rfl⟩ := int_cases 16 h2 (by omega)
      have row : ∀ i a : Nat, i < 15 → rowA i = a → ∃ (o : Int32 ⊕ Bool) (r : Int32) (wc' wm' : Wd), (if inb (iN c) 100 = true then some ((Sum.inl (ri wc a (iN c)) : Int32 ⊕ Bool), wc) else none) = some (o, wc') ∧ ((fX12_c (iN c) (iN i) (si wm 148 0 0)).bind fun v => some (v, si wm 148 0 0)) = some (r, wm') ∧ YY n wc' wm' ∧ wm'.1 148 0 = (oI (o, wc')).1 ∧ (∀ x, o = .inl x → r = x) := fun i a hi ha => by
        rw [inb_lt2 hc (by omega), if_pos rfl, ri_iN (by omega), ← ha, h0.1.row hc hi, mc_eq hc hi]
        exact ⟨_, _, _, _, rfl, rfl, h0, si_at, fun x hx => by cases hx; rfl⟩
      by_cases h8 : j < 9
      · have hlt : ¬ (8 : Int32) < iN j := by
          rw [lt_I, iN_toInt (by omega), show (8 : Int32).toInt = 8 from rfl]
          omega
        have h13 : iN j < (13 : Int32) := (iN_lt (b := 13) (by omega) (by omega)).mpr (by omega)
        rw [if_neg hlt, if_pos h13, told_c h0.1 hc h8, mc_eq hc (by omega)]
        exact ⟨_, _, _, _, rfl, rfl, h0, si_at, fun x hx => by cases hx; rfl⟩
      · have h9 : j = 9 ∨ j = 10 ∨ j = 11 ∨ j = 12 ∨ j = 13 ∨ j = 14 ∨ j = 15 ∨ j = 16 := by omega
        rcases h9 with rfl | rfl | rfl | rfl | rfl | rfl | rfl | rfl
        · exact row 9 15 (by omega) rfl
        · exact row 10 16 (by omega) rfl
        · exact row 11 17 (by omega) rfl
        · exact row 12 18 (by omega) rfl
        · obtain ⟨x, wc', wm', e1, e2, e3, e4⟩ := hold_eq h0 hc
          have q1 : wm'.1 148 0 = 0 := e4.2.trans si_at
          refine ⟨.inl x, x, wc', wm', ?_, ?_, e3, q1, fun y hy => by cases hy; rfl⟩
          · show ((fX11_holdNow (iN c) wc).bind fun v_14 => some (Sum.inl v_14.1, v_14.2)) = _
            rw [e1]
            rfl
          · show ((fX12_holdOf (iN c) (si wm 148 0 0)).bind fun v_9 => some (v_9.1, v_9.2)) = _
            rw [e2]
            rfl
        · exact row 13 12 (by omega) rfl
        · obtain ⟨b, e1, e2⟩ := shut_eq h0 hc
          show ∃ (o : Int32 ⊕ Bool) (r : Int32) (wc' wm' : Wd), ((fX0_isShut (iN c) wc).bind fun v_18 => if v_18 = true then some (Sum.inl (1 : Int32), wc) else some (Sum.inl (0 : Int32), wc)) = some (o, wc') ∧ ((fX12_isShut (iN c) (si wm 148 0 0)).bind fun v_13 => if v_13 = true then some ((1 : Int32), si wm 148 0 0) else some ((0 : Int32), si wm 148 0 0)) = some (r, wm') ∧ _
          rw [e1, e2]
          cases b
          · exact ⟨_, _, _, _, rfl, rfl, h0, si_at, fun x hx => by cases hx; rfl⟩
          · exact ⟨_, _, _, _, rfl, rfl, h0, si_at, fun x hx => by cases hx; rfl⟩
        · exact row 14 13 (by omega) rfl
    · rw [if_neg h2, if_neg h2]
      exact ⟨_, _, _, _, rfl, rfl, h0.thr, si_at, fun x hx => by cases hx⟩
  · rw [if_neg h1, if_neg h1]
    exact ⟨_, _, _, _, rfl, rfl, h0.thr, si_at, fun x hx => by cases hx⟩
-- MATHEMATICS: m52
def Adv (L : Nat) (it : Nat → PR) : Prop := ∀ p, p ≤ L → (∀ q, it p = .inl q → q ≤ L) ∧ ∀ c p2, it p = .inr (c, p2) → p + c.length ≤ p2 ∧ p < p2 ∧ p2 ≤ L
theorem pz_in {f : Nat → Int32} {L p : Nat} (h : ¬ pk f L p = -1) : p < L := by
  unfold pk at h
  by_cases c : p < L
  · exact c
  · rw [if_neg c] at h
    exact (h rfl).elim
theorem pz_dg {f : Nat → Int32} {L p : Nat} (h : isDg (pk f L p) = true) : p < L := pz_in (fun e => by rw [e] at h; exact absurd h (by decide))
theorem pz_lt {f : Nat → Int32} {L p : Nat} (h : isLt (pk f L p) = true) : p < L := pz_in (fun e => by rw [e] at h; exact absurd h (by decide))
theorem pz_op {op : Int32 → Bool} {f : Nat → Int32} {L p : Nat} (ho : op (-1) = false) (h : op (pk f L p) = true) : p < L := pz_in (fun e => by rw [e, ho] at h; exact absurd h (by decide))
theorem pz_k {f : Nat → Int32} {L p : Nat} {k : Int32} (h : pk f L p = k) (hk : ¬ k = -1) : p < L := pz_in (fun e => hk (h.symm.trans e))
theorem dig_adv {f : Nat → Int32} {L : Nat} : ∀ n v p, p ≤ L → p ≤ (pDig f L n v p).2 ∧ (pDig f L n v p).2 ≤ L
  | 0, v, p, h => ⟨Nat.le_refl _, h⟩
  | n + 1, v, p, h => by
    unfold pDig
    by_cases c : isDg (pk f L p) = true
    · rw [if_pos c]
      have q1 := pz_dg c
      have q2 := dig_adv (f := f) (L := L) n (10 * v + pk f L p - 48) (p + 1) (by omega)
      exact ⟨by omega, q2.2⟩
    · rw [if_neg c]
      exact ⟨Nat.le_refl _, h⟩
theorem adv_unit {f : Nat → Int32} {L : Nat} : Adv L (pUnit f L) := by
  intro p hp
  unfold pUnit
  by_cases c1 : isLt (pk f L p) = true
  · have := pz_lt c1
    rw [if_pos c1]
    refine ⟨(by intro q h; cases h), (by intro c p2 h; cases h; exact ⟨by simp, by omega, by omega⟩)⟩
  · rw [if_neg c1]
    by_cases c2 : isDg (pk f L p) = true
    · rw [if_pos c2]
      have q1 := pz_dg c2
      have q2 := dig_adv (f := f) (L := L) 3 (10 * 0 + pk f L p - 48) (p + 1) (by omega)
      have q3 : pDig f L 4 0 p = pDig f L 3 (10 * 0 + pk f L p - 48) (p + 1) := by
        rw [pDig, if_pos c2]
      rw [q3]
      exact ⟨(by intro q h; cases h), (by intro c p2 h; cases h; exact ⟨by show p + 1 ≤ _; omega, by omega, by omega⟩)⟩
    · rw [if_neg c2]
      exact ⟨(by intro q h; cases h; exact hp), (by intro c p2 h; cases h)⟩
theorem adv_more {op : Int32 → Bool} {it : Nat → PR} {f : Nat → Int32} {L p0 : Nat} (ho : op (-1) = false) (hi : Adv L it) : ∀ n c p, p0 + c.length ≤ p → p0 < p → p ≤ L → (∀ q, pMore op it f L n c p = .inl q → q ≤ L) ∧ ∀ c2 p2, pMore op it f L n c p = .inr (c2, p2) → p0 + c2.length ≤ p2 ∧ p0 < p2 ∧ p2 ≤ L
  | 0, c, p, h1, h2, h3 => ⟨(by intro q h; cases h), (by intro c2 p2 h; cases h; exact ⟨h1, h2, h3⟩)⟩
  | n + 1, c, p, h1, h2, h3 => by
    unfold pMore
    by_cases c1 : op (pk f L p) = true
    · rw [if_pos c1]
      have q1 := pz_op ho c1
      obtain ⟨i1, i2⟩ := hi (p + 1) (by omega)
      cases e : it (p + 1) with
      | inl q =>
        exact ⟨(by intro q' h; cases h; exact i1 q e), (by intro c2 p2 h; cases h)⟩
      | inr r =>
        obtain ⟨c2, p2⟩ := r
        have q2 := i2 c2 p2 e
        exact adv_more ho hi n _ _ (by simp; omega) (by omega) (by omega)
    · rw [if_neg c1]
      exact ⟨(by intro q h; cases h), (by intro c2 p2 h; cases h; exact ⟨h1, h2, h3⟩)⟩
theorem adv_row {op : Int32 → Bool} {it : Nat → PR} {f : Nat → Int32} {L : Nat} (ho : op (-1) = false) (hi : Adv L it) : Adv L (pRow op it f L) := by
  intro p hp
  obtain ⟨i1, i2⟩ := hi p hp
  unfold pRow
  cases e : it p with
  | inl q => exact ⟨(by intro q' h; cases h; exact i1 q e), (by intro c2 p2 h; cases h)⟩
  | inr r =>
    obtain ⟨c2, p2⟩ := r
    have q2 := i2 c2 p2 e
    exact adv_more ho hi 200 _ _ (by omega) (by omega) (by omega)
theorem adv_sum {f : Nat → Int32} {L : Nat} : Adv L (pSum f L) := adv_row (by decide) adv_unit
theorem adv_ors {it : Nat → PR} {f : Nat → Int32} {L : Nat} (hi : Adv L it) : Adv L (pOrsOf it f L) := adv_row (by decide) (adv_row (by decide) hi)
def pCmp (f : Nat → Int32) (L p : Nat) : PR :=
  match pSum f L p with
  | .inl q => .inl q
  | .inr (c, p2) => if pk f L p2 = 60 ∨ pk f L p2 = 61 ∨ pk f L p2 = 62 then (match pSum f L (p2 + 1) with
    | .inl q => .inl q
    | .inr (c2, p3) => .inr (c ++ c2 ++ [20000 + pk f L p2], p3)) else .inl p2
theorem adv_cmp {f : Nat → Int32} {L : Nat} : Adv L (pCmp f L) := by
  intro p hp
  obtain ⟨i1, i2⟩ := adv_sum (f := f) p hp
  unfold pCmp
  cases e : pSum f L p with
  | inl q => exact ⟨(by intro q' h; cases h; exact i1 q e), (by intro c2 p2 h; cases h)⟩
  | inr r =>
    obtain ⟨c, p2⟩ := r
    have q2 := i2 c p2 e
    show (∀ q, (if pk f L p2 = 60 ∨ pk f L p2 = 61 ∨ pk f L p2 = 62 then _ else _) = _ → _) ∧ _
    by_cases c1 : pk f L p2 = 60 ∨ pk f L p2 = 61 ∨ pk f L p2 = 62
    · have q3 : p2 < L := by
        rcases c1 with c1 | c1 | c1 <;> exact pz_k c1 (by decide)
      obtain ⟨j1, j2⟩ := adv_sum (f := f) (p2 + 1) (show p2 + 1 ≤ L by omega)
      simp only [if_pos c1]
      cases e2 : pSum f L (p2 + 1) with
      | inl q => exact ⟨(by intro q' h; cases h; exact j1 q e2), (by intro c2 p2 h; cases h)⟩
      | inr r2 =>
        obtain ⟨c2, p3⟩ := r2
        have q4 := j2 c2 p3 e2
        exact ⟨(by intro q h; cases h), (by intro c' p' h; cases h; exact ⟨by simp; omega, by omega, by omega⟩)⟩
    · simp only [if_neg c1]
      exact ⟨(by intro q h; cases h; omega), (by intro c' p' h; cases h)⟩
theorem adv_test {f : Nat → Int32} {L : Nat} : ∀ n, Adv L (pTest f L n)
  | 0 => by
    intro p hp
    unfold pTest
    by_cases c : pk f L p = 33 ∨ pk f L p = 40
    · rw [if_pos c]
      exact ⟨(by intro q h; cases h; exact hp), (by intro c' p' h; cases h)⟩
    · rw [if_neg c]
      exact adv_cmp p hp
  | n + 1 => by
    intro p hp
    unfold pTest
    by_cases c : pk f L p = 33
    · have q1 := pz_k c (by decide)
      rw [if_pos c]
      obtain ⟨i1, i2⟩ := adv_test n (f := f) (p + 1) (show p + 1 ≤ L by omega)
      cases e : pTest f L n (p + 1) with
      | inl q => exact ⟨(by intro q' h; cases h; exact i1 q e), (by intro c2 p2 h; cases h)⟩
      | inr r =>
        obtain ⟨c2, p2⟩ := r
        have q2 := i2 c2 p2 e
        exact ⟨(by intro q h; cases h), (by intro c' p' h; cases h; exact ⟨by simp; omega, by omega, by omega⟩)⟩
    · rw [if_neg c]
      by_cases c3 : pk f L p = 40
      · have q1 := pz_k c3 (by decide)
        rw [if_pos c3]
        obtain ⟨i1, i2⟩ := adv_ors (adv_test n) (f := f) (p + 1) (show p + 1 ≤ L by omega)
        cases e : pOrsOf (pTest f L n) f L (p + 1) with
        | inl q => exact ⟨(by intro q' h; cases h; exact i1 q e), (by intro c2 p2 h; cases h)⟩
        | inr r =>
          obtain ⟨c2, p2⟩ := r
          have q2 := i2 c2 p2 e
          show (∀ q, (if pk f L p2 = 41 then _ else _) = _ → _) ∧ _
          by_cases c4 : pk f L p2 = 41
          · have q3 := pz_k c4 (by decide)
            simp only [if_pos c4]
            exact ⟨(by intro q h; cases h), (by intro c' p' h; cases h; exact ⟨by omega, by omega, by omega⟩)⟩
          · simp only [if_neg c4]
            exact ⟨(by intro q h; cases h; omega), (by intro c' p' h; cases h)⟩
      · rw [if_neg c3]
        exact adv_cmp p hp
def CG (f : Nat → Int32) (L : Nat) (w0 w : Wd) : Prop := w.1 106 9 = iN L ∧ (∃ p, p ≤ L ∧ w.1 106 10 = iN p) ∧ (∃ k, k ≤ 100 ∧ w.1 106 8 = iN k) ∧ (∀ i, i < L → w.1 113 i = f i) ∧ (∀ a, ¬ a = 106 → ¬ a = 111 → w.1 a = w0.1 a) ∧ w.2 = w0.2 ∧ w.1 106 0 = w0.1 106 0
def CB (f : Nat → Int32) (L q : Nat) (w0 w : Wd) : Prop := CG f L w0 w ∧ w.1 106 11 = iN q ∧ q ≤ 100
def CS (f : Nat → Int32) (L p : Nat) (c : List Int32) (w0 w : Wd) : Prop := CG f L w0 w ∧ p ≤ L ∧ w.1 106 10 = iN p ∧ w.1 106 11 = -1 ∧ w.1 106 8 = iN c.length ∧ c.length ≤ p ∧ ∀ i x, c[i]? = some x → w.1 111 i = x
def CO (f : Nat → Int32) (L : Nat) (r : PR) (c : List Int32) (w0 w : Wd) : Prop := (∀ q, r = .inl q → CB f L q w0 w) ∧ ∀ c2 p2, r = .inr (c2, p2) → CS f L p2 (c ++ c2) w0 w
def pkc (f : Nat → Int32) (L p : Nat) : Int32 := if p < L then f p else 1000
theorem pkc_k {f : Nat → Int32} {L p : Nat} {k : Int32} (h1 : ¬ k = -1) (h2 : ¬ k = 1000) : pkc f L p = k ↔ pk f L p = k := by
  unfold pkc pk
  by_cases c : p < L
  · rw [if_pos c, if_pos c]
  · rw [if_neg c, if_neg c]
    exact ⟨fun e => (h2 e.symm).elim, fun e => (h1 e.symm).elim⟩
theorem pkc_in {f : Nat → Int32} {L p : Nat} (h : ¬ pkc f L p = 1000) : p < L ∧ pkc f L p = pk f L p := by
  unfold pkc pk at *
  by_cases c : p < L
  · rw [if_pos c, if_pos c]
    exact ⟨c, rfl⟩
  · rw [if_neg c] at h
    exact (h rfl).elim
theorem peek_c {f : Nat → Int32} {L p : Nat} {w0 w : Wd} (hL : L ≤ 100) (h : CG f L w0 w) (hp : w.1 106 10 = iN p) (hpl : p ≤ L) : fX4_peek w = some (pkc f L p) := by
  unfold fX4_peek pkc
  rw [h.1, hp]
  by_cases c : p < L
  · rw [if_pos ((iN_lt (by omega) (by omega)).mpr c), inb_lt2 (by omega) (by omega), if_pos rfl, ri_iN (by omega), h.2.2.2.1 p c, if_pos c]
  · rw [if_neg (fun q => c ((iN_lt (by omega) (by omega)).mp q)), if_neg c]
theorem CG.adv {f : Nat → Int32} {L p : Nat} {w0 w : Wd} (h : CG f L w0 w) (hp : w.1 106 10 = iN p) (hpl : p < L) : CG f L w0 (si w 106 10 (w.1 106 10 + 1)) ∧ (si w 106 10 (w.1 106 10 + 1)).1 106 10 = iN (p + 1) := by
  obtain ⟨a1, a2, a3, a4, a5, a6, a7⟩ := h
  have e : (si w 106 10 (w.1 106 10 + 1)).1 106 10 = iN (p + 1) := by
    rw [si_at, hp]
    exact add_lit 1 p
  refine ⟨⟨?_, ⟨p + 1, by omega, e⟩, ?_, fun i hi => ?_, fun a h1 h2 => ?_, a6, ?_⟩, e⟩
  · rw [si_1, if_neg (by omega)]
    exact a1
  · rw [si_1, if_neg (by omega)]
    exact a3
  · rw [si_oth (by omega)]
    exact a4 i hi
  · rw [si_oth h1]
    exact a5 a h1 h2
  · rw [si_1, if_neg (by omega)]
    exact a7
theorem CS.adv {f : Nat → Int32} {L p : Nat} {c : List Int32} {w0 w : Wd} (h : CS f L p c w0 w) (hpl : p < L) : CS f L (p + 1) c w0 (si w 106 10 (w.1 106 10 + 1)) := by
  obtain ⟨a1, a2, a3, a4, a5, a6, a7⟩ := h
  obtain ⟨b1, b2⟩ := a1.adv a3 hpl
  refine ⟨b1, by omega, b2, ?_, ?_, by omega, fun i x hx => ?_⟩
  · rw [si_1, if_neg (by omega)]
    exact a4
  · rw [si_1, if_neg (by omega)]
    exact a5
  · rw [si_oth (by omega)]
    exact a7 i x hx
theorem CB.adv {f : Nat → Int32} {L p q : Nat} {w0 w : Wd} (h : CB f L q w0 w) (hp : w.1 106 10 = iN p) (hpl : p < L) : CB f L q w0 (si w 106 10 (w.1 106 10 + 1)) ∧ (si w 106 10 (w.1 106 10 + 1)).1 106 10 = iN (p + 1) := by
  obtain ⟨b1, b2⟩ := h.1.adv hp hpl
  refine ⟨⟨b1, ?_, h.2.2⟩, b2⟩
  rw [si_1, if_neg (by omega)]
  exact h.2.1
theorem CG.draft {f : Nat → Int32} {L k : Nat} {w0 w : Wd} {x : Int32} (h : CG f L w0 w) (hk : w.1 106 8 = iN k) (hk2 : k < 100) : fX4_draftStep x w = some (si (si w 111 k x) 106 8 (iN (k + 1))) ∧ CG f L w0 (si (si w 111 k x) 106 8 (iN (k + 1))) := by
  obtain ⟨a1, a2, a3, a4, a5, a6, a7⟩ := h
  constructor
  · unfold fX4_draftStep
    rw [hk, if_pos ((iN_lt_lit (by omega) (by omega)).mpr hk2), inb_lt2 (by omega) (by omega), if_pos rfl, nw_eq, nw_eq, wi_iN (by omega), si_oth (by omega), hk, add_lit]
  · refine ⟨?_, ?_, ⟨k + 1, by omega, si_at⟩, fun i hi => ?_, fun a h1 h2 => ?_, a6, ?_⟩
    · rw [si_1, if_neg (by omega), si_oth (by omega)]
      exact a1
    · rw [si_1, if_neg (by omega), si_oth (by omega)]
      exact a2
    · rw [si_oth (by omega), si_oth (by omega)]
      exact a4 i hi
    · rw [si_oth h1, si_oth h2]
      exact a5 a h1 h2
    · rw [si_1, if_neg (by omega), si_oth (by omega)]
      exact a7
theorem CS.draft {f : Nat → Int32} {L p : Nat} {c : List Int32} {w0 w : Wd} {x : Int32} (hL : L ≤ 100) (h : CS f L p c w0 w) (hc : c.length < p) : ∃ w', fX4_draftStep x w = some w' ∧ CS f L p (c ++ [x]) w0 w' := by
  obtain ⟨a1, a2, a3, a4, a5, a6, a7⟩ := h
  obtain ⟨b1, b2⟩ := a1.draft (x := x) a5 (by omega)
  refine ⟨_, b1, b2, a2, ?_, ?_, ?_, by simp; omega, fun i y hy => ?_⟩
  · rw [si_1, if_neg (by omega), si_oth (by omega)]
    exact a3
  · rw [si_1, if_neg (by omega), si_oth (by omega)]
    exact a4
  · rw [si_at, List.length_append]
    rfl
  · rw [si_oth (by omega), si_1]
    by_cases e : i < c.length
    · rw [if_neg (by omega)]
      rw [List.getElem?_append_left e] at hy
      exact a7 i y hy
    · rw [List.getElem?_append_right (by omega)] at hy
      have : i - c.length = 0 := by
        by_cases e2 : i - c.length = 0
        · exact e2
        · rw [List.getElem?_eq_none (by simp; omega)] at hy
          cases hy
      rw [this] at hy
      rw [if_pos ⟨rfl, by omega⟩]
      simpa using hy
theorem CB.draft {f : Nat → Int32} {L q : Nat} {w0 w : Wd} {x : Int32} (h : CB f L q w0 w) : ∃ w', fX4_draftStep x w = some w' ∧ CB f L q w0 w' ∧ w'.1 106 10 = w.1 106 10 := by
  obtain ⟨k, k1, k2⟩ := h.1.2.2.1
  by_cases c : k < 100
  · obtain ⟨b1, b2⟩ := h.1.draft (x := x) k2 c
    refine ⟨_, b1, ⟨b2, ?_, h.2.2⟩, ?_⟩
    · rw [si_1, if_neg (by omega), si_oth (by omega)]
      exact h.2.1
    · rw [si_1, if_neg (by omega), si_oth (by omega)]
  · refine ⟨w, ?_, h, rfl⟩
    unfold fX4_draftStep
    rw [k2, if_neg (fun e => c ((iN_lt_lit (by omega) (by omega)).mp e))]
theorem CS.fail {f : Nat → Int32} {L p : Nat} {c : List Int32} {w0 w : Wd} (hL : L ≤ 100) (h : CS f L p c w0 w) : ∃ w', fX4_fail w = some w' ∧ CB f L p w0 w' := by
  obtain ⟨⟨a1, a2, a3, a4, a5, a6, a7⟩, b2, b3, b4, -⟩ := h
  refine ⟨si w 106 11 (iN p), ?_, ⟨?_, ?_, ?_, fun i hi => ?_, fun a h1 h2 => ?_, a6, ?_⟩, si_at, by omega⟩
  · unfold fX4_fail
    rw [b4, if_pos (by decide), nw_eq, b3]
  · rw [si_1, if_neg (by omega)]
    exact a1
  · rw [si_1, if_neg (by omega)]
    exact a2
  · rw [si_1, if_neg (by omega)]
    exact a3
  · rw [si_oth (by omega)]
    exact a4 i hi
  · rw [si_oth h1]
    exact a5 a h1 h2
  · rw [si_1, if_neg (by omega)]
    exact a7
theorem CB.fail {f : Nat → Int32} {L q : Nat} {w0 w : Wd} (h : CB f L q w0 w) : fX4_fail w = some w := by
  unfold fX4_fail
  rw [h.2.1, if_neg (iN_nneg (by have := h.2.2; omega))]
