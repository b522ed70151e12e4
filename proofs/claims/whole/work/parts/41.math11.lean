-- MATHEMATICS: m78
theorem outK_f {k : Nat} {w2 : Wd} : outK (iN k) (false, w2) = some w2 := rfl
theorem outK_t {k : Nat} {w2 : Wd} {lv : Int32} (hk : k < 100) (hl : fX12_levelAt (w2.1 149 4300) w2 = some lv) : outK (iN k) (true, w2) = if lv < w2.1 149 (1500 + 10 * k + 7) then (fX12_isBack (w2.1 149 4300) (si (si (si w2 149 (1500 + 10 * k + 8) (w2.1 149 (1500 + 10 * k + 8) - mmin (w2.1 149 (1500 + 10 * k + 8)) (w2.1 149 (1500 + 10 * k + 6)))) 149 (1500 + 10 * k + 9) (w2.1 149 (1500 + 10 * k + 9) - mmin (w2.1 149 (1500 + 10 * k + 9)) (w2.1 149 (1500 + 10 * k + 6) - mmin (w2.1 149 (1500 + 10 * k + 8)) (w2.1 149 (1500 + 10 * k + 6))))) 149 4308 (w2.1 149 4308 + mmin (w2.1 149 (1500 + 10 * k + 9)) (w2.1 149 (1500 + 10 * k + 6) - mmin (w2.1 149 (1500 + 10 * k + 8)) (w2.1 149 (1500 + 10 * k + 6)))))).bind fun v_29 => some (si (si (si (si w2 149 (1500 + 10 * k + 8) (w2.1 149 (1500 + 10 * k + 8) - mmin (w2.1 149 (1500 + 10 * k + 8)) (w2.1 149 (1500 + 10 * k + 6)))) 149 (1500 + 10 * k + 9) (w2.1 149 (1500 + 10 * k + 9) - mmin (w2.1 149 (1500 + 10 * k + 9)) (w2.1 149 (1500 + 10 * k + 6) - mmin (w2.1 149 (1500 + 10 * k + 8)) (w2.1 149 (1500 + 10 * k + 6))))) 149 4308 (w2.1 149 4308 + mmin (w2.1 149 (1500 + 10 * k + 9)) (w2.1 149 (1500 + 10 * k + 6) - mmin (w2.1 149 (1500 + 10 * k + 8)) (w2.1 149 (1500 + 10 * k + 6))))) 149 (if v_29 = true then 4310 else 4309) (w2.1 149 (if v_29 = true then 4310 else 4309) + mmin (w2.1 149 (1500 + 10 * k + 8)) (w2.1 149 (1500 + 10 * k + 6)))) else some w2 := by
  unfold outK
  rw [if_pos rfl, mg_0, Option.bind_some]
  show ((fX12_levelAt (w2.1 149 4300) w2).bind _) = _
  rw [hl, Option.bind_some, hwr' (w := w2) hk (by decide), if_pos rfl, hri' hk (by decide)]
  by_cases q : lv < w2.1 149 (1500 + 10 * k + 7)
  · rw [if_pos q]
    refine Eq.trans ?_ (if_pos q).symm
    rw [hwr' (w := w2) hk (by decide), if_pos rfl, hri' hk (by decide), hri' hk (by decide), hri' hk (by decide), least_eq, Option.bind_some, least_eq, Option.bind_some, nw_eq, nw_eq, nw_eq, hwi' hk (by decide), hri' hk (by decide), hwi' hk (by decide), wi_lit (by decide), ri_lit (by decide), mg_0, Option.bind_some, z149 (show ¬ 1500 + 10 * k + 9 = 1500 + 10 * k + 8 by omega)]
    have y1 : ∀ (w : Wd) (x y z : Int32), (si (si (si w 149 (1500 + 10 * k + 8) x) 149 (1500 + 10 * k + 9) y) 149 4308 z).1 149 4300 = w.1 149 4300 := fun w x y z => by rw [z149 (by omega), z149 (by omega), z149 (by omega)]
    have y2 : ∀ (w : Wd) (x y : Int32), (si (si w 149 (1500 + 10 * k + 8) x) 149 (1500 + 10 * k + 9) y).1 149 4308 = w.1 149 4308 := fun w x y => by rw [z149 (by omega), z149 (by omega)]
    have y3 : ∀ (w : Wd) (x y z : Int32), (si (si (si w 149 (1500 + 10 * k + 8) x) 149 (1500 + 10 * k + 9) y) 149 4308 z).1 149 4310 = w.1 149 4310 := fun w x y z => by rw [z149 (by omega), z149 (by omega), z149 (by omega)]
    have y4 : ∀ (w : Wd) (x y z : Int32), (si (si (si w 149 (1500 + 10 * k + 8) x) 149 (1500 + 10 * k + 9) y) 149 4308 z).1 149 4309 = w.1 149 4309 := fun w x y z => by rw [z149 (by omega), z149 (by omega), z149 (by omega)]
    show ((fX12_isBack ((si (si (si w2 149 (1500 + 10 * k + 8) _) 149 (1500 + 10 * k + 9) _) 149 4308 ((si (si w2 149 (1500 + 10 * k + 8) _) 149 (1500 + 10 * k + 9) _).1 149 4308 + _)).1 149 4300) _).bind _) = _
    rw [y1, y2]
    congr 1
    funext v
    cases v
    · show nw (wi _ 149 4309 (ri _ 149 4309 + _)) _ = _
      rw [nw_eq, wi_lit (by decide), ri_lit (by decide)]
      show some (si (si (si (si w2 149 _ _) 149 _ _) 149 4308 _) 149 4309 ((si (si (si w2 149 (1500 + 10 * k + 8) _) 149 (1500 + 10 * k + 9) _) 149 4308 _).1 149 4309 + _)) = _
      rw [y4]
      rfl
    · show nw (wi _ 149 4310 (ri _ 149 4310 + _)) _ = _
      rw [nw_eq, wi_lit (by decide), ri_lit (by decide)]
      show some (si (si (si (si w2 149 _ _) 149 _ _) 149 4308 _) 149 4310 ((si (si (si w2 149 (1500 + 10 * k + 8) _) 149 (1500 + 10 * k + 9) _) 149 4308 _).1 149 4310 + _)) = _
      rw [y3]
      rfl
  · rw [if_neg q]
    exact (if_neg q).symm
theorem out_step {n k : Nat} {wc wm : Wd} {lv : Int32} (h : YY n wc wm) (hn : n ≤ 512) (hk : k < 100) (hlv : fX9_levelAt (wm.1 149 4300) wc = some lv) (f g : Nat) : ∃ wc' wm', fX1_openGates_19 (f + 1) lv (iN k) wc = fX1_openGates_19 f lv (iN (k + 1)) wc' ∧ fX12_hour_209 (g + 1) (iN k) wm = fX12_hour_209 g (iN (k + 1)) wm' ∧ YY n wc' wm' ∧ HF wc wm wc' wm' ∧ sameW (wm.1 149) (wm'.1 149) := by
  have k20 : wc.1 20 k = wm.1 149 (1500 + 10 * k) := h.1.hse (j := 0) hk (Or.inl rfl)
  have lk : iN k < 100 := (iN_lt_lit (by omega) (by omega)).mpr hk
  by_cases q1 : wm.1 149 (1500 + 10 * k) = 2
  · obtain ⟨F, R, wc1, wm1, hF, hR, e1, e2, e3, e4, e5⟩ := fill_eq h hn hk q1
    obtain ⟨b, wc2, wm2, a1, a2, a3, a4, a5, a6, a7⟩ := allow_eq e3 hk (cel_of e3 hn hk) 2
    have h149 : wm2.1 149 = wm1.1 149 := a5 149 (by omega) (by omega)
    have sw2 : sameW (wm.1 149) (wm2.1 149) := by
      rw [h149]
      exact e5
    have q2 : wm2.1 149 (1500 + 10 * k) = 2 := by rw [sw2 _ (by unfold wk; omega)]; exact q1
    have sill : wc1.1 27 k = wm2.1 149 (1500 + 10 * k + 7) := by
      rw [h149]
      exact e3.1.hse (j := 7) hk (Or.inr (Or.inr (Or.inr ⟨by omega, by omega, by rw [← h149]; exact q2⟩)))
    have hH : wm2.1 149 4300 = wm.1 149 4300 := sw2 4300 (by unfold wk; omega)
    have hour0 : 0 ≤ (wm.1 149 4300).toInt := h.1.2.2.2.2.2.1.1.1
    have hourM : (wm.1 149 4300).toInt ≤ 99999 := h.1.2.2.2.2.2.1.1.2
    obtain ⟨lv', l1, l2, -⟩ := level_eq h.2.2.2.1 (v := wm.1 149 4300) hour0
    obtain rfl : lv' = lv := by
      rw [hlv] at l1
      cases l1
      rfl
    have elv : fX12_levelAt (wm2.1 149 4300) wm2 = some lv' := by
      rw [hH, ← l2]
      unfold fX12_levelAt ri
      have z4 : wm2.1 148 4 = wm.1 148 4 := by rw [a7 4 (by omega), e4.2.2.2.2 4 (by omega) (by omega)]
      have z150 : wm2.1 150 = wm.1 150 := by rw [a5 150 (by omega) (by omega), e4.2.2.1 150 (by omega) (by omega) (by omega) (by omega)]
      rw [z4, z150]
    have mpre := outs_pre hk q1 hF hR
    rw [← e2, a2, Option.bind_some] at mpre
    have cpre : fX1_openGates_19 (f + 1) lv' (iN k) wc = if lv' < wm2.1 149 (1500 + 10 * k + 7) then (fX4_allow (2 : Int32) (iN k) wc1).bind fun v_6 => (
        if v_6.1 = true then (
          nw (si v_6.2 28 k ((v_6.2.1 28 k) - (mmin (v_6.2.1 28 k) (v_6.2.1 26 k)))) fun w_8 => (
          nw (si w_8 29 k ((w_8.1 29 k) - (mmin (v_6.2.1 29 k) ((v_6.2.1 26 k) - (mmin (v_6.2.1 28 k) (v_6.2.1 26 k)))))) fun w_9 => (
          nw (si w_9 14 8 ((w_9.1 14 8) + (mmin (v_6.2.1 29 k) ((v_6.2.1 26 k) - (mmin (v_6.2.1 28 k) (v_6.2.1 26 k)))))) fun w_10 => (
          (fX9_bringsBack (w_10.1 1 6) w_10).bind fun v_11 => (
          if v_11 = true then (
            nw (si w_10 14 10 ((w_10.1 14 10) + (mmin (v_6.2.1 28 k) (v_6.2.1 26 k)))) fun w_13 => (
            fX1_openGates_19 f lv' (iN (k + 1)) w_13))
          else (
            nw (si w_10 14 9 ((w_10.1 14 9) + (mmin (v_6.2.1 28 k) (v_6.2.1 26 k)))) fun w_14 => (
            fX1_openGates_19 f lv' (iN (k + 1)) w_14)))))))
        else fX1_openGates_19 f lv' (iN (k + 1)) v_6.2) else fX1_openGates_19 f lv' (iN (k + 1)) wc1 := by
      rw [fX1_openGates_19, if_pos lk, inb_lt2 hk (by omega), if_pos rfl, ri_iN (by omega), k20, if_pos q1, e1, Option.bind_some, ri_iN (by omega), sill, add_lit]
      simp only [ri_iN (show k < 2147483648 by omega), wi_iN (show k < 2147483648 by omega)]
    have mtop : ∀ w', outK (iN k) (b, wm2) = some w' → fX12_hour_209 (g + 1) (iN k) wm = fX12_hour_209 g (iN (k + 1)) w' := fun w' hw' => by
      rw [fX12_hour_209, if_pos lk, mpre, hw', Option.bind_some, add_lit]
    have hfm : HF wc1 wm1 wc1 wm2 := ⟨fun _ _ _ => rfl, fun _ _ => rfl, fun a _ _ q3 q4 => a5 a q3 q4, a6, fun j _ q => a7 j q⟩
    have hf2 : HF wc1 wm1 wc2 wm2 := hf_allow a4 a5 a6 a7
    by_cases q3 : lv' < wm2.1 149 (1500 + 10 * k + 7)
    · cases b
      · refine ⟨wc2, wm2, ?_, mtop wm2 outK_f, a3, e4.trans hf2, sw2⟩
        rw [cpre, if_pos q3, a1, Option.bind_some, if_neg (by simp)]
      · have k28 : wc2.1 28 k = wm2.1 149 (1500 + 10 * k + 8) := a3.1.hse (j := 8) hk (Or.inr (Or.inl ⟨by omega, by omega⟩))
        have k29 : wc2.1 29 k = wm2.1 149 (1500 + 10 * k + 9) := a3.1.hse (j := 9) hk (Or.inr (Or.inl ⟨by omega, by omega⟩))
        have k26 : wc2.1 26 k = wm2.1 149 (1500 + 10 * k + 6) := a3.1.hse (j := 6) hk (Or.inr (Or.inr (Or.inr ⟨by omega, by omega, q2⟩)))
        have s8 : wc2.1 14 8 = wm2.1 149 4308 := a3.1.scal (j := 8) (by omega)
        have s9 : wc2.1 14 9 = wm2.1 149 4309 := a3.1.scal (j := 9) (by omega)
        have s10 : wc2.1 14 10 = wm2.1 149 4310 := a3.1.scal (j := 10) (by omega)
        have sh : wc2.1 1 6 = wm2.1 149 4300 := a3.1.hour
        obtain ⟨F', hF'⟩ : ∃ F', F' = mmin (wm2.1 149 (1500 + 10 * k + 8)) (wm2.1 149 (1500 + 10 * k + 6)) := ⟨_, rfl⟩
        obtain ⟨R', hR'⟩ : ∃ R', R' = mmin (wm2.1 149 (1500 + 10 * k + 9)) (wm2.1 149 (1500 + 10 * k + 6) - F') := ⟨_, rfl⟩
        let w10 := si (si (si wc2 28 k (wm2.1 149 (1500 + 10 * k + 8) - F')) 29 k (wm2.1 149 (1500 + 10 * k + 9) - R')) 14 8 (wm2.1 149 4308 + R')
        let m10 := si (si (si wm2 149 (1500 + 10 * k + 8) (wm2.1 149 (1500 + 10 * k + 8) - F')) 149 (1500 + 10 * k + 9) (wm2.1 149 (1500 + 10 * k + 9) - R')) 149 4308 (wm2.1 149 4308 + R')
        have o10 : ∀ a, ¬ a = 28 → ¬ a = 29 → ¬ a = 14 → w10.1 a = wc2.1 a := fun a z1 z2 z3 => by
          show (si (si (si wc2 _ _ _) _ _ _) _ _ _).1 a = _
          rw [si_oth z3, si_oth z2, si_oth z1]
        have om10 : ∀ a, ¬ a = 149 → m10.1 a = wm2.1 a := fun a z1 => by
          show (si (si (si wm2 _ _ _) _ _ _) _ _ _).1 a = _
          rw [si_oth z1, si_oth z1, si_oth z1]
        have yd : YD w10 m10 := a3.2.2.2.1.cong (o10 100 (by omega) (by omega) (by omega)) (o10 101 (by omega) (by omega) (by omega)) (by rw [om10 148 (by omega)]) (om10 150 (by omega))
        obtain ⟨bb, bb1, bb2⟩ := back_eq yd (v := wm2.1 149 4300) (by rw [hH]; exact hour0) (by rw [hH]; omega)
        obtain ⟨F2, R2, wc3, wm3, g1, g2, g3, g4, g5, g6, g7⟩ := gate_eq (b := bb) a3 hn hk q2
        rw [← hF'] at g1
        subst g1
        rw [← hR'] at g2
        subst g2
        refine ⟨wc3, wm3, ?_, mtop wm3 ?_, g5, e4.trans (hf2.trans g6), sw2.trans g7⟩
        · rw [cpre, if_pos q3, a1, Option.bind_some, if_pos rfl]
          show nw (si wc2 28 k (wc2.1 28 k - mmin (wc2.1 28 k) (wc2.1 26 k))) (fun w_8 => nw (si w_8 29 k (w_8.1 29 k - mmin (wc2.1 29 k) (wc2.1 26 k - mmin (wc2.1 28 k) (wc2.1 26 k)))) (fun w_9 => nw (si w_9 14 8 (w_9.1 14 8 + mmin (wc2.1 29 k) (wc2.1 26 k - mmin (wc2.1 28 k) (wc2.1 26 k)))) (fun w_10 => (fX9_bringsBack (w_10.1 1 6) w_10).bind fun v_11 => if v_11 = true then nw (si w_10 14 10 (w_10.1 14 10 + mmin (wc2.1 28 k) (wc2.1 26 k))) (fun w_13 => fX1_openGates_19 f lv' (iN (k + 1)) w_13) else nw (si w_10 14 9 (w_10.1 14 9 + mmin (wc2.1 28 k) (wc2.1 26 k))) (fun w_14 => fX1_openGates_19 f lv' (iN (k + 1)) w_14)))) = _
          rw [k28, k26, k29, ← hF', ← hR', nw_eq, nw_eq, nw_eq, si_oth (show ¬ 29 = 28 by omega), k29, si_oth (show ¬ 14 = 29 by omega), si_oth (show ¬ 14 = 28 by omega), s8]
          show (fX9_bringsBack (w10.1 1 6) w10).bind _ = _
          rw [o10 1 (by omega) (by omega) (by omega), sh]
          have bb1' : fX9_bringsBack (wm2.1 149 4300) w10 = some bb := bb1
          rw [bb1', Option.bind_some]
          have t9 : w10.1 14 9 = wm2.1 149 4309 := by
            show (si (si (si wc2 _ _ _) _ _ _) 14 8 _).1 14 9 = _
            rw [si_1, if_neg (by omega), si_oth (by omega), si_oth (by omega), s9]
          have t10 : w10.1 14 10 = wm2.1 149 4310 := by
            show (si (si (si wc2 _ _ _) _ _ _) 14 8 _).1 14 10 = _
            rw [si_1, if_neg (by omega), si_oth (by omega), si_oth (by omega), s10]
          rw [g3]
          cases bb
          · rw [if_neg (by simp), nw_eq, t9]
            rfl
          · rw [if_pos rfl, nw_eq, t10]
            rfl
        · rw [outK_t hk elv, if_pos q3, ← hF', ← hR']
          have bb2' : fX12_isBack (wm2.1 149 4300) m10 = some bb := bb2
          show (fX12_isBack (wm2.1 149 4300) m10).bind _ = _
          rw [bb2', Option.bind_some, g4]
    · refine ⟨wc1, wm2, ?_, mtop wm2 ?_, a3.any (wc' := wc1) a4.1.symm (fun a ha => (a4.2 a ha).symm) (fun _ _ _ _ _ => rfl) rfl (fun _ _ _ => rfl), e4.trans hfm, sw2⟩
      · rw [cpre, if_neg q3]
      · cases b
        · rfl
        · rw [outK_t hk elv, if_neg q3]
  · refine ⟨wc, wm, ?_, ?_, h, HF.refl, sameW.refl⟩
    · rw [fX1_openGates_19, if_pos lk, inb_lt2 hk (by omega), if_pos rfl, ri_iN (by omega), k20, if_neg q1, add_lit]
    · have : fX12_outs (iN k) wm = some wm := by
        unfold fX12_outs
        rw [hwr' (w := wm) (j := 0) hk (by decide), if_pos rfl, hri' (j := 0) hk (by decide)]
        show (if wm.1 149 (1500 + 10 * k) = 2 then _ else some wm) = _
        rw [if_neg q1]
      rw [fX12_hour_209, if_pos lk, this, Option.bind_some, add_lit]
-- MATHEMATICS: m79
theorem hold_mid {cnt : Nat} {cb : Nat → Bool} {fl : Nat → Option (Nat × Nat)} {n c : Nat} {wc wm : Wd} (h : CX cnt cb fl wc wm) (hY : YY n wc wm) (hc : c < 100) : ∃ w1, fX12_hold (iN c) wm = some ((LdV (wm.1 149) (fl c) c).2.2, w1) ∧ HF wc wm wc w1 ∧ w1.1 149 = wm.1 149 := by
  have h0 := h
  obtain ⟨h1, h2, h3, h4, h5⟩ := h
  have hcar := carrying_m (c := c) hY h1 h2 h3 cnt 0 FU (by omega) (by unfold FU; omega)
  rw [show iN 0 = 0 from rfl, h4 c hc] at hcar
  have hcar' : fX12_carrying (iN c) wm = _ := hcar
  unfold fX12_hold
  rw [hcar', Option.bind_some]
  cases e : fl c with
  | none =>
    show ∃ w1, ((fX12_c (iN c) 8 wm).bind fun v_2 => if (-1 : Int32) = -1 then _ else _) = _ ∧ _
    rw [mc_8 hc, Option.bind_some, if_pos rfl, Int32.add_zero]
    exact ⟨wm, rfl, HF.refl, rfl⟩
  | some p =>
    obtain ⟨m, i⟩ := p
    obtain ⟨q1, q2, q3, q4, q5⟩ := h0.lt hY hc e
    have o2 : (si wm 148 10 (iN i)).1 149 = wm.1 149 := si_oth (by omega)
    show ∃ w1, ((fX12_c (iN c) 8 (si wm 148 10 (iN i))).bind fun v_2 => if iN m = -1 then _ else _) = _ ∧ _
    rw [mc_8 hc, Option.bind_some, if_neg (iN_ne1 (by omega)), o2]
    show ∃ w1, ((fX12_l (iN m) 1 (si wm 148 10 (iN i))).bind _) = _ ∧ _
    rw [ml_1 (by omega), Option.bind_some, o2]
    exact ⟨_, rfl, HF.mput (by omega), o2⟩
theorem mmin_comm (a b : Int32) : mmin a b = mmin b a := by
  rw [eq_I, mmin_I, mmin_I]
  split <;> split <;> omega
theorem lmin_I (a b : Int64) : (lmin a b).toInt = if b.toInt < a.toInt then b.toInt else a.toInt := by
  unfold lmin
  by_cases q : b < a
  · rw [if_pos q, if_pos (llt_I.mp q)]
  · rw [if_neg q, if_neg (fun e => q (llt_I.mpr e))]
theorem l2i {a : Int64} (h0 : -2147483648 ≤ a.toInt) (h1 : a.toInt < 2147483648) : a.toInt32.toInt = a.toInt := by
  rw [Int64.toInt_toInt32]
  exact Int.bmod_eq_of_le (by omega) (by omega)
def clS (S : Nat → Int32) (c : Nat) (x9 x10 x11 x12 : Int32) : Nat → Int32 := upd (upd (frS S c x9 x10) (15 * c + 11) x11) (15 * c + 12) x12
theorem clS_inv {S : Nat → Int32} {n c : Nat} {x9 x10 x11 x12 : Int32} (h : Inv S n) (hn : n ≤ 512) (hc : c < 100) (h9 : 0 ≤ x9.toInt) (h10 : 0 ≤ x10.toInt) (h11 : 0 ≤ x11.toInt) (h12 : 0 ≤ x12.toInt) (hs : x9.toInt + x10.toInt + x11.toInt + x12.toInt = (S (15 * c + 9)).toInt + (S (15 * c + 10)).toInt + (S (15 * c + 11)).toInt + (S (15 * c + 12)).toInt) : Inv (clS S c x9 x10 x11 x12) n ∧ sameW S (clS S c x9 x10 x11 x12) := by
  have o : ∀ k, ¬ (15 * c + 9 ≤ k ∧ k ≤ 15 * c + 12) → clS S c x9 x10 x11 x12 k = S k := fun k q => by
    unfold clS
    rw [upd_ne (by omega), upd_ne (by omega), frS_o (by omega) (by omega)]
  have v9 : clS S c x9 x10 x11 x12 (15 * c + 9) = x9 := by
    unfold clS
    rw [upd_ne (by omega), upd_ne (by omega), frS_9, if_pos rfl]
  have v10 : clS S c x9 x10 x11 x12 (15 * c + 10) = x10 := by
    unfold clS
    rw [upd_ne (by omega), upd_ne (by omega), frS_10, if_pos rfl]
  have v11 : clS S c x9 x10 x11 x12 (15 * c + 11) = x11 := by
    unfold clS
    rw [upd_ne (by omega), upd_eq]
  have v12 : clS S c x9 x10 x11 x12 (15 * c + 12) = x12 := by
    unfold clS
    rw [upd_eq]
  have sw : sameW S (clS S c x9 x10 x11 x12) := ((frS_w hc).put (by unfold wk; omega)).put (by unfold wk; omega)
  refine ⟨h.wat sw hn (fun q hq => (h.2.1.1 q hq).cong (fun j hj => o _ (by omega))) (fun q hq => ?_), sw⟩
  obtain ⟨⟨m1, m2, m3, m4⟩, m5, m6⟩ := h.pot hq
  have hco : coalZ (clS S c x9 x10 x11 x12) = coalZ S := coalZ_cong (fun k _ _ => o k (by omega))
  unfold pot wtr at m5
  unfold nnW pot wtr
  rw [hco, o (1508 + 10 * q) (by omega), o (1509 + 10 * q) (by omega)]
  by_cases e : q = c
  · subst e
    rw [v9, v10, v11, v12]
    exact ⟨⟨h9, h10, h11, h12⟩, by omega⟩
  · rw [o (15 * q + 9) (by omega), o (15 * q + 10) (by omega), o (15 * q + 11) (by omega), o (15 * q + 12) (by omega)]
    exact ⟨⟨m1, m2, m3, m4⟩, m5⟩
theorem rise_step {cnt : Nat} {cb : Nat → Bool} {fl : Nat → Option (Nat × Nat)} {n k : Nat} {wc wm : Wd} (h : YY n wc wm) (hx : CX cnt cb fl wc wm) (hn : n ≤ 512) (hk : k < 100) (f g : Nat) : ∃ wc' wm', fX1_fillCellars_2 (f + 1) (iN k) wc = fX1_fillCellars_2 f (iN (k + 1)) wc' ∧ fX12_hour_228 (g + 1) (iN k) wm = fX12_hour_228 g (iN (k + 1)) wm' ∧ YY n wc' wm' ∧ HF wc wm wc' wm' ∧ sameW (wm.1 149) (wm'.1 149) := by
  have hI := h.1.2.2
  have lk : iN k < 100 := (iN_lt_lit (by omega) (by omega)).mpr hk
  obtain ⟨w1, b1, b2, b3⟩ := hold_mid hx h hk
  obtain ⟨-, -, d3⟩ := hx.2.2.2.2 k hk
  have hH := LdV_rng (o := fl k) h.1 hk hx.1 hx.2.1 (fun m i e => (hx.lt h hk e).1)
  obtain ⟨H, eH⟩ : ∃ H, H = (LdV (wm.1 149) (fl k) k).2.2 := ⟨_, rfl⟩
  rw [← eH] at b1 d3 hH
  have r15 : wc.1 15 k = wm.1 149 (15 * k + 9) := h.1.row (j := 9) hk (by omega)
  have r16 : wc.1 16 k = wm.1 149 (15 * k + 10) := h.1.row (j := 10) hk (by omega)
  have r17 : wc.1 17 k = wm.1 149 (15 * k + 11) := h.1.row (j := 11) hk (by omega)
  have r18 : wc.1 18 k = wm.1 149 (15 * k + 12) := h.1.row (j := 12) hk (by omega)
  obtain ⟨⟨n1, n2, n3, n4⟩, n5, n6⟩ := hI.pot hk
  have hour := hI.2.2.2.1.1.2
  have hcoal := coal_nn hI.2.1
  have t8 : 0 ≤ (wm.1 149 (1508 + 10 * k)).toInt := by
    have := (hI.2.1.1 k hk).2.1.1
    rw [show 1508 + 10 * k = 1500 + 10 * k + 8 by omega]
    exact this
  have t9 : 0 ≤ (wm.1 149 (1509 + 10 * k)).toInt := by
    have := (hI.2.1.1 k hk).2.2.1.1
    rw [show 1509 + 10 * k = 1500 + 10 * k + 9 by omega]
    exact this
  have hpd := n5
  unfold pot wtr at hpd
  have o1 : (wm.1 149 (15 * k + 9) + wm.1 149 (15 * k + 10)).toInt = (wm.1 149 (15 * k + 9)).toInt + (wm.1 149 (15 * k + 10)).toInt := add_I (by omega) (by omega)
  obtain ⟨O, hO⟩ : ∃ O, O = wm.1 149 (15 * k + 9) + wm.1 149 (15 * k + 10) - H := ⟨_, rfl⟩
  have o2 : O.toInt = (wm.1 149 (15 * k + 9)).toInt + (wm.1 149 (15 * k + 10)).toInt - H.toInt := by
    rw [hO, sub_I (by rw [o1]; omega) (by rw [o1]; omega), o1]
  obtain ⟨P, hP⟩ : ∃ P, P = (wm.1 149 (15 * k + 9)).toInt64 + (wm.1 149 (15 * k + 10)).toInt64 - H.toInt64 := ⟨_, rfl⟩
  have o3 : P.toInt = (wm.1 149 (15 * k + 9)).toInt + (wm.1 149 (15 * k + 10)).toInt - H.toInt := by
    have e1 : ((wm.1 149 (15 * k + 9)).toInt64 + (wm.1 149 (15 * k + 10)).toInt64).toInt = (wm.1 149 (15 * k + 9)).toInt + (wm.1 149 (15 * k + 10)).toInt := by
      rw [ladd_I (by rw [Int32.toInt_toInt64, Int32.toInt_toInt64]; omega) (by rw [Int32.toInt_toInt64, Int32.toInt_toInt64]; omega), Int32.toInt_toInt64, Int32.toInt_toInt64]
    rw [hP, lsub_I (by rw [e1, Int32.toInt_toInt64]; omega) (by rw [e1, Int32.toInt_toInt64]; omega), e1, Int32.toInt_toInt64]
  have hdr : fX10_inDrain (iN k) wc = some ((wm.1 149 (15 * k + 9)).toInt64 + (wm.1 149 (15 * k + 10)).toInt64) := by
    unfold fX10_inDrain
    rw [inb_lt2 hk (by omega), if_pos rfl, ri_iN (by omega), ri_iN (by omega), r15, r16]
  have ec : ∀ (j : Nat) (w : Wd), (OfNat.ofNat j : Nat) < 15 → w.1 149 = wm.1 149 → fX12_c (iN k) (OfNat.ofNat j : Int32) w = some (wm.1 149 (15 * k + (OfNat.ofNat j : Nat))) := fun j w q hw => by rw [← hw]; exact mc_j hk q
  have fin : ∀ x9 x10 x11 x12 : Int32, 0 ≤ x9.toInt → 0 ≤ x10.toInt → 0 ≤ x11.toInt → 0 ≤ x12.toInt → x9.toInt + x10.toInt + x11.toInt + x12.toInt = (wm.1 149 (15 * k + 9)).toInt + (wm.1 149 (15 * k + 10)).toInt + (wm.1 149 (15 * k + 11)).toInt + (wm.1 149 (15 * k + 12)).toInt → ∀ wm', wm'.1 149 = clS (wm.1 149) k x9 x10 x11 x12 → HF wc wm wc wm' → YY n (si (si (si (si wc 15 k x9) 16 k x10) 17 k x11) 18 k x12) wm' ∧ HF wc wm (si (si (si (si wc 15 k x9) 16 k x10) 17 k x11) 18 k x12) wm' ∧ sameW (wm.1 149) (wm'.1 149) := by
    intro x9 x10 x11 x12 p1 p2 p3 p4 p5 wm' hrow hfm
    obtain ⟨inv, sw⟩ := clS_inv hI hn hk p1 p2 p3 p4 p5
    have hf : HF wc wm (si (si (si (si wc 15 k x9) 16 k x10) 17 k x11) 18 k x12) wm' := hfm.trans (((HF.cput (by omega)).trans (HF.cput (by omega))).trans ((HF.cput (by omega)).trans (HF.cput (by omega))))
    refine ⟨h.hf hf ?_, hf, by rw [hrow]; exact sw⟩
    rw [hrow]
    exact AU.yc (((h.1.au.fr hk).put (by unfold softK; omega) (loc_row (j := 11) hk (by omega))).put (by unfold softK; omega) (loc_row (j := 12) hk (by omega))) inv
  have ctop : fX1_fillCellars_2 (f + 1) (iN k) wc = if (0 : Int64) < P then fX1_fillCellars_95 (fX1_fillCellars_2 f) (iN k) ((P - ((lmin P ((wm.1 149 (15 * k + 10)).toInt64)).toInt32).toInt64).toInt32) ((lmin P ((wm.1 149 (15 * k + 10)).toInt64)).toInt32) wc else fX1_fillCellars_95 (fX1_fillCellars_2 f) (iN k) (-(mmin ((lmin (-P) (5 : Int64)).toInt32) (wm.1 149 (15 * k + 11)))) (-(mmin ((lmin (-P) (5 : Int64)).toInt32 + (-(mmin ((lmin (-P) (5 : Int64)).toInt32) (wm.1 149 (15 * k + 11))))) (wm.1 149 (15 * k + 12)))) wc := by
    rw [fX1_fillCellars_2, if_pos lk, hdr, Option.bind_some, inb_lt2 hk (by omega), if_pos rfl]
    simp only [ri_iN (show k < 2147483648 by omega)]
    rw [d3, r16, r17, r18, ← hP]
  have c95 : ∀ v5 v6, fX1_fillCellars_95 (fX1_fillCellars_2 f) (iN k) v5 v6 wc = fX1_fillCellars_2 f (iN (k + 1)) (si (si (si (si wc 15 k (wm.1 149 (15 * k + 9) - v5)) 16 k (wm.1 149 (15 * k + 10) - v6)) 17 k (wm.1 149 (15 * k + 11) + v5)) 18 k (wm.1 149 (15 * k + 12) + v6)) := fun v5 v6 => by
    unfold fX1_fillCellars_95
    rw [inb_lt2 hk (by omega), if_pos rfl, nw_eq, nw_eq, nw_eq, nw_eq, wi_iN (by omega), wi_iN (by omega), wi_iN (by omega), wi_iN (by omega), ri_iN (by omega), ri_iN (by omega), ri_iN (by omega), ri_iN (by omega), add_lit, r15, si_oth (show ¬ 16 = 15 by omega), r16, si_oth (show ¬ 17 = 16 by omega), si_oth (show ¬ 17 = 15 by omega), r17, si_oth (show ¬ 18 = 17 by omega), si_oth (show ¬ 18 = 16 by omega), si_oth (show ¬ 18 = 15 by omega), r18]
  have mtop : ∀ w', fX12_rises (iN k) wm = some w' → fX12_hour_228 (g + 1) (iN k) wm = fX12_hour_228 g (iN (k + 1)) w' := fun w' e => by
    rw [fX12_hour_228, if_pos lk, e, Option.bind_some, add_lit]
  by_cases q : 0 < (wm.1 149 (15 * k + 9)).toInt + (wm.1 149 (15 * k + 10)).toInt - H.toInt
  · -- the hold runs over
    obtain ⟨R, hR⟩ : ∃ R, R = mmin (wm.1 149 (15 * k + 10)) O := ⟨_, rfl⟩
    have R1 : 0 ≤ R.toInt ∧ R.toInt ≤ (wm.1 149 (15 * k + 10)).toInt ∧ R.toInt ≤ O.toInt ∧ (R.toInt = (wm.1 149 (15 * k + 10)).toInt ∨ R.toInt = O.toInt) := by
      rw [hR, mmin_I]
      split <;> omega
    have eR : (lmin P ((wm.1 149 (15 * k + 10)).toInt64)).toInt32 = R := by
      have e1 : (lmin P ((wm.1 149 (15 * k + 10)).toInt64)).toInt = R.toInt := by
        rw [lmin_I, Int32.toInt_toInt64, hR, mmin_I, o2, o3]
        split <;> split <;> omega
      rw [eq_I, l2i (by rw [e1]; omega) (by rw [e1]; omega), e1]
    have eF : (P - R.toInt64).toInt32 = O - R := by
      have e1 : (P - R.toInt64).toInt = O.toInt - R.toInt := by
        rw [lsub_I (by rw [Int32.toInt_toInt64]; omega) (by rw [Int32.toInt_toInt64]; omega), Int32.toInt_toInt64]
        omega
      rw [eq_I, l2i (by rw [e1]; omega) (by rw [e1]; omega), e1, sub_I (by omega) (by omega)]
    have s0 : (O - R).toInt = O.toInt - R.toInt := sub_I (by omega) (by omega)
    have s1 : (wm.1 149 (15 * k + 9) - (O - R)).toInt = (wm.1 149 (15 * k + 9)).toInt - (O.toInt - R.toInt) := by rw [sub_I (by rw [s0]; omega) (by rw [s0]; omega), s0]
    have s2 : (wm.1 149 (15 * k + 10) - R).toInt = (wm.1 149 (15 * k + 10)).toInt - R.toInt := sub_I (by omega) (by omega)
    have s3 : (wm.1 149 (15 * k + 11) + (O - R)).toInt = (wm.1 149 (15 * k + 11)).toInt + (O.toInt - R.toInt) := by rw [add_I (by rw [s0]; omega) (by rw [s0]; omega), s0]
    have s4 : (wm.1 149 (15 * k + 12) + R).toInt = (wm.1 149 (15 * k + 12)).toInt + R.toInt := add_I (by omega) (by omega)
    have hm : fX12_rises (iN k) wm = some (si (si (si (si w1 149 (15 * k + 10) (wm.1 149 (15 * k + 10) - R)) 149 (15 * k + 12) (wm.1 149 (15 * k + 12) + R)) 149 (15 * k + 9) (wm.1 149 (15 * k + 9) - (O - R))) 149 (15 * k + 11) (wm.1 149 (15 * k + 11) + (O - R))) := by
      unfold fX12_rises
      rw [ec 9 wm (by decide) rfl, ec 10 wm (by decide) rfl, Option.bind_some, Option.bind_some, b1, Option.bind_some]
      show (if 0 < wm.1 149 (15 * k + 9) + wm.1 149 (15 * k + 10) - H then _ else _) = _
      have lO : 0 < O := by rw [lt_I, o2]; exact q
      rw [← hO, if_pos lO]
      show ((fX12_c (iN k) 10 w1).bind _) = _
      rw [ec 10 w1 (by decide) b3, Option.bind_some, least_eq, Option.bind_some]
      show (if inb _ 4340 = true then nw (wi w1 149 _ (_ - mmin (wm.1 149 (15 * k + 10)) O)) _ else none) = _
      rw [← hR, mci hk (by decide), if_pos rfl, nw_eq, mcw (by decide) hk, mcr (by decide) hk, mci hk (by decide), if_pos rfl, nw_eq, mcw (by decide) hk, mcr (by decide) hk, mci hk (by decide), if_pos rfl, nw_eq, mcw (by decide) hk, mcr (by decide) hk, mci hk (by decide), if_pos rfl, nw_eq, mcw (by decide) hk, mcr (by decide) hk]
      rw [z149 (show ¬ 15 * k + 12 = 15 * k + 10 by omega), z149 (show ¬ 15 * k + 9 = 15 * k + 12 by omega), z149 (show ¬ 15 * k + 9 = 15 * k + 10 by omega), z149 (show ¬ 15 * k + 11 = 15 * k + 9 by omega), z149 (show ¬ 15 * k + 11 = 15 * k + 12 by omega), z149 (show ¬ 15 * k + 11 = 15 * k + 10 by omega), b3]
    obtain ⟨y1, y2, y3⟩ := fin (wm.1 149 (15 * k + 9) - (O - R)) (wm.1 149 (15 * k + 10) - R) (wm.1 149 (15 * k + 11) + (O - R)) (wm.1 149 (15 * k + 12) + R) (by rw [s1]; omega) (by rw [s2]; omega) (by rw [s3]; omega) (by rw [s4]; omega) (by rw [s1, s2, s3, s4]; omega) _ (by
      show (si (si (si (si w1 149 (15 * k + 10) (wm.1 149 (15 * k + 10) - R)) 149 (15 * k + 12) (wm.1 149 (15 * k + 12) + R)) 149 (15 * k + 9) (wm.1 149 (15 * k + 9) - (O - R))) 149 (15 * k + 11) (wm.1 149 (15 * k + 11) + (O - R))).1 149 = _
      rw [si_row, si_row, si_row, si_row, b3]
      unfold clS frS
      rw [upd_comm (i := 15 * k + 12) (j := 15 * k + 9) (by omega), upd_comm (i := 15 * k + 10) (j := 15 * k + 9) (by omega), upd_comm (i := 15 * k + 12) (j := 15 * k + 11) (by omega)]) (b2.trans (((HF.mput (by omega)).trans (HF.mput (by omega))).trans ((HF.mput (by omega)).trans (HF.mput (by omega)))))
    refine ⟨_, _, ?_, mtop _ hm, y1, y2, y3⟩
    have lP : (0 : Int64) < P := by rw [llt_I, lz_I, o3]; exact q
    rw [ctop, if_pos lP, eR, eF, c95]
  · -- the hold takes back
    obtain ⟨B, hB⟩ : ∃ B, B = mmin (-O) 5 := ⟨_, rfl⟩
    have nO : (-O).toInt = -O.toInt := neg_I (by omega)
    have i5 : (5 : Int32).toInt = 5 := rfl
    have B1 : 0 ≤ B.toInt ∧ B.toInt ≤ 5 ∧ B.toInt ≤ -O.toInt := by
      rw [hB, mmin_I, nO, i5]
      split <;> omega
    have eB : (lmin (-P) 5).toInt32 = B := by
      have e0 : (-P).toInt = -P.toInt := by
        rw [Int64.toInt_neg]
        exact Int.bmod_eq_of_le (by omega) (by omega)
      have e1 : (lmin (-P) 5).toInt = B.toInt := by
        rw [lmin_I, e0, show (5 : Int64).toInt = 5 from rfl, hB, mmin_I, nO, i5, o2, o3]
      rw [eq_I, l2i (by rw [e1]; omega) (by rw [e1]; omega), e1]
    obtain ⟨F, hF⟩ : ∃ F, F = mmin (wm.1 149 (15 * k + 11)) B := ⟨_, rfl⟩
    have F1 : 0 ≤ F.toInt ∧ F.toInt ≤ (wm.1 149 (15 * k + 11)).toInt ∧ F.toInt ≤ B.toInt := by
      rw [hF, mmin_I]
      split <;> omega
    have mF : (B - F).toInt = B.toInt - F.toInt := sub_I (by omega) (by omega)
    obtain ⟨R, hR⟩ : ∃ R, R = mmin (wm.1 149 (15 * k + 12)) (B - F) := ⟨_, rfl⟩
    have R1 : 0 ≤ R.toInt ∧ R.toInt ≤ (wm.1 149 (15 * k + 12)).toInt ∧ R.toInt ≤ B.toInt - F.toInt := by
      rw [hR, mmin_I, mF]
      split <;> omega
    have s1 : (wm.1 149 (15 * k + 9) + F).toInt = (wm.1 149 (15 * k + 9)).toInt + F.toInt := add_I (by omega) (by omega)
    have s2 : (wm.1 149 (15 * k + 10) + R).toInt = (wm.1 149 (15 * k + 10)).toInt + R.toInt := add_I (by omega) (by omega)
    have s3 : (wm.1 149 (15 * k + 11) - F).toInt = (wm.1 149 (15 * k + 11)).toInt - F.toInt := sub_I (by omega) (by omega)
    have s4 : (wm.1 149 (15 * k + 12) - R).toInt = (wm.1 149 (15 * k + 12)).toInt - R.toInt := sub_I (by omega) (by omega)
    have hm : fX12_rises (iN k) wm = some (si (si (si (si w1 149 (15 * k + 11) (wm.1 149 (15 * k + 11) - F)) 149 (15 * k + 12) (wm.1 149 (15 * k + 12) - R)) 149 (15 * k + 9) (wm.1 149 (15 * k + 9) + F)) 149 (15 * k + 10) (wm.1 149 (15 * k + 10) + R)) := by
      unfold fX12_rises
      rw [ec 9 wm (by decide) rfl, ec 10 wm (by decide) rfl, Option.bind_some, Option.bind_some, b1, Option.bind_some]
      show (if 0 < wm.1 149 (15 * k + 9) + wm.1 149 (15 * k + 10) - H then _ else _) = _
      have lO : ¬ 0 < O := by rw [lt_I, o2]; exact q
      rw [← hO, if_neg lO]
      show ((fX12_least (-O) 5 w1).bind _) = _
      rw [least_eq, Option.bind_some, ← hB, ec 11 w1 (by decide) b3, Option.bind_some, least_eq, Option.bind_some]
      show ((fX12_c (iN k) 12 w1).bind _) = _
      rw [ec 12 w1 (by decide) b3, Option.bind_some]
      show ((fX12_least (wm.1 149 (15 * k + 12)) (B - mmin (wm.1 149 (15 * k + 11)) B) w1).bind _) = _
      rw [← hF, least_eq, Option.bind_some, ← hR, mci hk (by decide), if_pos rfl, nw_eq, mcw (by decide) hk, mcr (by decide) hk, mci hk (by decide), if_pos rfl, nw_eq, mcw (by decide) hk, mcr (by decide) hk, mci hk (by decide), if_pos rfl, nw_eq, mcw (by decide) hk, mcr (by decide) hk, mci hk (by decide), if_pos rfl, nw_eq, mcw (by decide) hk, mcr (by decide) hk]
      rw [z149 (show ¬ 15 * k + 12 = 15 * k + 11 by omega), z149 (show ¬ 15 * k + 9 = 15 * k + 12 by omega), z149 (show ¬ 15 * k + 9 = 15 * k + 11 by omega), z149 (show ¬ 15 * k + 10 = 15 * k + 9 by omega), z149 (show ¬ 15 * k + 10 = 15 * k + 12 by omega), z149 (show ¬ 15 * k + 10 = 15 * k + 11 by omega), b3]
    obtain ⟨y1, y2, y3⟩ := fin (wm.1 149 (15 * k + 9) + F) (wm.1 149 (15 * k + 10) + R) (wm.1 149 (15 * k + 11) - F) (wm.1 149 (15 * k + 12) - R) (by rw [s1]; omega) (by rw [s2]; omega) (by rw [s3]; omega) (by rw [s4]; omega) (by rw [s1, s2, s3, s4]; omega) _ (by
      show (si (si (si (si w1 149 (15 * k + 11) (wm.1 149 (15 * k + 11) - F)) 149 (15 * k + 12) (wm.1 149 (15 * k + 12) - R)) 149 (15 * k + 9) (wm.1 149 (15 * k + 9) + F)) 149 (15 * k + 10) (wm.1 149 (15 * k + 10) + R)).1 149 = _
      rw [si_row, si_row, si_row, si_row, b3]
      unfold clS frS
      rw [upd_comm (i := 15 * k + 12) (j := 15 * k + 9) (by omega), upd_comm (i := 15 * k + 11) (j := 15 * k + 9) (by omega), upd_comm (i := 15 * k + 12) (j := 15 * k + 10) (by omega), upd_comm (i := 15 * k + 11) (j := 15 * k + 10) (by omega)]) (b2.trans (((HF.mput (by omega)).trans (HF.mput (by omega))).trans ((HF.mput (by omega)).trans (HF.mput (by omega)))))
    refine ⟨_, _, ?_, mtop _ hm, y1, y2, y3⟩
    have lP : ¬ (0 : Int64) < P := by rw [llt_I, lz_I, o3]; exact q
    have nn : ∀ a b : Int32, a - -b = a + b := fun a b => by rw [Int32.sub_eq_add_neg, Int32.neg_neg]
    have na : ∀ a b : Int32, a + -b = a - b := fun a b => (Int32.sub_eq_add_neg a b).symm
    rw [ctop, if_neg lP, eB, mmin_comm B, ← hF, na B F, mmin_comm (B - F), ← hR, c95, nn, nn, na, na]
-- MATHEMATICS: m80
theorem YY.soft1 {n K o i : Nat} {wc wm : Wd} {x : Int32} (h : YY n wc wm) (hn : n ≤ 512) (hK : K = 4301 ∨ (4305 ≤ K ∧ K ≤ 4313)) (hl : loc K = (o, i)) (ho : 1 ≤ o ∧ o ≤ 91) : YY n (si wc o i x) (si wm 149 K x) ∧ HF wc wm (si wc o i x) (si wm 149 K x) := by
  have sw : sameW (wm.1 149) (upd (wm.1 149) K x) := sameW.refl.put (by unfold wk; omega)
  have hf : HF wc wm (si wc o i x) (si wm 149 K x) := (HF.cput (by omega)).trans (HF.mput (by omega))
  refine ⟨h.hf hf ?_, hf⟩
  rw [si_row]
  refine (h.1.au.put (by unfold softK; omega) hl).yc (h.1.2.2.wat sw hn (fun c hc => (h.1.2.2.2.1.1 c hc).cong (fun j hj => upd_ne (by omega))) (fun c hc => ?_))
  obtain ⟨m1, m5, m6⟩ := h.1.2.2.pot hc
  have hco : coalZ (upd (wm.1 149) K x) = coalZ (wm.1 149) := coalZ_cong (fun k _ _ => upd_ne (by omega))
  unfold nnW at m1 ⊢
  unfold pot wtr at m5 ⊢
  rw [hco, upd_ne (by omega), upd_ne (show ¬ 15 * c + 10 = K by omega), upd_ne (show ¬ 15 * c + 11 = K by omega), upd_ne (show ¬ 15 * c + 12 = K by omega), upd_ne (show ¬ 1508 + 10 * c = K by omega), upd_ne (show ¬ 1509 + 10 * c = K by omega)]
  exact ⟨m1, m5⟩
def keepL (S S' : Nat → Int32) : Prop := ∀ k, ¬ (k < 1500 ∧ k % 15 = 13) → ¬ (k = 4312 ∨ k = 4313) → S' k = S k
theorem keepL.trans {S S' S'' : Nat → Int32} (h : keepL S S') (h' : keepL S' S'') : keepL S S'' := fun k q1 q2 => (h' k q1 q2).trans (h k q1 q2)
theorem YY.cellh {n c j : Nat} {wc wm : Wd} {x : Int32} (hj : j = 13) (hc : c < 100) : HF wc wm (si wc (rowA j) c x) (si wm 149 (15 * c + j) x) := (HF.cput (by subst hj; show (1 ≤ 12 ∧ 12 ≤ 91) ∨ _; omega)).trans (HF.mput (by omega))
theorem pull_step {n c D : Nat} {wc wm : Wd} {v1 v5 v6 : Int32} {k18 : Int32 → Int32 → Int32 → Wd → Option Wd} (h : YY n wc wm) (hn : n ≤ 512) (hc : c < 100) (hD : (v6 < 0 ∧ D = 2) ∨ (¬ v6 < 0 ∧ D = 4)) (hx : -100000 ≤ (v5 / iN D).toInt ∧ (v5 / iN D).toInt ≤ 100000) : ∃ wc' wm', fX0_pullWalls_39 k18 v1 v5 v6 (iN c) wc = k18 v1 v5 (v6 + 1) wc' ∧ fX12_pulls (iN c) (v5 / iN D) wm = some wm' ∧ YY n wc' wm' ∧ HF wc wm wc' wm' ∧ keepL (wm.1 149) (wm'.1 149) := by
  have hA := h.1.2.2.1 c hc
  obtain ⟨p0, p1⟩ := hA.1.2.2.1
  obtain ⟨t0, t1⟩ := hA.1.2.2.2.1
  have r12 : wc.1 12 c = wm.1 149 (15 * c + 13) := h.1.row (j := 13) hc (by omega)
  have r5 : wc.1 5 c = wm.1 149 (15 * c + 2) := h.1.row (j := 2) hc (by omega)
  have r6 : wc.1 6 c = wm.1 149 (15 * c + 3) := h.1.row (j := 3) hc (by omega)
  have ec : ∀ (j : Nat) (w : Wd), (OfNat.ofNat j : Nat) < 15 → fX12_c (iN c) (OfNat.ofNat j : Int32) w = some (w.1 149 (15 * c + (OfNat.ofNat j : Nat))) := fun j w q => mc_j hc q
  have e89 : ∀ w : Wd, (if v6 < 0 then fX0_pullWalls_89 k18 v1 v5 v6 (iN c) v5 2 w else fX0_pullWalls_89 k18 v1 v5 v6 (iN c) v5 4 w) = fX0_pullWalls_89 k18 v1 v5 v6 (iN c) v5 (iN D) w := fun w => by
    rcases hD with ⟨q, q2⟩ | ⟨q, q2⟩
    · rw [if_pos q, q2]
      rfl
    · rw [if_neg q, q2]
      rfl
  have D0 : ¬ iN D = 0 := by
    rcases hD with ⟨q, q2⟩ | ⟨q, q2⟩ <;> rw [q2] <;> decide
  obtain ⟨x, ex⟩ : ∃ x, x = v5 / iN D := ⟨_, rfl⟩
  rw [← ex] at hx ⊢
  have ed : (x - wm.1 149 (15 * c + 3)).toInt = x.toInt - (wm.1 149 (15 * c + 3)).toInt := sub_I (by omega) (by omega)
  have stay : fX12_pulls (iN c) x wm = some wm → fX0_pullWalls_39 k18 v1 v5 v6 (iN c) wc = k18 v1 v5 (v6 + 1) wc → ∃ wc' wm', fX0_pullWalls_39 k18 v1 v5 v6 (iN c) wc = k18 v1 v5 (v6 + 1) wc' ∧ fX12_pulls (iN c) x wm = some wm' ∧ YY n wc' wm' ∧ HF wc wm wc' wm' ∧ keepL (wm.1 149) (wm'.1 149) := fun q1 q2 => ⟨wc, wm, q2, q1, h, HF.refl, fun _ _ _ => rfl⟩
  have ctop : fX0_pullWalls_39 k18 v1 v5 v6 (iN c) wc = if wm.1 149 (15 * c + 13) = 1 then k18 v1 v5 (v6 + 1) wc else if wm.1 149 (15 * c + 2) = 0 then k18 v1 v5 (v6 + 1) wc else fX0_pullWalls_89 k18 v1 v5 v6 (iN c) v5 (iN D) wc := by
    unfold fX0_pullWalls_39
    rw [if_neg (iN_ne1 (by omega)), inb_lt2 hc (by omega), if_pos rfl, ri_iN (by omega), ri_iN (by omega), r12, r5, e89]
  by_cases q1 : wm.1 149 (15 * c + 2) = 0
  · refine stay ?_ ?_
    · unfold fX12_pulls
      rw [ec 2 wm (by decide), Option.bind_some]
      show (if wm.1 149 (15 * c + 2) = 0 then _ else _) = _
      rw [if_pos q1]
    · rw [ctop, if_pos q1, ite_self]
  · by_cases q2 : wm.1 149 (15 * c + 3) < x
    · by_cases q3 : wm.1 149 (15 * c + 13) = 1
      · refine stay ?_ ?_
        · unfold fX12_pulls
          rw [ec 2 wm (by decide), Option.bind_some]
          show (if wm.1 149 (15 * c + 2) = 0 then _ else _) = _
          rw [if_neg q1, ec 3 wm (by decide), Option.bind_some]
          show (if wm.1 149 (15 * c + 3) < x then _ else _) = _
          rw [if_pos q2, ec 13 wm (by decide), Option.bind_some]
          show (if wm.1 149 (15 * c + 13) = 1 then _ else _) = _
          rw [if_pos q3]
        · rw [ctop, if_pos q3]
      · have h1 := h.cellp (c := c) (j := 13) (x := 1) hc (Or.inr rfl) (fun g hg => ⟨hg.1, hg.2.1, hg.2.2.1, hg.2.2.2.1, by rw [upd_eq]; exact ⟨by decide, by decide⟩⟩)
        have hf1 : HF wc wm (si wc 12 c 1) (si wm 149 (15 * c + 13) 1) := (HF.cput (by omega)).trans (HF.mput (by omega))
        have h1' : YY n (si wc 12 c 1) (si wm 149 (15 * c + 13) 1) := h1
        obtain ⟨b, wc2, wm2, a1, a2, a3, a4, a5, a6, a7⟩ := allow_eq h1' hc (cel_of h1' hn hc) 1
        have hf2 : HF (si wc 12 c 1) (si wm 149 (15 * c + 13) 1) wc2 wm2 := hf_allow a4 a5 a6 a7
        have row2 : wm2.1 149 = upd (wm.1 149) (15 * c + 13) 1 := by rw [a5 149 (by omega) (by omega), si_row]
        obtain ⟨V, hV⟩ : ∃ V, V = wm.1 149 (15 * c + 2) * (x - wm.1 149 (15 * c + 3)) := ⟨_, rfl⟩
        have mpre : fX12_pulls (iN c) x wm = if b = true then some (si wm2 149 4312 (wm2.1 149 4312 + V)) else some (si wm2 149 4313 (wm2.1 149 4313 + V)) := by
          unfold fX12_pulls
          rw [ec 2 wm (by decide), Option.bind_some]
          show (if wm.1 149 (15 * c + 2) = 0 then _ else _) = _
          rw [if_neg q1, ec 3 wm (by decide), Option.bind_some]
          show (if wm.1 149 (15 * c + 3) < x then _ else _) = _
          rw [if_pos q2, ec 13 wm (by decide), Option.bind_some]
          show (if wm.1 149 (15 * c + 13) = 1 then _ else _) = _
          rw [if_neg q3, mci hc (by decide), if_pos rfl, nw_eq, mcw (by decide) hc]
          show ((fX12_c (iN c) 2 (si wm 149 (15 * c + 13) 1)).bind _) = _
          rw [ec 2 _ (by decide), Option.bind_some, ec 3 _ (by decide), Option.bind_some]
          show ((fX12_isHeld 1 (iN c) (si wm 149 (15 * c + 13) 1)).bind _) = _
          rw [a2, Option.bind_some]
          show (if b = true then nw (wi wm2 149 4312 (ri wm2 149 4312 + (si wm 149 (15 * c + 13) 1).1 149 (15 * c + 2) * (x - (si wm 149 (15 * c + 13) 1).1 149 (15 * c + 3)))) _ else nw (wi wm2 149 4313 (ri wm2 149 4313 + (si wm 149 (15 * c + 13) 1).1 149 (15 * c + 2) * (x - (si wm 149 (15 * c + 13) 1).1 149 (15 * c + 3)))) _) = _
          rw [z149 (by omega), z149 (by omega), ← hV, wi_lit (by decide), wi_lit (by decide), ri_lit (by decide), ri_lit (by decide)]
        have s12 : wc2.1 1 11 = wm2.1 149 4312 := a3.1.scal (j := 12) (by omega)
        have s13 : wc2.1 1 12 = wm2.1 149 4313 := a3.1.scal (j := 13) (by omega)
        have cpre : fX0_pullWalls_39 k18 v1 v5 v6 (iN c) wc = if b = true then k18 v1 v5 (v6 + 1) (si wc2 1 11 (wm2.1 149 4312 + V)) else k18 v1 v5 (v6 + 1) (si wc2 1 12 (wm2.1 149 4313 + V)) := by
          rw [ctop, if_neg q3, if_neg q1]
          unfold fX0_pullWalls_89
          have pos : 0 < x - wm.1 149 (15 * c + 3) := by
            rw [lt_I, ed]
            have := lt_I.mp q2
            show (0 : Int) < _
            omega
          have o5 : (si wc 12 c 1).1 5 c = wm.1 149 (15 * c + 2) := by rw [si_oth (by omega)]; exact r5
          rw [if_neg D0, inb_lt2 hc (by omega), if_pos rfl, ri_iN (by omega), r6, ← ex, if_pos pos, nw_eq, wi_iN (by omega), a1, Option.bind_some, ri_iN (by omega), o5, ← hV]
          show (if b = true then nw (si wc2 1 11 (wc2.1 1 11 + V)) _ else nw (si wc2 1 12 (wc2.1 1 12 + V)) _) = _
          rw [s12, s13]
        cases b
        · obtain ⟨y1, y2⟩ := a3.soft1 (x := wm2.1 149 4313 + V) hn (Or.inr (show 4305 ≤ 4313 ∧ 4313 ≤ 4313 by omega)) (loc_sc (j := 13) (by omega)) (by show 1 ≤ 1 ∧ 1 ≤ 91; omega)
          refine ⟨_, _, by rw [cpre, if_neg (by simp)], by rw [mpre, if_neg (by simp)], y1, hf1.trans (hf2.trans y2), fun k z1 z2 => ?_⟩
          rw [si_row, row2, upd_ne (by omega), upd_ne (by omega)]
        · obtain ⟨y1, y2⟩ := a3.soft1 (x := wm2.1 149 4312 + V) hn (Or.inr (show 4305 ≤ 4312 ∧ 4312 ≤ 4313 by omega)) (loc_sc (j := 12) (by omega)) (by show 1 ≤ 1 ∧ 1 ≤ 91; omega)
          refine ⟨_, _, by rw [cpre, if_pos rfl], by rw [mpre, if_pos rfl], y1, hf1.trans (hf2.trans y2), fun k z1 z2 => ?_⟩
          rw [si_row, row2, upd_ne (by omega), upd_ne (by omega)]
    · refine stay ?_ ?_
      · unfold fX12_pulls
        rw [ec 2 wm (by decide), Option.bind_some]
        show (if wm.1 149 (15 * c + 2) = 0 then _ else _) = _
        rw [if_neg q1, ec 3 wm (by decide), Option.bind_some]
        show (if wm.1 149 (15 * c + 3) < x then _ else _) = _
        rw [if_neg q2]
      · rw [ctop, if_neg q1]
        unfold fX0_pullWalls_89
        have neg : ¬ 0 < x - wm.1 149 (15 * c + 3) := by
          rw [lt_I, ed]
          have : ¬ (wm.1 149 (15 * c + 3)).toInt < x.toInt := fun e => q2 (lt_I.mpr e)
          show ¬ (0 : Int) < _
          omega
        rw [if_neg D0, inb_lt2 hc (by omega), if_pos rfl, ri_iN (by omega), r6, ← ex, if_neg neg, ite_self]
theorem divr {a : Int32} {D : Nat} (hD : D = 2 ∨ D = 4) (h : -100000 ≤ a.toInt ∧ a.toInt ≤ 100000) : -100000 ≤ (a / iN D).toInt ∧ (a / iN D).toInt ≤ 100000 := by
  have e : (a / iN D).toInt = a.toInt.tdiv (iN D).toInt := Int32.toInt_div_of_ne_right _ _ (iN_ne1 (by omega))
  have e2 := Int.natAbs_tdiv_le_natAbs a.toInt (iN D).toInt
  rw [e]
  omega
-- MATHEMATICS: m81
theorem walls_loop {n c : Nat} {v5 : Int32} (hn : n ≤ 512) (hc : c < 100) (hv : -100000 ≤ v5.toInt ∧ v5.toInt ≤ 100000) : ∀ (m j f g : Nat) (wc wm : Wd), j + m = 4 → m < f → m < g → YY n wc wm → ∃ wc' wm', fX0_pullWalls_18 f (iN c) v5 (iN j) wc = some wc' ∧ fX12_work_153 g (iN c) v5 (iN j) wm = some wm' ∧ YY n wc' wm' ∧ HF wc wm wc' wm' ∧ keepL (wm.1 149) (wm'.1 149) := by
  intro m
  induction m with
  | zero =>
    intro j f g wc wm hj hf hg h
    obtain ⟨f, rfl⟩ : ∃ x, f = x + 1 := ⟨f - 1, by omega⟩
    obtain ⟨g, rfl⟩ : ∃ x, g = x + 1 := ⟨g - 1, by omega⟩
    obtain rfl : j = 4 := by omega
    refine ⟨wc, wm, ?_, ?_, h, HF.refl, fun _ _ _ => rfl⟩
    · rw [fX0_pullWalls_18, if_neg (show ¬ iN 4 < 4 by decide)]
    · rw [fX12_work_153, if_neg (show ¬ iN 4 < 4 by decide)]
  | succ m ih =>
    intro j f g wc wm hj hf hg h
    obtain ⟨f, rfl⟩ : ∃ x, f = x + 1 := ⟨f - 1, by omega⟩
    obtain ⟨g, rfl⟩ : ∃ x, g = x + 1 := ⟨g - 1, by omega⟩
    have hj4 : j < 4 := by omega
    have lj : iN j < 4 := (iN_lt_lit (by omega) (by omega)).mpr (by show j < 4; exact hj4)
    have nj : ¬ iN j < 0 := iN_nneg (by omega)
    rw [fX0_pullWalls_18, if_pos lj, if_neg nj, bes_c hc hj4, Option.bind_some, fX12_work_153, if_pos lj, bes_m hc hj4, Option.bind_some, Option.bind_some]
    cases e : besN c j with
    | none =>
      rw [if_pos (show enc1 none = -1 from rfl)]
      unfold fX0_pullWalls_39
      rw [if_pos (show enc1 none = -1 from rfl), add_lit]
      exact ih (j + 1) f g wc wm (by omega) (by omega) (by omega) h
    | some d =>
      have hd := (besN_adj hc e).1
      obtain ⟨w1, m1, e1, e2, e3, e4, e5⟩ := pull_step (k18 := fX0_pullWalls_18 f) (v1 := iN c) (v5 := v5) (v6 := iN j) (D := 4) h hn hd (Or.inr ⟨nj, rfl⟩) (divr (Or.inr rfl) hv)
      have e2' : fX12_pulls (iN d) (v5 / 4) wm = some m1 := e2
      rw [if_neg (enc1_ne (by omega)), show enc1 (some d) = iN d from rfl, e1, e2', Option.bind_some, add_lit]
      obtain ⟨w2, m2, f1, f2, f3, f4, f5⟩ := ih (j + 1) f g w1 m1 (by omega) (by omega) (by omega) e3
      exact ⟨w2, m2, f1, f2, f3, e4.trans f4, e5.trans f5⟩
theorem walls_eq {n c : Nat} {wc wm : Wd} {dep : Int32} (h : YY n wc wm) (hn : n ≤ 512) (hc : c < 100) (hd : -300 ≤ dep.toInt ∧ dep.toInt ≤ 300) : ∃ wc' wm', fX0_pullWalls (iN c) dep wc = some wc' ∧ ((fX12_pulls (iN c) ((dep * ((1 : Int32) + wm.1 149 (15 * c + 1))) / (2 : Int32)) wm).bind fun v_13 => fX12_work_153 FU (iN c) (dep * ((1 : Int32) + wm.1 149 (15 * c + 1))) 0 v_13) = some wm' ∧ YY n wc' wm' ∧ HF wc wm wc' wm' ∧ keepL (wm.1 149) (wm'.1 149) := by
  obtain ⟨s0, s3⟩ := (h.1.2.2.1 c hc).1.2.1
  have r4 : wc.1 4 c = wm.1 149 (15 * c + 1) := h.1.row (j := 1) hc (by omega)
  obtain ⟨v5, e5⟩ : ∃ v5, v5 = dep * ((1 : Int32) + wm.1 149 (15 * c + 1)) := ⟨_, rfl⟩
  have e1 : ((1 : Int32) + wm.1 149 (15 * c + 1)).toInt = 1 + (wm.1 149 (15 * c + 1)).toInt := add_I (by rw [one_I]; omega) (by rw [one_I]; omega)
  have b : -1200 ≤ dep.toInt * (1 + (wm.1 149 (15 * c + 1)).toInt) ∧ dep.toInt * (1 + (wm.1 149 (15 * c + 1)).toInt) ≤ 1200 := by
    have hs : (wm.1 149 (15 * c + 1)).toInt = 0 ∨ (wm.1 149 (15 * c + 1)).toInt = 1 ∨ (wm.1 149 (15 * c + 1)).toInt = 2 ∨ (wm.1 149 (15 * c + 1)).toInt = 3 := by omega
    rcases hs with q | q | q | q <;> rw [q] <;> omega
  have hv : -100000 ≤ v5.toInt ∧ v5.toInt ≤ 100000 := by
    rw [e5, mul_I (by rw [e1]; omega) (by rw [e1]; omega), e1]
    omega
  rw [← e5]
  unfold fX0_pullWalls
  rw [inb_lt2 hc (by omega), if_pos rfl, ri_iN (by omega), r4, ← e5]
  have hFU : FU = 9999999 + 1 := rfl
  obtain ⟨w1, m1, a1, a2, a3, a4, a5⟩ := pull_step (k18 := fX0_pullWalls_18 9999999) (v1 := iN c) (v5 := v5) (v6 := -1) (D := 2) h hn hc (Or.inl ⟨by decide, rfl⟩) (divr (Or.inl rfl) hv)
  obtain ⟨w2, m2, f1, f2, f3, f4, f5⟩ := walls_loop (v5 := v5) hn hc hv 4 0 9999999 FU w1 m1 (by omega) (by omega) (by unfold FU; omega) a3
  rw [show iN 0 = 0 from rfl] at f1 f2
  have a2' : fX12_pulls (iN c) (v5 / 2) wm = some m1 := a2
  refine ⟨w2, m2, ?_, ?_, f3, a4.trans f4, a5.trans f5⟩
  · rw [hFU, fX0_pullWalls_18, if_pos (by decide), if_pos (by decide), a1, show (-1 : Int32) + 1 = 0 by decide]
    exact f1
  · rw [a2', Option.bind_some]
    exact f2
theorem ln1.dug {D : Int} {g : Nat → Int32} {x : Int32} {i0 : Nat} (h : ln1 D g) (hi : i0 < 19) : ln1 D (upd g (6 + 6 * i0) x) := by
  obtain ⟨h1, h2, h3, h4⟩ := h
  have e : ∀ r, ¬ r = 6 + 6 * i0 → upd g (6 + 6 * i0) x r = g r := fun r q => upd_ne q
  unfold ln1
  rw [e 0 (by omega), e 1 (by omega), e 2 (by omega), e 3 (by omega)]
  refine ⟨h1, fun i hi => ?_, fun i c d hi a1 a2 a3 a4 => ?_, fun i j hij hj a1 => ?_⟩
  · have := h2 i hi
    unfold lnS at this ⊢
    rw [e _ (by omega), e _ (by omega), e _ (by omega), e _ (by omega), e _ (by omega)]
    exact this
  · rw [e _ (by omega)] at a1 a3
    exact h3 i c d hi a1 a2 a3 a4
  · rw [e _ (by omega), e _ (by omega)] at a1
    exact h4 i j hij hj a1
theorem ln1.laid {D : Int} {g : Nat → Int32} {x y : Int32} {i0 : Nat} (h : ln1 D g) (hx : bt 0 D x) (hy : bt 0 1 y) : ln1 D (upd (upd g (7 + 6 * i0) x) (8 + 6 * i0) y) := by
  obtain ⟨h1, h2, h3, h4⟩ := h
  have e : ∀ r, ¬ r = 7 + 6 * i0 → ¬ r = 8 + 6 * i0 → upd (upd g (7 + 6 * i0) x) (8 + 6 * i0) y r = g r := fun r q q2 => by rw [upd_ne q2, upd_ne q]
  unfold ln1
  rw [e 0 (by omega) (by omega), e 1 (by omega) (by omega), e 2 (by omega) (by omega), e 3 (by omega) (by omega)]
  refine ⟨h1, fun i hi => ?_, fun i c d hi a1 a2 a3 a4 => ?_, fun i j hij hj a1 => ?_⟩
  · have := h2 i hi
    unfold lnS at this ⊢
    rw [e (4 + 6 * i) (by omega) (by omega), e (5 + 6 * i) (by omega) (by omega), e (9 + 6 * i) (by omega) (by omega)]
    by_cases q : i = i0
    · subst q
      rw [upd_ne (show ¬ 7 + 6 * i = 8 + 6 * i by omega), upd_eq, upd_eq]
      exact ⟨this.1, this.2.1, Or.inr hx, hy, this.2.2.2.2⟩
    · rw [e (7 + 6 * i) (by omega) (by omega), e (8 + 6 * i) (by omega) (by omega)]
      exact this
  · rw [e _ (by omega) (by omega)] at a1 a3
    exact h3 i c d hi a1 a2 a3 a4
  · rw [e _ (by omega) (by omega), e _ (by omega) (by omega)] at a1
    exact h4 i j hij hj a1
theorem laid_eq {n m u : Nat} {wc wm : Wd} {bx day wet : Int32} (h : YY n wc wm) (hn : n ≤ 512) (hm : (m : Int) < (wm.1 149 4315).toInt) (hu : ((u + 1 : Nat) : Int) ≤ (wm.1 149 (3300 + 125 * m)).toInt) (hw : wc.1 (36 + 7 * m) 4 = iN (u + 1)) (h1 : ∀ i, i < u + 1 → wm.1 149 (3307 + 125 * m + 6 * i) = -9) (h2 : ∀ i : Nat, u + 1 ≤ i → (i : Int) < (wm.1 149 (3300 + 125 * m)).toInt → ¬ wm.1 149 (3307 + 125 * m + 6 * i) = -9) (hd : bt 0 ((wm.1 149 4300).toInt / 24) day) (hwet : bt 0 1 wet) : YY n (si (si (si (si wc 1 7 bx) (40 + 7 * m) u day) (41 + 7 * m) u wet) (36 + 7 * m) 4 (iN u)) (si (si (si wm 149 4301 bx) 149 (3307 + 125 * m + 6 * u) day) 149 (3308 + 125 * m + 6 * u) wet) ∧ HF wc wm (si (si (si (si wc 1 7 bx) (40 + 7 * m) u day) (41 + 7 * m) u wet) (36 + 7 * m) 4 (iN u)) (si (si (si wm 149 4301 bx) 149 (3307 + 125 * m + 6 * u) day) 149 (3308 + 125 * m + 6 * u) wet) := by
  have hm8 := h.1.2.2.2.2.1.lt hm
  have hl := h.1.lenB hm
  have hu19 : u < 19 := by omega
  have hf : HF wc wm (si (si (si (si wc 1 7 bx) (40 + 7 * m) u day) (41 + 7 * m) u wet) (36 + 7 * m) 4 (iN u)) (si (si (si wm 149 4301 bx) 149 (3307 + 125 * m + 6 * u) day) 149 (3308 + 125 * m + 6 * u) wet) := (((HF.cput (by omega)).trans (HF.cput (by omega))).trans ((HF.cput (by omega)).trans (HF.cput (by omega)))).trans (((HF.mput (by omega)).trans (HF.mput (by omega))).trans (HF.mput (by omega)))
  refine ⟨h.hf hf ?_, hf⟩
  have row : (si (si (si wm 149 4301 bx) 149 (3307 + 125 * m + 6 * u) day) 149 (3308 + 125 * m + 6 * u) wet).1 149 = upd (upd (upd (wm.1 149) 4301 bx) (3307 + 125 * m + 6 * u) day) (3308 + 125 * m + 6 * u) wet := by rw [si_row, si_row, si_row]
  rw [row]
  have o : ∀ k, ¬ k = 4301 → ¬ k = 3307 + 125 * m + 6 * u → ¬ k = 3308 + 125 * m + 6 * u → upd (upd (upd (wm.1 149) 4301 bx) (3307 + 125 * m + 6 * u) day) (3308 + 125 * m + 6 * u) wet k = wm.1 149 k := fun k q1 q2 q3 => by rw [upd_ne q3, upd_ne q2, upd_ne q1]
  have e1 : loc (3307 + 125 * m + 6 * u) = (40 + 7 * m, u) := by
    have := loc_lnI (n := m) (i := u) (j := 3) hm8 hu19 (by omega)
    rw [show 3304 + 125 * m + 6 * u + 3 = 3307 + 125 * m + 6 * u by omega, show 37 + 7 * m + 3 = 40 + 7 * m by omega] at this
    exact this
  have e2 : loc (3308 + 125 * m + 6 * u) = (41 + 7 * m, u) := by
    have := loc_lnI (n := m) (i := u) (j := 4) hm8 hu19 (by omega)
    rw [show 3304 + 125 * m + 6 * u + 4 = 3308 + 125 * m + 6 * u by omega, show 37 + 7 * m + 4 = 41 + 7 * m by omega] at this
    exact this
  have e0 : loc 4301 = (1, 7) := loc_sc (j := 1) (by omega)
  obtain ⟨k1, k2, kA, kH, kL, kG, kW⟩ := h.1
  refine ⟨fun k hk hv => ?_, fun m' hm' => ?_, ?_, ?_, ?_, ?_, ?_⟩
  · have hv2 : val (wm.1 149) k := (val_cong hk (fun c hc => o _ (by omega) (by omega) (by omega)) (fun q hq => o _ (by omega) (by omega) (by omega)) (o _ (by omega) (by omega) (by omega)) (o _ (by omega) (by omega) (by omega))).mp hv
    have u4 : V (si (si (si (si wc 1 7 bx) (40 + 7 * m) u day) (41 + 7 * m) u wet) (36 + 7 * m) 4 (iN u)) 0 k = V (si (si (si wc 1 7 bx) (40 + 7 * m) u day) (41 + 7 * m) u wet) 0 k := by
      unfold V
      rw [si_1, if_neg]
      rintro ⟨q1, q2⟩
      exact loc_ul hk hm8 ⟨by omega, q2⟩
    rw [u4, V_si0 e2 (by omega) hk]
    unfold upd
    by_cases q3 : k = 3308 + 125 * m + 6 * u
    · rw [if_pos q3, if_pos q3]
    · rw [if_neg q3, if_neg q3, V_si0 e1 (by omega) hk]
      unfold upd
      by_cases q2 : k = 3307 + 125 * m + 6 * u
      · rw [if_pos q2, if_pos q2]
      · rw [if_neg q2, if_neg q2, V_si0 e0 (by omega) hk]
        unfold upd
        by_cases q1 : k = 4301
        · rw [if_pos q1, if_pos q1]
        · rw [if_neg q1, if_neg q1]
          exact k1 k hk hv2
  · rw [o 4315 (by omega) (by omega) (by omega)] at hm'
    have hm8' := kL.lt hm'
    obtain ⟨u', u1, u2, u3, u4⟩ := k2 m' hm'
    rw [Nat.zero_add] at u2
    have lm' : (wm.1 149 (3300 + 125 * m')).toInt ≤ 19 := (kL.2 m' hm').1.1.2
    by_cases q : m' = m
    · subst q
      refine ⟨u, ?_, ?_, fun i hi => ?_, fun i hi hi2 => ?_⟩
      · rw [o _ (by omega) (by omega) (by omega)]
        omega
      · rw [Nat.zero_add, si_at]
      · rw [o _ (by omega) (by omega) (by omega)]
        exact h1 i (by omega)
      · rw [o _ (by omega) (by omega) (by omega)] at hi2
        by_cases q2 : i = u
        · subst q2
          rw [upd_ne (by omega), upd_eq]
          intro e
          rw [e] at hd
          exact absurd hd.1 (by decide)
        · rw [o _ (by omega) (by omega) (by omega)]
          exact h2 i (by omega) hi2
    · refine ⟨u', ?_, ?_, fun i hi => ?_, fun i hi hi2 => ?_⟩
      · rw [o _ (by omega) (by omega) (by omega)]
        exact u1
      · rw [Nat.zero_add, si_oth (by omega), si_oth (by omega), si_oth (by omega), si_oth (by omega)]
        exact u2
      · rw [o _ (by omega) (by omega) (by omega)]
        exact u3 i hi
      · rw [o _ (by omega) (by omega) (by omega)] at hi2
        rw [o _ (by omega) (by omega) (by omega)]
        exact u4 i hi hi2
  · exact kA.cong (fun c j hc hj => o _ (by omega) (by omega) (by omega))
  · exact kH.cong (fun k q1 q2 => o _ (by omega) (by omega) (by omega)) (o _ (by omega) (by omega) (by omega))
  · refine ⟨by rw [o _ (by omega) (by omega) (by omega)]; exact kL.1, fun m' hm' => ?_⟩
    rw [o 4315 (by omega) (by omega) (by omega)] at hm'
    have hm8' := kL.lt hm'
    have hln := kL.2 m' hm'
    rw [o 4300 (by omega) (by omega) (by omega)]
    by_cases q : m' = m
    · subst q
      refine (hln.laid (i0 := u) hd hwet).cong (fun r hr => ?_)
      by_cases q2 : r = 8 + 6 * u
      · rw [q2, upd_eq, show 3300 + 125 * m' + (8 + 6 * u) = 3308 + 125 * m' + 6 * u by omega, upd_eq]
      · by_cases q1 : r = 7 + 6 * u
        · rw [q1, upd_ne (show ¬ 7 + 6 * u = 8 + 6 * u by omega), upd_eq, show 3300 + 125 * m' + (7 + 6 * u) = 3307 + 125 * m' + 6 * u by omega, upd_ne (by omega), upd_eq]
        · rw [upd_ne q2, upd_ne q1]
          exact o _ (by omega) (by omega) (by omega)
    · exact hln.cong (fun r hr => o _ (by omega) (by omega) (by omega))
  · unfold IG at kG ⊢
    rw [o 4300 (by omega) (by omega) (by omega), o 4302 (by omega) (by omega) (by omega), o 4303 (by omega) (by omega) (by omega), o 4304 (by omega) (by omega) (by omega), o 4316 (by omega) (by omega) (by omega), o 4314 (by omega) (by omega) (by omega), sumN_cong 100 (fun c hc => o (15 * c + 14) (by omega) (by omega) (by omega))]
    exact kG
  · exact kW.cong (fun c j hc q1 q2 => o _ (by omega) (by omega) (by omega)) (fun k q1 q2 => o _ (by omega) (by omega) (by omega)) (o _ (by omega) (by omega) (by omega))
-- MATHEMATICS: m82
theorem pk_dug {m m' t i : Nat} (ht : t < 19) (hi : i < 19) : 3300 + 125 * m + (6 + 6 * t) ≠ 3307 + 125 * m' + 6 * i := by
  rcases Nat.lt_trichotomy m m' with q | q | q
  · have : 125 * m + 125 ≤ 125 * m' := by omega
    omega
  · subst q
    omega
  · have : 125 * m' + 125 ≤ 125 * m := by omega
    omega
theorem work_step {n m : Nat} {wc wm : Wd} (h : YY n wc wm) (hn : n ≤ 512) (hm : (m : Int) < (wm.1 149 4315).toInt) (f : Nat) : ∃ wc' wm', fX0_doDaysWork_15 (f + 1) (iN m) wc = fX0_doDaysWork_15 f (iN (m + 1)) wc' ∧ fX12_work (iN m) wm = some wm' ∧ YY n wc' wm' ∧ HF wc wm wc' wm' ∧ ∀ k, k = 4315 ∨ k = 4300 → wm'.1 149 k = wm.1 149 k := by
  have hm8 := h.1.2.2.2.2.1.lt hm
  obtain ⟨l1, l2⟩ := h.1.lenB hm
  obtain ⟨u, u1, u2, u3, u4, w1, w2⟩ := inWork_eq h hm
  have hl := h.1.2.2.2.2.1.2 m hm
  obtain ⟨g0, g4⟩ := hl.1.2.2.2
  obtain ⟨b1, b9⟩ := hl.1.2.1
  have g0' : 0 ≤ (wm.1 149 (3303 + 125 * m)).toInt := by rw [show 3303 + 125 * m = 3300 + 125 * m + 3 by omega]; exact g0
  have g4' : (wm.1 149 (3303 + 125 * m)).toInt ≤ 4 := by rw [show 3303 + 125 * m = 3300 + 125 * m + 3 by omega]; exact g4
  have hp : iN m < wm.1 149 4315 := by
    rw [lt_I, iN_toInt (by omega)]
    omega
  obtain ⟨G, hG⟩ : ∃ G, G = wm.1 149 (3303 + 125 * m) := ⟨_, rfl⟩
  have cG : wc.1 (36 + 7 * m) 2 = G := by rw [h.1.gangs hm, hG]
  obtain ⟨B, hB⟩ : ∃ B, B = wm.1 149 (3301 + 125 * m) := ⟨_, rfl⟩
  have cB : wc.1 (36 + 7 * m) 0 = B := by rw [h.1.width hm, hB]
  have ctop : fX0_doDaysWork_15 (f + 1) (iN m) wc = if G = 0 then fX0_doDaysWork_15 f (iN (m + 1)) wc else fX0_doDaysWork_15 (f + 1) (iN m) wc := by
    by_cases q : G = 0
    · rw [if_pos q, fX0_doDaysWork_15, h.1.many, if_pos hp, inb_lt2 (by omega) (by omega), if_pos rfl, iN_clamp (by omega), w1, Option.bind_some, cG, if_pos q, add_lit]
    · rw [if_neg q]
  have stay : fX12_work (iN m) wm = some wm → fX0_doDaysWork_15 (f + 1) (iN m) wc = fX0_doDaysWork_15 f (iN (m + 1)) wc → ∃ wc' wm', fX0_doDaysWork_15 (f + 1) (iN m) wc = fX0_doDaysWork_15 f (iN (m + 1)) wc' ∧ fX12_work (iN m) wm = some wm' ∧ YY n wc' wm' ∧ HF wc wm wc' wm' ∧ ∀ k, k = 4315 ∨ k = 4300 → wm'.1 149 k = wm.1 149 k := fun q1 q2 => ⟨wc, wm, q2, q1, h, HF.refl, fun _ _ => rfl⟩
  by_cases q : G = 0
  · refine stay ?_ (by rw [ctop, if_pos q])
    unfold fX12_work
    rw [ml_3 hm8, Option.bind_some, ← hG, q, if_neg (by decide)]
    unfold fX12_work_20
    rw [if_pos rfl]
  · have gp : 0 < G := by
      rw [lt_I]
      have : ¬ G.toInt = 0 := fun e => q (eq_I.mpr e)
      show (0 : Int) < _
      rw [hG] at this ⊢
      omega
    by_cases z : u = 0
    · subst z
      refine stay ?_ ?_
      · unfold fX12_work
        rw [ml_3 hm8, Option.bind_some, ← hG, if_pos gp, w2, Option.bind_some]
        unfold fX12_work_20
        rw [if_pos (by decide)]
      · rw [fX0_doDaysWork_15, h.1.many, if_pos hp, inb_lt2 (by omega) (by omega), if_pos rfl, iN_clamp (by omega), w1, Option.bind_some, cG, if_neg q, if_pos (by decide), add_lit]
    · obtain ⟨t, rfl⟩ : ∃ t, u = t + 1 := ⟨u - 1, by omega⟩
      have ht : t < 19 := by omega
      have ht2 : (t : Int) < (wm.1 149 (3300 + 125 * m)).toInt := by omega
      obtain ⟨c, hc, q1, q2⟩ := lineCell h hm ht2
      have r1 : wc.1 (37 + 7 * m + 1) t = _ := h.1.lnI hm ht2 (j := 1) (by omega)
      obtain ⟨b, wc2, wm2, a1, a2, a3, a4, a5, a6, a7⟩ := allow_eq h hc (cel_of h hn hc) 0
      have hf2 : HF wc wm wc2 wm2 := hf_allow a4 a5 a6 a7
      have row2 : wm2.1 149 = wm.1 149 := a5 149 (by omega) (by omega)
      have crow : wc2.1 = wc.1 := a4.1
      obtain ⟨dg, hdg⟩ : ∃ dg, dg = digV (wm.1 149) c (wm.1 149 (3304 + 125 * m + 6 * t + 1)) := ⟨_, rfl⟩
      have d1 : fX2_digAt (iN c) (wm.1 149 (3304 + 125 * m + 6 * t + 1)) wc = some dg := by rw [hdg]; exact dig_c h.1 hc
      have q1' : wm2.1 149 (3304 + 125 * m + 6 * t) = iN c := by rw [row2]; exact q1
      have d2 : fX12_digAt (iN (3304 + 125 * m + 6 * t)) wm2 = some dg := by
        rw [dig_line_m (by omega) hc q1', row2, hdg]
      have hm2 : (m : Int) < (wm2.1 149 4315).toInt := by rw [row2]; exact hm
      have ht3 : (t : Int) < (wm2.1 149 (3300 + 125 * m)).toInt := by rw [row2]; exact ht2
      have r2 : wc2.1 (37 + 7 * m + 2) t = wm2.1 149 (3304 + 125 * m + 6 * t + 2) := a3.1.lnI hm2 ht3 (j := 2) (by omega)
      obtain ⟨E, hE⟩ : ∃ E, E = wm.1 149 (3304 + 125 * m + 6 * t + 2) := ⟨_, rfl⟩
      have r2' : wc2.1 (37 + 7 * m + 2) t = E := by rw [r2, row2, hE]
      have s11 : wc2.1 1 10 = wm2.1 149 4311 := a3.1.scal (j := 11) (by omega)
      have s1 : wc2.1 1 7 = wm2.1 149 4301 := a3.1.scal (j := 1) (by omega)
      have e3 : 36 + 7 * m + 3 = 37 + 7 * m + 2 := by omega
      have e1 : 36 + 7 * m + 1 = 37 + 7 * m := by omega
      have e2 : 36 + 7 * m + 2 = 37 + 7 * m + 1 := by omega
      have hi : ¬ iN t < 0 := iN_nneg (by omega)
      have hit : ¬ iN t = -1 := iN_ne1 (by omega)
      have idle : ∀ (P1 : fX0_doDaysWork_15 (f + 1) (iN m) wc = fX0_doDaysWork_15 f (iN (m + 1)) (si wc2 1 10 (wm2.1 149 4311 + G))) (P2 : fX12_work (iN m) wm = some (si wm2 149 4311 (wm2.1 149 4311 + G))), ∃ wc' wm', fX0_doDaysWork_15 (f + 1) (iN m) wc = fX0_doDaysWork_15 f (iN (m + 1)) wc' ∧ fX12_work (iN m) wm = some wm' ∧ YY n wc' wm' ∧ HF wc wm wc' wm' ∧ ∀ k, k = 4315 ∨ k = 4300 → wm'.1 149 k = wm.1 149 k := by
        intro P1 P2
        obtain ⟨y1, y2⟩ := a3.soft1 (x := wm2.1 149 4311 + G) hn (Or.inr (show 4305 ≤ 4311 ∧ 4311 ≤ 4313 by omega)) (loc_sc (j := 11) (by omega)) (by show 1 ≤ 1 ∧ 1 ≤ 91; omega)
        exact ⟨_, _, P1, P2, y1, hf2.trans y2, fun k hk => by rw [z149 (by omega), row2]⟩
      have ec9 : ∀ w : Wd, fX12_c (iN c) 9 w = some (w.1 149 (15 * c + 9)) := fun w => mc_j (j := 9) hc (by decide)
      have ec10 : ∀ w : Wd, fX12_c (iN c) 10 w = some (w.1 149 (15 * c + 10)) := fun w => mc_j (j := 10) hc (by decide)
      have mtop : fX12_work (iN m) wm = fX12_work_20 (iN m) G (iN t) wm := by
        unfold fX12_work
        rw [ml_3 hm8, Option.bind_some, ← hG, if_pos gp, w2, Option.bind_some, iN_s1]
      have cpre : fX0_doDaysWork_15 (f + 1) (iN m) wc = if b = true then (if E < dg then nw (si wc2 (37 + 7 * m + 2) t (E + 40 * G)) fun w_11 => (if (ri w_11 (36 + 7 * m + 3) (iN t)) < dg then fX0_doDaysWork_15 f (iN (m + 1)) w_11 else (fX0_depthOn (36 + 7 * m) (iN t) w_11).bind fun v_13 => (fX0_pullWalls (iN c) v_13 w_11).bind fun v_14 => fX0_doDaysWork_15 f (iN (m + 1)) v_14) else if wc2.1 1 7 < (100 : Int32) * B then fX0_doDaysWork_15 f (iN (m + 1)) (si wc2 1 10 (wc2.1 1 10 + G)) else (fX0_today (si wc2 1 7 (wc2.1 1 7 - (100 : Int32) * B))).bind fun v_18 => (nw (wi (si wc2 1 7 (wc2.1 1 7 - (100 : Int32) * B)) (36 + 7 * m + 4) (iN t) v_18) fun w_19 => (fX10_inDrain (iN c) w_19).bind fun v_20 => if (0 : Int64) < v_20 then fX0_doDaysWork_246 (fX0_doDaysWork_15 f) (iN m) (36 + 7 * m) (36 + 7 * m + 5) (iN t) 1 w_19 else fX0_doDaysWork_246 (fX0_doDaysWork_15 f) (iN m) (36 + 7 * m) (36 + 7 * m + 5) (iN t) 0 w_19)) else fX0_doDaysWork_15 f (iN (m + 1)) (si wc2 1 10 (wc2.1 1 10 + G)) := by
        rw [fX0_doDaysWork_15, h.1.many, if_pos hp, inb_lt2 (by omega) (by omega), if_pos rfl, iN_clamp (by omega), w1, Option.bind_some, cG, if_neg q, iN_s1, if_neg hi, inb_lt2 ht (by omega), if_pos rfl, ri_iN (show t < 2147483648 by omega), ri_iN (show t < 2147483648 by omega), e1, e2, q2, r1, d1, Option.bind_some, a1, Option.bind_some]
        simp only [ri_iN (show t < 2147483648 by omega), wi_iN (show t < 2147483648 by omega), e3, crow, cB, cG, add_lit]
        rw [← crow, r2', show iN m + 1 = iN (m + 1) from add_lit 1 m]
      have mpre : fX12_work (iN m) wm = if b = true then (if E < dg then (if E + 40 * G < dg then some (si wm2 149 (3304 + 125 * m + 6 * t + 2) (E + 40 * G)) else (fX12_depthAt (iN (3304 + 125 * m + 6 * t)) (si wm2 149 (3304 + 125 * m + 6 * t + 2) (E + 40 * G))).bind fun v_11 => (fX12_c (iN c) 1 (si wm2 149 (3304 + 125 * m + 6 * t + 2) (E + 40 * G))).bind fun v_12 => (fX12_pulls (iN c) ((v_11 * ((1 : Int32) + v_12)) / (2 : Int32)) (si wm2 149 (3304 + 125 * m + 6 * t + 2) (E + 40 * G))).bind fun v_13 => fX12_work_153 FU (iN c) (v_11 * ((1 : Int32) + v_12)) 0 v_13) else if wm2.1 149 4301 < (100 : Int32) * B then some (si wm2 149 4311 (wm2.1 149 4311 + G)) else if 0 < wm.1 149 (15 * c + 9) + wm.1 149 (15 * c + 10) then some (si (si (si wm2 149 4301 (wm2.1 149 4301 - (100 : Int32) * B)) 149 (3304 + 125 * m + 6 * t + 3) (wm.1 149 4300 / 24)) 149 (3304 + 125 * m + 6 * t + 4) 1) else some (si (si (si wm2 149 4301 (wm2.1 149 4301 - (100 : Int32) * B)) 149 (3304 + 125 * m + 6 * t + 3) (wm.1 149 4300 / 24)) 149 (3304 + 125 * m + 6 * t + 4) 0)) else some (si wm2 149 4311 (wm2.1 149 4311 + G)) := by
        rw [mtop]
        unfold fX12_work_20
        rw [if_neg hit, msp_eq, Option.bind_some]
        rw [add_lit 0, add_lit 2, add_lit 3, add_lit 4, inb_lt2 (show 3304 + 125 * m + 6 * t + 0 < 4340 by omega) (by omega), if_pos rfl, ri_iN (show 3304 + 125 * m + 6 * t + 0 < 2147483648 by omega), show 3304 + 125 * m + 6 * t + 0 = 3304 + 125 * m + 6 * t from rfl, q1, a2, Option.bind_some]
        cases b
        · rw [if_neg (by simp), if_neg (by simp), nw_eq, wi_lit (by decide), ri_lit (by decide)]
        · rw [if_pos rfl, if_pos rfl]
          show ((fX12_digAt (iN (3304 + 125 * m + 6 * t)) wm2).bind _) = _
          rw [d2, Option.bind_some, inb_lt2 (show 3304 + 125 * m + 6 * t + 2 < 4340 by omega) (by omega), if_pos rfl]
          show (if ri wm2 149 (iN (3304 + 125 * m + 6 * t + 2)) < dg then _ else _) = _
          rw [ri_iN (show 3304 + 125 * m + 6 * t + 2 < 2147483648 by omega), row2, ← hE]
          by_cases x : E < dg
          · rw [if_pos x, if_pos x, nw_eq, wi_iN (show 3304 + 125 * m + 6 * t + 2 < 2147483648 by omega), ri_iN (show 3304 + 125 * m + 6 * t + 2 < 2147483648 by omega)]
            show (if (si wm2 149 (3304 + 125 * m + 6 * t + 2) (E + 40 * G)).1 149 (3304 + 125 * m + 6 * t + 2) < dg then _ else _) = _
            rw [si_at]
          · rw [if_neg x, if_neg x]
            show ((fX12_g 1 wm2).bind _) = _
            rw [mg_1, Option.bind_some, ml_1 hm8, Option.bind_some, row2, ← hB]
            by_cases x2 : wm.1 149 4301 < (100 : Int32) * B
            · rw [if_pos x2, if_pos x2, nw_eq, wi_lit (by decide)]
              show some (si wm2 149 4311 (ri wm2 149 4311 + G)) = _
              rw [ri_lit (by decide)]
              show some (si wm2 149 4311 (wm2.1 149 4311 + G)) = _
              rw [row2]
            · rw [if_neg x2, if_neg x2, Option.bind_some, nw_eq, wi_lit (by decide)]
              show ((fX12_day (si wm2 149 4301 (ri wm2 149 4301 - 100 * B))).bind _) = _
              rw [ri_lit (by decide), day_m, Option.bind_some, inb_lt2 (show 3304 + 125 * m + 6 * t + 3 < 4340 by omega) (by omega), if_pos rfl, nw_eq, wi_iN (show 3304 + 125 * m + 6 * t + 3 < 2147483648 by omega)]
              show ((fX12_c (iN c) 9 (si (si wm2 149 4301 (wm2.1 149 4301 - 100 * B)) 149 (3304 + 125 * m + 6 * t + 3) ((si wm2 149 4301 (wm2.1 149 4301 - 100 * B)).1 149 4300 / 24))).bind _) = _
              rw [z149 (show ¬ 4300 = 4301 by omega), ec9, Option.bind_some, z149 (show ¬ 15 * c + 9 = 3304 + 125 * m + 6 * t + 3 by omega), z149 (show ¬ 15 * c + 9 = 4301 by omega), row2]
              show ((fX12_c (iN c) 10 _).bind _) = _
              rw [ec10, Option.bind_some, z149 (show ¬ 15 * c + 10 = 3304 + 125 * m + 6 * t + 3 by omega), z149 (show ¬ 15 * c + 10 = 4301 by omega)]
              unfold fX12_work_288
              rw [inb_lt2 (show 3304 + 125 * m + 6 * t + 4 < 4340 by omega) (by omega), if_pos rfl, if_pos rfl, nw_eq, nw_eq, wi_iN (show 3304 + 125 * m + 6 * t + 4 < 2147483648 by omega), wi_iN (show 3304 + 125 * m + 6 * t + 4 < 2147483648 by omega)]
              show (if 0 < wm.1 149 (15 * c + 9) + wm2.1 149 (15 * c + 10) then _ else _) = _
              rw [row2]
      cases b with
      | false =>
        refine idle ?_ ?_
        · rw [cpre, if_neg (by simp), s11]
        · rw [mpre, if_neg (by simp)]
      | true =>
        rw [if_pos rfl] at cpre mpre
        by_cases x : E < dg
        · rw [if_pos x] at cpre mpre
          have key : 3300 + 125 * m + (6 + 6 * t) = 3304 + 125 * m + 6 * t + 2 := by omega
          have y1 : YY n (si wc2 (37 + 7 * m + 2) t (E + 40 * G)) (si wm2 149 (3300 + 125 * m + (6 + 6 * t)) (E + 40 * G)) := a3.linep hm8 (show 6 + 6 * t < 125 by omega) (by rw [key]; exact loc_lnI hm8 ht (by omega)) (by omega) (by unfold plainK; refine ⟨by omega, fun c hc => by omega, fun m' hm' => ⟨by omega, fun i hi => pk_dug ht hi⟩, by omega, by omega⟩) (fun D g hg => hg.dug ht)
          rw [key] at y1
          have y2 : HF wc wm (si wc2 (37 + 7 * m + 2) t (E + 40 * G)) (si wm2 149 (3304 + 125 * m + 6 * t + 2) (E + 40 * G)) := hf2.trans ((HF.cput (by omega)).trans (HF.mput (by omega)))
          have k0 : (si wm2 149 (3304 + 125 * m + 6 * t + 2) (E + 40 * G)).1 149 4315 = wm.1 149 4315 := by rw [z149 (by omega), row2]
          rw [nw_eq, ri_iN (show t < 2147483648 by omega), e3, si_at] at cpre
          by_cases x3 : E + 40 * G < dg
          · rw [if_pos x3] at cpre mpre
            exact ⟨_, _, cpre, mpre, y1, y2, fun k hk => by rw [z149 (by omega), row2]⟩
          · rw [if_neg x3] at cpre mpre
            have hm3 : (m : Int) < ((si wm2 149 (3304 + 125 * m + 6 * t + 2) (E + 40 * G)).1 149 4315).toInt := by rw [k0]; exact hm
            have o : ∀ k, ¬ k = 3304 + 125 * m + 6 * t + 2 → (si wm2 149 (3304 + 125 * m + 6 * t + 2) (E + 40 * G)).1 149 k = wm.1 149 k := fun k hk => by rw [z149 hk, row2]
            have ht4 : (t : Int) < ((si wm2 149 (3304 + 125 * m + 6 * t + 2) (E + 40 * G)).1 149 (3300 + 125 * m)).toInt := by rw [o _ (by omega)]; exact ht2
            have cc : (si wc2 (37 + 7 * m + 2) t (E + 40 * G)).1 (37 + 7 * m) t = iN c := by rw [si_oth (by omega), crow]; exact q2
            have mc : (si wm2 149 (3304 + 125 * m + 6 * t + 2) (E + 40 * G)).1 149 (3304 + 125 * m + 6 * t) = iN c := by rw [o _ (by omega)]; exact q1
            rw [depth_c y1 hm3 ht ht4 hc cc, Option.bind_some] at cpre
            rw [depth_m (by omega) hc mc, Option.bind_some, mc_1 hc, Option.bind_some] at mpre
            obtain ⟨dep, hdep⟩ : ∃ dep, dep = (si wm2 149 (3304 + 125 * m + 6 * t + 2) (E + 40 * G)).1 149 (15 * c) - (si wm2 149 (3304 + 125 * m + 6 * t + 2) (E + 40 * G)).1 149 (3304 + 125 * m + 6 * t + 1) := ⟨_, rfl⟩
            have rdep : -300 ≤ dep.toInt ∧ dep.toInt ≤ 300 := by
              rw [hdep, o _ (by omega), o _ (by omega)]
              obtain ⟨z1, z2⟩ := (h.1.2.2.1 c hc).1.1
              obtain ⟨z3, z4⟩ : bt 0 300 (wm.1 149 (3304 + 125 * m + 6 * t + 1)) := by
                rw [← show 3300 + 125 * m + (5 + 6 * t) = 3304 + 125 * m + 6 * t + 1 by omega]
                exact (hl.2.1 t ht2).2.1
              rw [sub_I (by omega) (by omega)]
              omega
            rw [← hdep] at cpre mpre
            obtain ⟨wc3, wm3, b1, b2, b3, b4, b5⟩ := walls_eq y1 hn hc rdep
            rw [b1, Option.bind_some] at cpre
            refine ⟨wc3, wm3, cpre, mpre.trans b2, b3, y2.trans b4, fun k hk => ?_⟩
            rw [b5 k (by omega) (by omega)]
            exact o k (by omega)
        · rw [if_neg x] at cpre mpre
          by_cases x2 : wm2.1 149 4301 < (100 : Int32) * B
          · rw [if_pos x2] at mpre
            rw [s1, if_pos x2, s11] at cpre
            exact idle cpre mpre
          · rw [if_neg x2] at mpre
            rw [s1, if_neg x2] at cpre
            obtain ⟨bx, hbx⟩ : ∃ bx, bx = wm2.1 149 4301 - (100 : Int32) * B := ⟨_, rfl⟩
            rw [← hbx] at cpre mpre
            have rh : bt 0 99999 (wm.1 149 4300) := h.1.2.2.2.2.2.1.1
            have hday : (wm.1 149 4300 / 24).toInt = (wm.1 149 4300).toInt / 24 := div_I rh.1 (by decide)
            have hd : bt 0 ((wm2.1 149 4300).toInt / 24) (wm.1 149 4300 / 24) := by
              unfold bt
              rw [row2, hday]
              have := rh.1
              omega
            have td : fX0_today (si wc2 1 7 bx) = some (wm.1 149 4300 / 24) := by
              unfold fX0_today
              rw [si_1, if_neg (by omega), crow, h.1.hour]
            obtain ⟨⟨n1, n2, n3, n4⟩, n5, n6⟩ := h.1.2.2.pot hc
            have hcoal := coal_nn h.1.2.2.2.1
            have t8 : 0 ≤ (wm.1 149 (1508 + 10 * c)).toInt := by
              have := (h.1.2.2.2.1.1 c hc).2.1.1
              rw [show 1508 + 10 * c = 1500 + 10 * c + 8 by omega]
              exact this
            have t9 : 0 ≤ (wm.1 149 (1509 + 10 * c)).toInt := by
              have := (h.1.2.2.2.1.1 c hc).2.2.1.1
              rw [show 1509 + 10 * c = 1500 + 10 * c + 9 by omega]
              exact this
            unfold pot wtr at n5
            have hh := rh.2
            have r15 : wc.1 15 c = wm.1 149 (15 * c + 9) := h.1.row (j := 9) hc (by omega)
            have r16 : wc.1 16 c = wm.1 149 (15 * c + 10) := h.1.row (j := 10) hc (by omega)
            have hdr : fX10_inDrain (iN c) (si (si wc2 1 7 bx) (40 + 7 * m) t (wm.1 149 4300 / 24)) = some ((wm.1 149 (15 * c + 9)).toInt64 + (wm.1 149 (15 * c + 10)).toInt64) := by
              unfold fX10_inDrain
              rw [inb_lt2 hc (by omega), if_pos rfl, ri_iN (by omega), ri_iN (by omega), si_oth (by omega), si_oth (by omega), si_oth (by omega), si_oth (by omega), crow, r15, r16]
            have cmp : (0 : Int64) < (wm.1 149 (15 * c + 9)).toInt64 + (wm.1 149 (15 * c + 10)).toInt64 ↔ 0 < wm.1 149 (15 * c + 9) + wm.1 149 (15 * c + 10) := by
              rw [llt_I, lt_I, lz_I, ladd_I (by rw [Int32.toInt_toInt64, Int32.toInt_toInt64]; omega) (by rw [Int32.toInt_toInt64, Int32.toInt_toInt64]; omega), Int32.toInt_toInt64, Int32.toInt_toInt64, add_I (by omega) (by omega)]
              exact Iff.rfl
            have c246 : ∀ (s2 : Int32) (w : Wd), w.1 (36 + 7 * m) 4 = iN (t + 1) → fX0_doDaysWork_246 (fX0_doDaysWork_15 f) (iN m) (36 + 7 * m) (36 + 7 * m + 5) (iN t) s2 w = fX0_doDaysWork_15 f (iN (m + 1)) (si (si w (41 + 7 * m) t s2) (36 + 7 * m) 4 (iN t)) := fun s2 w hw => by
              unfold fX0_doDaysWork_246
              rw [inb_lt2 ht (by omega), if_pos rfl, nw_eq, nw_eq, wi_iN (by omega), add_lit, show 36 + 7 * m + 5 = 41 + 7 * m by omega, si_oth (by omega), hw, iN_s1]
            rw [td, Option.bind_some, nw_eq, wi_iN (show t < 2147483648 by omega), show 36 + 7 * m + 4 = 40 + 7 * m by omega, hdr, Option.bind_some] at cpre
            have hw4 : (si (si wc2 1 7 bx) (40 + 7 * m) t (wm.1 149 4300 / 24)).1 (36 + 7 * m) 4 = iN (t + 1) := by rw [si_oth (by omega), si_oth (by omega), crow]; exact u2
            rw [c246 _ _ hw4, c246 _ _ hw4] at cpre
            have hend : ∀ wet : Int32, bt 0 1 wet → fX0_doDaysWork_15 (f + 1) (iN m) wc = fX0_doDaysWork_15 f (iN (m + 1)) (si (si (si (si wc2 1 7 bx) (40 + 7 * m) t (wm.1 149 4300 / 24)) (41 + 7 * m) t wet) (36 + 7 * m) 4 (iN t)) → fX12_work (iN m) wm = some (si (si (si wm2 149 4301 bx) 149 (3304 + 125 * m + 6 * t + 3) (wm.1 149 4300 / 24)) 149 (3304 + 125 * m + 6 * t + 4) wet) → ∃ wc' wm', fX0_doDaysWork_15 (f + 1) (iN m) wc = fX0_doDaysWork_15 f (iN (m + 1)) wc' ∧ fX12_work (iN m) wm = some wm' ∧ YY n wc' wm' ∧ HF wc wm wc' wm' ∧ ∀ k, k = 4315 ∨ k = 4300 → wm'.1 149 k = wm.1 149 k := by
              intro wet hwet P1 P2
              rw [show 3304 + 125 * m + 6 * t + 3 = 3307 + 125 * m + 6 * t by omega, show 3304 + 125 * m + 6 * t + 4 = 3308 + 125 * m + 6 * t by omega] at P2
              obtain ⟨y1, y2⟩ := laid_eq (bx := bx) (day := wm.1 149 4300 / 24) (wet := wet) a3 hn hm2 (u := t) (by rw [row2]; exact u1) (by rw [crow]; exact u2) (by rw [row2]; exact u3) (by rw [row2]; exact u4) hd hwet
              exact ⟨_, _, P1, P2, y1, hf2.trans y2, fun k hk => by rw [z149 (by omega), z149 (by omega), z149 (by omega), row2]⟩
            by_cases x4 : 0 < wm.1 149 (15 * c + 9) + wm.1 149 (15 * c + 10)
            · rw [if_pos x4] at mpre
              rw [if_pos (cmp.mpr x4)] at cpre
              exact hend 1 ⟨by decide, by decide⟩ cpre mpre
            · rw [if_neg x4] at mpre
              rw [if_neg (fun e => x4 (cmp.mp e))] at cpre
              exact hend 0 ⟨by decide, by decide⟩ cpre mpre
-- MATHEMATICS: m83
theorem works_loop {n : Nat} (hn : n ≤ 512) : ∀ (q m f g : Nat) (wc wm : Wd), ((m + q : Nat) : Int) = (wm.1 149 4315).toInt → q < f → q < g → YY n wc wm → ∃ wc' wm', fX0_doDaysWork_15 f (iN m) wc = some wc' ∧ fX12_hour_275 g (iN m) wm = fX12_hour_298 FU 0 wm' ∧ YY n wc' wm' ∧ HF wc wm wc' wm' ∧ wm'.1 149 4300 = wm.1 149 4300 := by
  intro q
  induction q with
  | zero =>
    intro m f g wc wm hm hf hg h
    obtain ⟨f, rfl⟩ : ∃ x, f = x + 1 := ⟨f - 1, by omega⟩
    obtain ⟨g, rfl⟩ : ∃ x, g = x + 1 := ⟨g - 1, by omega⟩
    have h8 := h.1.2.2.2.2.1.1.2
    have hnl : ¬ iN m < wm.1 149 4315 := by
      rw [lt_I, iN_toInt (by omega)]
      omega
    refine ⟨wc, wm, ?_, ?_, h, HF.refl, rfl⟩
    · rw [fX0_doDaysWork_15, h.1.many, if_neg hnl]
    · rw [fX12_hour_275, mg_15, Option.bind_some, if_neg hnl]
  | succ q ih =>
    intro m f g wc wm hm hf hg h
    obtain ⟨f, rfl⟩ : ∃ x, f = x + 1 := ⟨f - 1, by omega⟩
    obtain ⟨g, rfl⟩ : ∃ x, g = x + 1 := ⟨g - 1, by omega⟩
    have h8 := h.1.2.2.2.2.1.1.2
    have hml : iN m < wm.1 149 4315 := by
      rw [lt_I, iN_toInt (by omega)]
      omega
    obtain ⟨w1, m1, e1, e2, e3, e4, e5⟩ := work_step h hn (show (m : Int) < (wm.1 149 4315).toInt by omega) f
    obtain ⟨w2, m2, f1, f2, f3, f4, f5⟩ := ih (m + 1) f g w1 m1 (by rw [e5 4315 (Or.inl rfl)]; omega) (by omega) (by omega) e3
    refine ⟨w2, m2, e1.trans f1, ?_, f3, e4.trans f4, f5.trans (e5 4300 (Or.inr rfl))⟩
    rw [fX12_hour_275, mg_15, Option.bind_some, if_pos hml, e2, Option.bind_some, add_lit 1 m]
    exact f2
theorem works_eq {n : Nat} {wc wm : Wd} (h : YY n wc wm) (hn : n ≤ 512) : ∃ wc' wm', fX0_doDaysWork wc = some wc' ∧ fX12_hour_275 FU 0 (si wm 149 4301 (wm.1 149 4301 + wm.1 149 4302)) = fX12_hour_298 FU 0 wm' ∧ YY n wc' wm' ∧ HF wc wm wc' wm' ∧ wm'.1 149 4300 = wm.1 149 4300 := by
  have s1 : wc.1 1 7 = wm.1 149 4301 := h.1.scal (j := 1) (by omega)
  have s2 : wc.1 1 8 = wm.1 149 4302 := h.1.scal (j := 2) (by omega)
  obtain ⟨y1, y2⟩ := h.soft1 (x := wm.1 149 4301 + wm.1 149 4302) hn (Or.inl rfl) (loc_sc (j := 1) (by omega)) (by show 1 ≤ 1 ∧ 1 ≤ 91; omega)
  have h8 := y1.1.2.2.2.2.1.1
  obtain ⟨w1, m1, e1, e2, e3, e4, e5⟩ := works_loop hn ((si wm 149 4301 (wm.1 149 4301 + wm.1 149 4302)).1 149 4315).toInt.toNat 0 FU FU _ _ (by have := h8.1; omega) (by have := h8.2; unfold FU; omega) (by have := h8.2; unfold FU; omega) y1
  refine ⟨w1, m1, ?_, e2, e3, y2.trans e4, e5.trans (by rw [z149 (by omega)])⟩
  unfold fX0_doDaysWork
  rw [s1, s2, nw_eq]
  exact e1
def bdA (S : Nat → Int32) (c : Nat) : Nat → Bool
  | 0 => false
  | m + 1 => (match besN c (3 - m) with
    | none => false
    | some d => decide (0 < S (15 * d + 11))) || bdA S c m
def bdN (S : Nat → Int32) (c : Nat) : Bool := decide (0 < S (15 * c + 11)) || bdA S c 4
theorem bad_c {n c : Nat} {wc wm : Wd} (h : YY n wc wm) (hc : c < 100) : ∀ (m f : Nat), m ≤ 4 → m < f → fX1_isBadPump_13 wc f (iN c) (iN (4 - m)) = some (bdA (wm.1 149) c m) := by
  intro m
  induction m with
  | zero =>
    intro f _ hf
    obtain ⟨f, rfl⟩ : ∃ x, f = x + 1 := ⟨f - 1, by omega⟩
    rw [fX1_isBadPump_13, if_neg (show ¬ iN (4 - 0) < 4 by decide)]
    rfl
  | succ m ih =>
    intro f hm hf
    obtain ⟨f, rfl⟩ : ∃ x, f = x + 1 := ⟨f - 1, by omega⟩
    have hj : 4 - (m + 1) < 4 := by omega
    have lj : iN (4 - (m + 1)) < 4 := (iN_lt_lit (by omega) (by omega)).mpr (by show 4 - (m + 1) < 4; exact hj)
    have ihf := ih f (by omega) (by omega)
    rw [show 4 - m = 4 - (m + 1) + 1 by omega] at ihf
    rw [fX1_isBadPump_13, if_pos lj, bes_c hc hj, Option.bind_some, add_lit 1 (4 - (m + 1))]
    have e31 : 4 - (m + 1) = 3 - m := by omega
    cases e : besN c (4 - (m + 1)) with
    | none =>
      rw [if_pos (show enc1 none = -1 from rfl)]
      rw [e31] at e
      unfold bdA
      rw [e]
      exact ihf
    | some d =>
      have hd := (besN_adj hc e).1
      have r17 : wc.1 17 d = wm.1 149 (15 * d + 11) := h.1.row (j := 11) hd (by omega)
      rw [if_neg (enc1_ne (by omega)), show enc1 (some d) = iN d from rfl, inb_lt2 hd (by omega), if_pos rfl, ri_iN (by omega), r17]
      rw [e31] at e
      unfold bdA
      rw [e]
      by_cases x : 0 < wm.1 149 (15 * d + 11)
      · rw [if_pos x]
        show some true = some (decide (0 < wm.1 149 (15 * d + 11)) || bdA (wm.1 149) c m)
        rw [decide_eq_true x, Bool.true_or]
      · rw [if_neg x]
        show _ = some (decide (0 < wm.1 149 (15 * d + 11)) || bdA (wm.1 149) c m)
        rw [decide_eq_false x, Bool.false_or]
        exact ihf
theorem bad_m {c : Nat} {wm : Wd} (hc : c < 100) : ∀ (m f : Nat) (b : Bool), m ≤ 4 → m < f → fX12_isBadPump_18 wm f (iN c) (if b = true then 1 else 0) (iN (4 - m)) = some (b || bdA (wm.1 149) c m) := by
  intro m
  induction m with
  | zero =>
    intro f b _ hf
    obtain ⟨f, rfl⟩ : ∃ x, f = x + 1 := ⟨f - 1, by omega⟩
    rw [fX12_isBadPump_18, if_neg (show ¬ iN (4 - 0) < 4 by decide)]
    cases b <;> rfl
  | succ m ih =>
    intro f b hm hf
    obtain ⟨f, rfl⟩ : ∃ x, f = x + 1 := ⟨f - 1, by omega⟩
    have hj : 4 - (m + 1) < 4 := by omega
    have lj : iN (4 - (m + 1)) < 4 := (iN_lt_lit (by omega) (by omega)).mpr (by show 4 - (m + 1) < 4; exact hj)
    have ihf := fun b => ih f b (by omega) (by omega)
    rw [show 4 - m = 4 - (m + 1) + 1 by omega] at ihf
    have iht := ihf true
    have ihn := ihf false
    rw [if_pos rfl, Bool.true_or] at iht
    rw [if_neg (by simp), Bool.false_or] at ihn
    have e31 : 4 - (m + 1) = 3 - m := by omega
    cases b with
    | true =>
      rw [fX12_isBadPump_18, if_pos lj, if_pos rfl, if_neg (by decide), add_lit 1 (4 - (m + 1)), iht, Bool.true_or]
    | false =>
      rw [fX12_isBadPump_18, if_pos lj, if_neg (show ¬ false = true by simp), if_pos rfl, bes_m hc hj, Option.bind_some, add_lit 1 (4 - (m + 1)), Bool.false_or]
      cases e : besN c (4 - (m + 1)) with
      | none =>
        rw [if_pos (show enc1 none = -1 from rfl), ihn]
        rw [e31] at e
        conv => rhs; unfold bdA
        rw [e]
        rfl
      | some d =>
        have hd := (besN_adj hc e).1
        rw [if_neg (enc1_ne (by omega)), Option.bind_some, show enc1 (some d) = iN d from rfl]
        have r := mc_j (w := wm) (j := 11) hd (by decide)
        have r' : fX12_c (iN d) 11 wm = some (wm.1 149 (15 * d + 11)) := r
        rw [r', Option.bind_some]
        rw [e31] at e
        conv => rhs; unfold bdA
        rw [e]
        by_cases x : 0 < wm.1 149 (15 * d + 11)
        · rw [if_pos x, iht]
          show some true = some (decide (0 < wm.1 149 (15 * d + 11)) || bdA (wm.1 149) c m)
          rw [decide_eq_true x, Bool.true_or]
        · rw [if_neg x, ihn]
          show _ = some (decide (0 < wm.1 149 (15 * d + 11)) || bdA (wm.1 149) c m)
          rw [decide_eq_false x, Bool.false_or]
theorem bad_eq {n c : Nat} {wc wm : Wd} (h : YY n wc wm) (hc : c < 100) : fX1_isBadPump (iN c) wc = some (bdN (wm.1 149) c) ∧ fX12_isBadPump (iN c) wm = some (bdN (wm.1 149) c) := by
  have r17 : wc.1 17 c = wm.1 149 (15 * c + 11) := h.1.row (j := 11) hc (by omega)
  have b1 := bad_c h hc 4 FU (by omega) (by unfold FU; omega)
  have b2 := fun b => bad_m (wm := wm) hc 4 FU b (by omega) (by unfold FU; omega)
  rw [show iN (4 - 4) = 0 from rfl] at b1 b2
  have r : fX12_c (iN c) 11 wm = some (wm.1 149 (15 * c + 11)) := mc_j (w := wm) (j := 11) hc (by decide)
  constructor
  · unfold fX1_isBadPump bdN
    rw [inb_lt2 hc (by omega), if_pos rfl, ri_iN (by omega), r17, b1]
    by_cases x : 0 < wm.1 149 (15 * c + 11)
    · rw [if_pos x, decide_eq_true x, Bool.true_or]
    · rw [if_neg x, decide_eq_false x, Bool.false_or]
  · unfold fX12_isBadPump bdN
    rw [r, Option.bind_some]
    by_cases x : 0 < wm.1 149 (15 * c + 11)
    · have := b2 true
      rw [if_pos rfl] at this
      rw [if_pos x, this, decide_eq_true x]
    · have := b2 false
      rw [if_neg (by simp)] at this
      rw [if_neg x, this, decide_eq_false x]
