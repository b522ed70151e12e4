-- the law: its loop (printed by wip/whole/lloop.py)
theorem law_end {K : KT} {b : Nat} {lv : List (Option Value)} {w : Wd} (G : GK K code RL 8 300) (hE : LE K b) (hc : K.cells ≤ 601024) (hs : K.slots ≤ 7293033) : XW K 2207 lv [] w := by
  refine x_iconst G (v := 1) dL_law_2207 (by decide) ?_
  intro H locs ls hH hS hL
  obtain ⟨e1, e2, e3, e4, e5, e6⟩ := hE
  have hlk : K.meth.locks = false := G.2.2.2.2.2.2.2.2.2.1
  rw [e3, e2, e1]
  refine va_forget (fun q hq => ?_) (W.widen (k := 601024) (n := 7293033) hc hs ?_)
  · have := hS.2.2 q hq
    rw [e4] at this
    exact this
  · exact lw_ret G.1 G.2.1 e6 hlk dL_law_2208
theorem lv5_sub {n : Nat} {lv : List (Option Value)} (h : lv.take 5 = LV5 n) (h8 : lv.length = 8) : lsub (LV n) lv := by
  rcases lv with _ | ⟨a, _ | ⟨b, _ | ⟨c, _ | ⟨d, _ | ⟨e, _ | ⟨f, _ | ⟨g, _ | ⟨h', _ | ⟨i, t⟩⟩⟩⟩⟩⟩⟩⟩⟩ <;> simp at h8
  simp [LV5] at h
  obtain ⟨rfl, rfl, rfl, rfl, rfl⟩ := h
  exact ⟨rfl, rfl, rfl, rfl, rfl, trivial⟩
theorem law_loop {I : Nat → Wd → Prop} (hm : LMath I) (hup : ∀ {n w}, I n w → I (n + 1) w) {b L : Nat} {xs : Nat → Int32} : ∀ (m n : Nat) (K : KT) (w : Wd) (lv : List (Option Value)), m + n = 513 → LB K b L xs n w → I n w → lv.take 5 = LV5 n → lv.length = 8 → XW K 23 lv [] w
  | m, n, K, w, lv, hmn, B, hi, h5, h8 => by
    refine XW.sub (lv' := LV n) (lv5_sub h5 h8) ?_
    have G := B.1.1
    obtain ⟨hst, hb170, hX, hbl, hbA, hL⟩ := B.2.2.2.1
    have hbig : (6 * n : Nat) < 2147483648 := by omega
    have hLI : (Int32.ofNat L - 6).toInt = (L : Int) - 6 := by
      have e : (Int32.ofNat L).toInt = (L : Int) := iN_toInt (n := L) (by omega)
      rw [sub_I (by rw [e, show (6 : Int32).toInt = 6 from rfl]; omega) (by rw [e, show (6 : Int32).toInt = 6 from rfl]; omega), e, show (6 : Int32).toInt = 6 from rfl]
    refine x_iload G dL_law_23 rfl ?_
    refine x_aload_n G dL_law_25 rfl rfl ?_
    refine x_slen G hb170 hX hbl hbA dL_law_26 ?_
    refine x_bipush G (v := 6) dL_law_27 (by decide) ?_
    refine x_isub G dL_law_29 ?_
    refine x_icmpgt (α := Unit) (A := some ()) (B := some ()) (r := ()) G dL_law_30 (tgt := 2207) rfl (by split <;> rfl) (fun hgt _ => ?_) (fun hle _ => ?_)
    · have hr1 := B.2.2.1.1
      have hr2 := B.2.2.1.2
      exact law_end G B.2.2.2.2 (by omega) (by omega)
    have hn6 : 6 * n + 6 ≤ L := by
      rw [lt_I, hLI, iN_toInt hbig] at hle
      omega
    obtain ⟨m2, rfl⟩ : ∃ m2, m = m2 + 1 := ⟨m - 1, by omega⟩
    have kk : ∀ (K' : KT) (w' : Wd) (lv : List (Option Value)), lv.take 5 = LV5 n → lv.length = 8 → LB K' b L xs (n + 1) w' → I (n + 1) w' → KPs K K' → XW K' 2201 lv [] w' := fun K' w' lv e5 e8 B' hi' _ => by
      refine XW.sub (lv' := LV n) (lv5_sub e5 e8) ?_
      refine x_iinc (lv' := LV (n + 1)) B'.1.1 dL_law_2201 (x := iN (6 * n)) (v := 6) rfl rfl rfl rfl ?_ ?_
      · show List.set _ _ _ = _
        rw [add_lit, show 6 * n + 6 = 6 * (n + 1) by omega]
        rfl
      · exact x_goto B'.1.1 (tgt := 23) dL_law_2204 rfl (law_loop hm hup m2 (n + 1) K' w' (LV (n + 1)) (by omega) B' hi' rfl rfl)
    refine x_aload_n G dL_law_33 rfl rfl ?_
    refine x_iload G dL_law_34 rfl ?_
    refine x_sld G hb170 hX hbl hbA (lv_at0 hn6 hL) dL_law_36 ?_
    refine x_bipush G (v := 63) dL_law_37 (by decide) ?_
    refine x_iand G dL_law_39 ?_
    generalize xs (iN (6 * n)).toNatClampNeg &&& 63 = x
    by_cases e0 : x = 0
    · exact x_swIn G dL_law_40 (k := 0) (tgt := 244) e0 (by decide) (by decide) rfl rfl (lc_begin hm B hn6 hi kk)
    by_cases e1 : x = 1
    · exact x_swIn G dL_law_40 (k := 1) (tgt := 257) e1 (by decide) (by decide) rfl rfl (lc_set hm B hn6 hi kk)
    by_cases e2 : x = 2
    · exact x_swIn G dL_law_40 (k := 2) (tgt := 306) e2 (by decide) (by decide) rfl rfl (lc_of hm B hn6 hi kk)
    by_cases e3 : x = 3
    · exact x_swIn G dL_law_40 (k := 3) (tgt := 374) e3 (by decide) (by decide) rfl rfl (lc_tide hm B hn6 hi kk)
    by_cases e4 : x = 4
    · exact x_swIn G dL_law_40 (k := 4) (tgt := 399) e4 (by decide) (by decide) rfl rfl (lc_level hm B hn6 hi kk)
    by_cases e5 : x = 5
    · exact x_swIn G dL_law_40 (k := 5) (tgt := 455) e5 (by decide) (by decide) rfl rfl (lc_comesBack hm B hn6 hi kk)
    by_cases e6 : x = 6
    · exact x_swIn G dL_law_40 (k := 6) (tgt := 480) e6 (by decide) (by decide) rfl rfl (lc_window hm B hn6 hi kk)
    by_cases e7 : x = 7
    · exact x_swIn G dL_law_40 (k := 7) (tgt := 517) e7 (by decide) (by decide) rfl rfl (lc_old hm B hn6 hi kk)
    by_cases e8 : x = 8
    · exact x_swIn G dL_law_40 (k := 8) (tgt := 578) e8 (by decide) (by decide) rfl rfl (lc_map hm B hn6 hi kk)
    by_cases e9 : x = 9
    · exact x_swIn G dL_law_40 (k := 9) (tgt := 627) e9 (by decide) (by decide) rfl rfl (lc_cut hm B hn6 hi kk)
    by_cases e10 : x = 10
    · exact x_swIn G dL_law_40 (k := 10) (tgt := 652) e10 (by decide) (by decide) rfl rfl (lc_mapOf hm B hn6 hi kk)
    by_cases e11 : x = 11
    · exact x_swIn G dL_law_40 (k := 11) (tgt := 701) e11 (by decide) (by decide) rfl rfl (lc_route hm B hn6 hi kk)
    by_cases e12 : x = 12
    · exact x_swIn G dL_law_40 (k := 12) (tgt := 762) e12 (by decide) (by decide) rfl rfl (lc_way hm B hn6 hi kk)
    by_cases e13 : x = 13
    · exact x_swIn G dL_law_40 (k := 13) (tgt := 787) e13 (by decide) (by decide) rfl rfl (lc_take hm B hn6 hi kk)
    by_cases e14 : x = 14
    · exact x_swIn G dL_law_40 (k := 14) (tgt := 824) e14 (by decide) (by decide) rfl rfl (lc_lineOf hm B hn6 hi kk)
    by_cases e15 : x = 15
    · exact x_swIn G dL_law_40 (k := 15) (tgt := 904) e15 (by decide) (by decide) rfl rfl (lc_size hm B hn6 hi kk)
    by_cases e16 : x = 16
    · exact x_swIn G dL_law_40 (k := 16) (tgt := 929) e16 (by decide) (by decide) rfl rfl (lc_gangs hm B hn6 hi kk)
    by_cases e17 : x = 17
    · exact x_swIn G dL_law_40 (k := 17) (tgt := 966) e17 (by decide) (by decide) rfl rfl (lc_kiln hm B hn6 hi kk)
    by_cases e18 : x = 18
    · exact x_swIn G dL_law_40 (k := 18) (tgt := 991) e18 (by decide) (by decide) rfl rfl (lc_bad hm B hn6 hi kk)
    by_cases e19 : x = 19
    · exact x_swIn G dL_law_40 (k := 19) (tgt := 1056) e19 (by decide) (by decide) rfl rfl (lc_bears hm B hn6 hi kk)
    by_cases e20 : x = 20
    · exact x_swIn G dL_law_40 (k := 20) (tgt := 1093) e20 (by decide) (by decide) rfl rfl (lc_carries hm B hn6 hi kk)
    by_cases e21 : x = 21
    · exact x_swIn G dL_law_40 (k := 21) (tgt := 1118) e21 (by decide) (by decide) rfl rfl (lc_cross hm B hn6 hi kk)
    by_cases e22 : x = 22
    · exact x_swIn G dL_law_40 (k := 22) (tgt := 1167) e22 (by decide) (by decide) rfl rfl (lc_rain hm B hn6 hi kk)
    by_cases e23 : x = 23
    · exact x_swIn G dL_law_40 (k := 23) (tgt := 1192) e23 (by decide) (by decide) rfl rfl (lc_lift hm B hn6 hi kk)
    by_cases e24 : x = 24
    · exact x_swIn G dL_law_40 (k := 24) (tgt := 1253) e24 (by decide) (by decide) rfl rfl (lc_coal hm B hn6 hi kk)
    by_cases e25 : x = 25
    · exact x_swIn G dL_law_40 (k := 25) (tgt := 1290) e25 (by decide) (by decide) rfl rfl (lc_stop hm B hn6 hi kk)
    by_cases e26 : x = 26
    · exact x_swIn G dL_law_40 (k := 26) (tgt := 1343) e26 (by decide) (by decide) rfl rfl (lc_lasts hm B hn6 hi kk)
    by_cases e27 : x = 27
    · exact x_swIn G dL_law_40 (k := 27) (tgt := 1380) e27 (by decide) (by decide) rfl rfl (lc_out hm B hn6 hi kk)
    by_cases e28 : x = 28
    · exact x_swIn G dL_law_40 (k := 28) (tgt := 1441) e28 (by decide) (by decide) rfl rfl (lc_house hm B hn6 hi kk)
    by_cases e29 : x = 29
    · exact x_swIn G dL_law_40 (k := 29) (tgt := 1509) e29 (by decide) (by decide) rfl rfl (lc_hours hm B hn6 hi kk)
    by_cases e30 : x = 30
    · exact x_swIn G dL_law_40 (k := 30) (tgt := 1534) e30 (by decide) (by decide) rfl rfl (lc_bridge hm B hn6 hi kk)
    by_cases e31 : x = 31
    · exact x_swIn G dL_law_40 (k := 31) (tgt := 1559) e31 (by decide) (by decide) rfl rfl (lc_cutOff hm B hn6 hi kk)
    by_cases e32 : x = 32
    · exact x_swIn G dL_law_40 (k := 32) (tgt := 1572) e32 (by decide) (by decide) rfl rfl (lc_law hm B hn6 hi kk)
    by_cases e33 : x = 33
    · exact x_swIn G dL_law_40 (k := 33) (tgt := 1621) e33 (by decide) (by decide) rfl rfl (lc_inForce hm B hn6 hi kk)
    by_cases e34 : x = 34
    · exact x_swIn G dL_law_40 (k := 34) (tgt := 1658) e34 (by decide) (by decide) rfl rfl (lc_holds hm B hn6 hi kk)
    by_cases e35 : x = 35
    · exact x_swIn G dL_law_40 (k := 35) (tgt := 1695) e35 (by decide) (by decide) rfl rfl (lc_best hm B hn6 hi kk)
    by_cases e36 : x = 36
    · exact x_swIn G dL_law_40 (k := 36) (tgt := 1732) e36 (by decide) (by decide) rfl rfl (lc_judge hm B hn6 hi kk)
    by_cases e37 : x = 37
    · exact x_swIn G dL_law_40 (k := 37) (tgt := 1769) e37 (by decide) (by decide) rfl rfl (lc_share hm B hn6 hi kk)
    by_cases e38 : x = 38
    · exact x_swIn G dL_law_40 (k := 38) (tgt := 1806) e38 (by decide) (by decide) rfl rfl (lc_tape hm B hn6 hi kk)
    by_cases e39 : x = 39
    · exact x_swIn G dL_law_40 (k := 39) (tgt := 1855) e39 (by decide) (by decide) rfl rfl (lc_keep hm B hn6 hi kk)
    by_cases e40 : x = 40
    · exact x_swIn G dL_law_40 (k := 40) (tgt := 1880) e40 (by decide) (by decide) rfl rfl (lc_back hm B hn6 hi kk)
    by_cases e41 : x = 41
    · exact x_swIn G dL_law_40 (k := 41) (tgt := 1905) e41 (by decide) (by decide) rfl rfl (lc_toss hm B hn6 hi kk)
    by_cases e42 : x = 42
    · exact x_swIn G dL_law_40 (k := 42) (tgt := 1930) e42 (by decide) (by decide) rfl rfl (lc_clear hm B hn6 hi kk)
    by_cases e43 : x = 43
    · exact x_swIn G dL_law_40 (k := 43) (tgt := 1955) e43 (by decide) (by decide) rfl rfl (lc_put hm B hn6 hi kk)
    by_cases e44 : x = 44
    · exact x_swIn G dL_law_40 (k := 44) (tgt := 2036) e44 (by decide) (by decide) rfl rfl (lc_at hm B hn6 hi kk)
    by_cases e45 : x = 45
    · exact x_swIn G dL_law_40 (k := 45) (tgt := 2103) e45 (by decide) (by decide) rfl rfl (lc_copy hm B hn6 hi kk)
    by_cases e46 : x = 46
    · exact x_swIn G dL_law_40 (k := 46) (tgt := 2176) e46 (by decide) (by decide) rfl rfl (lc_count hm B hn6 hi kk)
    refine x_swDef G dL_law_40 (tgt := 2201) rfl [0, 1, 2, 3, 4, 5, 6, 7, 8, 9, 10, 11, 12, 13, 14, 15, 16, 17, 18, 19, 20, 21, 22, 23, 24, 25, 26, 27, 28, 29, 30, 31, 32, 33, 34, 35, 36, 37, 38, 39, 40, 41, 42, 43, 44, 45, 46] (fun k hk => ?_) (by decide) (kk K w (LV n) rfl rfl B.up (hup hi) (KPs.rf K))
    simp only [List.mem_cons, List.not_mem_nil, or_false] at hk
    rcases hk with rfl | rfl | rfl | rfl | rfl | rfl | rfl | rfl | rfl | rfl | rfl | rfl | rfl | rfl | rfl | rfl | rfl | rfl | rfl | rfl | rfl | rfl | rfl | rfl | rfl | rfl | rfl | rfl | rfl | rfl | rfl | rfl | rfl | rfl | rfl | rfl | rfl | rfl | rfl | rfl | rfl | rfl | rfl | rfl | rfl | rfl | rfl
    · exact nek e0 rfl
    · exact nek e1 rfl
    · exact nek e2 rfl
    · exact nek e3 rfl
    · exact nek e4 rfl
    · exact nek e5 rfl
    · exact nek e6 rfl
    · exact nek e7 rfl
    · exact nek e8 rfl
    · exact nek e9 rfl
    · exact nek e10 rfl
    · exact nek e11 rfl
    · exact nek e12 rfl
    · exact nek e13 rfl
    · exact nek e14 rfl
    · exact nek e15 rfl
    · exact nek e16 rfl
    · exact nek e17 rfl
    · exact nek e18 rfl
    · exact nek e19 rfl
    · exact nek e20 rfl
    · exact nek e21 rfl
    · exact nek e22 rfl
    · exact nek e23 rfl
    · exact nek e24 rfl
    · exact nek e25 rfl
    · exact nek e26 rfl
    · exact nek e27 rfl
    · exact nek e28 rfl
    · exact nek e29 rfl
    · exact nek e30 rfl
    · exact nek e31 rfl
    · exact nek e32 rfl
    · exact nek e33 rfl
    · exact nek e34 rfl
    · exact nek e35 rfl
    · exact nek e36 rfl
    · exact nek e37 rfl
    · exact nek e38 rfl
    · exact nek e39 rfl
    · exact nek e40 rfl
    · exact nek e41 rfl
    · exact nek e42 rfl
    · exact nek e43 rfl
    · exact nek e44 rfl
    · exact nek e45 rfl
    · exact nek e46 rfl
