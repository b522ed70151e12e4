-- constructors' walks (printed by wip/whole/init.py)
theorem noV1 {a v : Nat} (h : ¬ a = v) : noV v [some (.ref a)] = true := by
  have : Nat.beq a v = false := by
    cases hb : Nat.beq a v
    · rfl
    · exact absurd (Nat.eq_of_beq_eq_true hb) h
  simp [noV, this]
theorem wo_1 : Cond.instanceMethod Lib.objectInit ∈ gtbl := gq (by decide +kernel) (by decide +kernel)
theorem wo_2 : Cond.code Lib.objectInit ⟨#[0xb1]⟩ 1 none ∈ gtbl := gq (by decide +kernel) (by decide +kernel)
theorem wa_int : Cond.arrayClass FieldType.int ∈ gtbl := gq (by decide +kernel) (by decide +kernel)
theorem dX1_init_0 : decode cX1_init 0 = .ok (.aload_n 0, 1) := by decide +kernel
theorem dX1_init_1 : decode cX1_init 1 = .ok (.invokespecial 3, 3) := by decide +kernel
theorem dX1_init_4 : decode cX1_init 4 = .ok (.aload_n 0, 1) := by decide +kernel
theorem dX1_init_5 : decode cX1_init 5 = .ok (.bipush 100, 2) := by decide +kernel
theorem dX1_init_7 : decode cX1_init 7 = .ok (.newarray .int, 2) := by decide +kernel
theorem dX1_init_9 : decode cX1_init 9 = .ok (.putfield 9, 3) := by decide +kernel
theorem dX1_init_12 : decode cX1_init 12 = .ok (.aload_n 0, 1) := by decide +kernel
theorem dX1_init_13 : decode cX1_init 13 = .ok (.bipush 100, 2) := by decide +kernel
theorem dX1_init_15 : decode cX1_init 15 = .ok (.newarray .int, 2) := by decide +kernel
theorem dX1_init_17 : decode cX1_init 17 = .ok (.putfield 15, 3) := by decide +kernel
theorem dX1_init_20 : decode cX1_init 20 = .ok (.aload_n 0, 1) := by decide +kernel
theorem dX1_init_21 : decode cX1_init 21 = .ok (.bipush 100, 2) := by decide +kernel
theorem dX1_init_23 : decode cX1_init 23 = .ok (.newarray .int, 2) := by decide +kernel
theorem dX1_init_25 : decode cX1_init 25 = .ok (.putfield 18, 3) := by decide +kernel
theorem dX1_init_28 : decode cX1_init 28 = .ok (.aload_n 0, 1) := by decide +kernel
theorem dX1_init_29 : decode cX1_init 29 = .ok (.bipush 100, 2) := by decide +kernel
theorem dX1_init_31 : decode cX1_init 31 = .ok (.newarray .int, 2) := by decide +kernel
theorem dX1_init_33 : decode cX1_init 33 = .ok (.putfield 21, 3) := by decide +kernel
theorem dX1_init_36 : decode cX1_init 36 = .ok (.aload_n 0, 1) := by decide +kernel
theorem dX1_init_37 : decode cX1_init 37 = .ok (.bipush 100, 2) := by decide +kernel
theorem dX1_init_39 : decode cX1_init 39 = .ok (.newarray .int, 2) := by decide +kernel
theorem dX1_init_41 : decode cX1_init 41 = .ok (.putfield 24, 3) := by decide +kernel
theorem dX1_init_44 : decode cX1_init 44 = .ok (.aload_n 0, 1) := by decide +kernel
theorem dX1_init_45 : decode cX1_init 45 = .ok (.bipush 100, 2) := by decide +kernel
theorem dX1_init_47 : decode cX1_init 47 = .ok (.newarray .int, 2) := by decide +kernel
theorem dX1_init_49 : decode cX1_init 49 = .ok (.putfield 27, 3) := by decide +kernel
theorem dX1_init_52 : decode cX1_init 52 = .ok (.aload_n 0, 1) := by decide +kernel
theorem dX1_init_53 : decode cX1_init 53 = .ok (.bipush 100, 2) := by decide +kernel
theorem dX1_init_55 : decode cX1_init 55 = .ok (.newarray .int, 2) := by decide +kernel
theorem dX1_init_57 : decode cX1_init 57 = .ok (.putfield 30, 3) := by decide +kernel
theorem dX1_init_60 : decode cX1_init 60 = .ok (.return_, 1) := by decide +kernel
theorem wo_X1_3 : Cond.methodLink RX1 3 Lib.objectInit ∈ gtbl := gq (by decide +kernel) (by decide +kernel)
set_option maxHeartbeats 4000000 in
theorem kX1_init {l : Launch} {S : KS} {w : Wd} (hI : Inj S) (hv : KD S (92) (.inl (1, [(3, 0), (3, 0), (3, 0), (3, 0), (3, 0), (3, 0), (3, 0)]))) (hf : ∀ a, 93 ≤ a → a ≤ 99 → ¬ S.D a) (hc : Clo S w) : CK l yX1_init cX1_init 1 2 7 700 S (92) (93) (99) w (zi (zi (zi (zi (zi (zi (zi w (93)) (94)) (95)) (96)) (97)) (98)) (99)) [(92, .inl (1, [(1, 93), (1, 94), (1, 95), (1, 96), (1, 97), (1, 98), (1, 99)])), (93, .inr (0, 100, nt)), (94, .inr (0, 100, nt)), (95, .inr (0, 100, nt)), (96, .inr (0, 100, nt)), (97, .inr (0, 100, nt)), (98, .inr (0, 100, nt)), (99, .inr (0, 100, nt))] := by
  refine mk_entryC (own := RX1) rfl (by decide +kernel) rfl hI 0 rfl rfl (fun K sz h1 h2 h3 hR hc0 hs0 hcR hsR G => ?_)
  refine x_aload_n G dX1_init_0 rfl rfl ?_
  refine x_objI G wo_X1_3 wo_1 wo_2 rfl rfl dX1_init_1 ?_
  have B := c_start G h2 h3 hR hc0 hs0 hcR hsR hv hf hc
  clear G h2 h3 hR hc0 hs0 hcR hsR
  refine x_aload_n B.1 dX1_init_4 rfl rfl ?_
  refine x_bipush B.1 (v := 100) dX1_init_5 (by decide) ?_
  refine c_fieldA (at0 := .int) (ty := .int) (n := 100) (t0 := 0) (k := 0) B cl1 rfl (Or.inl ⟨rfl, rfl⟩) wa_int (by decide) (by decide) (by decide) (by omega) (by omega) (noV1 (by omega)) (by omega) (by omega) (by omega) (by simp <;> omega) rfl rfl wf_X1_9 (Or.inr ⟨rfl, rfl⟩) (fun _ => rfl) (fun _ => rfl) dX1_init_7 dX1_init_9 (fun K B => ?_)
  refine x_aload_n B.1 dX1_init_12 rfl rfl ?_
  refine x_bipush B.1 (v := 100) dX1_init_13 (by decide) ?_
  refine c_fieldA (at0 := .int) (ty := .int) (n := 100) (t0 := 0) (k := 1) B cl1 rfl (Or.inl ⟨rfl, rfl⟩) wa_int (by decide) (by decide) (by decide) (by omega) (by omega) (noV1 (by omega)) (by omega) (by omega) (by omega) (by simp <;> omega) rfl rfl wf_X1_15 (Or.inr ⟨rfl, rfl⟩) (fun _ => rfl) (fun _ => rfl) dX1_init_15 dX1_init_17 (fun K B => ?_)
  refine x_aload_n B.1 dX1_init_20 rfl rfl ?_
  refine x_bipush B.1 (v := 100) dX1_init_21 (by decide) ?_
  refine c_fieldA (at0 := .int) (ty := .int) (n := 100) (t0 := 0) (k := 2) B cl1 rfl (Or.inl ⟨rfl, rfl⟩) wa_int (by decide) (by decide) (by decide) (by omega) (by omega) (noV1 (by omega)) (by omega) (by omega) (by omega) (by simp <;> omega) rfl rfl wf_X1_18 (Or.inr ⟨rfl, rfl⟩) (fun _ => rfl) (fun _ => rfl) dX1_init_23 dX1_init_25 (fun K B => ?_)
  refine x_aload_n B.1 dX1_init_28 rfl rfl ?_
  refine x_bipush B.1 (v := 100) dX1_init_29 (by decide) ?_
  refine c_fieldA (at0 := .int) (ty := .int) (n := 100) (t0 := 0) (k := 3) B cl1 rfl (Or.inl ⟨rfl, rfl⟩) wa_int (by decide) (by decide) (by decide) (by omega) (by omega) (noV1 (by omega)) (by omega) (by omega) (by omega) (by simp <;> omega) rfl rfl wf_X1_21 (Or.inr ⟨rfl, rfl⟩) (fun _ => rfl) (fun _ => rfl) dX1_init_31 dX1_init_33 (fun K B => ?_)
  refine x_aload_n B.1 dX1_init_36 rfl rfl ?_
  refine x_bipush B.1 (v := 100) dX1_init_37 (by decide) ?_
  refine c_fieldA (at0 := .int) (ty := .int) (n := 100) (t0 := 0) (k := 4) B cl1 rfl (Or.inl ⟨rfl, rfl⟩) wa_int (by decide) (by decide) (by decide) (by omega) (by omega) (noV1 (by omega)) (by omega) (by omega) (by omega) (by simp <;> omega) rfl rfl wf_X1_24 (Or.inr ⟨rfl, rfl⟩) (fun _ => rfl) (fun _ => rfl) dX1_init_39 dX1_init_41 (fun K B => ?_)
  refine x_aload_n B.1 dX1_init_44 rfl rfl ?_
  refine x_bipush B.1 (v := 100) dX1_init_45 (by decide) ?_
  refine c_fieldA (at0 := .int) (ty := .int) (n := 100) (t0 := 0) (k := 5) B cl1 rfl (Or.inl ⟨rfl, rfl⟩) wa_int (by decide) (by decide) (by decide) (by omega) (by omega) (noV1 (by omega)) (by omega) (by omega) (by omega) (by simp <;> omega) rfl rfl wf_X1_27 (Or.inr ⟨rfl, rfl⟩) (fun _ => rfl) (fun _ => rfl) dX1_init_47 dX1_init_49 (fun K B => ?_)
  refine x_aload_n B.1 dX1_init_52 rfl rfl ?_
  refine x_bipush B.1 (v := 100) dX1_init_53 (by decide) ?_
  refine c_fieldA (at0 := .int) (ty := .int) (n := 100) (t0 := 0) (k := 6) B cl1 rfl (Or.inl ⟨rfl, rfl⟩) wa_int (by decide) (by decide) (by decide) (by omega) (by omega) (noV1 (by omega)) (by omega) (by omega) (by omega) (by simp <;> omega) rfl rfl wf_X1_30 (Or.inr ⟨rfl, rfl⟩) (fun _ => rfl) (fun _ => rfl) dX1_init_55 dX1_init_57 (fun K B => ?_)
  exact c_ret B (by omega) (by omega) dX1_init_60
theorem dX2_init_0 : decode cX2_init 0 = .ok (.aload_n 0, 1) := by decide +kernel
theorem dX2_init_1 : decode cX2_init 1 = .ok (.invokespecial 3, 3) := by decide +kernel
theorem dX2_init_4 : decode cX2_init 4 = .ok (.aload_n 0, 1) := by decide +kernel
theorem dX2_init_5 : decode cX2_init 5 = .ok (.bipush 100, 2) := by decide +kernel
theorem dX2_init_7 : decode cX2_init 7 = .ok (.newarray .int, 2) := by decide +kernel
theorem dX2_init_9 : decode cX2_init 9 = .ok (.putfield 9, 3) := by decide +kernel
theorem dX2_init_12 : decode cX2_init 12 = .ok (.aload_n 0, 1) := by decide +kernel
theorem dX2_init_13 : decode cX2_init 13 = .ok (.bipush 100, 2) := by decide +kernel
theorem dX2_init_15 : decode cX2_init 15 = .ok (.newarray .int, 2) := by decide +kernel
theorem dX2_init_17 : decode cX2_init 17 = .ok (.putfield 15, 3) := by decide +kernel
theorem dX2_init_20 : decode cX2_init 20 = .ok (.aload_n 0, 1) := by decide +kernel
theorem dX2_init_21 : decode cX2_init 21 = .ok (.bipush 100, 2) := by decide +kernel
theorem dX2_init_23 : decode cX2_init 23 = .ok (.newarray .int, 2) := by decide +kernel
theorem dX2_init_25 : decode cX2_init 25 = .ok (.putfield 18, 3) := by decide +kernel
theorem dX2_init_28 : decode cX2_init 28 = .ok (.aload_n 0, 1) := by decide +kernel
theorem dX2_init_29 : decode cX2_init 29 = .ok (.bipush 100, 2) := by decide +kernel
theorem dX2_init_31 : decode cX2_init 31 = .ok (.newarray .int, 2) := by decide +kernel
theorem dX2_init_33 : decode cX2_init 33 = .ok (.putfield 21, 3) := by decide +kernel
theorem dX2_init_36 : decode cX2_init 36 = .ok (.aload_n 0, 1) := by decide +kernel
theorem dX2_init_37 : decode cX2_init 37 = .ok (.bipush 100, 2) := by decide +kernel
theorem dX2_init_39 : decode cX2_init 39 = .ok (.newarray .int, 2) := by decide +kernel
theorem dX2_init_41 : decode cX2_init 41 = .ok (.putfield 24, 3) := by decide +kernel
theorem dX2_init_44 : decode cX2_init 44 = .ok (.aload_n 0, 1) := by decide +kernel
theorem dX2_init_45 : decode cX2_init 45 = .ok (.bipush 100, 2) := by decide +kernel
theorem dX2_init_47 : decode cX2_init 47 = .ok (.newarray .int, 2) := by decide +kernel
theorem dX2_init_49 : decode cX2_init 49 = .ok (.putfield 27, 3) := by decide +kernel
theorem dX2_init_52 : decode cX2_init 52 = .ok (.aload_n 0, 1) := by decide +kernel
theorem dX2_init_53 : decode cX2_init 53 = .ok (.bipush 100, 2) := by decide +kernel
theorem dX2_init_55 : decode cX2_init 55 = .ok (.newarray .int, 2) := by decide +kernel
theorem dX2_init_57 : decode cX2_init 57 = .ok (.putfield 30, 3) := by decide +kernel
theorem dX2_init_60 : decode cX2_init 60 = .ok (.aload_n 0, 1) := by decide +kernel
theorem dX2_init_61 : decode cX2_init 61 = .ok (.bipush 100, 2) := by decide +kernel
theorem dX2_init_63 : decode cX2_init 63 = .ok (.newarray .int, 2) := by decide +kernel
theorem dX2_init_65 : decode cX2_init 65 = .ok (.putfield 33, 3) := by decide +kernel
theorem dX2_init_68 : decode cX2_init 68 = .ok (.aload_n 0, 1) := by decide +kernel
theorem dX2_init_69 : decode cX2_init 69 = .ok (.bipush 100, 2) := by decide +kernel
theorem dX2_init_71 : decode cX2_init 71 = .ok (.newarray .int, 2) := by decide +kernel
theorem dX2_init_73 : decode cX2_init 73 = .ok (.putfield 36, 3) := by decide +kernel
theorem dX2_init_76 : decode cX2_init 76 = .ok (.aload_n 0, 1) := by decide +kernel
theorem dX2_init_77 : decode cX2_init 77 = .ok (.bipush 100, 2) := by decide +kernel
theorem dX2_init_79 : decode cX2_init 79 = .ok (.newarray .int, 2) := by decide +kernel
theorem dX2_init_81 : decode cX2_init 81 = .ok (.putfield 39, 3) := by decide +kernel
theorem dX2_init_84 : decode cX2_init 84 = .ok (.aload_n 0, 1) := by decide +kernel
theorem dX2_init_85 : decode cX2_init 85 = .ok (.bipush 100, 2) := by decide +kernel
theorem dX2_init_87 : decode cX2_init 87 = .ok (.newarray .int, 2) := by decide +kernel
theorem dX2_init_89 : decode cX2_init 89 = .ok (.putfield 42, 3) := by decide +kernel
theorem dX2_init_92 : decode cX2_init 92 = .ok (.return_, 1) := by decide +kernel
theorem wo_X2_3 : Cond.methodLink RX2 3 Lib.objectInit ∈ gtbl := gq (by decide +kernel) (by decide +kernel)
set_option maxHeartbeats 4000000 in
theorem kX2_init {l : Launch} {S : KS} {z : Nat} {w : Wd} (hI : Inj S) (hv : KD S (z + 2) (.inl (2, [(3, 0), (3, 0), (3, 0), (3, 0), (3, 0), (3, 0), (3, 0), (3, 0), (3, 0), (3, 0), (3, 0)]))) (hf : ∀ a, z + 3 ≤ a → a ≤ z + 13 → ¬ S.D a) (hc : Clo S w) : CK l yX2_init cX2_init 1 2 11 1100 S (z + 2) (z + 3) (z + 13) w (zi (zi (zi (zi (zi (zi (zi (zi (zi (zi (zi w (z + 3)) (z + 4)) (z + 5)) (z + 6)) (z + 7)) (z + 8)) (z + 9)) (z + 10)) (z + 11)) (z + 12)) (z + 13)) [(z + 2, .inl (2, [(1, z + 3), (1, z + 4), (1, z + 5), (1, z + 6), (1, z + 7), (1, z + 8), (1, z + 9), (1, z + 10), (1, z + 11), (1, z + 12), (1, z + 13)])), (z + 3, .inr (0, 100, nt)), (z + 4, .inr (0, 100, nt)), (z + 5, .inr (0, 100, nt)), (z + 6, .inr (0, 100, nt)), (z + 7, .inr (0, 100, nt)), (z + 8, .inr (0, 100, nt)), (z + 9, .inr (0, 100, nt)), (z + 10, .inr (0, 100, nt)), (z + 11, .inr (0, 100, nt)), (z + 12, .inr (0, 100, nt)), (z + 13, .inr (0, 100, nt))] := by
  refine mk_entryC (own := RX2) rfl (by decide +kernel) rfl hI 0 rfl rfl (fun K sz h1 h2 h3 hR hc0 hs0 hcR hsR G => ?_)
  refine x_aload_n G dX2_init_0 rfl rfl ?_
  refine x_objI G wo_X2_3 wo_1 wo_2 rfl rfl dX2_init_1 ?_
  have B := c_start G h2 h3 hR hc0 hs0 hcR hsR hv hf hc
  clear G h2 h3 hR hc0 hs0 hcR hsR
  refine x_aload_n B.1 dX2_init_4 rfl rfl ?_
  refine x_bipush B.1 (v := 100) dX2_init_5 (by decide) ?_
  refine c_fieldA (at0 := .int) (ty := .int) (n := 100) (t0 := 0) (k := 0) B cl2 rfl (Or.inl ⟨rfl, rfl⟩) wa_int (by decide) (by decide) (by decide) (by omega) (by omega) (noV1 (by omega)) (by omega) (by omega) (by omega) (by simp <;> omega) rfl rfl wf_X2_9 (Or.inr ⟨rfl, rfl⟩) (fun _ => rfl) (fun _ => rfl) dX2_init_7 dX2_init_9 (fun K B => ?_)
  refine x_aload_n B.1 dX2_init_12 rfl rfl ?_
  refine x_bipush B.1 (v := 100) dX2_init_13 (by decide) ?_
  refine c_fieldA (at0 := .int) (ty := .int) (n := 100) (t0 := 0) (k := 1) B cl2 rfl (Or.inl ⟨rfl, rfl⟩) wa_int (by decide) (by decide) (by decide) (by omega) (by omega) (noV1 (by omega)) (by omega) (by omega) (by omega) (by simp <;> omega) rfl rfl wf_X2_15 (Or.inr ⟨rfl, rfl⟩) (fun _ => rfl) (fun _ => rfl) dX2_init_15 dX2_init_17 (fun K B => ?_)
  refine x_aload_n B.1 dX2_init_20 rfl rfl ?_
  refine x_bipush B.1 (v := 100) dX2_init_21 (by decide) ?_
  refine c_fieldA (at0 := .int) (ty := .int) (n := 100) (t0 := 0) (k := 2) B cl2 rfl (Or.inl ⟨rfl, rfl⟩) wa_int (by decide) (by decide) (by decide) (by omega) (by omega) (noV1 (by omega)) (by omega) (by omega) (by omega) (by simp <;> omega) rfl rfl wf_X2_18 (Or.inr ⟨rfl, rfl⟩) (fun _ => rfl) (fun _ => rfl) dX2_init_23 dX2_init_25 (fun K B => ?_)
  refine x_aload_n B.1 dX2_init_28 rfl rfl ?_
  refine x_bipush B.1 (v := 100) dX2_init_29 (by decide) ?_
  refine c_fieldA (at0 := .int) (ty := .int) (n := 100) (t0 := 0) (k := 3) B cl2 rfl (Or.inl ⟨rfl, rfl⟩) wa_int (by decide) (by decide) (by decide) (by omega) (by omega) (noV1 (by omega)) (by omega) (by omega) (by omega) (by simp <;> omega) rfl rfl wf_X2_21 (Or.inr ⟨rfl, rfl⟩) (fun _ => rfl) (fun _ => rfl) dX2_init_31 dX2_init_33 (fun K B => ?_)
  refine x_aload_n B.1 dX2_init_36 rfl rfl ?_
  refine x_bipush B.1 (v := 100) dX2_init_37 (by decide) ?_
  refine c_fieldA (at0 := .int) (ty := .int) (n := 100) (t0 := 0) (k := 4) B cl2 rfl (Or.inl ⟨rfl, rfl⟩) wa_int (by decide) (by decide) (by decide) (by omega) (by omega) (noV1 (by omega)) (by omega) (by omega) (by omega) (by simp <;> omega) rfl rfl wf_X2_24 (Or.inr ⟨rfl, rfl⟩) (fun _ => rfl) (fun _ => rfl) dX2_init_39 dX2_init_41 (fun K B => ?_)
  refine x_aload_n B.1 dX2_init_44 rfl rfl ?_
  refine x_bipush B.1 (v := 100) dX2_init_45 (by decide) ?_
  refine c_fieldA (at0 := .int) (ty := .int) (n := 100) (t0 := 0) (k := 5) B cl2 rfl (Or.inl ⟨rfl, rfl⟩) wa_int (by decide) (by decide) (by decide) (by omega) (by omega) (noV1 (by omega)) (by omega) (by omega) (by omega) (by simp <;> omega) rfl rfl wf_X2_27 (Or.inr ⟨rfl, rfl⟩) (fun _ => rfl) (fun _ => rfl) dX2_init_47 dX2_init_49 (fun K B => ?_)
  refine x_aload_n B.1 dX2_init_52 rfl rfl ?_
  refine x_bipush B.1 (v := 100) dX2_init_53 (by decide) ?_
  refine c_fieldA (at0 := .int) (ty := .int) (n := 100) (t0 := 0) (k := 6) B cl2 rfl (Or.inl ⟨rfl, rfl⟩) wa_int (by decide) (by decide) (by decide) (by omega) (by omega) (noV1 (by omega)) (by omega) (by omega) (by omega) (by simp <;> omega) rfl rfl wf_X2_30 (Or.inr ⟨rfl, rfl⟩) (fun _ => rfl) (fun _ => rfl) dX2_init_55 dX2_init_57 (fun K B => ?_)
  refine x_aload_n B.1 dX2_init_60 rfl rfl ?_
  refine x_bipush B.1 (v := 100) dX2_init_61 (by decide) ?_
  refine c_fieldA (at0 := .int) (ty := .int) (n := 100) (t0 := 0) (k := 7) B cl2 rfl (Or.inl ⟨rfl, rfl⟩) wa_int (by decide) (by decide) (by decide) (by omega) (by omega) (noV1 (by omega)) (by omega) (by omega) (by omega) (by simp <;> omega) rfl rfl wf_X2_33 (Or.inr ⟨rfl, rfl⟩) (fun _ => rfl) (fun _ => rfl) dX2_init_63 dX2_init_65 (fun K B => ?_)
  refine x_aload_n B.1 dX2_init_68 rfl rfl ?_
  refine x_bipush B.1 (v := 100) dX2_init_69 (by decide) ?_
  refine c_fieldA (at0 := .int) (ty := .int) (n := 100) (t0 := 0) (k := 8) B cl2 rfl (Or.inl ⟨rfl, rfl⟩) wa_int (by decide) (by decide) (by decide) (by omega) (by omega) (noV1 (by omega)) (by omega) (by omega) (by omega) (by simp <;> omega) rfl rfl wf_X2_36 (Or.inr ⟨rfl, rfl⟩) (fun _ => rfl) (fun _ => rfl) dX2_init_71 dX2_init_73 (fun K B => ?_)
  refine x_aload_n B.1 dX2_init_76 rfl rfl ?_
  refine x_bipush B.1 (v := 100) dX2_init_77 (by decide) ?_
  refine c_fieldA (at0 := .int) (ty := .int) (n := 100) (t0 := 0) (k := 9) B cl2 rfl (Or.inl ⟨rfl, rfl⟩) wa_int (by decide) (by decide) (by decide) (by omega) (by omega) (noV1 (by omega)) (by omega) (by omega) (by omega) (by simp <;> omega) rfl rfl wf_X2_39 (Or.inr ⟨rfl, rfl⟩) (fun _ => rfl) (fun _ => rfl) dX2_init_79 dX2_init_81 (fun K B => ?_)
  refine x_aload_n B.1 dX2_init_84 rfl rfl ?_
  refine x_bipush B.1 (v := 100) dX2_init_85 (by decide) ?_
  refine c_fieldA (at0 := .int) (ty := .int) (n := 100) (t0 := 0) (k := 10) B cl2 rfl (Or.inl ⟨rfl, rfl⟩) wa_int (by decide) (by decide) (by decide) (by omega) (by omega) (noV1 (by omega)) (by omega) (by omega) (by omega) (by simp <;> omega) rfl rfl wf_X2_42 (Or.inr ⟨rfl, rfl⟩) (fun _ => rfl) (fun _ => rfl) dX2_init_87 dX2_init_89 (fun K B => ?_)
  exact c_ret B (by omega) (by omega) dX2_init_92
theorem dX10_init_0 : decode cX10_init 0 = .ok (.aload_n 0, 1) := by decide +kernel
theorem dX10_init_1 : decode cX10_init 1 = .ok (.invokespecial 3, 3) := by decide +kernel
theorem dX10_init_4 : decode cX10_init 4 = .ok (.aload_n 0, 1) := by decide +kernel
theorem dX10_init_5 : decode cX10_init 5 = .ok (.bipush 100, 2) := by decide +kernel
theorem dX10_init_7 : decode cX10_init 7 = .ok (.newarray .int, 2) := by decide +kernel
theorem dX10_init_9 : decode cX10_init 9 = .ok (.putfield 9, 3) := by decide +kernel
theorem dX10_init_12 : decode cX10_init 12 = .ok (.aload_n 0, 1) := by decide +kernel
theorem dX10_init_13 : decode cX10_init 13 = .ok (.bipush 100, 2) := by decide +kernel
theorem dX10_init_15 : decode cX10_init 15 = .ok (.newarray .int, 2) := by decide +kernel
theorem dX10_init_17 : decode cX10_init 17 = .ok (.putfield 15, 3) := by decide +kernel
theorem dX10_init_20 : decode cX10_init 20 = .ok (.aload_n 0, 1) := by decide +kernel
theorem dX10_init_21 : decode cX10_init 21 = .ok (.bipush 100, 2) := by decide +kernel
theorem dX10_init_23 : decode cX10_init 23 = .ok (.newarray .int, 2) := by decide +kernel
theorem dX10_init_25 : decode cX10_init 25 = .ok (.putfield 18, 3) := by decide +kernel
theorem dX10_init_28 : decode cX10_init 28 = .ok (.aload_n 0, 1) := by decide +kernel
theorem dX10_init_29 : decode cX10_init 29 = .ok (.bipush 100, 2) := by decide +kernel
theorem dX10_init_31 : decode cX10_init 31 = .ok (.newarray .int, 2) := by decide +kernel
theorem dX10_init_33 : decode cX10_init 33 = .ok (.putfield 21, 3) := by decide +kernel
theorem dX10_init_36 : decode cX10_init 36 = .ok (.aload_n 0, 1) := by decide +kernel
theorem dX10_init_37 : decode cX10_init 37 = .ok (.iconst 0, 1) := by decide +kernel
theorem dX10_init_38 : decode cX10_init 38 = .ok (.putfield 24, 3) := by decide +kernel
theorem dX10_init_41 : decode cX10_init 41 = .ok (.aload_n 0, 1) := by decide +kernel
theorem dX10_init_42 : decode cX10_init 42 = .ok (.iconst 0, 1) := by decide +kernel
theorem dX10_init_43 : decode cX10_init 43 = .ok (.putfield 28, 3) := by decide +kernel
theorem dX10_init_46 : decode cX10_init 46 = .ok (.aload_n 0, 1) := by decide +kernel
theorem dX10_init_47 : decode cX10_init 47 = .ok (.iconst 0, 1) := by decide +kernel
theorem dX10_init_48 : decode cX10_init 48 = .ok (.putfield 31, 3) := by decide +kernel
theorem dX10_init_51 : decode cX10_init 51 = .ok (.aload_n 0, 1) := by decide +kernel
theorem dX10_init_52 : decode cX10_init 52 = .ok (.iconst 0, 1) := by decide +kernel
theorem dX10_init_53 : decode cX10_init 53 = .ok (.putfield 34, 3) := by decide +kernel
theorem dX10_init_56 : decode cX10_init 56 = .ok (.aload_n 0, 1) := by decide +kernel
theorem dX10_init_57 : decode cX10_init 57 = .ok (.iconst 0, 1) := by decide +kernel
theorem dX10_init_58 : decode cX10_init 58 = .ok (.putfield 37, 3) := by decide +kernel
theorem dX10_init_61 : decode cX10_init 61 = .ok (.aload_n 0, 1) := by decide +kernel
theorem dX10_init_62 : decode cX10_init 62 = .ok (.iconst 0, 1) := by decide +kernel
theorem dX10_init_63 : decode cX10_init 63 = .ok (.putfield 40, 3) := by decide +kernel
theorem dX10_init_66 : decode cX10_init 66 = .ok (.aload_n 0, 1) := by decide +kernel
theorem dX10_init_67 : decode cX10_init 67 = .ok (.iconst 0, 1) := by decide +kernel
theorem dX10_init_68 : decode cX10_init 68 = .ok (.putfield 43, 3) := by decide +kernel
theorem dX10_init_71 : decode cX10_init 71 = .ok (.return_, 1) := by decide +kernel
theorem wo_X10_3 : Cond.methodLink RX10 3 Lib.objectInit ∈ gtbl := gq (by decide +kernel) (by decide +kernel)
set_option maxHeartbeats 4000000 in
theorem kX10_init {l : Launch} {S : KS} {z : Nat} {w : Wd} (hI : Inj S) (hv : KD S (z + 14) (.inl (10, [(3, 0), (3, 0), (3, 0), (3, 0), (0, 0), (0, 0), (0, 0), (0, 0), (0, 0), (0, 0), (0, 0)]))) (hf : ∀ a, z + 15 ≤ a → a ≤ z + 18 → ¬ S.D a) (hc : Clo S w) : CK l yX10_init cX10_init 1 2 4 400 S (z + 14) (z + 15) (z + 18) w (si (si (si (si (si (si (si (zi (zi (zi (zi w (z + 15)) (z + 16)) (z + 17)) (z + 18)) (z + 14) 4 (0)) (z + 14) 5 (0)) (z + 14) 6 (0)) (z + 14) 7 (0)) (z + 14) 8 (0)) (z + 14) 9 (0)) (z + 14) 10 (0)) [(z + 14, .inl (10, [(1, z + 15), (1, z + 16), (1, z + 17), (1, z + 18), (0, 0), (0, 0), (0, 0), (0, 0), (0, 0), (0, 0), (0, 0)])), (z + 15, .inr (0, 100, nt)), (z + 16, .inr (0, 100, nt)), (z + 17, .inr (0, 100, nt)), (z + 18, .inr (0, 100, nt))] := by
  refine mk_entryC (own := RX10) rfl (by decide +kernel) rfl hI 0 rfl rfl (fun K sz h1 h2 h3 hR hc0 hs0 hcR hsR G => ?_)
  refine x_aload_n G dX10_init_0 rfl rfl ?_
  refine x_objI G wo_X10_3 wo_1 wo_2 rfl rfl dX10_init_1 ?_
  have B := c_start G h2 h3 hR hc0 hs0 hcR hsR hv hf hc
  clear G h2 h3 hR hc0 hs0 hcR hsR
  refine x_aload_n B.1 dX10_init_4 rfl rfl ?_
  refine x_bipush B.1 (v := 100) dX10_init_5 (by decide) ?_
  refine c_fieldA (at0 := .int) (ty := .int) (n := 100) (t0 := 0) (k := 0) B cl10 rfl (Or.inl ⟨rfl, rfl⟩) wa_int (by decide) (by decide) (by decide) (by omega) (by omega) (noV1 (by omega)) (by omega) (by omega) (by omega) (by simp <;> omega) rfl rfl wf_X10_9 (Or.inr ⟨rfl, rfl⟩) (fun _ => rfl) (fun _ => rfl) dX10_init_7 dX10_init_9 (fun K B => ?_)
  refine x_aload_n B.1 dX10_init_12 rfl rfl ?_
  refine x_bipush B.1 (v := 100) dX10_init_13 (by decide) ?_
  refine c_fieldA (at0 := .int) (ty := .int) (n := 100) (t0 := 0) (k := 1) B cl10 rfl (Or.inl ⟨rfl, rfl⟩) wa_int (by decide) (by decide) (by decide) (by omega) (by omega) (noV1 (by omega)) (by omega) (by omega) (by omega) (by simp <;> omega) rfl rfl wf_X10_15 (Or.inr ⟨rfl, rfl⟩) (fun _ => rfl) (fun _ => rfl) dX10_init_15 dX10_init_17 (fun K B => ?_)
  refine x_aload_n B.1 dX10_init_20 rfl rfl ?_
  refine x_bipush B.1 (v := 100) dX10_init_21 (by decide) ?_
  refine c_fieldA (at0 := .int) (ty := .int) (n := 100) (t0 := 0) (k := 2) B cl10 rfl (Or.inl ⟨rfl, rfl⟩) wa_int (by decide) (by decide) (by decide) (by omega) (by omega) (noV1 (by omega)) (by omega) (by omega) (by omega) (by simp <;> omega) rfl rfl wf_X10_18 (Or.inr ⟨rfl, rfl⟩) (fun _ => rfl) (fun _ => rfl) dX10_init_23 dX10_init_25 (fun K B => ?_)
  refine x_aload_n B.1 dX10_init_28 rfl rfl ?_
  refine x_bipush B.1 (v := 100) dX10_init_29 (by decide) ?_
  refine c_fieldA (at0 := .int) (ty := .int) (n := 100) (t0 := 0) (k := 3) B cl10 rfl (Or.inl ⟨rfl, rfl⟩) wa_int (by decide) (by decide) (by decide) (by omega) (by omega) (noV1 (by omega)) (by omega) (by omega) (by omega) (by simp <;> omega) rfl rfl wf_X10_21 (Or.inr ⟨rfl, rfl⟩) (fun _ => rfl) (fun _ => rfl) dX10_init_31 dX10_init_33 (fun K B => ?_)
  refine x_aload_n B.1 dX10_init_36 rfl rfl ?_
  refine x_iconst B.1 (v := 0) dX10_init_37 (by decide) ?_
  refine c_fieldI (k := 4) B cl10 rfl rfl wf_X10_24 rfl rfl rfl dX10_init_38 (fun B => ?_)
  refine x_aload_n B.1 dX10_init_41 rfl rfl ?_
  refine x_iconst B.1 (v := 0) dX10_init_42 (by decide) ?_
  refine c_fieldI (k := 5) B cl10 rfl rfl wf_X10_28 rfl rfl rfl dX10_init_43 (fun B => ?_)
  refine x_aload_n B.1 dX10_init_46 rfl rfl ?_
  refine x_iconst B.1 (v := 0) dX10_init_47 (by decide) ?_
  refine c_fieldI (k := 6) B cl10 rfl rfl wf_X10_31 rfl rfl rfl dX10_init_48 (fun B => ?_)
  refine x_aload_n B.1 dX10_init_51 rfl rfl ?_
  refine x_iconst B.1 (v := 0) dX10_init_52 (by decide) ?_
  refine c_fieldI (k := 7) B cl10 rfl rfl wf_X10_34 rfl rfl rfl dX10_init_53 (fun B => ?_)
  refine x_aload_n B.1 dX10_init_56 rfl rfl ?_
  refine x_iconst B.1 (v := 0) dX10_init_57 (by decide) ?_
  refine c_fieldI (k := 8) B cl10 rfl rfl wf_X10_37 rfl rfl rfl dX10_init_58 (fun B => ?_)
  refine x_aload_n B.1 dX10_init_61 rfl rfl ?_
  refine x_iconst B.1 (v := 0) dX10_init_62 (by decide) ?_
  refine c_fieldI (k := 9) B cl10 rfl rfl wf_X10_40 rfl rfl rfl dX10_init_63 (fun B => ?_)
  refine x_aload_n B.1 dX10_init_66 rfl rfl ?_
  refine x_iconst B.1 (v := 0) dX10_init_67 (by decide) ?_
  refine c_fieldI (k := 10) B cl10 rfl rfl wf_X10_43 rfl rfl rfl dX10_init_68 (fun B => ?_)
  exact c_ret B (by omega) (by omega) dX10_init_71
theorem dX3_init_0 : decode cX3_init 0 = .ok (.aload_n 0, 1) := by decide +kernel
theorem dX3_init_1 : decode cX3_init 1 = .ok (.invokespecial 3, 3) := by decide +kernel
theorem dX3_init_4 : decode cX3_init 4 = .ok (.aload_n 0, 1) := by decide +kernel
theorem dX3_init_5 : decode cX3_init 5 = .ok (.bipush 100, 2) := by decide +kernel
theorem dX3_init_7 : decode cX3_init 7 = .ok (.newarray .int, 2) := by decide +kernel
theorem dX3_init_9 : decode cX3_init 9 = .ok (.putfield 9, 3) := by decide +kernel
theorem dX3_init_12 : decode cX3_init 12 = .ok (.aload_n 0, 1) := by decide +kernel
theorem dX3_init_13 : decode cX3_init 13 = .ok (.bipush 100, 2) := by decide +kernel
theorem dX3_init_15 : decode cX3_init 15 = .ok (.newarray .int, 2) := by decide +kernel
theorem dX3_init_17 : decode cX3_init 17 = .ok (.putfield 15, 3) := by decide +kernel
theorem dX3_init_20 : decode cX3_init 20 = .ok (.aload_n 0, 1) := by decide +kernel
theorem dX3_init_21 : decode cX3_init 21 = .ok (.bipush 100, 2) := by decide +kernel
theorem dX3_init_23 : decode cX3_init 23 = .ok (.newarray .int, 2) := by decide +kernel
theorem dX3_init_25 : decode cX3_init 25 = .ok (.putfield 18, 3) := by decide +kernel
theorem dX3_init_28 : decode cX3_init 28 = .ok (.aload_n 0, 1) := by decide +kernel
theorem dX3_init_29 : decode cX3_init 29 = .ok (.bipush 100, 2) := by decide +kernel
theorem dX3_init_31 : decode cX3_init 31 = .ok (.newarray .int, 2) := by decide +kernel
theorem dX3_init_33 : decode cX3_init 33 = .ok (.putfield 21, 3) := by decide +kernel
theorem dX3_init_36 : decode cX3_init 36 = .ok (.aload_n 0, 1) := by decide +kernel
theorem dX3_init_37 : decode cX3_init 37 = .ok (.bipush 100, 2) := by decide +kernel
theorem dX3_init_39 : decode cX3_init 39 = .ok (.newarray .int, 2) := by decide +kernel
theorem dX3_init_41 : decode cX3_init 41 = .ok (.putfield 24, 3) := by decide +kernel
theorem dX3_init_44 : decode cX3_init 44 = .ok (.aload_n 0, 1) := by decide +kernel
theorem dX3_init_45 : decode cX3_init 45 = .ok (.bipush 100, 2) := by decide +kernel
theorem dX3_init_47 : decode cX3_init 47 = .ok (.newarray .int, 2) := by decide +kernel
theorem dX3_init_49 : decode cX3_init 49 = .ok (.putfield 27, 3) := by decide +kernel
theorem dX3_init_52 : decode cX3_init 52 = .ok (.aload_n 0, 1) := by decide +kernel
theorem dX3_init_53 : decode cX3_init 53 = .ok (.bipush 100, 2) := by decide +kernel
theorem dX3_init_55 : decode cX3_init 55 = .ok (.newarray .int, 2) := by decide +kernel
theorem dX3_init_57 : decode cX3_init 57 = .ok (.putfield 30, 3) := by decide +kernel
theorem dX3_init_60 : decode cX3_init 60 = .ok (.aload_n 0, 1) := by decide +kernel
theorem dX3_init_61 : decode cX3_init 61 = .ok (.bipush 100, 2) := by decide +kernel
theorem dX3_init_63 : decode cX3_init 63 = .ok (.newarray .int, 2) := by decide +kernel
theorem dX3_init_65 : decode cX3_init 65 = .ok (.putfield 33, 3) := by decide +kernel
theorem dX3_init_68 : decode cX3_init 68 = .ok (.aload_n 0, 1) := by decide +kernel
theorem dX3_init_69 : decode cX3_init 69 = .ok (.bipush 100, 2) := by decide +kernel
theorem dX3_init_71 : decode cX3_init 71 = .ok (.newarray .int, 2) := by decide +kernel
theorem dX3_init_73 : decode cX3_init 73 = .ok (.putfield 36, 3) := by decide +kernel
theorem dX3_init_76 : decode cX3_init 76 = .ok (.aload_n 0, 1) := by decide +kernel
theorem dX3_init_77 : decode cX3_init 77 = .ok (.bipush 100, 2) := by decide +kernel
theorem dX3_init_79 : decode cX3_init 79 = .ok (.newarray .int, 2) := by decide +kernel
theorem dX3_init_81 : decode cX3_init 81 = .ok (.putfield 39, 3) := by decide +kernel
theorem dX3_init_84 : decode cX3_init 84 = .ok (.return_, 1) := by decide +kernel
theorem wo_X3_3 : Cond.methodLink RX3 3 Lib.objectInit ∈ gtbl := gq (by decide +kernel) (by decide +kernel)
set_option maxHeartbeats 4000000 in
theorem kX3_init {l : Launch} {S : KS} {z : Nat} {w : Wd} (hI : Inj S) (hv : KD S (z + 19) (.inl (3, [(3, 0), (3, 0), (3, 0), (3, 0), (3, 0), (3, 0), (3, 0), (3, 0), (3, 0), (3, 0)]))) (hf : ∀ a, z + 20 ≤ a → a ≤ z + 29 → ¬ S.D a) (hc : Clo S w) : CK l yX3_init cX3_init 1 2 10 1000 S (z + 19) (z + 20) (z + 29) w (zi (zi (zi (zi (zi (zi (zi (zi (zi (zi w (z + 20)) (z + 21)) (z + 22)) (z + 23)) (z + 24)) (z + 25)) (z + 26)) (z + 27)) (z + 28)) (z + 29)) [(z + 19, .inl (3, [(1, z + 20), (1, z + 21), (1, z + 22), (1, z + 23), (1, z + 24), (1, z + 25), (1, z + 26), (1, z + 27), (1, z + 28), (1, z + 29)])), (z + 20, .inr (0, 100, nt)), (z + 21, .inr (0, 100, nt)), (z + 22, .inr (0, 100, nt)), (z + 23, .inr (0, 100, nt)), (z + 24, .inr (0, 100, nt)), (z + 25, .inr (0, 100, nt)), (z + 26, .inr (0, 100, nt)), (z + 27, .inr (0, 100, nt)), (z + 28, .inr (0, 100, nt)), (z + 29, .inr (0, 100, nt))] := by
  refine mk_entryC (own := RX3) rfl (by decide +kernel) rfl hI 0 rfl rfl (fun K sz h1 h2 h3 hR hc0 hs0 hcR hsR G => ?_)
  refine x_aload_n G dX3_init_0 rfl rfl ?_
  refine x_objI G wo_X3_3 wo_1 wo_2 rfl rfl dX3_init_1 ?_
  have B := c_start G h2 h3 hR hc0 hs0 hcR hsR hv hf hc
  clear G h2 h3 hR hc0 hs0 hcR hsR
  refine x_aload_n B.1 dX3_init_4 rfl rfl ?_
  refine x_bipush B.1 (v := 100) dX3_init_5 (by decide) ?_
  refine c_fieldA (at0 := .int) (ty := .int) (n := 100) (t0 := 0) (k := 0) B cl3 rfl (Or.inl ⟨rfl, rfl⟩) wa_int (by decide) (by decide) (by decide) (by omega) (by omega) (noV1 (by omega)) (by omega) (by omega) (by omega) (by simp <;> omega) rfl rfl wf_X3_9 (Or.inr ⟨rfl, rfl⟩) (fun _ => rfl) (fun _ => rfl) dX3_init_7 dX3_init_9 (fun K B => ?_)
  refine x_aload_n B.1 dX3_init_12 rfl rfl ?_
  refine x_bipush B.1 (v := 100) dX3_init_13 (by decide) ?_
  refine c_fieldA (at0 := .int) (ty := .int) (n := 100) (t0 := 0) (k := 1) B cl3 rfl (Or.inl ⟨rfl, rfl⟩) wa_int (by decide) (by decide) (by decide) (by omega) (by omega) (noV1 (by omega)) (by omega) (by omega) (by omega) (by simp <;> omega) rfl rfl wf_X3_15 (Or.inr ⟨rfl, rfl⟩) (fun _ => rfl) (fun _ => rfl) dX3_init_15 dX3_init_17 (fun K B => ?_)
  refine x_aload_n B.1 dX3_init_20 rfl rfl ?_
  refine x_bipush B.1 (v := 100) dX3_init_21 (by decide) ?_
  refine c_fieldA (at0 := .int) (ty := .int) (n := 100) (t0 := 0) (k := 2) B cl3 rfl (Or.inl ⟨rfl, rfl⟩) wa_int (by decide) (by decide) (by decide) (by omega) (by omega) (noV1 (by omega)) (by omega) (by omega) (by omega) (by simp <;> omega) rfl rfl wf_X3_18 (Or.inr ⟨rfl, rfl⟩) (fun _ => rfl) (fun _ => rfl) dX3_init_23 dX3_init_25 (fun K B => ?_)
  refine x_aload_n B.1 dX3_init_28 rfl rfl ?_
  refine x_bipush B.1 (v := 100) dX3_init_29 (by decide) ?_
  refine c_fieldA (at0 := .int) (ty := .int) (n := 100) (t0 := 0) (k := 3) B cl3 rfl (Or.inl ⟨rfl, rfl⟩) wa_int (by decide) (by decide) (by decide) (by omega) (by omega) (noV1 (by omega)) (by omega) (by omega) (by omega) (by simp <;> omega) rfl rfl wf_X3_21 (Or.inr ⟨rfl, rfl⟩) (fun _ => rfl) (fun _ => rfl) dX3_init_31 dX3_init_33 (fun K B => ?_)
  refine x_aload_n B.1 dX3_init_36 rfl rfl ?_
  refine x_bipush B.1 (v := 100) dX3_init_37 (by decide) ?_
  refine c_fieldA (at0 := .int) (ty := .int) (n := 100) (t0 := 0) (k := 4) B cl3 rfl (Or.inl ⟨rfl, rfl⟩) wa_int (by decide) (by decide) (by decide) (by omega) (by omega) (noV1 (by omega)) (by omega) (by omega) (by omega) (by simp <;> omega) rfl rfl wf_X3_24 (Or.inr ⟨rfl, rfl⟩) (fun _ => rfl) (fun _ => rfl) dX3_init_39 dX3_init_41 (fun K B => ?_)
  refine x_aload_n B.1 dX3_init_44 rfl rfl ?_
  refine x_bipush B.1 (v := 100) dX3_init_45 (by decide) ?_
  refine c_fieldA (at0 := .int) (ty := .int) (n := 100) (t0 := 0) (k := 5) B cl3 rfl (Or.inl ⟨rfl, rfl⟩) wa_int (by decide) (by decide) (by decide) (by omega) (by omega) (noV1 (by omega)) (by omega) (by omega) (by omega) (by simp <;> omega) rfl rfl wf_X3_27 (Or.inr ⟨rfl, rfl⟩) (fun _ => rfl) (fun _ => rfl) dX3_init_47 dX3_init_49 (fun K B => ?_)
  refine x_aload_n B.1 dX3_init_52 rfl rfl ?_
  refine x_bipush B.1 (v := 100) dX3_init_53 (by decide) ?_
  refine c_fieldA (at0 := .int) (ty := .int) (n := 100) (t0 := 0) (k := 6) B cl3 rfl (Or.inl ⟨rfl, rfl⟩) wa_int (by decide) (by decide) (by decide) (by omega) (by omega) (noV1 (by omega)) (by omega) (by omega) (by omega) (by simp <;> omega) rfl rfl wf_X3_30 (Or.inr ⟨rfl, rfl⟩) (fun _ => rfl) (fun _ => rfl) dX3_init_55 dX3_init_57 (fun K B => ?_)
  refine x_aload_n B.1 dX3_init_60 rfl rfl ?_
  refine x_bipush B.1 (v := 100) dX3_init_61 (by decide) ?_
  refine c_fieldA (at0 := .int) (ty := .int) (n := 100) (t0 := 0) (k := 7) B cl3 rfl (Or.inl ⟨rfl, rfl⟩) wa_int (by decide) (by decide) (by decide) (by omega) (by omega) (noV1 (by omega)) (by omega) (by omega) (by omega) (by simp <;> omega) rfl rfl wf_X3_33 (Or.inr ⟨rfl, rfl⟩) (fun _ => rfl) (fun _ => rfl) dX3_init_63 dX3_init_65 (fun K B => ?_)
  refine x_aload_n B.1 dX3_init_68 rfl rfl ?_
  refine x_bipush B.1 (v := 100) dX3_init_69 (by decide) ?_
  refine c_fieldA (at0 := .int) (ty := .int) (n := 100) (t0 := 0) (k := 8) B cl3 rfl (Or.inl ⟨rfl, rfl⟩) wa_int (by decide) (by decide) (by decide) (by omega) (by omega) (noV1 (by omega)) (by omega) (by omega) (by omega) (by simp <;> omega) rfl rfl wf_X3_36 (Or.inr ⟨rfl, rfl⟩) (fun _ => rfl) (fun _ => rfl) dX3_init_71 dX3_init_73 (fun K B => ?_)
  refine x_aload_n B.1 dX3_init_76 rfl rfl ?_
  refine x_bipush B.1 (v := 100) dX3_init_77 (by decide) ?_
  refine c_fieldA (at0 := .int) (ty := .int) (n := 100) (t0 := 0) (k := 9) B cl3 rfl (Or.inl ⟨rfl, rfl⟩) wa_int (by decide) (by decide) (by decide) (by omega) (by omega) (noV1 (by omega)) (by omega) (by omega) (by omega) (by simp <;> omega) rfl rfl wf_X3_39 (Or.inr ⟨rfl, rfl⟩) (fun _ => rfl) (fun _ => rfl) dX3_init_79 dX3_init_81 (fun K B => ?_)
  exact c_ret B (by omega) (by omega) dX3_init_84
theorem dX6_init_0 : decode cX6_init 0 = .ok (.aload_n 0, 1) := by decide +kernel
theorem dX6_init_1 : decode cX6_init 1 = .ok (.invokespecial 3, 3) := by decide +kernel
theorem dX6_init_4 : decode cX6_init 4 = .ok (.aload_n 0, 1) := by decide +kernel
theorem dX6_init_5 : decode cX6_init 5 = .ok (.iconst 0, 1) := by decide +kernel
theorem dX6_init_6 : decode cX6_init 6 = .ok (.putfield 9, 3) := by decide +kernel
theorem dX6_init_9 : decode cX6_init 9 = .ok (.aload_n 0, 1) := by decide +kernel
theorem dX6_init_10 : decode cX6_init 10 = .ok (.sipush 200, 3) := by decide +kernel
theorem dX6_init_13 : decode cX6_init 13 = .ok (.newarray .int, 2) := by decide +kernel
theorem dX6_init_15 : decode cX6_init 15 = .ok (.putfield 15, 3) := by decide +kernel
theorem dX6_init_18 : decode cX6_init 18 = .ok (.aload_n 0, 1) := by decide +kernel
theorem dX6_init_19 : decode cX6_init 19 = .ok (.sipush 200, 3) := by decide +kernel
theorem dX6_init_22 : decode cX6_init 22 = .ok (.newarray .int, 2) := by decide +kernel
theorem dX6_init_24 : decode cX6_init 24 = .ok (.putfield 19, 3) := by decide +kernel
theorem dX6_init_27 : decode cX6_init 27 = .ok (.aload_n 0, 1) := by decide +kernel
theorem dX6_init_28 : decode cX6_init 28 = .ok (.sipush 200, 3) := by decide +kernel
theorem dX6_init_31 : decode cX6_init 31 = .ok (.newarray .int, 2) := by decide +kernel
theorem dX6_init_33 : decode cX6_init 33 = .ok (.putfield 22, 3) := by decide +kernel
theorem dX6_init_36 : decode cX6_init 36 = .ok (.aload_n 0, 1) := by decide +kernel
theorem dX6_init_37 : decode cX6_init 37 = .ok (.sipush 200, 3) := by decide +kernel
theorem dX6_init_40 : decode cX6_init 40 = .ok (.newarray .int, 2) := by decide +kernel
theorem dX6_init_42 : decode cX6_init 42 = .ok (.putfield 25, 3) := by decide +kernel
theorem dX6_init_45 : decode cX6_init 45 = .ok (.return_, 1) := by decide +kernel
theorem wo_X6_3 : Cond.methodLink RX6 3 Lib.objectInit ∈ gtbl := gq (by decide +kernel) (by decide +kernel)
set_option maxHeartbeats 4000000 in
theorem kX6_init {l : Launch} {S : KS} {z : Nat} {w : Wd} (hI : Inj S) (hv : KD S (z + 30) (.inl (6, [(0, 0), (3, 0), (3, 0), (3, 0), (3, 0)]))) (hf : ∀ a, z + 31 ≤ a → a ≤ z + 34 → ¬ S.D a) (hc : Clo S w) : CK l yX6_init cX6_init 1 2 4 800 S (z + 30) (z + 31) (z + 34) w (zi (zi (zi (zi (si w (z + 30) 0 (0)) (z + 31)) (z + 32)) (z + 33)) (z + 34)) [(z + 30, .inl (6, [(0, 0), (1, z + 31), (1, z + 32), (1, z + 33), (1, z + 34)])), (z + 31, .inr (0, 200, nt)), (z + 32, .inr (0, 200, nt)), (z + 33, .inr (0, 200, nt)), (z + 34, .inr (0, 200, nt))] := by
  refine mk_entryC (own := RX6) rfl (by decide +kernel) rfl hI 0 rfl rfl (fun K sz h1 h2 h3 hR hc0 hs0 hcR hsR G => ?_)
  refine x_aload_n G dX6_init_0 rfl rfl ?_
  refine x_objI G wo_X6_3 wo_1 wo_2 rfl rfl dX6_init_1 ?_
  have B := c_start G h2 h3 hR hc0 hs0 hcR hsR hv hf hc
  clear G h2 h3 hR hc0 hs0 hcR hsR
  refine x_aload_n B.1 dX6_init_4 rfl rfl ?_
  refine x_iconst B.1 (v := 0) dX6_init_5 (by decide) ?_
  refine c_fieldI (k := 0) B cl6 rfl rfl wf_X6_9 rfl rfl rfl dX6_init_6 (fun B => ?_)
  refine x_aload_n B.1 dX6_init_9 rfl rfl ?_
  refine x_sipush B.1 (v := 200) dX6_init_10 (by decide) ?_
  refine c_fieldA (at0 := .int) (ty := .int) (n := 200) (t0 := 0) (k := 1) B cl6 rfl (Or.inl ⟨rfl, rfl⟩) wa_int (by decide) (by decide) (by decide) (by omega) (by omega) (noV1 (by omega)) (by omega) (by omega) (by omega) (by simp <;> omega) rfl rfl wf_X6_15 (Or.inr ⟨rfl, rfl⟩) (fun _ => rfl) (fun _ => rfl) dX6_init_13 dX6_init_15 (fun K B => ?_)
  refine x_aload_n B.1 dX6_init_18 rfl rfl ?_
  refine x_sipush B.1 (v := 200) dX6_init_19 (by decide) ?_
  refine c_fieldA (at0 := .int) (ty := .int) (n := 200) (t0 := 0) (k := 2) B cl6 rfl (Or.inl ⟨rfl, rfl⟩) wa_int (by decide) (by decide) (by decide) (by omega) (by omega) (noV1 (by omega)) (by omega) (by omega) (by omega) (by simp <;> omega) rfl rfl wf_X6_19 (Or.inr ⟨rfl, rfl⟩) (fun _ => rfl) (fun _ => rfl) dX6_init_22 dX6_init_24 (fun K B => ?_)
  refine x_aload_n B.1 dX6_init_27 rfl rfl ?_
  refine x_sipush B.1 (v := 200) dX6_init_28 (by decide) ?_
  refine c_fieldA (at0 := .int) (ty := .int) (n := 200) (t0 := 0) (k := 3) B cl6 rfl (Or.inl ⟨rfl, rfl⟩) wa_int (by decide) (by decide) (by decide) (by omega) (by omega) (noV1 (by omega)) (by omega) (by omega) (by omega) (by simp <;> omega) rfl rfl wf_X6_22 (Or.inr ⟨rfl, rfl⟩) (fun _ => rfl) (fun _ => rfl) dX6_init_31 dX6_init_33 (fun K B => ?_)
  refine x_aload_n B.1 dX6_init_36 rfl rfl ?_
  refine x_sipush B.1 (v := 200) dX6_init_37 (by decide) ?_
  refine c_fieldA (at0 := .int) (ty := .int) (n := 200) (t0 := 0) (k := 4) B cl6 rfl (Or.inl ⟨rfl, rfl⟩) wa_int (by decide) (by decide) (by decide) (by omega) (by omega) (noV1 (by omega)) (by omega) (by omega) (by omega) (by simp <;> omega) rfl rfl wf_X6_25 (Or.inr ⟨rfl, rfl⟩) (fun _ => rfl) (fun _ => rfl) dX6_init_40 dX6_init_42 (fun K B => ?_)
  exact c_ret B (by omega) (by omega) dX6_init_45
theorem dX5_init_0 : decode cX5_init 0 = .ok (.aload_n 0, 1) := by decide +kernel
theorem dX5_init_1 : decode cX5_init 1 = .ok (.invokespecial 3, 3) := by decide +kernel
theorem dX5_init_4 : decode cX5_init 4 = .ok (.aload_n 0, 1) := by decide +kernel
theorem dX5_init_5 : decode cX5_init 5 = .ok (.iconst 1, 1) := by decide +kernel
theorem dX5_init_6 : decode cX5_init 6 = .ok (.putfield 9, 3) := by decide +kernel
theorem dX5_init_9 : decode cX5_init 9 = .ok (.aload_n 0, 1) := by decide +kernel
theorem dX5_init_10 : decode cX5_init 10 = .ok (.iconst 0, 1) := by decide +kernel
theorem dX5_init_11 : decode cX5_init 11 = .ok (.putfield 15, 3) := by decide +kernel
theorem dX5_init_14 : decode cX5_init 14 = .ok (.aload_n 0, 1) := by decide +kernel
theorem dX5_init_15 : decode cX5_init 15 = .ok (.iconst 0, 1) := by decide +kernel
theorem dX5_init_16 : decode cX5_init 16 = .ok (.putfield 18, 3) := by decide +kernel
theorem dX5_init_19 : decode cX5_init 19 = .ok (.aload_n 0, 1) := by decide +kernel
theorem dX5_init_20 : decode cX5_init 20 = .ok (.iconst 0, 1) := by decide +kernel
theorem dX5_init_21 : decode cX5_init 21 = .ok (.putfield 21, 3) := by decide +kernel
theorem dX5_init_24 : decode cX5_init 24 = .ok (.aload_n 0, 1) := by decide +kernel
theorem dX5_init_25 : decode cX5_init 25 = .ok (.iconst 0, 1) := by decide +kernel
theorem dX5_init_26 : decode cX5_init 26 = .ok (.putfield 24, 3) := by decide +kernel
theorem dX5_init_29 : decode cX5_init 29 = .ok (.aload_n 0, 1) := by decide +kernel
theorem dX5_init_30 : decode cX5_init 30 = .ok (.bipush 19, 2) := by decide +kernel
theorem dX5_init_32 : decode cX5_init 32 = .ok (.newarray .int, 2) := by decide +kernel
theorem dX5_init_34 : decode cX5_init 34 = .ok (.putfield 27, 3) := by decide +kernel
theorem dX5_init_37 : decode cX5_init 37 = .ok (.aload_n 0, 1) := by decide +kernel
theorem dX5_init_38 : decode cX5_init 38 = .ok (.bipush 19, 2) := by decide +kernel
theorem dX5_init_40 : decode cX5_init 40 = .ok (.newarray .int, 2) := by decide +kernel
theorem dX5_init_42 : decode cX5_init 42 = .ok (.putfield 31, 3) := by decide +kernel
theorem dX5_init_45 : decode cX5_init 45 = .ok (.aload_n 0, 1) := by decide +kernel
theorem dX5_init_46 : decode cX5_init 46 = .ok (.bipush 19, 2) := by decide +kernel
theorem dX5_init_48 : decode cX5_init 48 = .ok (.newarray .int, 2) := by decide +kernel
theorem dX5_init_50 : decode cX5_init 50 = .ok (.putfield 34, 3) := by decide +kernel
theorem dX5_init_53 : decode cX5_init 53 = .ok (.aload_n 0, 1) := by decide +kernel
theorem dX5_init_54 : decode cX5_init 54 = .ok (.bipush 19, 2) := by decide +kernel
theorem dX5_init_56 : decode cX5_init 56 = .ok (.newarray .int, 2) := by decide +kernel
theorem dX5_init_58 : decode cX5_init 58 = .ok (.putfield 37, 3) := by decide +kernel
theorem dX5_init_61 : decode cX5_init 61 = .ok (.aload_n 0, 1) := by decide +kernel
theorem dX5_init_62 : decode cX5_init 62 = .ok (.bipush 19, 2) := by decide +kernel
theorem dX5_init_64 : decode cX5_init 64 = .ok (.newarray .int, 2) := by decide +kernel
theorem dX5_init_66 : decode cX5_init 66 = .ok (.putfield 40, 3) := by decide +kernel
theorem dX5_init_69 : decode cX5_init 69 = .ok (.aload_n 0, 1) := by decide +kernel
theorem dX5_init_70 : decode cX5_init 70 = .ok (.bipush 19, 2) := by decide +kernel
theorem dX5_init_72 : decode cX5_init 72 = .ok (.newarray .int, 2) := by decide +kernel
theorem dX5_init_74 : decode cX5_init 74 = .ok (.putfield 43, 3) := by decide +kernel
theorem dX5_init_77 : decode cX5_init 77 = .ok (.return_, 1) := by decide +kernel
theorem wo_X5_3 : Cond.methodLink RX5 3 Lib.objectInit ∈ gtbl := gq (by decide +kernel) (by decide +kernel)
set_option maxHeartbeats 4000000 in
theorem kX5_init {l : Launch} {S : KS} {v : Nat} {w : Wd} (hI : Inj S) (hv : KD S (v) (.inl (5, [(0, 0), (0, 0), (0, 0), (0, 0), (0, 0), (3, 0), (3, 0), (3, 0), (3, 0), (3, 0), (3, 0)]))) (hf : ∀ a, v + 1 ≤ a → a ≤ v + 6 → ¬ S.D a) (hc : Clo S w) : CK l yX5_init cX5_init 1 2 6 114 S (v) (v + 1) (v + 6) w (zi (zi (zi (zi (zi (zi (si (si (si (si (si w (v) 0 (1)) (v) 1 (0)) (v) 2 (0)) (v) 3 (0)) (v) 4 (0)) (v + 1)) (v + 2)) (v + 3)) (v + 4)) (v + 5)) (v + 6)) [(v, .inl (5, [(0, 0), (0, 0), (0, 0), (0, 0), (0, 0), (1, v + 1), (1, v + 2), (1, v + 3), (1, v + 4), (1, v + 5), (1, v + 6)])), (v + 1, .inr (0, 19, nt)), (v + 2, .inr (0, 19, nt)), (v + 3, .inr (0, 19, nt)), (v + 4, .inr (0, 19, nt)), (v + 5, .inr (0, 19, nt)), (v + 6, .inr (0, 19, nt))] := by
  refine mk_entryC (own := RX5) rfl (by decide +kernel) rfl hI 0 rfl rfl (fun K sz h1 h2 h3 hR hc0 hs0 hcR hsR G => ?_)
  refine x_aload_n G dX5_init_0 rfl rfl ?_
  refine x_objI G wo_X5_3 wo_1 wo_2 rfl rfl dX5_init_1 ?_
  have B := c_start G h2 h3 hR hc0 hs0 hcR hsR hv hf hc
  clear G h2 h3 hR hc0 hs0 hcR hsR
  refine x_aload_n B.1 dX5_init_4 rfl rfl ?_
  refine x_iconst B.1 (v := 1) dX5_init_5 (by decide) ?_
  refine c_fieldI (k := 0) B cl5 rfl rfl wf_X5_9 rfl rfl rfl dX5_init_6 (fun B => ?_)
  refine x_aload_n B.1 dX5_init_9 rfl rfl ?_
  refine x_iconst B.1 (v := 0) dX5_init_10 (by decide) ?_
  refine c_fieldI (k := 1) B cl5 rfl rfl wf_X5_15 rfl rfl rfl dX5_init_11 (fun B => ?_)
  refine x_aload_n B.1 dX5_init_14 rfl rfl ?_
  refine x_iconst B.1 (v := 0) dX5_init_15 (by decide) ?_
  refine c_fieldI (k := 2) B cl5 rfl rfl wf_X5_18 rfl rfl rfl dX5_init_16 (fun B => ?_)
  refine x_aload_n B.1 dX5_init_19 rfl rfl ?_
  refine x_iconst B.1 (v := 0) dX5_init_20 (by decide) ?_
  refine c_fieldI (k := 3) B cl5 rfl rfl wf_X5_21 rfl rfl rfl dX5_init_21 (fun B => ?_)
  refine x_aload_n B.1 dX5_init_24 rfl rfl ?_
  refine x_iconst B.1 (v := 0) dX5_init_25 (by decide) ?_
  refine c_fieldI (k := 4) B cl5 rfl rfl wf_X5_24 rfl rfl rfl dX5_init_26 (fun B => ?_)
  refine x_aload_n B.1 dX5_init_29 rfl rfl ?_
  refine x_bipush B.1 (v := 19) dX5_init_30 (by decide) ?_
  refine c_fieldA (at0 := .int) (ty := .int) (n := 19) (t0 := 0) (k := 5) B cl5 rfl (Or.inl ⟨rfl, rfl⟩) wa_int (by decide) (by decide) (by decide) (by omega) (by omega) (noV1 (by omega)) (by omega) (by omega) (by omega) (by simp <;> omega) rfl rfl wf_X5_27 (Or.inr ⟨rfl, rfl⟩) (fun _ => rfl) (fun _ => rfl) dX5_init_32 dX5_init_34 (fun K B => ?_)
  refine x_aload_n B.1 dX5_init_37 rfl rfl ?_
  refine x_bipush B.1 (v := 19) dX5_init_38 (by decide) ?_
  refine c_fieldA (at0 := .int) (ty := .int) (n := 19) (t0 := 0) (k := 6) B cl5 rfl (Or.inl ⟨rfl, rfl⟩) wa_int (by decide) (by decide) (by decide) (by omega) (by omega) (noV1 (by omega)) (by omega) (by omega) (by omega) (by simp <;> omega) rfl rfl wf_X5_31 (Or.inr ⟨rfl, rfl⟩) (fun _ => rfl) (fun _ => rfl) dX5_init_40 dX5_init_42 (fun K B => ?_)
  refine x_aload_n B.1 dX5_init_45 rfl rfl ?_
  refine x_bipush B.1 (v := 19) dX5_init_46 (by decide) ?_
  refine c_fieldA (at0 := .int) (ty := .int) (n := 19) (t0 := 0) (k := 7) B cl5 rfl (Or.inl ⟨rfl, rfl⟩) wa_int (by decide) (by decide) (by decide) (by omega) (by omega) (noV1 (by omega)) (by omega) (by omega) (by omega) (by simp <;> omega) rfl rfl wf_X5_34 (Or.inr ⟨rfl, rfl⟩) (fun _ => rfl) (fun _ => rfl) dX5_init_48 dX5_init_50 (fun K B => ?_)
  refine x_aload_n B.1 dX5_init_53 rfl rfl ?_
  refine x_bipush B.1 (v := 19) dX5_init_54 (by decide) ?_
  refine c_fieldA (at0 := .int) (ty := .int) (n := 19) (t0 := 0) (k := 8) B cl5 rfl (Or.inl ⟨rfl, rfl⟩) wa_int (by decide) (by decide) (by decide) (by omega) (by omega) (noV1 (by omega)) (by omega) (by omega) (by omega) (by simp <;> omega) rfl rfl wf_X5_37 (Or.inr ⟨rfl, rfl⟩) (fun _ => rfl) (fun _ => rfl) dX5_init_56 dX5_init_58 (fun K B => ?_)
  refine x_aload_n B.1 dX5_init_61 rfl rfl ?_
  refine x_bipush B.1 (v := 19) dX5_init_62 (by decide) ?_
  refine c_fieldA (at0 := .int) (ty := .int) (n := 19) (t0 := 0) (k := 9) B cl5 rfl (Or.inl ⟨rfl, rfl⟩) wa_int (by decide) (by decide) (by decide) (by omega) (by omega) (noV1 (by omega)) (by omega) (by omega) (by omega) (by simp <;> omega) rfl rfl wf_X5_40 (Or.inr ⟨rfl, rfl⟩) (fun _ => rfl) (fun _ => rfl) dX5_init_64 dX5_init_66 (fun K B => ?_)
  refine x_aload_n B.1 dX5_init_69 rfl rfl ?_
  refine x_bipush B.1 (v := 19) dX5_init_70 (by decide) ?_
  refine c_fieldA (at0 := .int) (ty := .int) (n := 19) (t0 := 0) (k := 10) B cl5 rfl (Or.inl ⟨rfl, rfl⟩) wa_int (by decide) (by decide) (by decide) (by omega) (by omega) (noV1 (by omega)) (by omega) (by omega) (by omega) (by simp <;> omega) rfl rfl wf_X5_43 (Or.inr ⟨rfl, rfl⟩) (fun _ => rfl) (fun _ => rfl) dX5_init_72 dX5_init_74 (fun K B => ?_)
  exact c_ret B (by omega) (by omega) dX5_init_77
theorem dX9_init_0 : decode cX9_init 0 = .ok (.aload_n 0, 1) := by decide +kernel
theorem dX9_init_1 : decode cX9_init 1 = .ok (.invokespecial 3, 3) := by decide +kernel
theorem dX9_init_4 : decode cX9_init 4 = .ok (.aload_n 0, 1) := by decide +kernel
theorem dX9_init_5 : decode cX9_init 5 = .ok (.iconst 0, 1) := by decide +kernel
theorem dX9_init_6 : decode cX9_init 6 = .ok (.putfield 9, 3) := by decide +kernel
theorem dX9_init_9 : decode cX9_init 9 = .ok (.aload_n 0, 1) := by decide +kernel
theorem dX9_init_10 : decode cX9_init 10 = .ok (.bipush 60, 2) := by decide +kernel
theorem dX9_init_12 : decode cX9_init 12 = .ok (.newarray .int, 2) := by decide +kernel
theorem dX9_init_14 : decode cX9_init 14 = .ok (.putfield 15, 3) := by decide +kernel
theorem dX9_init_17 : decode cX9_init 17 = .ok (.return_, 1) := by decide +kernel
theorem wo_X9_3 : Cond.methodLink RX9 3 Lib.objectInit ∈ gtbl := gq (by decide +kernel) (by decide +kernel)
set_option maxHeartbeats 4000000 in
theorem kX9_init {l : Launch} {S : KS} {w : Wd} (hI : Inj S) (hv : KD S (100) (.inl (9, [(0, 0), (3, 0)]))) (hf : ∀ a, 101 ≤ a → a ≤ 101 → ¬ S.D a) (hc : Clo S w) : CK l yX9_init cX9_init 1 2 1 60 S (100) (101) (101) w (zi (si w (100) 0 (0)) (101)) [(100, .inl (9, [(0, 0), (1, 101)])), (101, .inr (0, 60, nt))] := by
  refine mk_entryC (own := RX9) rfl (by decide +kernel) rfl hI 0 rfl rfl (fun K sz h1 h2 h3 hR hc0 hs0 hcR hsR G => ?_)
  refine x_aload_n G dX9_init_0 rfl rfl ?_
  refine x_objI G wo_X9_3 wo_1 wo_2 rfl rfl dX9_init_1 ?_
  have B := c_start G h2 h3 hR hc0 hs0 hcR hsR hv hf hc
  clear G h2 h3 hR hc0 hs0 hcR hsR
  refine x_aload_n B.1 dX9_init_4 rfl rfl ?_
  refine x_iconst B.1 (v := 0) dX9_init_5 (by decide) ?_
  refine c_fieldI (k := 0) B cl9 rfl rfl wf_X9_9 rfl rfl rfl dX9_init_6 (fun B => ?_)
  refine x_aload_n B.1 dX9_init_9 rfl rfl ?_
  refine x_bipush B.1 (v := 60) dX9_init_10 (by decide) ?_
  refine c_fieldA (at0 := .int) (ty := .int) (n := 60) (t0 := 0) (k := 1) B cl9 rfl (Or.inl ⟨rfl, rfl⟩) wa_int (by decide) (by decide) (by decide) (by omega) (by omega) (noV1 (by omega)) (by omega) (by omega) (by omega) (by simp <;> omega) rfl rfl wf_X9_15 (Or.inr ⟨rfl, rfl⟩) (fun _ => rfl) (fun _ => rfl) dX9_init_12 dX9_init_14 (fun K B => ?_)
  exact c_ret B (by omega) (by omega) dX9_init_17
theorem dX7_init_0 : decode cX7_init 0 = .ok (.aload_n 0, 1) := by decide +kernel
theorem dX7_init_1 : decode cX7_init 1 = .ok (.invokespecial 3, 3) := by decide +kernel
theorem dX7_init_4 : decode cX7_init 4 = .ok (.aload_n 0, 1) := by decide +kernel
theorem dX7_init_5 : decode cX7_init 5 = .ok (.iconst 0, 1) := by decide +kernel
theorem dX7_init_6 : decode cX7_init 6 = .ok (.putfield 9, 3) := by decide +kernel
theorem dX7_init_9 : decode cX7_init 9 = .ok (.aload_n 0, 1) := by decide +kernel
theorem dX7_init_10 : decode cX7_init 10 = .ok (.bipush 19, 2) := by decide +kernel
theorem dX7_init_12 : decode cX7_init 12 = .ok (.newarray .int, 2) := by decide +kernel
theorem dX7_init_14 : decode cX7_init 14 = .ok (.putfield 15, 3) := by decide +kernel
theorem dX7_init_17 : decode cX7_init 17 = .ok (.aload_n 0, 1) := by decide +kernel
theorem dX7_init_18 : decode cX7_init 18 = .ok (.bipush 19, 2) := by decide +kernel
theorem dX7_init_20 : decode cX7_init 20 = .ok (.newarray .int, 2) := by decide +kernel
theorem dX7_init_22 : decode cX7_init 22 = .ok (.putfield 19, 3) := by decide +kernel
theorem dX7_init_25 : decode cX7_init 25 = .ok (.aload_n 0, 1) := by decide +kernel
theorem dX7_init_26 : decode cX7_init 26 = .ok (.bipush 100, 2) := by decide +kernel
theorem dX7_init_28 : decode cX7_init 28 = .ok (.newarray .int, 2) := by decide +kernel
theorem dX7_init_30 : decode cX7_init 30 = .ok (.putfield 22, 3) := by decide +kernel
theorem dX7_init_33 : decode cX7_init 33 = .ok (.return_, 1) := by decide +kernel
theorem wo_X7_3 : Cond.methodLink RX7 3 Lib.objectInit ∈ gtbl := gq (by decide +kernel) (by decide +kernel)
set_option maxHeartbeats 4000000 in
theorem kX7_init {l : Launch} {S : KS} {w : Wd} (hI : Inj S) (hv : KD S (102) (.inl (7, [(0, 0), (3, 0), (3, 0), (3, 0)]))) (hf : ∀ a, 103 ≤ a → a ≤ 105 → ¬ S.D a) (hc : Clo S w) : CK l yX7_init cX7_init 1 2 3 138 S (102) (103) (105) w (zi (zi (zi (si w (102) 0 (0)) (103)) (104)) (105)) [(102, .inl (7, [(0, 0), (1, 103), (1, 104), (1, 105)])), (103, .inr (0, 19, nt)), (104, .inr (0, 19, nt)), (105, .inr (0, 100, nt))] := by
  refine mk_entryC (own := RX7) rfl (by decide +kernel) rfl hI 0 rfl rfl (fun K sz h1 h2 h3 hR hc0 hs0 hcR hsR G => ?_)
  refine x_aload_n G dX7_init_0 rfl rfl ?_
  refine x_objI G wo_X7_3 wo_1 wo_2 rfl rfl dX7_init_1 ?_
  have B := c_start G h2 h3 hR hc0 hs0 hcR hsR hv hf hc
  clear G h2 h3 hR hc0 hs0 hcR hsR
  refine x_aload_n B.1 dX7_init_4 rfl rfl ?_
  refine x_iconst B.1 (v := 0) dX7_init_5 (by decide) ?_
  refine c_fieldI (k := 0) B cl7 rfl rfl wf_X7_9 rfl rfl rfl dX7_init_6 (fun B => ?_)
  refine x_aload_n B.1 dX7_init_9 rfl rfl ?_
  refine x_bipush B.1 (v := 19) dX7_init_10 (by decide) ?_
  refine c_fieldA (at0 := .int) (ty := .int) (n := 19) (t0 := 0) (k := 1) B cl7 rfl (Or.inl ⟨rfl, rfl⟩) wa_int (by decide) (by decide) (by decide) (by omega) (by omega) (noV1 (by omega)) (by omega) (by omega) (by omega) (by simp <;> omega) rfl rfl wf_X7_15 (Or.inr ⟨rfl, rfl⟩) (fun _ => rfl) (fun _ => rfl) dX7_init_12 dX7_init_14 (fun K B => ?_)
  refine x_aload_n B.1 dX7_init_17 rfl rfl ?_
  refine x_bipush B.1 (v := 19) dX7_init_18 (by decide) ?_
  refine c_fieldA (at0 := .int) (ty := .int) (n := 19) (t0 := 0) (k := 2) B cl7 rfl (Or.inl ⟨rfl, rfl⟩) wa_int (by decide) (by decide) (by decide) (by omega) (by omega) (noV1 (by omega)) (by omega) (by omega) (by omega) (by simp <;> omega) rfl rfl wf_X7_19 (Or.inr ⟨rfl, rfl⟩) (fun _ => rfl) (fun _ => rfl) dX7_init_20 dX7_init_22 (fun K B => ?_)
  refine x_aload_n B.1 dX7_init_25 rfl rfl ?_
  refine x_bipush B.1 (v := 100) dX7_init_26 (by decide) ?_
  refine c_fieldA (at0 := .int) (ty := .int) (n := 100) (t0 := 0) (k := 3) B cl7 rfl (Or.inl ⟨rfl, rfl⟩) wa_int (by decide) (by decide) (by decide) (by omega) (by omega) (noV1 (by omega)) (by omega) (by omega) (by omega) (by simp <;> omega) rfl rfl wf_X7_22 (Or.inr ⟨rfl, rfl⟩) (fun _ => rfl) (fun _ => rfl) dX7_init_28 dX7_init_30 (fun K B => ?_)
  exact c_ret B (by omega) (by omega) dX7_init_33

