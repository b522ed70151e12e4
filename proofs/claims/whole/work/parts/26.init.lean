-- constructors' walks
theorem dX1_init_0 : decode cX1_init 0 = .ok (.aload_n 0, 1) := by decide +kernel
theorem dX1_init_1 : decode cX1_init 1 = .ok (.invokespecial 3, 3) := by decide +kernel
theorem dX1_init_4 : decode cX1_init 4 = .ok (.aload_n 0, 1) := by decide +kernel
theorem dX1_init_5 : decode cX1_init 5 = .ok (.bipush 100, 2) := by decide +kernel
theorem dX1_init_7 : decode cX1_init 7 = .ok (.newarray .int, 2) := by decide +kernel
theorem dX1_init_9 : decode cX1_init 9 = .ok (.putfield 9, 3) := by decide +kernel
theorem dX1_init_12 : decode cX1_init 12 = .ok (.aload_n 0, 1) := by decide +kernel
theorem dX1_init_13 : decode cX1_init 13 = .ok (.bipush 100, 2) := by decide +kernel
theorem dX1_init_15 : decode cX1_init 15 = .ok (.newarray .int, 2) := by decide +kernel
theorem dX1_init_17 : decode cX1_init 17 = .ok (.putfield 15, 3) := by decide +kernel
theorem dX1_init_20 : decode cX1_init 20 = .ok (.aload_n 0, 1) := by decide +kernel
theorem dX1_init_21 : decode cX1_init 21 = .ok (.bipush 100, 2) := by decide +kernel
theorem dX1_init_23 : decode cX1_init 23 = .ok (.newarray .int, 2) := by decide +kernel
theorem dX1_init_25 : decode cX1_init 25 = .ok (.putfield 18, 3) := by decide +kernel
theorem dX1_init_28 : decode cX1_init 28 = .ok (.aload_n 0, 1) := by decide +kernel
theorem dX1_init_29 : decode cX1_init 29 = .ok (.bipush 100, 2) := by decide +kernel
theorem dX1_init_31 : decode cX1_init 31 = .ok (.newarray .int, 2) := by decide +kernel
theorem dX1_init_33 : decode cX1_init 33 = .ok (.putfield 21, 3) := by decide +kernel
theorem dX1_init_36 : decode cX1_init 36 = .ok (.aload_n 0, 1) := by decide +kernel
theorem dX1_init_37 : decode cX1_init 37 = .ok (.bipush 100, 2) := by decide +kernel
theorem dX1_init_39 : decode cX1_init 39 = .ok (.newarray .int, 2) := by decide +kernel
theorem dX1_init_41 : decode cX1_init 41 = .ok (.putfield 24, 3) := by decide +kernel
theorem dX1_init_44 : decode cX1_init 44 = .ok (.aload_n 0, 1) := by decide +kernel
theorem dX1_init_45 : decode cX1_init 45 = .ok (.bipush 100, 2) := by decide +kernel
theorem dX1_init_47 : decode cX1_init 47 = .ok (.newarray .int, 2) := by decide +kernel
theorem dX1_init_49 : decode cX1_init 49 = .ok (.putfield 27, 3) := by decide +kernel
theorem dX1_init_52 : decode cX1_init 52 = .ok (.aload_n 0, 1) := by decide +kernel
theorem dX1_init_53 : decode cX1_init 53 = .ok (.bipush 100, 2) := by decide +kernel
theorem dX1_init_55 : decode cX1_init 55 = .ok (.newarray .int, 2) := by decide +kernel
theorem dX1_init_57 : decode cX1_init 57 = .ok (.putfield 30, 3) := by decide +kernel
theorem dX1_init_60 : decode cX1_init 60 = .ok (.return_, 1) := by decide +kernel
theorem wo_X1_3 : Cond.methodLink RX1 3 Lib.objectInit ∈ gtbl := gq (by decide +kernel) (by decide +kernel)
theorem wo_1 : Cond.instanceMethod Lib.objectInit ∈ gtbl := gq (by decide +kernel) (by decide +kernel)
theorem wo_2 : Cond.code Lib.objectInit ⟨#[0xb1]⟩ 1 none ∈ gtbl := gq (by decide +kernel) (by decide +kernel)
theorem wa_int : Cond.arrayClass FieldType.int ∈ gtbl := gq (by decide +kernel) (by decide +kernel)
set_option maxHeartbeats 4000000 in
theorem kX1_init {l : Launch} {S : KS} {w : Wd} (hI : Inj S) (hv : KD S 92 (.inl (1, [(3, 0), (3, 0), (3, 0), (3, 0), (3, 0), (3, 0), (3, 0)]))) (hf : ∀ a, 93 ≤ a → a ≤ 99 → ¬ S.D a) (hc : Clo S w) : CK l yX1_init cX1_init 1 2 7 700 S 92 93 99 w (zi (zi (zi (zi (zi (zi (zi w 93) 94) 95) 96) 97) 98) 99) [(92, .inl (1, [(1, 93), (1, 94), (1, 95), (1, 96), (1, 97), (1, 98), (1, 99)])), (93, .inr (0, 100, nt)), (94, .inr (0, 100, nt)), (95, .inr (0, 100, nt)), (96, .inr (0, 100, nt)), (97, .inr (0, 100, nt)), (98, .inr (0, 100, nt)), (99, .inr (0, 100, nt))] := by
  refine mk_entryC (own := RX1) rfl (by decide +kernel) rfl hI 0 rfl rfl (fun K sz h1 h2 h3 hR hc0 hs0 hcR hsR G => ?_)
  refine x_aload_n G dX1_init_0 rfl rfl ?_
  refine x_objI G wo_X1_3 wo_1 wo_2 rfl rfl dX1_init_1 ?_
  have B := c_start G h2 h3 hR hc0 hs0 hcR hsR hv hf hc
  clear G h2 h3 hR hc0 hs0 hcR hsR
  refine x_aload_n B.1 dX1_init_4 rfl rfl ?_
  refine x_bipush B.1 (v := 100) dX1_init_5 (by decide) ?_
  refine c_fieldA (at0 := .int) (ty := .int) (n := 100) (t0 := 0) (k := 0) B cl1 rfl (Or.inl ⟨rfl, rfl⟩) wa_int (by decide) (by decide) (by decide) (by omega) (by omega) rfl (by omega) (by omega) (by omega) (by simp) rfl rfl wf_X1_9 (Or.inr ⟨rfl, rfl⟩) (fun _ => rfl) (fun _ => rfl) dX1_init_7 dX1_init_9 (fun K B => ?_)
  refine x_aload_n B.1 dX1_init_12 rfl rfl ?_
  refine x_bipush B.1 (v := 100) dX1_init_13 (by decide) ?_
  refine c_fieldA (at0 := .int) (ty := .int) (n := 100) (t0 := 0) (k := 1) B cl1 rfl (Or.inl ⟨rfl, rfl⟩) wa_int (by decide) (by decide) (by decide) (by omega) (by omega) rfl (by omega) (by omega) (by omega) (by simp) rfl rfl wf_X1_15 (Or.inr ⟨rfl, rfl⟩) (fun _ => rfl) (fun _ => rfl) dX1_init_15 dX1_init_17 (fun K B => ?_)
  refine x_aload_n B.1 dX1_init_20 rfl rfl ?_
  refine x_bipush B.1 (v := 100) dX1_init_21 (by decide) ?_
  refine c_fieldA (at0 := .int) (ty := .int) (n := 100) (t0 := 0) (k := 2) B cl1 rfl (Or.inl ⟨rfl, rfl⟩) wa_int (by decide) (by decide) (by decide) (by omega) (by omega) rfl (by omega) (by omega) (by omega) (by simp) rfl rfl wf_X1_18 (Or.inr ⟨rfl, rfl⟩) (fun _ => rfl) (fun _ => rfl) dX1_init_23 dX1_init_25 (fun K B => ?_)
  refine x_aload_n B.1 dX1_init_28 rfl rfl ?_
  refine x_bipush B.1 (v := 100) dX1_init_29 (by decide) ?_
  refine c_fieldA (at0 := .int) (ty := .int) (n := 100) (t0 := 0) (k := 3) B cl1 rfl (Or.inl ⟨rfl, rfl⟩) wa_int (by decide) (by decide) (by decide) (by omega) (by omega) rfl (by omega) (by omega) (by omega) (by simp) rfl rfl wf_X1_21 (Or.inr ⟨rfl, rfl⟩) (fun _ => rfl) (fun _ => rfl) dX1_init_31 dX1_init_33 (fun K B => ?_)
  refine x_aload_n B.1 dX1_init_36 rfl rfl ?_
  refine x_bipush B.1 (v := 100) dX1_init_37 (by decide) ?_
  refine c_fieldA (at0 := .int) (ty := .int) (n := 100) (t0 := 0) (k := 4) B cl1 rfl (Or.inl ⟨rfl, rfl⟩) wa_int (by decide) (by decide) (by decide) (by omega) (by omega) rfl (by omega) (by omega) (by omega) (by simp) rfl rfl wf_X1_24 (Or.inr ⟨rfl, rfl⟩) (fun _ => rfl) (fun _ => rfl) dX1_init_39 dX1_init_41 (fun K B => ?_)
  refine x_aload_n B.1 dX1_init_44 rfl rfl ?_
  refine x_bipush B.1 (v := 100) dX1_init_45 (by decide) ?_
  refine c_fieldA (at0 := .int) (ty := .int) (n := 100) (t0 := 0) (k := 5) B cl1 rfl (Or.inl ⟨rfl, rfl⟩) wa_int (by decide) (by decide) (by decide) (by omega) (by omega) rfl (by omega) (by omega) (by omega) (by simp) rfl rfl wf_X1_27 (Or.inr ⟨rfl, rfl⟩) (fun _ => rfl) (fun _ => rfl) dX1_init_47 dX1_init_49 (fun K B => ?_)
  refine x_aload_n B.1 dX1_init_52 rfl rfl ?_
  refine x_bipush B.1 (v := 100) dX1_init_53 (by decide) ?_
  refine c_fieldA (at0 := .int) (ty := .int) (n := 100) (t0 := 0) (k := 6) B cl1 rfl (Or.inl ⟨rfl, rfl⟩) wa_int (by decide) (by decide) (by decide) (by omega) (by omega) rfl (by omega) (by omega) (by omega) (by simp) rfl rfl wf_X1_30 (Or.inr ⟨rfl, rfl⟩) (fun _ => rfl) (fun _ => rfl) dX1_init_55 dX1_init_57 (fun K B => ?_)
  exact c_ret B (by omega) (by omega) dX1_init_60
