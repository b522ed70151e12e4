-- constructors with objects in their fields: Tape, City (printed by wip/whole/init2.py)
theorem dX8_init_0 : decode cX8_init 0 = .ok (.aload_n 0, 1) := by decide +kernel
theorem dX8_init_1 : decode cX8_init 1 = .ok (.invokespecial 3, 3) := by decide +kernel
theorem dX8_init_4 : decode cX8_init 4 = .ok (.aload_n 0, 1) := by decide +kernel
theorem dX8_init_5 : decode cX8_init 5 = .ok (.iconst 0, 1) := by decide +kernel
theorem dX8_init_6 : decode cX8_init 6 = .ok (.putfield 9, 3) := by decide +kernel
theorem dX8_init_9 : decode cX8_init 9 = .ok (.aload_n 0, 1) := by decide +kernel
theorem dX8_init_10 : decode cX8_init 10 = .ok (.iconst 0, 1) := by decide +kernel
theorem dX8_init_11 : decode cX8_init 11 = .ok (.putfield 15, 3) := by decide +kernel
theorem dX8_init_14 : decode cX8_init 14 = .ok (.aload_n 0, 1) := by decide +kernel
theorem dX8_init_15 : decode cX8_init 15 = .ok (.bipush 100, 2) := by decide +kernel
theorem dX8_init_17 : decode cX8_init 17 = .ok (.newarray .long, 2) := by decide +kernel
theorem dX8_init_19 : decode cX8_init 19 = .ok (.putfield 18, 3) := by decide +kernel
theorem dX8_init_22 : decode cX8_init 22 = .ok (.aload_n 0, 1) := by decide +kernel
theorem dX8_init_23 : decode cX8_init 23 = .ok (.aconst_null, 1) := by decide +kernel
theorem dX8_init_24 : decode cX8_init 24 = .ok (.putfield 22, 3) := by decide +kernel
theorem dX8_init_27 : decode cX8_init 27 = .ok (.return_, 1) := by decide +kernel
theorem wo_X8_3 : Cond.methodLink RX8 3 Lib.objectInit ∈ gtbl := gq (by decide +kernel) (by decide +kernel)
theorem wa_long : Cond.arrayClass FieldType.long ∈ gtbl := gq (by decide +kernel) (by decide +kernel)
theorem wf_X8_15 : Cond.fieldLink RX8 15 (TX8 1).1 (TX8 1).2.1 (TX8 1).2.2.1 ∈ gtbl := gq (by decide +kernel) (by decide +kernel)
theorem wf_X8_18 : Cond.fieldLink RX8 18 (TX8 2).1 (TX8 2).2.1 (TX8 2).2.2.1 ∈ gtbl := gq (by decide +kernel) (by decide +kernel)
theorem wf_X8_22 : Cond.fieldLink RX8 22 (TX8 3).1 (TX8 3).2.1 (TX8 3).2.2.1 ∈ gtbl := gq (by decide +kernel) (by decide +kernel)
set_option maxHeartbeats 4000000 in
theorem kX8_init {l : Launch} {S : KS} {v img : Nat} {w : Wd} (hw : w.1 v 3 = 0) (hI : Inj S) (hv : KD S v (.inl (8, [(0, 0), (0, 0), (3, 0), (3, 0)]))) (hf : ∀ a, v + 1 ≤ a → a ≤ v + 1 → ¬ S.D a) (hc : Clo S w) : CK l yX8_init cX8_init 1 2 1 100 S v (v + 1) (v + 1) w (zi (si (si w v 0 0) v 1 0) (v + 1)) [(v, .inl (8, [(0, 0), (0, 0), (1, v + 1), (2, img)])), (v + 1, .inr (1, 100, nt))] := by
  refine mk_entryC (own := RX8) rfl (by decide +kernel) rfl hI 0 rfl rfl (fun K sz h1 h2 h3 hR hc0 hs0 hcR hsR G => ?_)
  refine x_aload_n G dX8_init_0 rfl rfl ?_
  refine x_objI G wo_X8_3 wo_1 wo_2 rfl rfl dX8_init_1 ?_
  have B := c_start G h2 h3 hR hc0 hs0 hcR hsR hv hf hc
  clear G h2 h3 hR hc0 hs0 hcR hsR
  refine x_aload_n B.1 dX8_init_4 rfl rfl ?_
  refine x_iconst B.1 (v := 0) dX8_init_5 (by decide) ?_
  refine c_fieldI (k := 0) B cl8 rfl rfl wf_X8_9 rfl rfl rfl dX8_init_6 (fun B => ?_)
  refine x_aload_n B.1 dX8_init_9 rfl rfl ?_
  refine x_iconst B.1 (v := 0) dX8_init_10 (by decide) ?_
  refine c_fieldI (k := 1) B cl8 rfl rfl wf_X8_15 rfl rfl rfl dX8_init_11 (fun B => ?_)
  refine x_aload_n B.1 dX8_init_14 rfl rfl ?_
  refine x_bipush B.1 (v := 100) dX8_init_15 (by decide) ?_
  refine c_fieldA (at0 := .long) (ty := .long) (n := 100) (t0 := 1) (k := 2) B cl8 rfl (Or.inr (Or.inl ⟨rfl, rfl⟩)) wa_long (by decide) (by decide) (by decide) (by omega) (by omega) (noV1 (by omega)) (by omega) (by omega) (by omega) (by simp <;> omega) rfl rfl wf_X8_18 (Or.inr ⟨rfl, rfl⟩) (fun _ => rfl) (fun _ => rfl) dX8_init_17 dX8_init_19 (fun K B => ?_)
  refine x_aload_n B.1 dX8_init_22 rfl rfl ?_
  refine x_null B.1 dX8_init_23 ?_
  refine c_null (k := 3) (b := img) B cl8 (by simp) rfl rfl wf_X8_22 rfl rfl rfl (by simp [zi, si, upd, hw]) dX8_init_24 (fun K B => ?_)
  exact c_ret B (by omega) (by omega) dX8_init_27
theorem dX0_init_0 : decode cX0_init 0 = .ok (.aload_n 0, 1) := by decide +kernel
theorem dX0_init_1 : decode cX0_init 1 = .ok (.invokespecial 3, 3) := by decide +kernel
theorem dX0_init_4 : decode cX0_init 4 = .ok (.aload_n 0, 1) := by decide +kernel
theorem dX0_init_5 : decode cX0_init 5 = .ok (.new 9, 3) := by decide +kernel
theorem dX0_init_8 : decode cX0_init 8 = .ok (.dup, 1) := by decide +kernel
theorem dX0_init_9 : decode cX0_init 9 = .ok (.invokespecial 11, 3) := by decide +kernel
theorem dX0_init_12 : decode cX0_init 12 = .ok (.putfield 12, 3) := by decide +kernel
theorem dX0_init_15 : decode cX0_init 15 = .ok (.aload_n 0, 1) := by decide +kernel
theorem dX0_init_16 : decode cX0_init 16 = .ok (.new 18, 3) := by decide +kernel
theorem dX0_init_19 : decode cX0_init 19 = .ok (.dup, 1) := by decide +kernel
theorem dX0_init_20 : decode cX0_init 20 = .ok (.invokespecial 20, 3) := by decide +kernel
theorem dX0_init_23 : decode cX0_init 23 = .ok (.putfield 21, 3) := by decide +kernel
theorem dX0_init_26 : decode cX0_init 26 = .ok (.aload_n 0, 1) := by decide +kernel
theorem dX0_init_27 : decode cX0_init 27 = .ok (.new 25, 3) := by decide +kernel
theorem dX0_init_30 : decode cX0_init 30 = .ok (.dup, 1) := by decide +kernel
theorem dX0_init_31 : decode cX0_init 31 = .ok (.invokespecial 27, 3) := by decide +kernel
theorem dX0_init_34 : decode cX0_init 34 = .ok (.putfield 28, 3) := by decide +kernel
theorem dX0_init_37 : decode cX0_init 37 = .ok (.aload_n 0, 1) := by decide +kernel
theorem dX0_init_38 : decode cX0_init 38 = .ok (.new 32, 3) := by decide +kernel
theorem dX0_init_41 : decode cX0_init 41 = .ok (.dup, 1) := by decide +kernel
theorem dX0_init_42 : decode cX0_init 42 = .ok (.invokespecial 34, 3) := by decide +kernel
theorem dX0_init_45 : decode cX0_init 45 = .ok (.putfield 35, 3) := by decide +kernel
theorem dX0_init_48 : decode cX0_init 48 = .ok (.aload_n 0, 1) := by decide +kernel
theorem dX0_init_49 : decode cX0_init 49 = .ok (.bipush 8, 2) := by decide +kernel
theorem dX0_init_51 : decode cX0_init 51 = .ok (.anewarray 39, 3) := by decide +kernel
theorem dX0_init_54 : decode cX0_init 54 = .ok (.putfield 41, 3) := by decide +kernel
theorem dX0_init_57 : decode cX0_init 57 = .ok (.aload_n 0, 1) := by decide +kernel
theorem dX0_init_58 : decode cX0_init 58 = .ok (.iconst 0, 1) := by decide +kernel
theorem dX0_init_59 : decode cX0_init 59 = .ok (.putfield 45, 3) := by decide +kernel
theorem dX0_init_62 : decode cX0_init 62 = .ok (.aload_n 0, 1) := by decide +kernel
theorem dX0_init_63 : decode cX0_init 63 = .ok (.iconst 0, 1) := by decide +kernel
theorem dX0_init_64 : decode cX0_init 64 = .ok (.putfield 49, 3) := by decide +kernel
theorem dX0_init_67 : decode cX0_init 67 = .ok (.aload_n 0, 1) := by decide +kernel
theorem dX0_init_68 : decode cX0_init 68 = .ok (.iconst 0, 1) := by decide +kernel
theorem dX0_init_69 : decode cX0_init 69 = .ok (.putfield 52, 3) := by decide +kernel
theorem dX0_init_72 : decode cX0_init 72 = .ok (.aload_n 0, 1) := by decide +kernel
theorem dX0_init_73 : decode cX0_init 73 = .ok (.iconst 0, 1) := by decide +kernel
theorem dX0_init_74 : decode cX0_init 74 = .ok (.putfield 55, 3) := by decide +kernel
theorem dX0_init_77 : decode cX0_init 77 = .ok (.aload_n 0, 1) := by decide +kernel
theorem dX0_init_78 : decode cX0_init 78 = .ok (.iconst 0, 1) := by decide +kernel
theorem dX0_init_79 : decode cX0_init 79 = .ok (.putfield 58, 3) := by decide +kernel
theorem dX0_init_82 : decode cX0_init 82 = .ok (.aload_n 0, 1) := by decide +kernel
theorem dX0_init_83 : decode cX0_init 83 = .ok (.iconst 0, 1) := by decide +kernel
theorem dX0_init_84 : decode cX0_init 84 = .ok (.putfield 61, 3) := by decide +kernel
theorem dX0_init_87 : decode cX0_init 87 = .ok (.aload_n 0, 1) := by decide +kernel
theorem dX0_init_88 : decode cX0_init 88 = .ok (.iconst 0, 1) := by decide +kernel
theorem dX0_init_89 : decode cX0_init 89 = .ok (.putfield 64, 3) := by decide +kernel
theorem dX0_init_92 : decode cX0_init 92 = .ok (.aload_n 0, 1) := by decide +kernel
theorem dX0_init_93 : decode cX0_init 93 = .ok (.iconst 0, 1) := by decide +kernel
theorem dX0_init_94 : decode cX0_init 94 = .ok (.putfield 67, 3) := by decide +kernel
theorem dX0_init_97 : decode cX0_init 97 = .ok (.iconst 0, 1) := by decide +kernel
theorem dX0_init_98 : decode cX0_init 98 = .ok (.istore_n 1, 1) := by decide +kernel
theorem dX0_init_99 : decode cX0_init 99 = .ok (.iload_n 1, 1) := by decide +kernel
theorem dX0_init_100 : decode cX0_init 100 = .ok (.bipush 8, 2) := by decide +kernel
theorem dX0_init_102 : decode cX0_init 102 = .ok (.if_icmp .ge 22, 3) := by decide +kernel
theorem dX0_init_105 : decode cX0_init 105 = .ok (.aload_n 0, 1) := by decide +kernel
theorem dX0_init_106 : decode cX0_init 106 = .ok (.getfield 41, 3) := by decide +kernel
theorem dX0_init_109 : decode cX0_init 109 = .ok (.iload_n 1, 1) := by decide +kernel
theorem dX0_init_110 : decode cX0_init 110 = .ok (.new 39, 3) := by decide +kernel
theorem dX0_init_113 : decode cX0_init 113 = .ok (.dup, 1) := by decide +kernel
theorem dX0_init_114 : decode cX0_init 114 = .ok (.invokespecial 70, 3) := by decide +kernel
theorem dX0_init_117 : decode cX0_init 117 = .ok (.aastore, 1) := by decide +kernel
theorem dX0_init_118 : decode cX0_init 118 = .ok (.iinc 1 1, 3) := by decide +kernel
theorem dX0_init_121 : decode cX0_init 121 = .ok (.goto (-22), 3) := by decide +kernel
theorem dX0_init_124 : decode cX0_init 124 = .ok (.aload_n 0, 1) := by decide +kernel
theorem dX0_init_125 : decode cX0_init 125 = .ok (.getfield 12, 3) := by decide +kernel
theorem dX0_init_128 : decode cX0_init 128 = .ok (.invokevirtual 71, 3) := by decide +kernel
theorem dX0_init_131 : decode cX0_init 131 = .ok (.return_, 1) := by decide +kernel
theorem wo_X0_3 : Cond.methodLink RX0 3 Lib.objectInit ∈ gtbl := gq (by decide +kernel) (by decide +kernel)
theorem wcl_X0_9 : Cond.classLink RX0 9 RX2 ∈ gtbl := gq (by decide +kernel) (by decide +kernel)
theorem wins_X2 : Cond.instantiable RX2 11 ∈ gtbl := gq (by decide +kernel) (by decide +kernel)
theorem wi_X2_init : Cond.instanceMethod yX2_init ∈ gtbl := gq (by decide +kernel) (by decide +kernel)
theorem wk_X2_init : Cond.code yX2_init cX2_init 1 none ∈ gtbl := gq (by decide +kernel) (by decide +kernel)
theorem mi_X0_11 : MIN RX0 11 yX2_init RX11 cX2_init 1 ∨ MIP RX0 11 yX2_init cX2_init 1 := Or.inl ⟨⟨List.mem_of_getElem? (i := 0) rfl, wi_X2_init, wz_X2, wk_X2_init⟩, ⟨by decide +kernel, by decide +kernel, by decide +kernel⟩, rfl⟩
def cg (z : Nat) : List (Nat × Kd) := [(z + 2, .inl (2, [(1, z + 3), (1, z + 4), (1, z + 5), (1, z + 6), (1, z + 7), (1, z + 8), (1, z + 9), (1, z + 10), (1, z + 11), (1, z + 12), (1, z + 13)])), (z + 3, .inr (0, 100, nt)), (z + 4, .inr (0, 100, nt)), (z + 5, .inr (0, 100, nt)), (z + 6, .inr (0, 100, nt)), (z + 7, .inr (0, 100, nt)), (z + 8, .inr (0, 100, nt)), (z + 9, .inr (0, 100, nt)), (z + 10, .inr (0, 100, nt)), (z + 11, .inr (0, 100, nt)), (z + 12, .inr (0, 100, nt)), (z + 13, .inr (0, 100, nt))]
def Wcg (z : Nat) (w : Wd) : Wd := (zi (zi (zi (zi (zi (zi (zi (zi (zi (zi (zi w (z + 3)) (z + 4)) (z + 5)) (z + 6)) (z + 7)) (z + 8)) (z + 9)) (z + 10)) (z + 11)) (z + 12)) (z + 13))
theorem cg_in {z : Nat} : ∀ q ∈ cg z, q.1 = z + 2 ∨ (z + 3 ≤ q.1 ∧ q.1 ≤ z + 13) := by simp [cg]
theorem wcl_X0_18 : Cond.classLink RX0 18 RX10 ∈ gtbl := gq (by decide +kernel) (by decide +kernel)
theorem wins_X10 : Cond.instantiable RX10 11 ∈ gtbl := gq (by decide +kernel) (by decide +kernel)
theorem wi_X10_init : Cond.instanceMethod yX10_init ∈ gtbl := gq (by decide +kernel) (by decide +kernel)
theorem wk_X10_init : Cond.code yX10_init cX10_init 1 none ∈ gtbl := gq (by decide +kernel) (by decide +kernel)
theorem mi_X0_20 : MIN RX0 20 yX10_init RX11 cX10_init 1 ∨ MIP RX0 20 yX10_init cX10_init 1 := Or.inl ⟨⟨List.mem_of_getElem? (i := 1) rfl, wi_X10_init, wz_X10, wk_X10_init⟩, ⟨by decide +kernel, by decide +kernel, by decide +kernel⟩, rfl⟩
def cwt (z : Nat) : List (Nat × Kd) := [(z + 14, .inl (10, [(1, z + 15), (1, z + 16), (1, z + 17), (1, z + 18), (0, 0), (0, 0), (0, 0), (0, 0), (0, 0), (0, 0), (0, 0)])), (z + 15, .inr (0, 100, nt)), (z + 16, .inr (0, 100, nt)), (z + 17, .inr (0, 100, nt)), (z + 18, .inr (0, 100, nt))]
def Wcwt (z : Nat) (w : Wd) : Wd := (si (si (si (si (si (si (si (zi (zi (zi (zi w (z + 15)) (z + 16)) (z + 17)) (z + 18)) (z + 14) 4 (0)) (z + 14) 5 (0)) (z + 14) 6 (0)) (z + 14) 7 (0)) (z + 14) 8 (0)) (z + 14) 9 (0)) (z + 14) 10 (0))
theorem cwt_in {z : Nat} : ∀ q ∈ cwt z, q.1 = z + 14 ∨ (z + 15 ≤ q.1 ∧ q.1 ≤ z + 18) := by simp [cwt]
theorem wcl_X0_25 : Cond.classLink RX0 25 RX3 ∈ gtbl := gq (by decide +kernel) (by decide +kernel)
theorem wins_X3 : Cond.instantiable RX3 10 ∈ gtbl := gq (by decide +kernel) (by decide +kernel)
theorem wi_X3_init : Cond.instanceMethod yX3_init ∈ gtbl := gq (by decide +kernel) (by decide +kernel)
theorem wk_X3_init : Cond.code yX3_init cX3_init 1 none ∈ gtbl := gq (by decide +kernel) (by decide +kernel)
theorem mi_X0_27 : MIN RX0 27 yX3_init RX11 cX3_init 1 ∨ MIP RX0 27 yX3_init cX3_init 1 := Or.inl ⟨⟨List.mem_of_getElem? (i := 2) rfl, wi_X3_init, wz_X3, wk_X3_init⟩, ⟨by decide +kernel, by decide +kernel, by decide +kernel⟩, rfl⟩
def chs (z : Nat) : List (Nat × Kd) := [(z + 19, .inl (3, [(1, z + 20), (1, z + 21), (1, z + 22), (1, z + 23), (1, z + 24), (1, z + 25), (1, z + 26), (1, z + 27), (1, z + 28), (1, z + 29)])), (z + 20, .inr (0, 100, nt)), (z + 21, .inr (0, 100, nt)), (z + 22, .inr (0, 100, nt)), (z + 23, .inr (0, 100, nt)), (z + 24, .inr (0, 100, nt)), (z + 25, .inr (0, 100, nt)), (z + 26, .inr (0, 100, nt)), (z + 27, .inr (0, 100, nt)), (z + 28, .inr (0, 100, nt)), (z + 29, .inr (0, 100, nt))]
def Wchs (z : Nat) (w : Wd) : Wd := (zi (zi (zi (zi (zi (zi (zi (zi (zi (zi w (z + 20)) (z + 21)) (z + 22)) (z + 23)) (z + 24)) (z + 25)) (z + 26)) (z + 27)) (z + 28)) (z + 29))
theorem chs_in {z : Nat} : ∀ q ∈ chs z, q.1 = z + 19 ∨ (z + 20 ≤ q.1 ∧ q.1 ≤ z + 29) := by simp [chs]
theorem wcl_X0_32 : Cond.classLink RX0 32 RX6 ∈ gtbl := gq (by decide +kernel) (by decide +kernel)
theorem wins_X6 : Cond.instantiable RX6 5 ∈ gtbl := gq (by decide +kernel) (by decide +kernel)
theorem wi_X6_init : Cond.instanceMethod yX6_init ∈ gtbl := gq (by decide +kernel) (by decide +kernel)
theorem wk_X6_init : Cond.code yX6_init cX6_init 1 none ∈ gtbl := gq (by decide +kernel) (by decide +kernel)
theorem mi_X0_34 : MIN RX0 34 yX6_init RX11 cX6_init 1 ∨ MIP RX0 34 yX6_init cX6_init 1 := Or.inl ⟨⟨List.mem_of_getElem? (i := 3) rfl, wi_X6_init, wz_X6, wk_X6_init⟩, ⟨by decide +kernel, by decide +kernel, by decide +kernel⟩, rfl⟩
def com (z : Nat) : List (Nat × Kd) := [(z + 30, .inl (6, [(0, 0), (1, z + 31), (1, z + 32), (1, z + 33), (1, z + 34)])), (z + 31, .inr (0, 200, nt)), (z + 32, .inr (0, 200, nt)), (z + 33, .inr (0, 200, nt)), (z + 34, .inr (0, 200, nt))]
def Wcom (z : Nat) (w : Wd) : Wd := (zi (zi (zi (zi (si w (z + 30) 0 (0)) (z + 31)) (z + 32)) (z + 33)) (z + 34))
theorem com_in {z : Nat} : ∀ q ∈ com z, q.1 = z + 30 ∨ (z + 31 ≤ q.1 ∧ q.1 ≤ z + 34) := by simp [com]
theorem wcl_X0_39 : Cond.classLink RX0 39 RX5 ∈ gtbl := gq (by decide +kernel) (by decide +kernel)
theorem wins_X5 : Cond.instantiable RX5 11 ∈ gtbl := gq (by decide +kernel) (by decide +kernel)
theorem wi_X5_init : Cond.instanceMethod yX5_init ∈ gtbl := gq (by decide +kernel) (by decide +kernel)
theorem wk_X5_init : Cond.code yX5_init cX5_init 1 none ∈ gtbl := gq (by decide +kernel) (by decide +kernel)
theorem mi_X0_70 : MIN RX0 70 yX5_init RX11 cX5_init 1 ∨ MIP RX0 70 yX5_init cX5_init 1 := Or.inl ⟨⟨List.mem_of_getElem? (i := 4) rfl, wi_X5_init, wz_X5, wk_X5_init⟩, ⟨by decide +kernel, by decide +kernel, by decide +kernel⟩, rfl⟩
def cln (v : Nat) : List (Nat × Kd) := [(v, .inl (5, [(0, 0), (0, 0), (0, 0), (0, 0), (0, 0), (1, v + 1), (1, v + 2), (1, v + 3), (1, v + 4), (1, v + 5), (1, v + 6)])), (v + 1, .inr (0, 19, nt)), (v + 2, .inr (0, 19, nt)), (v + 3, .inr (0, 19, nt)), (v + 4, .inr (0, 19, nt)), (v + 5, .inr (0, 19, nt)), (v + 6, .inr (0, 19, nt))]
def Wln (v : Nat) (w : Wd) : Wd := (zi (zi (zi (zi (zi (zi (si (si (si (si (si w (v) 0 (1)) (v) 1 (0)) (v) 2 (0)) (v) 3 (0)) (v) 4 (0)) (v + 1)) (v + 2)) (v + 3)) (v + 4)) (v + 5)) (v + 6))
theorem cln_in {v : Nat} : ∀ q ∈ cln v, q.1 = v ∨ (v + 1 ≤ q.1 ∧ q.1 ≤ v + 6) := by simp [cln]
set_option maxHeartbeats 4000000 in
set_option maxRecDepth 100000 in
theorem xX2_restart_c {K : KT} {z : Nat} {w : Wd} {r : Wd} (G : GK K cX2_restart RX2 1 4) (hz : IsCity K.ks z) (hf : fX2_restart z w = some r) (hr : RV K r) : XW K 0 [some (.ref (z + 2))] [] w := by
  unfold fX2_restart at hf
  refine x_aload_n G dX2_restart_0 rfl rfl ?_
  refine x_getR G (ic2 hz) 0 (b := (z + 3)) rfl cl2 rfl wf_X2_9 dX2_restart_1 ?_
  refine x_bipush G (v := 100) dX2_restart_4 (by decide) ?_
  refine x_staV G (As := [.ref (z + 3), .int (100 : Int32)]) (mFillI G.2.2.2.2.2.2.1 (ic3 hz)) ms_X2_45 rfl rfl rfl rfl rfl dX2_restart_6 ?_
  refine nwr hf (fun w_1 hf => ?_)
  refine x_aload_n G dX2_restart_9 rfl rfl ?_
  refine x_getR G (ic2 hz) 1 (b := (z + 4)) rfl cl2 rfl wf_X2_15 dX2_restart_10 ?_
  refine x_iconst G (v := 0) dX2_restart_13 (by decide) ?_
  refine x_staV G (As := [.ref (z + 4), .int (0 : Int32)]) (mFillI G.2.2.2.2.2.2.1 (ic4 hz)) ms_X2_45 rfl rfl rfl rfl rfl dX2_restart_14 ?_
  refine nwr hf (fun w_2 hf => ?_)
  refine x_aload_n G dX2_restart_17 rfl rfl ?_
  refine x_getR G (ic2 hz) 2 (b := (z + 5)) rfl cl2 rfl wf_X2_18 dX2_restart_18 ?_
  refine x_iconst G (v := 0) dX2_restart_21 (by decide) ?_
  refine x_staV G (As := [.ref (z + 5), .int (0 : Int32)]) (mFillI G.2.2.2.2.2.2.1 (ic5 hz)) ms_X2_45 rfl rfl rfl rfl rfl dX2_restart_22 ?_
  refine nwr hf (fun w_3 hf => ?_)
  refine x_aload_n G dX2_restart_25 rfl rfl ?_
  refine x_getR G (ic2 hz) 3 (b := (z + 6)) rfl cl2 rfl wf_X2_21 dX2_restart_26 ?_
  refine x_bipush G (v := 50) dX2_restart_29 (by decide) ?_
  refine x_staV G (As := [.ref (z + 6), .int (50 : Int32)]) (mFillI G.2.2.2.2.2.2.1 (ic6 hz)) ms_X2_45 rfl rfl rfl rfl rfl dX2_restart_31 ?_
  refine nwr hf (fun w_4 hf => ?_)
  refine x_aload_n G dX2_restart_34 rfl rfl ?_
  refine x_getR G (ic2 hz) 4 (b := (z + 7)) rfl cl2 rfl wf_X2_24 dX2_restart_35 ?_
  refine x_iconst G (v := 0) dX2_restart_38 (by decide) ?_
  refine x_staV G (As := [.ref (z + 7), .int (0 : Int32)]) (mFillI G.2.2.2.2.2.2.1 (ic7 hz)) ms_X2_45 rfl rfl rfl rfl rfl dX2_restart_39 ?_
  refine nwr hf (fun w_5 hf => ?_)
  refine x_aload_n G dX2_restart_42 rfl rfl ?_
  refine x_getR G (ic2 hz) 5 (b := (z + 8)) rfl cl2 rfl wf_X2_27 dX2_restart_43 ?_
  refine x_iconst G (v := 0) dX2_restart_46 (by decide) ?_
  refine x_staV G (As := [.ref (z + 8), .int (0 : Int32)]) (mFillI G.2.2.2.2.2.2.1 (ic8 hz)) ms_X2_45 rfl rfl rfl rfl rfl dX2_restart_47 ?_
  refine nwr hf (fun w_6 hf => ?_)
  refine x_aload_n G dX2_restart_50 rfl rfl ?_
  refine x_getR G (ic2 hz) 6 (b := (z + 9)) rfl cl2 rfl wf_X2_30 dX2_restart_51 ?_
  refine x_iconst G (v := -1) dX2_restart_54 (by decide) ?_
  refine x_staV G (As := [.ref (z + 9), .int (-1 : Int32)]) (mFillI G.2.2.2.2.2.2.1 (ic9 hz)) ms_X2_45 rfl rfl rfl rfl rfl dX2_restart_55 ?_
  refine nwr hf (fun w_7 hf => ?_)
  refine x_aload_n G dX2_restart_58 rfl rfl ?_
  refine x_getR G (ic2 hz) 7 (b := (z + 10)) rfl cl2 rfl wf_X2_33 dX2_restart_59 ?_
  refine x_iconst G (v := 0) dX2_restart_62 (by decide) ?_
  refine x_staV G (As := [.ref (z + 10), .int (0 : Int32)]) (mFillI G.2.2.2.2.2.2.1 (ic10 hz)) ms_X2_45 rfl rfl rfl rfl rfl dX2_restart_63 ?_
  refine nwr hf (fun w_8 hf => ?_)
  refine x_aload_n G dX2_restart_66 rfl rfl ?_
  refine x_getR G (ic2 hz) 8 (b := (z + 11)) rfl cl2 rfl wf_X2_36 dX2_restart_67 ?_
  refine x_iconst G (v := 0) dX2_restart_70 (by decide) ?_
  refine x_staV G (As := [.ref (z + 11), .int (0 : Int32)]) (mFillI G.2.2.2.2.2.2.1 (ic11 hz)) ms_X2_45 rfl rfl rfl rfl rfl dX2_restart_71 ?_
  refine nwr hf (fun w_9 hf => ?_)
  refine x_aload_n G dX2_restart_74 rfl rfl ?_
  refine x_getR G (ic2 hz) 9 (b := (z + 12)) rfl cl2 rfl wf_X2_39 dX2_restart_75 ?_
  refine x_iconst G (v := 0) dX2_restart_78 (by decide) ?_
  refine x_staV G (As := [.ref (z + 12), .int (0 : Int32)]) (mFillI G.2.2.2.2.2.2.1 (ic12 hz)) ms_X2_45 rfl rfl rfl rfl rfl dX2_restart_79 ?_
  refine nwr hf (fun w_10 hf => ?_)
  refine x_aload_n G dX2_restart_82 rfl rfl ?_
  refine x_getR G (ic2 hz) 10 (b := (z + 13)) rfl cl2 rfl wf_X2_42 dX2_restart_83 ?_
  refine x_iconst G (v := 0) dX2_restart_86 (by decide) ?_
  refine x_staV G (As := [.ref (z + 13), .int (0 : Int32)]) (mFillI G.2.2.2.2.2.2.1 (ic13 hz)) ms_X2_45 rfl rfl rfl rfl rfl dX2_restart_87 ?_
  refine nwr hf (fun w_11 hf => ?_)
  exact x_vretW G hf hr dX2_restart_90

theorem mX2_restartC {l : Launch} {S : KS} {w : Wd} (hI : Inj S) {z : Nat} (hz : IsCity S z) {r : Wd} (hf : fX2_restart z w = some r) : CV l yX2_restart cX2_restart 1 none 4 S [.ref (z + 2)] w r := by
  intro sz
  refine mk_entry rfl (by decide +kernel) hI 0 rfl rfl (fun K h1 h2 h3 h4 h5 h6 G => ?_)
  subst h2
  exact xX2_restart_c G hz hf ⟨h3, by rw [h4, h6], h5⟩

def restG (z : Nat) (w : Wd) : Wd := (fX2_restart z w).getD w
theorem restG_eq (z : Nat) (w : Wd) : fX2_restart z w = some (restG z w) := rfl
theorem restG_at {z a : Nat} {w : Wd} (h : a < z + 3 ∨ z + 13 < a) : (restG z w).1 a = w.1 a := by
  have e : ∀ j, 3 ≤ j → j ≤ 13 → ¬ a = z + j := fun j h1 h2 => by omega
  simp [restG, fX2_restart, nw, flI, e 3, e 4, e 5, e 6, e 7, e 8, e 9, e 10, e 11, e 12, e 13]
theorem Clo.w {S : KS} {w w' : Wd} (h : Clo S w) (hw : ∀ a, S.D a → w'.1 a = w.1 a ∨ ∃ x, S.kd a = .inr x) : Clo S w' := by
  intro a ha t ht
  refine h a ha t ?_
  rcases hw a ha with e | ⟨x, e⟩
  · generalize S.kd a = k at ht ⊢
    rcases k with ⟨ci, ds⟩ | ⟨n, m, f⟩
    · obtain ⟨j, d, h1, h2, h3⟩ := ht
      exact ⟨j, d, h1, h2, h3.imp id (fun q => ⟨q.1, fun e4 => q.2 (by rw [e]; exact e4)⟩)⟩
    · exact ht
  · rw [e] at ht ⊢
    exact ht
theorem CBU.w {K : KT} {cc : ByteArray} {own : String} {nL d : Nat} {S : KS} {sz lo hi fh v0 c s : Nat} {wF : Wd} {LF L : List (Nat × Kd)} {nx i j : Nat} {w w' : Wd} (B : CBU K cc own nL d S sz lo hi fh v0 c s wF LF L nx i j w) (h : Clo K.ks w') : CBU K cc own nL d S sz lo hi fh v0 c s wF LF L nx i j w' := by
  obtain ⟨G, hc, hE, hr⟩ := B
  exact ⟨G, h, ⟨hE.1, hE.2.1, hE.2.2.1, hE.2.2.2.1, hE.2.2.2.2.1, h⟩, hr⟩
theorem cne_1 {z : Nat} : ∀ q ∈ (cg z), z + 2 ≤ q.1 ∧ q.1 ≤ z + 34 := by
  intro q hq
  · have := cg_in q hq
    omega
theorem cne_2 {z : Nat} : ∀ q ∈ (cg z ++ cwt z), z + 2 ≤ q.1 ∧ q.1 ≤ z + 34 := by
  intro q hq
  simp only [List.mem_append] at hq
  rcases hq with hq | hq
  · have := cg_in q hq
    omega
  · have := cwt_in q hq
    omega
theorem cne_3 {z : Nat} : ∀ q ∈ (cg z ++ cwt z ++ chs z), z + 2 ≤ q.1 ∧ q.1 ≤ z + 34 := by
  intro q hq
  simp only [List.mem_append] at hq
  rcases hq with (hq | hq) | hq
  · have := cg_in q hq
    omega
  · have := cwt_in q hq
    omega
  · have := chs_in q hq
    omega
theorem cne_4 {z : Nat} : ∀ q ∈ (cg z ++ cwt z ++ chs z ++ com z), z + 2 ≤ q.1 ∧ q.1 ≤ z + 34 := by
  intro q hq
  simp only [List.mem_append] at hq
  rcases hq with ((hq | hq) | hq) | hq
  · have := cg_in q hq
    omega
  · have := cwt_in q hq
    omega
  · have := chs_in q hq
    omega
  · have := com_in q hq
    omega
def WcityA (z : Nat) (w : Wd) : Wd := (si (si (si (si (si (si (si (si (zi (Wcom z (zi (Wchs z (zi (Wcwt z (zi (Wcg z (zi w (z + 2))) (z + 14))) (z + 19))) (z + 30))) (z + 35)) (z + 1) 5 0) (z + 1) 6 0) (z + 1) 7 0) (z + 1) 8 0) (z + 1) 9 0) (z + 1) 10 0) (z + 1) 11 0) (z + 1) 12 0)
def cbody (z : Nat) : List (Nat × Kd) := cg z ++ cwt z ++ chs z ++ com z
theorem cbody_in {z : Nat} : ∀ q ∈ cbody z, z + 2 ≤ q.1 ∧ q.1 ≤ z + 34 := cne_4
theorem cbody_2 {z : Nat} : (z + 2, (.inl (2, [(1, z + 3), (1, z + 4), (1, z + 5), (1, z + 6), (1, z + 7), (1, z + 8), (1, z + 9), (1, z + 10), (1, z + 11), (1, z + 12), (1, z + 13)]) : Kd)) ∈ cbody z := List.mem_of_getElem? (i := 0) rfl
def clns (z : Nat) : Nat → List (Nat × Kd)
  | 0 => []
  | k + 1 => clns z k ++ cln (z + 36 + 7 * k)
theorem clns_in {z : Nat} : ∀ k, ∀ q ∈ clns z k, z + 36 ≤ q.1 ∧ q.1 < z + 36 + 7 * k
  | 0, q, h => by cases h
  | k + 1, q, h => by
    rcases List.mem_append.mp h with h | h
    · have := clns_in k q h
      omega
    · have := cln_in q h
      omega
def Wlns (z : Nat) (w : Wd) : Nat → Wd
  | 0 => w
  | k + 1 => Wln (z + 36 + 7 * k) (zi (Wlns z w k) (z + 36 + 7 * k))
def lnf (z k : Nat) : Nat → Option Nat := fun j => if j < k then some (z + 36 + 7 * j) else none
def Wcity (z : Nat) (w : Wd) : Wd := restG z (Wlns z (WcityA z w) 8)
theorem ne35 {z k : Nat} : ∀ q ∈ ((z + 1, .inl (0, [(1, z + 2), (1, z + 14), (1, z + 19), (1, z + 30), (1, z + 35), (0, 0), (0, 0), (0, 0), (0, 0), (0, 0), (0, 0), (0, 0), (0, 0)])) :: (cbody z ++ clns z k) : List (Nat × Kd)), q.1 ≠ z + 35 := by
  intro q hq
  rcases List.mem_cons.mp hq with rfl | hq
  · simp
  · rcases List.mem_append.mp hq with hq | hq
    · have := cbody_in q hq
      omega
    · have := clns_in k q hq
      omega
theorem cityL_mem {z : Nat} {q : Nat × Kd} (h : q ∈ cityL z) : q ∈ ((z + 35, .inr (3, 8, fun j => some (z + 36 + 7 * j))) :: ((z + 1, .inl (0, [(1, z + 2), (1, z + 14), (1, z + 19), (1, z + 30), (1, z + 35), (0, 0), (0, 0), (0, 0), (0, 0), (0, 0), (0, 0), (0, 0), (0, 0)])) :: (cbody z ++ clns z 8)) : List (Nat × Kd)) := by
  have e : cityL z = (z + 1, .inl (0, [(1, z + 2), (1, z + 14), (1, z + 19), (1, z + 30), (1, z + 35), (0, 0), (0, 0), (0, 0), (0, 0), (0, 0), (0, 0), (0, 0), (0, 0)])) :: (cbody z ++ ((z + 35, .inr (3, 8, fun j => some (z + 36 + 7 * j))) :: clns z 8)) := rfl
  rw [e] at h
  simp only [List.mem_cons, List.mem_append] at h ⊢
  rcases h with h | h | h | h
  · exact Or.inr (Or.inl h)
  · exact Or.inr (Or.inr (Or.inl h))
  · exact Or.inl h
  · exact Or.inr (Or.inr (Or.inr h))
theorem lnf_up {z k : Nat} : va_up (lnf z k) k (some (z + 36 + 7 * k)) = lnf z (k + 1) := by
  funext j
  unfold va_up lnf
  by_cases h : j = k
  · rw [if_pos h, if_pos (by omega), h]
  · rw [if_neg h]
    by_cases h2 : j < k
    · rw [if_pos h2, if_pos (by omega)]
    · rw [if_neg h2, if_neg (by omega)]
set_option maxHeartbeats 4000000 in
/-- one turn of the loop: line k -/
theorem c_line {K : KT} {d : Nat} {S : KS} {sz c s : Nat} {z k i j : Nat} {wF w0 : Wd} {LF : List (Nat × Kd)} {x : Int32} (hk : k < 8) (B : CBU K cX0_init RX0 2 d S sz (z + 2) (z + 91) (z + 91) (z + 1) c s wF LF ((z + 35, .inr (3, 8, lnf z k)) :: ((z + 1, .inl (0, [(1, z + 2), (1, z + 14), (1, z + 19), (1, z + 30), (1, z + 35), (0, 0), (0, 0), (0, 0), (0, 0), (0, 0), (0, 0), (0, 0), (0, 0)])) :: (cbody z ++ clns z k))) (z + 36 + 7 * k) i j (Wlns z w0 k)) (hx : x.toNatClampNeg = k) (hx2 : ¬ x < 0) (hx8 : x < 8) (hx0 : inb x 8 = true) (hd : Nat.blt 2 d = true) (h1 : i + 7 ≤ c) (h2 : j + 125 ≤ s)
    (kk : ∀ K' : KT, CBU K' cX0_init RX0 2 d S sz (z + 2) (z + 91) (z + 91) (z + 1) c s wF LF ((z + 35, .inr (3, 8, lnf z (k + 1))) :: ((z + 1, .inl (0, [(1, z + 2), (1, z + 14), (1, z + 19), (1, z + 30), (1, z + 35), (0, 0), (0, 0), (0, 0), (0, 0), (0, 0), (0, 0), (0, 0), (0, 0)])) :: (cbody z ++ clns z (k + 1)))) (z + 36 + 7 * (k + 1)) (i + 7) (j + 125) (Wlns z w0 (k + 1)) → XW K' 99 [some (.ref (z + 1)), some (.int (x + 1))] [] (Wlns z w0 (k + 1))) : XW K 99 [some (.ref (z + 1)), some (.int x)] [] (Wlns z w0 k) := by
  have k35 := B.2.2.2.1 _ List.mem_cons_self
  have k1 := B.2.2.2.1 _ (List.mem_cons_of_mem _ List.mem_cons_self)
  refine x_iload_n B.1 dX0_init_99 rfl rfl ?_
  refine x_bipush B.1 (v := 8) dX0_init_100 (by decide) ?_
  refine x_icmpge (α := Unit) (A := some ()) (B := none) (r := ()) B.1 dX0_init_102 (tgt := 124) rfl (if_pos hx8) (fun _ _ => ?_) (fun _ h => by cases h)
  refine x_aload_n B.1 dX0_init_105 rfl rfl ?_
  refine x_getR B.1 k1 4 (b := z + 35) rfl cl0 rfl wf_X0_41 dX0_init_106 ?_
  refine x_iload_n B.1 dX0_init_109 rfl rfl ?_
  refine c_obj (L' := cln (z + 36 + 7 * k)) (w' := Wlns z w0 (k + 1)) (c' := 6) (s' := 114) (lo' := z + 36 + 7 * k + 1) (hi' := z + 36 + 7 * k + 6) (nx := z + 36 + 7 * k) (ds2 := [(0, 0), (0, 0), (0, 0), (0, 0), (0, 0), (3, 0), (3, 0), (3, 0), (3, 0), (3, 0), (3, 0)]) B cl5 wcl_X0_39 wins_X5 wz_X5 (fun j hj => match j, hj with | 0, _ => rfl | 1, _ => rfl | 2, _ => rfl | 3, _ => rfl | 4, _ => rfl | 5, _ => rfl | 6, _ => rfl | 7, _ => rfl | 8, _ => rfl | 9, _ => rfl | 10, _ => rfl | m + 11, h => absurd h (by omega)) (by decide) (fun S1 _ h1 h2 h3 h4 => kX5_init h1 h2 h3 h4) mi_X0_70 (List.mem_of_getElem? (i := 0) rfl) cln_in (by omega) (by omega) (by omega) (by omega) (by omega) (by omega) hd rfl (fun v a1 a2 => ?_) (fun v a1 a2 => noVs2i (by omega)) rfl (by omega) dX0_init_110 dX0_init_113 dX0_init_114 (fun K _ B => ?_)
  · have h9 := noV1 (a := z + 1) (v := v) (by omega)
    simp [noV] at h9 ⊢
    exact h9
  refine c_ast (a := z + 35) (b := z + 36 + 7 * k) (n := 8) (t0 := 3) (f := lnf z k) (st := []) (L := (z + 1, .inl (0, [(1, z + 2), (1, z + 14), (1, z + 19), (1, z + 30), (1, z + 35), (0, 0), (0, 0), (0, 0), (0, 0), (0, 0), (0, 0), (0, 0), (0, 0)])) :: (cbody z ++ clns z k) ++ cln (z + 36 + 7 * k)) B (Or.inl ⟨rfl, rfl⟩) (List.mem_append_right _ (List.mem_of_getElem? (i := 0) rfl)) cl5 hx0 (by omega) ?_ dX0_init_117 (fun K B => ?_)
  · intro q hq
    rcases List.mem_append.mp hq with hq | hq
    · exact ne35 q hq
    · have := cln_in q hq
      omega
  rw [hx, lnf_up] at B
  refine x_iinc B.1 dX0_init_118 (x := x) (v := 1) rfl rfl rfl rfl rfl ?_
  refine x_goto B.1 (tgt := 99) dX0_init_121 rfl ?_
  refine kk K (B.sub (fun q hq => ?_))
  rcases List.mem_cons.mp hq with rfl | hq
  · exact List.mem_cons_self
  · refine List.mem_cons_of_mem _ ?_
    rcases List.mem_cons.mp hq with rfl | hq
    · exact List.mem_append_left _ List.mem_cons_self
    · rcases List.mem_append.mp hq with hq | hq
      · exact List.mem_append_left _ (List.mem_cons_of_mem _ (List.mem_append_left _ hq))
      · rcases List.mem_append.mp hq with hq | hq
        · exact List.mem_append_left _ (List.mem_cons_of_mem _ (List.mem_append_right _ hq))
        · exact List.mem_append_right _ hq
set_option maxHeartbeats 16000000 in
theorem kX0_init {l : Launch} {S : KS} {z : Nat} {w : Wd} (hX : XCs S) (hI : Inj S) (hv : KD S (z + 1) (.inl (0, [(3, 0), (3, 0), (3, 0), (3, 0), (3, 0), (0, 0), (0, 0), (0, 0), (0, 0), (0, 0), (0, 0), (0, 0), (0, 0)]))) (hf : ∀ a, z + 2 ≤ a → a ≤ z + 91 → ¬ S.D a) (hc : Clo S w) : CK l yX0_init cX0_init 2 5 90 4345 S (z + 1) (z + 2) (z + 91) w (Wcity z w) (cityL z) := by
  refine mk_entryC (own := RX0) rfl (by decide +kernel) rfl hI 1 rfl rfl (fun K sz h1 h2 h3 hR hc0 hs0 hcR hsR G => ?_)
  subst h1
  refine x_aload_n G dX0_init_0 rfl rfl ?_
  refine x_objI G wo_X0_3 wo_1 wo_2 rfl rfl dX0_init_1 ?_
  have B := c_start G h2 h3 hR hc0 hs0 hcR hsR hv hf hc
  clear G h2 h3 hR hc0 hs0 hcR hsR
  refine x_aload_n B.1 dX0_init_4 rfl rfl ?_
  refine c_obj (L' := cg z) (w' := Wcg z (zi _ (z + 2))) (c' := 11) (s' := 1100) (lo' := z + 3) (hi' := z + 13) (nx := z + 2) (ds2 := [(3, 0), (3, 0), (3, 0), (3, 0), (3, 0), (3, 0), (3, 0), (3, 0), (3, 0), (3, 0), (3, 0)]) B cl2 wcl_X0_9 wins_X2 wz_X2 (fun j hj => match j, hj with | 0, _ => rfl | 1, _ => rfl | 2, _ => rfl | 3, _ => rfl | 4, _ => rfl | 5, _ => rfl | 6, _ => rfl | 7, _ => rfl | 8, _ => rfl | 9, _ => rfl | 10, _ => rfl | m + 11, h => absurd h (by omega)) (by decide) (fun S1 _ h1 h2 h3 h4 => kX2_init h1 h2 h3 h4) mi_X0_11 (List.mem_of_getElem? (i := 0) rfl) cg_in (by omega) (by omega) (by omega) (by omega) (by omega) (by omega) rfl rfl (fun v a1 a2 => noV1 (by omega)) (fun v a1 a2 => noVs1 (by omega)) rfl (by omega) dX0_init_5 dX0_init_8 dX0_init_9 (fun K _ B => ?_)
  refine c_put (k := 0) (b := z + 2) (L := cg z) B (List.mem_of_getElem? (i := 0) rfl) cl0 (fun q hq => by have := cne_1 q hq; omega) rfl rfl wf_X0_12 (Or.inr ⟨rfl, rfl⟩) (fun _ => rfl) (fun _ => rfl) dX0_init_12 (fun K B => ?_)
  refine x_aload_n B.1 dX0_init_15 rfl rfl ?_
  refine c_obj (L' := cwt z) (w' := Wcwt z (zi _ (z + 14))) (c' := 4) (s' := 400) (lo' := z + 15) (hi' := z + 18) (nx := z + 14) (ds2 := [(3, 0), (3, 0), (3, 0), (3, 0), (0, 0), (0, 0), (0, 0), (0, 0), (0, 0), (0, 0), (0, 0)]) B cl10 wcl_X0_18 wins_X10 wz_X10 (fun j hj => match j, hj with | 0, _ => rfl | 1, _ => rfl | 2, _ => rfl | 3, _ => rfl | 4, _ => rfl | 5, _ => rfl | 6, _ => rfl | 7, _ => rfl | 8, _ => rfl | 9, _ => rfl | 10, _ => rfl | m + 11, h => absurd h (by omega)) (by decide) (fun S1 _ h1 h2 h3 h4 => kX10_init h1 h2 h3 h4) mi_X0_20 (List.mem_of_getElem? (i := 0) rfl) cwt_in (by omega) (by omega) (by omega) (by omega) (by omega) (by omega) rfl rfl (fun v a1 a2 => noV1 (by omega)) (fun v a1 a2 => noVs1 (by omega)) rfl (by omega) dX0_init_16 dX0_init_19 dX0_init_20 (fun K _ B => ?_)
  refine c_put (k := 1) (b := z + 14) (L := cg z ++ cwt z) B (List.mem_append_right _ (List.mem_of_getElem? (i := 0) rfl)) cl0 (fun q hq => by have := cne_2 q hq; omega) rfl rfl wf_X0_21 (Or.inr ⟨rfl, rfl⟩) (fun _ => rfl) (fun _ => rfl) dX0_init_23 (fun K B => ?_)
  refine x_aload_n B.1 dX0_init_26 rfl rfl ?_
  refine c_obj (L' := chs z) (w' := Wchs z (zi _ (z + 19))) (c' := 10) (s' := 1000) (lo' := z + 20) (hi' := z + 29) (nx := z + 19) (ds2 := [(3, 0), (3, 0), (3, 0), (3, 0), (3, 0), (3, 0), (3, 0), (3, 0), (3, 0), (3, 0)]) B cl3 wcl_X0_25 wins_X3 wz_X3 (fun j hj => match j, hj with | 0, _ => rfl | 1, _ => rfl | 2, _ => rfl | 3, _ => rfl | 4, _ => rfl | 5, _ => rfl | 6, _ => rfl | 7, _ => rfl | 8, _ => rfl | 9, _ => rfl | m + 10, h => absurd h (by omega)) (by decide) (fun S1 _ h1 h2 h3 h4 => kX3_init h1 h2 h3 h4) mi_X0_27 (List.mem_of_getElem? (i := 0) rfl) chs_in (by omega) (by omega) (by omega) (by omega) (by omega) (by omega) rfl rfl (fun v a1 a2 => noV1 (by omega)) (fun v a1 a2 => noVs1 (by omega)) rfl (by omega) dX0_init_27 dX0_init_30 dX0_init_31 (fun K _ B => ?_)
  refine c_put (k := 2) (b := z + 19) (L := cg z ++ cwt z ++ chs z) B (List.mem_append_right _ (List.mem_of_getElem? (i := 0) rfl)) cl0 (fun q hq => by have := cne_3 q hq; omega) rfl rfl wf_X0_28 (Or.inr ⟨rfl, rfl⟩) (fun _ => rfl) (fun _ => rfl) dX0_init_34 (fun K B => ?_)
  refine x_aload_n B.1 dX0_init_37 rfl rfl ?_
  refine c_obj (L' := com z) (w' := Wcom z (zi _ (z + 30))) (c' := 4) (s' := 800) (lo' := z + 31) (hi' := z + 34) (nx := z + 30) (ds2 := [(0, 0), (3, 0), (3, 0), (3, 0), (3, 0)]) B cl6 wcl_X0_32 wins_X6 wz_X6 (fun j hj => match j, hj with | 0, _ => rfl | 1, _ => rfl | 2, _ => rfl | 3, _ => rfl | 4, _ => rfl | m + 5, h => absurd h (by omega)) (by decide) (fun S1 _ h1 h2 h3 h4 => kX6_init h1 h2 h3 h4) mi_X0_34 (List.mem_of_getElem? (i := 0) rfl) com_in (by omega) (by omega) (by omega) (by omega) (by omega) (by omega) rfl rfl (fun v a1 a2 => noV1 (by omega)) (fun v a1 a2 => noVs1 (by omega)) rfl (by omega) dX0_init_38 dX0_init_41 dX0_init_42 (fun K _ B => ?_)
  refine c_put (k := 3) (b := z + 30) (L := cg z ++ cwt z ++ chs z ++ com z) B (List.mem_append_right _ (List.mem_of_getElem? (i := 0) rfl)) cl0 (fun q hq => by have := cne_4 q hq; omega) rfl rfl wf_X0_35 (Or.inr ⟨rfl, rfl⟩) (fun _ => rfl) (fun _ => rfl) dX0_init_45 (fun K B => ?_)
  refine x_aload_n B.1 dX0_init_48 rfl rfl ?_
  refine x_bipush B.1 (v := 8) dX0_init_49 (by decide) ?_
  refine c_fieldQ (t0 := 3) (n := 8) (k := 4) (C0 := RX5) (L := cg z ++ cwt z ++ chs z ++ com z) B hX (Or.inl ⟨rfl, rfl⟩) wcl_X0_39 cl0 (by decide) (by decide) (by decide) (by omega) (by omega) (noV1 (by omega)) (by omega) (by omega) (by omega) (fun q hq => by have := cne_4 q hq; omega) rfl rfl wf_X0_41 (Or.inr ⟨rfl, rfl⟩) (fun _ => rfl) (fun _ => rfl) dX0_init_51 dX0_init_54 (fun K B => ?_)
  refine x_aload_n B.1 dX0_init_57 rfl rfl ?_
  refine x_iconst B.1 (v := 0) dX0_init_58 (by decide) ?_
  refine c_fieldI (k := 5) B cl0 rfl rfl wf_X0_45 rfl rfl rfl dX0_init_59 (fun B => ?_)
  refine x_aload_n B.1 dX0_init_62 rfl rfl ?_
  refine x_iconst B.1 (v := 0) dX0_init_63 (by decide) ?_
  refine c_fieldI (k := 6) B cl0 rfl rfl wf_X0_49 rfl rfl rfl dX0_init_64 (fun B => ?_)
  refine x_aload_n B.1 dX0_init_67 rfl rfl ?_
  refine x_iconst B.1 (v := 0) dX0_init_68 (by decide) ?_
  refine c_fieldI (k := 7) B cl0 rfl rfl wf_X0_52 rfl rfl rfl dX0_init_69 (fun B => ?_)
  refine x_aload_n B.1 dX0_init_72 rfl rfl ?_
  refine x_iconst B.1 (v := 0) dX0_init_73 (by decide) ?_
  refine c_fieldI (k := 8) B cl0 rfl rfl wf_X0_55 rfl rfl rfl dX0_init_74 (fun B => ?_)
  refine x_aload_n B.1 dX0_init_77 rfl rfl ?_
  refine x_iconst B.1 (v := 0) dX0_init_78 (by decide) ?_
  refine c_fieldI (k := 9) B cl0 rfl rfl wf_X0_58 rfl rfl rfl dX0_init_79 (fun B => ?_)
  refine x_aload_n B.1 dX0_init_82 rfl rfl ?_
  refine x_iconst B.1 (v := 0) dX0_init_83 (by decide) ?_
  refine c_fieldI (k := 10) B cl0 rfl rfl wf_X0_61 rfl rfl rfl dX0_init_84 (fun B => ?_)
  refine x_aload_n B.1 dX0_init_87 rfl rfl ?_
  refine x_iconst B.1 (v := 0) dX0_init_88 (by decide) ?_
  refine c_fieldI (k := 11) B cl0 rfl rfl wf_X0_64 rfl rfl rfl dX0_init_89 (fun B => ?_)
  refine x_aload_n B.1 dX0_init_92 rfl rfl ?_
  refine x_iconst B.1 (v := 0) dX0_init_93 (by decide) ?_
  refine c_fieldI (k := 12) B cl0 rfl rfl wf_X0_67 rfl rfl rfl dX0_init_94 (fun B => ?_)
  replace B := B.sub (L' := (z + 35, .inr (3, 8, lnf z 0)) :: ((z + 1, .inl (0, [(1, z + 2), (1, z + 14), (1, z + 19), (1, z + 30), (1, z + 35), (0, 0), (0, 0), (0, 0), (0, 0), (0, 0), (0, 0), (0, 0), (0, 0)])) :: (cbody z ++ clns z 0))) (fun q hq => by
    rcases List.mem_cons.mp hq with rfl | hq
    · exact List.mem_cons_of_mem _ (List.mem_append_right _ (List.mem_cons_self))
    · rcases List.mem_cons.mp hq with rfl | hq
      · exact List.mem_cons_self
      · rw [clns, List.append_nil] at hq
        exact List.mem_cons_of_mem _ (List.mem_append_left _ hq))
  refine x_iconst B.1 (v := 0) dX0_init_97 (by decide) ?_
  refine x_istore_n B.1 dX0_init_98 rfl rfl rfl rfl ?_
  refine c_line (k := 0) (x := 0) (by omega) B (by decide) (by decide) (by decide) (by decide) rfl (by omega) (by omega) (fun K B => ?_)
  refine c_line (k := 1) (x := 1) (by omega) B (by decide) (by decide) (by decide) (by decide) rfl (by omega) (by omega) (fun K B => ?_)
  refine c_line (k := 2) (x := 2) (by omega) B (by decide) (by decide) (by decide) (by decide) rfl (by omega) (by omega) (fun K B => ?_)
  refine c_line (k := 3) (x := 3) (by omega) B (by decide) (by decide) (by decide) (by decide) rfl (by omega) (by omega) (fun K B => ?_)
  refine c_line (k := 4) (x := 4) (by omega) B (by decide) (by decide) (by decide) (by decide) rfl (by omega) (by omega) (fun K B => ?_)
  refine c_line (k := 5) (x := 5) (by omega) B (by decide) (by decide) (by decide) (by decide) rfl (by omega) (by omega) (fun K B => ?_)
  refine c_line (k := 6) (x := 6) (by omega) B (by decide) (by decide) (by decide) (by decide) rfl (by omega) (by omega) (fun K B => ?_)
  refine c_line (k := 7) (x := 7) (by omega) B (by decide) (by decide) (by decide) (by decide) rfl (by omega) (by omega) (fun K B => ?_)
  refine x_iload_n B.1 dX0_init_99 rfl rfl ?_
  refine x_bipush B.1 (v := 8) dX0_init_100 (by decide) ?_
  refine x_icmpge (α := Unit) (A := none) (B := some ()) (r := ()) B.1 dX0_init_102 (tgt := 124) rfl rfl (fun _ h => by cases h) (fun _ _ => ?_)
  refine c_kind (f' := fun j => some (z + 36 + 7 * j)) B (by omega) (fun q hq => if_pos hq) (by omega) (ne35) (fun K B => ?_)
  have hz : IsCity K.ks z := fun q hq => B.2.2.2.1 q (cityL_mem hq)
  refine x_aload_n B.1 dX0_init_124 rfl rfl ?_
  refine x_getR B.1 (ic1 hz) 0 (b := z + 2) rfl cl0 rfl wf_X0_12 dX0_init_125 ?_
  refine x_virV B.1 (As := []) (mX2_restartC B.1.2.2.2.2.2.2.1 hz (restG_eq z _)) mv_X0_71 (ic2 hz) cl2 rfl rfl rfl rfl rfl dX0_init_128 ?_
  replace B := B.w (w' := Wcity z w) (B.2.1.w (fun a ha => by
    by_cases h : a < z + 3 ∨ z + 13 < a
    · exact Or.inl (restG_at h)
    · refine Or.inr ?_
      have h9 : a = z + 3 ∨ a = z + 4 ∨ a = z + 5 ∨ a = z + 6 ∨ a = z + 7 ∨ a = z + 8 ∨ a = z + 9 ∨ a = z + 10 ∨ a = z + 11 ∨ a = z + 12 ∨ a = z + 13 := by omega
      rcases h9 with rfl | rfl | rfl | rfl | rfl | rfl | rfl | rfl | rfl | rfl | rfl
      · exact ⟨_, (ic3 hz).2⟩
      · exact ⟨_, (ic4 hz).2⟩
      · exact ⟨_, (ic5 hz).2⟩
      · exact ⟨_, (ic6 hz).2⟩
      · exact ⟨_, (ic7 hz).2⟩
      · exact ⟨_, (ic8 hz).2⟩
      · exact ⟨_, (ic9 hz).2⟩
      · exact ⟨_, (ic10 hz).2⟩
      · exact ⟨_, (ic11 hz).2⟩
      · exact ⟨_, (ic12 hz).2⟩
      · exact ⟨_, (ic13 hz).2⟩))
  exact c_ret (B.sub (fun q hq => cityL_mem hq)) (by omega) (by omega) dX0_init_131

