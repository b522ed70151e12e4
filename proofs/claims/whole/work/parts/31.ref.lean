-- the reference is made (printed by wip/whole/init3.py)
theorem dX12_init_0 : decode cX12_init 0 = .ok (.aload_n 0, 1) := by decide +kernel
theorem dX12_init_1 : decode cX12_init 1 = .ok (.invokespecial 7, 3) := by decide +kernel
theorem dX12_init_4 : decode cX12_init 4 = .ok (.aload_n 0, 1) := by decide +kernel
theorem dX12_init_5 : decode cX12_init 5 = .ok (.sipush 4340, 3) := by decide +kernel
theorem dX12_init_8 : decode cX12_init 8 = .ok (.newarray .int, 2) := by decide +kernel
theorem dX12_init_10 : decode cX12_init 10 = .ok (.putfield 13, 3) := by decide +kernel
theorem dX12_init_13 : decode cX12_init 13 = .ok (.aload_n 0, 1) := by decide +kernel
theorem dX12_init_14 : decode cX12_init 14 = .ok (.bipush 60, 2) := by decide +kernel
theorem dX12_init_16 : decode cX12_init 16 = .ok (.newarray .int, 2) := by decide +kernel
theorem dX12_init_18 : decode cX12_init 18 = .ok (.putfield 17, 3) := by decide +kernel
theorem dX12_init_21 : decode cX12_init 21 = .ok (.aload_n 0, 1) := by decide +kernel
theorem dX12_init_22 : decode cX12_init 22 = .ok (.bipush 19, 2) := by decide +kernel
theorem dX12_init_24 : decode cX12_init 24 = .ok (.newarray .int, 2) := by decide +kernel
theorem dX12_init_26 : decode cX12_init 26 = .ok (.putfield 20, 3) := by decide +kernel
theorem dX12_init_29 : decode cX12_init 29 = .ok (.aload_n 0, 1) := by decide +kernel
theorem dX12_init_30 : decode cX12_init 30 = .ok (.bipush 100, 2) := by decide +kernel
theorem dX12_init_32 : decode cX12_init 32 = .ok (.newarray .int, 2) := by decide +kernel
theorem dX12_init_34 : decode cX12_init 34 = .ok (.putfield 23, 3) := by decide +kernel
theorem dX12_init_37 : decode cX12_init 37 = .ok (.aload_n 0, 1) := by decide +kernel
theorem dX12_init_38 : decode cX12_init 38 = .ok (.bipush 8, 2) := by decide +kernel
theorem dX12_init_40 : decode cX12_init 40 = .ok (.newarray .boolean, 2) := by decide +kernel
theorem dX12_init_42 : decode cX12_init 42 = .ok (.putfield 26, 3) := by decide +kernel
theorem dX12_init_45 : decode cX12_init 45 = .ok (.aload_n 0, 1) := by decide +kernel
theorem dX12_init_46 : decode cX12_init 46 = .ok (.bipush 100, 2) := by decide +kernel
theorem dX12_init_48 : decode cX12_init 48 = .ok (.newarray .int, 2) := by decide +kernel
theorem dX12_init_50 : decode cX12_init 50 = .ok (.putfield 30, 3) := by decide +kernel
theorem dX12_init_53 : decode cX12_init 53 = .ok (.aload_n 0, 1) := by decide +kernel
theorem dX12_init_54 : decode cX12_init 54 = .ok (.bipush 100, 2) := by decide +kernel
theorem dX12_init_56 : decode cX12_init 56 = .ok (.newarray .int, 2) := by decide +kernel
theorem dX12_init_58 : decode cX12_init 58 = .ok (.putfield 33, 3) := by decide +kernel
theorem dX12_init_61 : decode cX12_init 61 = .ok (.aload_n 0, 1) := by decide +kernel
theorem dX12_init_62 : decode cX12_init 62 = .ok (.bipush 100, 2) := by decide +kernel
theorem dX12_init_64 : decode cX12_init 64 = .ok (.newarray .int, 2) := by decide +kernel
theorem dX12_init_66 : decode cX12_init 66 = .ok (.putfield 36, 3) := by decide +kernel
theorem dX12_init_69 : decode cX12_init 69 = .ok (.aload_n 0, 1) := by decide +kernel
theorem dX12_init_70 : decode cX12_init 70 = .ok (.bipush 100, 2) := by decide +kernel
theorem dX12_init_72 : decode cX12_init 72 = .ok (.newarray .boolean, 2) := by decide +kernel
theorem dX12_init_74 : decode cX12_init 74 = .ok (.putfield 39, 3) := by decide +kernel
theorem dX12_init_77 : decode cX12_init 77 = .ok (.aload_n 0, 1) := by decide +kernel
theorem dX12_init_78 : decode cX12_init 78 = .ok (.bipush 100, 2) := by decide +kernel
theorem dX12_init_80 : decode cX12_init 80 = .ok (.newarray .boolean, 2) := by decide +kernel
theorem dX12_init_82 : decode cX12_init 82 = .ok (.putfield 42, 3) := by decide +kernel
theorem dX12_init_85 : decode cX12_init 85 = .ok (.aload_n 0, 1) := by decide +kernel
theorem dX12_init_86 : decode cX12_init 86 = .ok (.bipush 20, 2) := by decide +kernel
theorem dX12_init_88 : decode cX12_init 88 = .ok (.newarray .int, 2) := by decide +kernel
theorem dX12_init_90 : decode cX12_init 90 = .ok (.putfield 45, 3) := by decide +kernel
theorem dX12_init_93 : decode cX12_init 93 = .ok (.aload_n 0, 1) := by decide +kernel
theorem dX12_init_94 : decode cX12_init 94 = .ok (.bipush 20, 2) := by decide +kernel
theorem dX12_init_96 : decode cX12_init 96 = .ok (.newarray .int, 2) := by decide +kernel
theorem dX12_init_98 : decode cX12_init 98 = .ok (.putfield 48, 3) := by decide +kernel
theorem dX12_init_101 : decode cX12_init 101 = .ok (.aload_n 0, 1) := by decide +kernel
theorem dX12_init_102 : decode cX12_init 102 = .ok (.bipush 20, 2) := by decide +kernel
theorem dX12_init_104 : decode cX12_init 104 = .ok (.newarray .int, 2) := by decide +kernel
theorem dX12_init_106 : decode cX12_init 106 = .ok (.putfield 51, 3) := by decide +kernel
theorem dX12_init_109 : decode cX12_init 109 = .ok (.aload_n 0, 1) := by decide +kernel
theorem dX12_init_110 : decode cX12_init 110 = .ok (.sipush 1200, 3) := by decide +kernel
theorem dX12_init_113 : decode cX12_init 113 = .ok (.newarray .int, 2) := by decide +kernel
theorem dX12_init_115 : decode cX12_init 115 = .ok (.putfield 54, 3) := by decide +kernel
theorem dX12_init_118 : decode cX12_init 118 = .ok (.aload_n 0, 1) := by decide +kernel
theorem dX12_init_119 : decode cX12_init 119 = .ok (.bipush 100, 2) := by decide +kernel
theorem dX12_init_121 : decode cX12_init 121 = .ok (.newarray .int, 2) := by decide +kernel
theorem dX12_init_123 : decode cX12_init 123 = .ok (.putfield 57, 3) := by decide +kernel
theorem dX12_init_126 : decode cX12_init 126 = .ok (.aload_n 0, 1) := by decide +kernel
theorem dX12_init_127 : decode cX12_init 127 = .ok (.bipush 100, 2) := by decide +kernel
theorem dX12_init_129 : decode cX12_init 129 = .ok (.newarray .int, 2) := by decide +kernel
theorem dX12_init_131 : decode cX12_init 131 = .ok (.putfield 60, 3) := by decide +kernel
theorem dX12_init_134 : decode cX12_init 134 = .ok (.aload_n 0, 1) := by decide +kernel
theorem dX12_init_135 : decode cX12_init 135 = .ok (.bipush 6, 2) := by decide +kernel
theorem dX12_init_137 : decode cX12_init 137 = .ok (.newarray .int, 2) := by decide +kernel
theorem dX12_init_139 : decode cX12_init 139 = .ok (.putfield 63, 3) := by decide +kernel
theorem dX12_init_142 : decode cX12_init 142 = .ok (.aload_n 0, 1) := by decide +kernel
theorem dX12_init_143 : decode cX12_init 143 = .ok (.bipush 6, 2) := by decide +kernel
theorem dX12_init_145 : decode cX12_init 145 = .ok (.newarray .int, 2) := by decide +kernel
theorem dX12_init_147 : decode cX12_init 147 = .ok (.putfield 66, 3) := by decide +kernel
theorem dX12_init_150 : decode cX12_init 150 = .ok (.aload_n 0, 1) := by decide +kernel
theorem dX12_init_151 : decode cX12_init 151 = .ok (.sipush 600, 3) := by decide +kernel
theorem dX12_init_154 : decode cX12_init 154 = .ok (.newarray .long, 2) := by decide +kernel
theorem dX12_init_156 : decode cX12_init 156 = .ok (.putfield 69, 3) := by decide +kernel
theorem dX12_init_159 : decode cX12_init 159 = .ok (.aload_n 0, 1) := by decide +kernel
theorem dX12_init_160 : decode cX12_init 160 = .ok (.sipush 26040, 3) := by decide +kernel
theorem dX12_init_163 : decode cX12_init 163 = .ok (.newarray .int, 2) := by decide +kernel
theorem dX12_init_165 : decode cX12_init 165 = .ok (.putfield 73, 3) := by decide +kernel
theorem dX12_init_168 : decode cX12_init 168 = .ok (.aload_n 0, 1) := by decide +kernel
theorem dX12_init_169 : decode cX12_init 169 = .ok (.invokevirtual 76, 3) := by decide +kernel
theorem dX12_init_172 : decode cX12_init 172 = .ok (.return_, 1) := by decide +kernel
theorem wo_X12_7 : Cond.methodLink RX12 7 Lib.objectInit ∈ gtbl := gq (by decide +kernel) (by decide +kernel)
theorem wa_boolean : Cond.arrayClass FieldType.boolean ∈ gtbl := gq (by decide +kernel) (by decide +kernel)
def Wref (w : Wd) : Wd := (zi (zi (zi (zi (zi (zi (zi (zi (zi (zi (zi (zi (zi (zi (zi (zi (zi (zi (zi (zi w 149) 150) 151) 152) 153) 154) 155) 156) 157) 158) 159) 160) 161) 162) 163) 164) 165) 166) 167) 168)
def refL : List (Nat × Kd) := [(148, .inl (12, [(0, 0), (1, 149), (0, 0), (1, 150), (0, 0), (1, 151), (0, 0), (0, 0), (0, 0), (1, 152), (0, 0), (1, 153), (1, 154), (1, 155), (1, 156), (1, 157), (1, 158), (1, 159), (1, 160), (1, 161), (1, 162), (0, 0), (1, 163), (0, 0), (0, 0), (0, 0), (0, 0), (0, 0), (1, 164), (1, 165), (1, 166), (1, 167), (1, 168)])), (149, .inr (0, 4340, nt)), (150, .inr (0, 60, nt)), (151, .inr (0, 19, nt)), (152, .inr (0, 100, nt)), (153, .inr (2, 8, nt)), (154, .inr (0, 100, nt)), (155, .inr (0, 100, nt)), (156, .inr (0, 100, nt)), (157, .inr (2, 100, nt)), (158, .inr (2, 100, nt)), (159, .inr (0, 20, nt)), (160, .inr (0, 20, nt)), (161, .inr (0, 20, nt)), (162, .inr (0, 1200, nt)), (163, .inr (0, 100, nt)), (164, .inr (0, 100, nt)), (165, .inr (0, 6, nt)), (166, .inr (0, 6, nt)), (167, .inr (1, 600, nt)), (168, .inr (0, 26040, nt))]
theorem refL_eq : refL = otherL.filter (fun q => Nat.ble 148 q.1) := rfl
theorem Clo.w2 {S : KS} {w w' : Wd} (h : Clo S w) (hw : ∀ a, S.D a → w'.1 a = w.1 a ∨ (∃ x, S.kd a = .inr x) ∨ ∃ ci ds, S.kd a = .inl (ci, ds) ∧ ∀ d ∈ ds, ¬ d.1 = 2) : Clo S w' := by
  intro a ha t ht
  refine h a ha t ?_
  rcases hw a ha with e | ⟨x, e⟩ | ⟨ci, ds, e, h2⟩
  · generalize S.kd a = k at ht ⊢
    rcases k with ⟨ci, ds⟩ | ⟨n, m, f⟩
    · obtain ⟨j, d, h1, h2, h3⟩ := ht
      exact ⟨j, d, h1, h2, h3.imp id (fun q => ⟨q.1, fun e4 => q.2 (by rw [e]; exact e4)⟩)⟩
    · exact ht
  · rw [e] at ht ⊢
    exact ht
  · rw [e] at ht ⊢
    obtain ⟨j, d, h1, h3, h4⟩ := ht
    exact ⟨j, d, h1, h3, h4.imp id (fun q => absurd q.1 (h2 d (List.mem_of_getElem? h1)))⟩
theorem cityL_le : ∀ q ∈ cityL 0, q.1 ≤ 91 := by simp [cityL]
/-- all that stands before the reference is made -/
def Main0 (S : KS) : Prop := ((∀ q ∈ otherL, q.1 < 148 → KD S q.1 q.2) ∧ ∀ A U H, S.X A U H → XG S A U H) ∧ IsCity S 0
set_option maxHeartbeats 16000000 in
theorem kX12_init {l : Launch} {S : KS} {w r : Wd} (M0 : Main0 S) (hr : fX12_start (Wref w) = some r) (hI : Inj S) (hv : KD S 148 (.inl (12, [(0, 0), (3, 0), (0, 0), (3, 0), (0, 0), (3, 0), (0, 0), (0, 0), (0, 0), (3, 0), (0, 0), (3, 0), (3, 0), (3, 0), (3, 0), (3, 0), (3, 0), (3, 0), (3, 0), (3, 0), (3, 0), (0, 0), (3, 0), (0, 0), (0, 0), (0, 0), (0, 0), (0, 0), (3, 0), (3, 0), (3, 0), (3, 0), (3, 0)]))) (hf : ∀ a, 149 ≤ a → a ≤ 168 → ¬ S.D a) (hc : Clo S w) : CK l yX12_init cX12_init 1 2 20 33139 S 148 149 168 w r refL := by
  refine mk_entryC (own := RX12) rfl (by decide +kernel) rfl hI 0 rfl rfl (fun K sz h1 h2 h3 hR hc0 hs0 hcR hsR G => ?_)
  refine x_aload_n G dX12_init_0 rfl rfl ?_
  refine x_objI G wo_X12_7 wo_1 wo_2 rfl rfl dX12_init_1 ?_
  have B := c_start G h2 h3 hR hc0 hs0 hcR hsR hv hf hc
  clear G h2 h3 hR hc0 hs0 hcR hsR
  refine x_aload_n B.1 dX12_init_4 rfl rfl ?_
  refine x_sipush B.1 (v := 4340) dX12_init_5 (by decide) ?_
  refine c_fieldA (at0 := .int) (ty := .int) (n := 4340) (t0 := 0) (k := 1) B cl12 rfl (Or.inl ⟨rfl, rfl⟩) wa_int (by decide) (by decide) (by decide) (by omega) (by omega) (noV1 (by omega)) (by omega) (by omega) (by omega) (by simp) rfl rfl wf_X12_13 (Or.inr ⟨rfl, rfl⟩) (fun _ => rfl) (fun _ => rfl) dX12_init_8 dX12_init_10 (fun K B => ?_)
  refine x_aload_n B.1 dX12_init_13 rfl rfl ?_
  refine x_bipush B.1 (v := 60) dX12_init_14 (by decide) ?_
  refine c_fieldA (at0 := .int) (ty := .int) (n := 60) (t0 := 0) (k := 3) B cl12 rfl (Or.inl ⟨rfl, rfl⟩) wa_int (by decide) (by decide) (by decide) (by omega) (by omega) (noV1 (by omega)) (by omega) (by omega) (by omega) (by simp) rfl rfl wf_X12_17 (Or.inr ⟨rfl, rfl⟩) (fun _ => rfl) (fun _ => rfl) dX12_init_16 dX12_init_18 (fun K B => ?_)
  refine x_aload_n B.1 dX12_init_21 rfl rfl ?_
  refine x_bipush B.1 (v := 19) dX12_init_22 (by decide) ?_
  refine c_fieldA (at0 := .int) (ty := .int) (n := 19) (t0 := 0) (k := 5) B cl12 rfl (Or.inl ⟨rfl, rfl⟩) wa_int (by decide) (by decide) (by decide) (by omega) (by omega) (noV1 (by omega)) (by omega) (by omega) (by omega) (by simp) rfl rfl wf_X12_20 (Or.inr ⟨rfl, rfl⟩) (fun _ => rfl) (fun _ => rfl) dX12_init_24 dX12_init_26 (fun K B => ?_)
  refine x_aload_n B.1 dX12_init_29 rfl rfl ?_
  refine x_bipush B.1 (v := 100) dX12_init_30 (by decide) ?_
  refine c_fieldA (at0 := .int) (ty := .int) (n := 100) (t0 := 0) (k := 9) B cl12 rfl (Or.inl ⟨rfl, rfl⟩) wa_int (by decide) (by decide) (by decide) (by omega) (by omega) (noV1 (by omega)) (by omega) (by omega) (by omega) (by simp) rfl rfl wf_X12_23 (Or.inr ⟨rfl, rfl⟩) (fun _ => rfl) (fun _ => rfl) dX12_init_32 dX12_init_34 (fun K B => ?_)
  refine x_aload_n B.1 dX12_init_37 rfl rfl ?_
  refine x_bipush B.1 (v := 8) dX12_init_38 (by decide) ?_
  refine c_fieldA (at0 := .boolean) (ty := .boolean) (n := 8) (t0 := 2) (k := 11) B cl12 rfl (Or.inr (Or.inr ⟨rfl, rfl⟩)) wa_boolean (by decide) (by decide) (by decide) (by omega) (by omega) (noV1 (by omega)) (by omega) (by omega) (by omega) (by simp) rfl rfl wf_X12_26 (Or.inr ⟨rfl, rfl⟩) (fun _ => rfl) (fun _ => rfl) dX12_init_40 dX12_init_42 (fun K B => ?_)
  refine x_aload_n B.1 dX12_init_45 rfl rfl ?_
  refine x_bipush B.1 (v := 100) dX12_init_46 (by decide) ?_
  refine c_fieldA (at0 := .int) (ty := .int) (n := 100) (t0 := 0) (k := 12) B cl12 rfl (Or.inl ⟨rfl, rfl⟩) wa_int (by decide) (by decide) (by decide) (by omega) (by omega) (noV1 (by omega)) (by omega) (by omega) (by omega) (by simp) rfl rfl wf_X12_30 (Or.inr ⟨rfl, rfl⟩) (fun _ => rfl) (fun _ => rfl) dX12_init_48 dX12_init_50 (fun K B => ?_)
  refine x_aload_n B.1 dX12_init_53 rfl rfl ?_
  refine x_bipush B.1 (v := 100) dX12_init_54 (by decide) ?_
  refine c_fieldA (at0 := .int) (ty := .int) (n := 100) (t0 := 0) (k := 13) B cl12 rfl (Or.inl ⟨rfl, rfl⟩) wa_int (by decide) (by decide) (by decide) (by omega) (by omega) (noV1 (by omega)) (by omega) (by omega) (by omega) (by simp) rfl rfl wf_X12_33 (Or.inr ⟨rfl, rfl⟩) (fun _ => rfl) (fun _ => rfl) dX12_init_56 dX12_init_58 (fun K B => ?_)
  refine x_aload_n B.1 dX12_init_61 rfl rfl ?_
  refine x_bipush B.1 (v := 100) dX12_init_62 (by decide) ?_
  refine c_fieldA (at0 := .int) (ty := .int) (n := 100) (t0 := 0) (k := 14) B cl12 rfl (Or.inl ⟨rfl, rfl⟩) wa_int (by decide) (by decide) (by decide) (by omega) (by omega) (noV1 (by omega)) (by omega) (by omega) (by omega) (by simp) rfl rfl wf_X12_36 (Or.inr ⟨rfl, rfl⟩) (fun _ => rfl) (fun _ => rfl) dX12_init_64 dX12_init_66 (fun K B => ?_)
  refine x_aload_n B.1 dX12_init_69 rfl rfl ?_
  refine x_bipush B.1 (v := 100) dX12_init_70 (by decide) ?_
  refine c_fieldA (at0 := .boolean) (ty := .boolean) (n := 100) (t0 := 2) (k := 15) B cl12 rfl (Or.inr (Or.inr ⟨rfl, rfl⟩)) wa_boolean (by decide) (by decide) (by decide) (by omega) (by omega) (noV1 (by omega)) (by omega) (by omega) (by omega) (by simp) rfl rfl wf_X12_39 (Or.inr ⟨rfl, rfl⟩) (fun _ => rfl) (fun _ => rfl) dX12_init_72 dX12_init_74 (fun K B => ?_)
  refine x_aload_n B.1 dX12_init_77 rfl rfl ?_
  refine x_bipush B.1 (v := 100) dX12_init_78 (by decide) ?_
  refine c_fieldA (at0 := .boolean) (ty := .boolean) (n := 100) (t0 := 2) (k := 16) B cl12 rfl (Or.inr (Or.inr ⟨rfl, rfl⟩)) wa_boolean (by decide) (by decide) (by decide) (by omega) (by omega) (noV1 (by omega)) (by omega) (by omega) (by omega) (by simp) rfl rfl wf_X12_42 (Or.inr ⟨rfl, rfl⟩) (fun _ => rfl) (fun _ => rfl) dX12_init_80 dX12_init_82 (fun K B => ?_)
  refine x_aload_n B.1 dX12_init_85 rfl rfl ?_
  refine x_bipush B.1 (v := 20) dX12_init_86 (by decide) ?_
  refine c_fieldA (at0 := .int) (ty := .int) (n := 20) (t0 := 0) (k := 17) B cl12 rfl (Or.inl ⟨rfl, rfl⟩) wa_int (by decide) (by decide) (by decide) (by omega) (by omega) (noV1 (by omega)) (by omega) (by omega) (by omega) (by simp) rfl rfl wf_X12_45 (Or.inr ⟨rfl, rfl⟩) (fun _ => rfl) (fun _ => rfl) dX12_init_88 dX12_init_90 (fun K B => ?_)
  refine x_aload_n B.1 dX12_init_93 rfl rfl ?_
  refine x_bipush B.1 (v := 20) dX12_init_94 (by decide) ?_
  refine c_fieldA (at0 := .int) (ty := .int) (n := 20) (t0 := 0) (k := 18) B cl12 rfl (Or.inl ⟨rfl, rfl⟩) wa_int (by decide) (by decide) (by decide) (by omega) (by omega) (noV1 (by omega)) (by omega) (by omega) (by omega) (by simp) rfl rfl wf_X12_48 (Or.inr ⟨rfl, rfl⟩) (fun _ => rfl) (fun _ => rfl) dX12_init_96 dX12_init_98 (fun K B => ?_)
  refine x_aload_n B.1 dX12_init_101 rfl rfl ?_
  refine x_bipush B.1 (v := 20) dX12_init_102 (by decide) ?_
  refine c_fieldA (at0 := .int) (ty := .int) (n := 20) (t0 := 0) (k := 19) B cl12 rfl (Or.inl ⟨rfl, rfl⟩) wa_int (by decide) (by decide) (by decide) (by omega) (by omega) (noV1 (by omega)) (by omega) (by omega) (by omega) (by simp) rfl rfl wf_X12_51 (Or.inr ⟨rfl, rfl⟩) (fun _ => rfl) (fun _ => rfl) dX12_init_104 dX12_init_106 (fun K B => ?_)
  refine x_aload_n B.1 dX12_init_109 rfl rfl ?_
  refine x_sipush B.1 (v := 1200) dX12_init_110 (by decide) ?_
  refine c_fieldA (at0 := .int) (ty := .int) (n := 1200) (t0 := 0) (k := 20) B cl12 rfl (Or.inl ⟨rfl, rfl⟩) wa_int (by decide) (by decide) (by decide) (by omega) (by omega) (noV1 (by omega)) (by omega) (by omega) (by omega) (by simp) rfl rfl wf_X12_54 (Or.inr ⟨rfl, rfl⟩) (fun _ => rfl) (fun _ => rfl) dX12_init_113 dX12_init_115 (fun K B => ?_)
  refine x_aload_n B.1 dX12_init_118 rfl rfl ?_
  refine x_bipush B.1 (v := 100) dX12_init_119 (by decide) ?_
  refine c_fieldA (at0 := .int) (ty := .int) (n := 100) (t0 := 0) (k := 22) B cl12 rfl (Or.inl ⟨rfl, rfl⟩) wa_int (by decide) (by decide) (by decide) (by omega) (by omega) (noV1 (by omega)) (by omega) (by omega) (by omega) (by simp) rfl rfl wf_X12_57 (Or.inr ⟨rfl, rfl⟩) (fun _ => rfl) (fun _ => rfl) dX12_init_121 dX12_init_123 (fun K B => ?_)
  refine x_aload_n B.1 dX12_init_126 rfl rfl ?_
  refine x_bipush B.1 (v := 100) dX12_init_127 (by decide) ?_
  refine c_fieldA (at0 := .int) (ty := .int) (n := 100) (t0 := 0) (k := 28) B cl12 rfl (Or.inl ⟨rfl, rfl⟩) wa_int (by decide) (by decide) (by decide) (by omega) (by omega) (noV1 (by omega)) (by omega) (by omega) (by omega) (by simp) rfl rfl wf_X12_60 (Or.inr ⟨rfl, rfl⟩) (fun _ => rfl) (fun _ => rfl) dX12_init_129 dX12_init_131 (fun K B => ?_)
  refine x_aload_n B.1 dX12_init_134 rfl rfl ?_
  refine x_bipush B.1 (v := 6) dX12_init_135 (by decide) ?_
  refine c_fieldA (at0 := .int) (ty := .int) (n := 6) (t0 := 0) (k := 29) B cl12 rfl (Or.inl ⟨rfl, rfl⟩) wa_int (by decide) (by decide) (by decide) (by omega) (by omega) (noV1 (by omega)) (by omega) (by omega) (by omega) (by simp) rfl rfl wf_X12_63 (Or.inr ⟨rfl, rfl⟩) (fun _ => rfl) (fun _ => rfl) dX12_init_137 dX12_init_139 (fun K B => ?_)
  refine x_aload_n B.1 dX12_init_142 rfl rfl ?_
  refine x_bipush B.1 (v := 6) dX12_init_143 (by decide) ?_
  refine c_fieldA (at0 := .int) (ty := .int) (n := 6) (t0 := 0) (k := 30) B cl12 rfl (Or.inl ⟨rfl, rfl⟩) wa_int (by decide) (by decide) (by decide) (by omega) (by omega) (noV1 (by omega)) (by omega) (by omega) (by omega) (by simp) rfl rfl wf_X12_66 (Or.inr ⟨rfl, rfl⟩) (fun _ => rfl) (fun _ => rfl) dX12_init_145 dX12_init_147 (fun K B => ?_)
  refine x_aload_n B.1 dX12_init_150 rfl rfl ?_
  refine x_sipush B.1 (v := 600) dX12_init_151 (by decide) ?_
  refine c_fieldA (at0 := .long) (ty := .long) (n := 600) (t0 := 1) (k := 31) B cl12 rfl (Or.inr (Or.inl ⟨rfl, rfl⟩)) wa_long (by decide) (by decide) (by decide) (by omega) (by omega) (noV1 (by omega)) (by omega) (by omega) (by omega) (by simp) rfl rfl wf_X12_69 (Or.inr ⟨rfl, rfl⟩) (fun _ => rfl) (fun _ => rfl) dX12_init_154 dX12_init_156 (fun K B => ?_)
  refine x_aload_n B.1 dX12_init_159 rfl rfl ?_
  refine x_sipush B.1 (v := 26040) dX12_init_160 (by decide) ?_
  refine c_fieldA (at0 := .int) (ty := .int) (n := 26040) (t0 := 0) (k := 32) B cl12 rfl (Or.inl ⟨rfl, rfl⟩) wa_int (by decide) (by decide) (by decide) (by omega) (by omega) (noV1 (by omega)) (by omega) (by omega) (by omega) (by simp) rfl rfl wf_X12_73 (Or.inr ⟨rfl, rfl⟩) (fun _ => rfl) (fun _ => rfl) dX12_init_163 dX12_init_165 (fun K B => ?_)
  have hsx := frfX12_start hr
  have k148 := B.2.2.2.1 _ List.mem_cons_self
  have hE := B.2.2.1
  have M : Main K.ks := by
    have hX := hE.1.2.2
    refine ⟨⟨fun q hq => ?_, fun A U H h => ?_⟩, fun q hq => ?_⟩
    · by_cases h : q.1 < 148
      · have h9 := M0.1.1 q hq h
        obtain ⟨u1, u2⟩ := hE.2.1 q.1 (by omega) (by omega)
        exact ⟨u1.mpr h9.1, u2.trans h9.2⟩
      · exact B.2.2.2.1 q (show q ∈ refL from refL_eq ▸ List.mem_filter.mpr ⟨hq, Nat.ble_eq_true_of_le (by omega)⟩)
    · have h8 := M0.1.2 A U H (by rw [← hX]; exact h)
      exact (by
        have e1 := hE.2.2.1 9000 (by omega)
        have e2 := hE.2.2.1 9001 (by omega)
        unfold XG at h8 ⊢
        rw [e1, e2]
        exact h8)
    · have h9 := M0.2 q hq
      have hb := cityL_le q hq
      obtain ⟨u1, u2⟩ := hE.2.1 q.1 (by omega) (by omega)
      exact ⟨u1.mpr h9.1, u2.trans h9.2⟩
  refine x_aload_n B.1 dX12_init_168 rfl rfl ?_
  refine x_virV B.1 (As := []) (mX12_start B.1.2.2.2.2.2.2.1 M hr) mv_X12_76 k148 cl12 rfl rfl rfl rfl rfl dX12_init_169 ?_
  replace B := B.w (w' := r) (B.2.1.w2 (fun a ha => by
    by_cases h : 148 ≤ a ∧ a ≤ 168
    · refine Or.inr ?_
      by_cases h8 : a = 148
      · exact Or.inr ⟨_, _, by rw [h8]; exact k148.2, by decide⟩
      · refine Or.inl ?_
        have h9 : a = 149 ∨ a = 150 ∨ a = 151 ∨ a = 152 ∨ a = 153 ∨ a = 154 ∨ a = 155 ∨ a = 156 ∨ a = 157 ∨ a = 158 ∨ a = 159 ∨ a = 160 ∨ a = 161 ∨ a = 162 ∨ a = 163 ∨ a = 164 ∨ a = 165 ∨ a = 166 ∨ a = 167 ∨ a = 168 := by omega
        rcases h9 with rfl | rfl | rfl | rfl | rfl | rfl | rfl | rfl | rfl | rfl | rfl | rfl | rfl | rfl | rfl | rfl | rfl | rfl | rfl | rfl
        · exact ⟨_, (kd149 M).2⟩
        · exact ⟨_, (kd150 M).2⟩
        · exact ⟨_, (kd151 M).2⟩
        · exact ⟨_, (kd152 M).2⟩
        · exact ⟨_, (kd153 M).2⟩
        · exact ⟨_, (kd154 M).2⟩
        · exact ⟨_, (kd155 M).2⟩
        · exact ⟨_, (kd156 M).2⟩
        · exact ⟨_, (kd157 M).2⟩
        · exact ⟨_, (kd158 M).2⟩
        · exact ⟨_, (kd159 M).2⟩
        · exact ⟨_, (kd160 M).2⟩
        · exact ⟨_, (kd161 M).2⟩
        · exact ⟨_, (kd162 M).2⟩
        · exact ⟨_, (kd163 M).2⟩
        · exact ⟨_, (kd164 M).2⟩
        · exact ⟨_, (kd165 M).2⟩
        · exact ⟨_, (kd166 M).2⟩
        · exact ⟨_, (kd167 M).2⟩
        · exact ⟨_, (kd168 M).2⟩
    · exact Or.inl (hsx a (by simp; omega)).1))
  exact c_ret B (by omega) (by omega) dX12_init_172

