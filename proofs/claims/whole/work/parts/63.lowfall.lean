theorem dX11_init_0 : decode cX11_init 0 = .ok (.aload_n 0, 1) := by decide +kernel
theorem dX11_init_1 : decode cX11_init 1 = .ok (.invokespecial 1, 3) := by decide +kernel
theorem dX11_init_4 : decode cX11_init 4 = .ok (.aload_n 0, 1) := by decide +kernel
theorem dX11_init_5 : decode cX11_init 5 = .ok (.new 7, 3) := by decide +kernel
theorem dX11_init_8 : decode cX11_init 8 = .ok (.dup, 1) := by decide +kernel
theorem dX11_init_9 : decode cX11_init 9 = .ok (.invokespecial 9, 3) := by decide +kernel
theorem dX11_init_12 : decode cX11_init 12 = .ok (.putfield 10, 3) := by decide +kernel
theorem dX11_init_15 : decode cX11_init 15 = .ok (.aload_n 0, 1) := by decide +kernel
theorem dX11_init_16 : decode cX11_init 16 = .ok (.new 16, 3) := by decide +kernel
theorem dX11_init_19 : decode cX11_init 19 = .ok (.dup, 1) := by decide +kernel
theorem dX11_init_20 : decode cX11_init 20 = .ok (.invokespecial 18, 3) := by decide +kernel
theorem dX11_init_23 : decode cX11_init 23 = .ok (.putfield 19, 3) := by decide +kernel
theorem dX11_init_26 : decode cX11_init 26 = .ok (.aload_n 0, 1) := by decide +kernel
theorem dX11_init_27 : decode cX11_init 27 = .ok (.new 23, 3) := by decide +kernel
theorem dX11_init_30 : decode cX11_init 30 = .ok (.dup, 1) := by decide +kernel
theorem dX11_init_31 : decode cX11_init 31 = .ok (.invokespecial 25, 3) := by decide +kernel
theorem dX11_init_34 : decode cX11_init 34 = .ok (.putfield 26, 3) := by decide +kernel
theorem dX11_init_37 : decode cX11_init 37 = .ok (.aload_n 0, 1) := by decide +kernel
theorem dX11_init_38 : decode cX11_init 38 = .ok (.new 30, 3) := by decide +kernel
theorem dX11_init_41 : decode cX11_init 41 = .ok (.dup, 1) := by decide +kernel
theorem dX11_init_42 : decode cX11_init 42 = .ok (.invokespecial 32, 3) := by decide +kernel
theorem dX11_init_45 : decode cX11_init 45 = .ok (.putfield 33, 3) := by decide +kernel
theorem dX11_init_48 : decode cX11_init 48 = .ok (.aload_n 0, 1) := by decide +kernel
theorem dX11_init_49 : decode cX11_init 49 = .ok (.new 37, 3) := by decide +kernel
theorem dX11_init_52 : decode cX11_init 52 = .ok (.dup, 1) := by decide +kernel
theorem dX11_init_53 : decode cX11_init 53 = .ok (.invokespecial 39, 3) := by decide +kernel
theorem dX11_init_56 : decode cX11_init 56 = .ok (.putfield 40, 3) := by decide +kernel
theorem dX11_init_59 : decode cX11_init 59 = .ok (.aload_n 0, 1) := by decide +kernel
theorem dX11_init_60 : decode cX11_init 60 = .ok (.bipush 6, 2) := by decide +kernel
theorem dX11_init_62 : decode cX11_init 62 = .ok (.anewarray 44, 3) := by decide +kernel
theorem dX11_init_65 : decode cX11_init 65 = .ok (.putfield 46, 3) := by decide +kernel
theorem dX11_init_68 : decode cX11_init 68 = .ok (.aload_n 0, 1) := by decide +kernel
theorem dX11_init_69 : decode cX11_init 69 = .ok (.bipush 8, 2) := by decide +kernel
theorem dX11_init_71 : decode cX11_init 71 = .ok (.newarray .int, 2) := by decide +kernel
theorem dX11_init_73 : decode cX11_init 73 = .ok (.putfield 50, 3) := by decide +kernel
theorem dX11_init_76 : decode cX11_init 76 = .ok (.aload_n 0, 1) := by decide +kernel
theorem dX11_init_77 : decode cX11_init 77 = .ok (.iconst 0, 1) := by decide +kernel
theorem dX11_init_78 : decode cX11_init 78 = .ok (.putfield 54, 3) := by decide +kernel
theorem dX11_init_81 : decode cX11_init 81 = .ok (.aload_n 0, 1) := by decide +kernel
theorem dX11_init_82 : decode cX11_init 82 = .ok (.iconst 0, 1) := by decide +kernel
theorem dX11_init_83 : decode cX11_init 83 = .ok (.putfield 58, 3) := by decide +kernel
theorem dX11_init_86 : decode cX11_init 86 = .ok (.aload_n 0, 1) := by decide +kernel
theorem dX11_init_87 : decode cX11_init 87 = .ok (.iconst 0, 1) := by decide +kernel
theorem dX11_init_88 : decode cX11_init 88 = .ok (.putfield 61, 3) := by decide +kernel
theorem dX11_init_91 : decode cX11_init 91 = .ok (.aload_n 0, 1) := by decide +kernel
theorem dX11_init_92 : decode cX11_init 92 = .ok (.iconst 0, 1) := by decide +kernel
theorem dX11_init_93 : decode cX11_init 93 = .ok (.putfield 64, 3) := by decide +kernel
theorem dX11_init_96 : decode cX11_init 96 = .ok (.iconst 0, 1) := by decide +kernel
theorem dX11_init_97 : decode cX11_init 97 = .ok (.istore_n 1, 1) := by decide +kernel
theorem dX11_init_98 : decode cX11_init 98 = .ok (.iload_n 1, 1) := by decide +kernel
theorem dX11_init_99 : decode cX11_init 99 = .ok (.bipush 6, 2) := by decide +kernel
theorem dX11_init_101 : decode cX11_init 101 = .ok (.if_icmp .ge 22, 3) := by decide +kernel
theorem dX11_init_104 : decode cX11_init 104 = .ok (.aload_n 0, 1) := by decide +kernel
theorem dX11_init_105 : decode cX11_init 105 = .ok (.getfield 46, 3) := by decide +kernel
theorem dX11_init_108 : decode cX11_init 108 = .ok (.iload_n 1, 1) := by decide +kernel
theorem dX11_init_109 : decode cX11_init 109 = .ok (.new 44, 3) := by decide +kernel
theorem dX11_init_112 : decode cX11_init 112 = .ok (.dup, 1) := by decide +kernel
theorem dX11_init_113 : decode cX11_init 113 = .ok (.invokespecial 67, 3) := by decide +kernel
theorem dX11_init_116 : decode cX11_init 116 = .ok (.aastore, 1) := by decide +kernel
theorem dX11_init_117 : decode cX11_init 117 = .ok (.iinc 1 1, 3) := by decide +kernel
theorem dX11_init_120 : decode cX11_init 120 = .ok (.goto (-22), 3) := by decide +kernel
theorem dX11_init_123 : decode cX11_init 123 = .ok (.return_, 1) := by decide +kernel
theorem wo_X11_1 : Cond.methodLink RX11 1 Lib.objectInit ∈ gtbl := gq (by decide +kernel) (by decide +kernel)
def lL1 : List (Nat × Kd) := [(92, .inl (1, [(1, 93), (1, 94), (1, 95), (1, 96), (1, 97), (1, 98), (1, 99)])), (93, .inr (0, 100, nt)), (94, .inr (0, 100, nt)), (95, .inr (0, 100, nt)), (96, .inr (0, 100, nt)), (97, .inr (0, 100, nt)), (98, .inr (0, 100, nt)), (99, .inr (0, 100, nt))]
def WL1 (w : Wd) : Wd := (zi (zi (zi (zi (zi (zi (zi w (93)) (94)) (95)) (96)) (97)) (98)) (99))
theorem lL1_in : ∀ q ∈ lL1, q.1 = 92 ∨ (93 ≤ q.1 ∧ q.1 ≤ 99) := by simp [lL1]
def lL9 : List (Nat × Kd) := [(100, .inl (9, [(0, 0), (1, 101)])), (101, .inr (0, 60, nt))]
def WL9 (w : Wd) : Wd := (zi (si w (100) 0 (0)) (101))
theorem lL9_in : ∀ q ∈ lL9, q.1 = 100 ∨ (101 ≤ q.1 ∧ q.1 ≤ 101) := by simp [lL9]
def lL7 : List (Nat × Kd) := [(102, .inl (7, [(0, 0), (1, 103), (1, 104), (1, 105)])), (103, .inr (0, 19, nt)), (104, .inr (0, 19, nt)), (105, .inr (0, 100, nt))]
def WL7 (w : Wd) : Wd := (zi (zi (zi (si w (102) 0 (0)) (103)) (104)) (105))
theorem lL7_in : ∀ q ∈ lL7, q.1 = 102 ∨ (103 ≤ q.1 ∧ q.1 ≤ 105) := by simp [lL7]
theorem lawsL_in : ∀ q ∈ lawsL, q.1 = 106 ∨ (107 ≤ q.1 ∧ q.1 ≤ 133) := by
  intro q hq
  rcases List.mem_cons.mp hq with rfl | hq
  · exact Or.inl rfl
  · rcases List.mem_append.mp hq with hq | hq
    · exact Or.inr (lawsL3_in q hq)
    · simp at hq
      rw [hq]
      simp
theorem cityL0_in : ∀ q ∈ cityL 0, q.1 = 1 ∨ (2 ≤ q.1 ∧ q.1 ≤ 91) := by simp [cityL]
theorem lne_0 : ∀ q ∈ (cityL 0), 1 ≤ q.1 ∧ q.1 ≤ 133 := by
  intro q hq
  · have := cityL0_in q hq
    omega
theorem wcl_X11_16 : Cond.classLink RX11 16 RX1 ∈ gtbl := gq (by decide +kernel) (by decide +kernel)
theorem wins_X1 : Cond.instantiable RX1 7 ∈ gtbl := gq (by decide +kernel) (by decide +kernel)
theorem wi_X1_init : Cond.instanceMethod yX1_init ∈ gtbl := gq (by decide +kernel) (by decide +kernel)
theorem wk_X1_init : Cond.code yX1_init cX1_init 1 none ∈ gtbl := gq (by decide +kernel) (by decide +kernel)
theorem mi_X11_18 : MIN RX11 18 yX1_init RX11 cX1_init 1 ∨ MIP RX11 18 yX1_init cX1_init 1 := Or.inl ⟨⟨List.mem_of_getElem? (i := 5) rfl, wi_X1_init, wz_X1, wk_X1_init⟩, ⟨by decide +kernel, by decide +kernel, by decide +kernel⟩, rfl⟩
theorem lne_1 : ∀ q ∈ (cityL 0 ++ lL1), 1 ≤ q.1 ∧ q.1 ≤ 133 := by
  intro q hq
  simp only [List.mem_append] at hq
  rcases hq with hq | hq
  · have := cityL0_in q hq
    omega
  · have := lL1_in q hq
    omega
theorem wcl_X11_23 : Cond.classLink RX11 23 RX9 ∈ gtbl := gq (by decide +kernel) (by decide +kernel)
theorem wins_X9 : Cond.instantiable RX9 2 ∈ gtbl := gq (by decide +kernel) (by decide +kernel)
theorem wi_X9_init : Cond.instanceMethod yX9_init ∈ gtbl := gq (by decide +kernel) (by decide +kernel)
theorem wk_X9_init : Cond.code yX9_init cX9_init 1 none ∈ gtbl := gq (by decide +kernel) (by decide +kernel)
theorem mi_X11_25 : MIN RX11 25 yX9_init RX11 cX9_init 1 ∨ MIP RX11 25 yX9_init cX9_init 1 := Or.inl ⟨⟨List.mem_of_getElem? (i := 6) rfl, wi_X9_init, wz_X9, wk_X9_init⟩, ⟨by decide +kernel, by decide +kernel, by decide +kernel⟩, rfl⟩
theorem lne_2 : ∀ q ∈ (cityL 0 ++ lL1 ++ lL9), 1 ≤ q.1 ∧ q.1 ≤ 133 := by
  intro q hq
  simp only [List.mem_append] at hq
  rcases hq with (hq | hq) | hq
  · have := cityL0_in q hq
    omega
  · have := lL1_in q hq
    omega
  · have := lL9_in q hq
    omega
theorem wcl_X11_30 : Cond.classLink RX11 30 RX7 ∈ gtbl := gq (by decide +kernel) (by decide +kernel)
theorem wins_X7 : Cond.instantiable RX7 4 ∈ gtbl := gq (by decide +kernel) (by decide +kernel)
theorem wi_X7_init : Cond.instanceMethod yX7_init ∈ gtbl := gq (by decide +kernel) (by decide +kernel)
theorem wk_X7_init : Cond.code yX7_init cX7_init 1 none ∈ gtbl := gq (by decide +kernel) (by decide +kernel)
theorem mi_X11_32 : MIN RX11 32 yX7_init RX11 cX7_init 1 ∨ MIP RX11 32 yX7_init cX7_init 1 := Or.inl ⟨⟨List.mem_of_getElem? (i := 7) rfl, wi_X7_init, wz_X7, wk_X7_init⟩, ⟨by decide +kernel, by decide +kernel, by decide +kernel⟩, rfl⟩
theorem lne_3 : ∀ q ∈ (cityL 0 ++ lL1 ++ lL9 ++ lL7), 1 ≤ q.1 ∧ q.1 ≤ 133 := by
  intro q hq
  simp only [List.mem_append] at hq
  rcases hq with ((hq | hq) | hq) | hq
  · have := cityL0_in q hq
    omega
  · have := lL1_in q hq
    omega
  · have := lL9_in q hq
    omega
  · have := lL7_in q hq
    omega
theorem wcl_X11_37 : Cond.classLink RX11 37 RX4 ∈ gtbl := gq (by decide +kernel) (by decide +kernel)
theorem wins_X4 : Cond.instantiable RX4 12 ∈ gtbl := gq (by decide +kernel) (by decide +kernel)
theorem wi_X4_init : Cond.instanceMethod yX4_init ∈ gtbl := gq (by decide +kernel) (by decide +kernel)
theorem wk_X4_init : Cond.code yX4_init cX4_init 1 none ∈ gtbl := gq (by decide +kernel) (by decide +kernel)
theorem mi_X11_39 : MIN RX11 39 yX4_init RX11 cX4_init 1 ∨ MIP RX11 39 yX4_init cX4_init 1 := Or.inl ⟨⟨List.mem_of_getElem? (i := 8) rfl, wi_X4_init, wz_X4, wk_X4_init⟩, ⟨by decide +kernel, by decide +kernel, by decide +kernel⟩, rfl⟩
theorem lne_4 : ∀ q ∈ (cityL 0 ++ lL1 ++ lL9 ++ lL7 ++ lawsL), 1 ≤ q.1 ∧ q.1 ≤ 133 := by
  intro q hq
  simp only [List.mem_append] at hq
  rcases hq with (((hq | hq) | hq) | hq) | hq
  · have := cityL0_in q hq
    omega
  · have := lL1_in q hq
    omega
  · have := lL9_in q hq
    omega
  · have := lL7_in q hq
    omega
  · have := lawsL_in q hq
    omega
theorem wcl_X11_44 : Cond.classLink RX11 44 RX8 ∈ gtbl := gq (by decide +kernel) (by decide +kernel)
theorem wins_X8 : Cond.instantiable RX8 4 ∈ gtbl := gq (by decide +kernel) (by decide +kernel)
theorem wi_X8_init : Cond.instanceMethod yX8_init ∈ gtbl := gq (by decide +kernel) (by decide +kernel)
theorem wk_X8_init : Cond.code yX8_init cX8_init 1 none ∈ gtbl := gq (by decide +kernel) (by decide +kernel)
theorem mi_X11_67 : MIN RX11 67 yX8_init RX11 cX8_init 1 ∨ MIP RX11 67 yX8_init cX8_init 1 := Or.inl ⟨⟨List.mem_of_getElem? (i := 9) rfl, wi_X8_init, wz_X8, wk_X8_init⟩, ⟨by decide +kernel, by decide +kernel, by decide +kernel⟩, rfl⟩
def lbody : List (Nat × Kd) := cityL 0 ++ lL1 ++ lL9 ++ lL7 ++ lawsL ++ [(134, .inr (4, 6, nt))]
def lbody0 : List (Nat × Kd) := cityL 0 ++ lL1 ++ lL9 ++ lL7 ++ lawsL
def WlowA (w : Wd) : Wd := (si (si (si (si (zi (zi (Wlaws (zi (WL7 (zi (WL9 (zi (WL1 (zi (Wcity 0 (zi w 1)) 92)) 100)) 102)) 106)) 134) 147) 0 7 0) 0 8 0) 0 9 0) 0 10 0)
theorem lbody_in : ∀ q ∈ lbody, 1 ≤ q.1 ∧ q.1 ≤ 134 := by
  intro q hq
  rcases List.mem_append.mp hq with hq | hq
  · have := lne_4 q hq
    omega
  · simp at hq
    rw [hq]
    simp
theorem lbody0_in : ∀ q ∈ lbody0, 1 ≤ q.1 ∧ q.1 ≤ 133 := lne_4
def ctp (k : Nat) : List (Nat × Kd) := [(135 + 2 * k, .inl (8, [(0, 0), (0, 0), (1, 136 + 2 * k), (2, 201 + 100 * k)])), (136 + 2 * k, .inr (1, 100, nt))]
theorem ctp_in {k : Nat} : ∀ q ∈ ctp k, q.1 = 135 + 2 * k ∨ (136 + 2 * k ≤ q.1 ∧ q.1 ≤ 136 + 2 * k) := by simp [ctp]
def ctps : Nat → List (Nat × Kd)
  | 0 => []
  | k + 1 => ctps k ++ ctp k
theorem ctps_in : ∀ k, ∀ q ∈ ctps k, 135 ≤ q.1 ∧ q.1 < 135 + 2 * k
  | 0, q, h => by cases h
  | k + 1, q, h => by
    rcases List.mem_append.mp h with h | h
    · have := ctps_in k q h
      omega
    · have := ctp_in q h
      omega
def Wtp (k : Nat) (w : Wd) : Wd := zi (si (si w (135 + 2 * k) 0 0) (135 + 2 * k) 1 0) (135 + 2 * k + 1)
def Wtps (w : Wd) : Nat → Wd
  | 0 => w
  | k + 1 => Wtp k (zi (Wtps w k) (135 + 2 * k))
def tpf (k : Nat) : Nat → Option Nat := fun j => if j < k then some (135 + 2 * j) else none
def Wlow (w : Wd) : Wd := Wtps (WlowA w) 6
theorem noV1n {a v : Nat} (h : ¬ a = v) : noV v [some (.ref a), none] = true := by
  have : Nat.beq a v = false := by
    cases hb : Nat.beq a v
    · rfl
    · exact absurd (Nat.eq_of_beq_eq_true hb) h
  simp [noV, this]
theorem CBU.fh {K : KT} {cc : ByteArray} {own : String} {nL d : Nat} {S : KS} {sz lo hi fh fh2 v0 c s : Nat} {wF : Wd} {LF L : List (Nat × Kd)} {nx i j : Nat} {w : Wd} (B : CBU K cc own nL d S sz lo hi fh v0 c s wF LF L nx i j w) (h : fh2 ≤ fh) : CBU K cc own nL d S sz lo hi fh2 v0 c s wF LF L nx i j w :=
  ⟨B.1, B.2.1, B.2.2.1, B.2.2.2.1, fun a a1 a2 => B.2.2.2.2.1 a a1 (Nat.le_trans a2 h), B.2.2.2.2.2⟩
def lowHead : Nat × Kd := (0, .inl (11, [(1, 1), (1, 92), (1, 100), (1, 102), (1, 106), (1, 134), (1, 147), (0, 0), (0, 0), (0, 0), (0, 0)]))
def lowR (k : Nat) : List (Nat × Kd) := lowHead :: (lbody0 ++ [(147, .inr (0, 8, nt))] ++ ctps k)
theorem ne134 {k : Nat} (hk : k ≤ 6) : ∀ q ∈ lowR k, q.1 ≠ 134 := by
  intro q hq
  rcases List.mem_cons.mp hq with rfl | hq
  · simp [lowHead]
  · simp only [List.mem_append] at hq
    rcases hq with (hq | hq) | hq
    · have := lbody0_in q hq
      omega
    · simp at hq
      rw [hq]
      simp
    · have := ctps_in k q hq
      omega
theorem tpf_up {k : Nat} : va_up (tpf k) k (some (135 + 2 * k)) = tpf (k + 1) := by
  funext j
  unfold va_up tpf
  by_cases h : j = k
  · rw [if_pos h, if_pos (by omega), h]
  · rw [if_neg h]
    by_cases h2 : j < k
    · rw [if_pos h2, if_pos (by omega)]
    · rw [if_neg h2, if_neg (by omega)]
set_option maxHeartbeats 4000000 in
theorem c_tape {K : KT} {d : Nat} {S : KS} {sz c s : Nat} {k i j : Nat} {wF w0 : Wd} {LF : List (Nat × Kd)} {x : Int32} (hk : k < 6) (B : CBU K cX11_init RX11 2 d S sz 1 147 146 0 c s wF LF ((134, .inr (4, 6, tpf k)) :: lowR k) (135 + 2 * k) i j (Wtps w0 k)) (hx : x.toNatClampNeg = k) (hx6 : x < 6) (hx0 : inb x 6 = true) (hd : Nat.blt 2 d = true) (h1 : i + 2 ≤ c) (h2 : j + 104 ≤ s)
    (kk : ∀ K' : KT, CBU K' cX11_init RX11 2 d S sz 1 147 146 0 c s wF LF ((134, .inr (4, 6, tpf (k + 1))) :: lowR (k + 1)) (135 + 2 * (k + 1)) (i + 2) (j + 104) (Wtps w0 (k + 1)) → XW K' 98 [some (.ref 0), some (.int (x + 1))] [] (Wtps w0 (k + 1))) : XW K 98 [some (.ref 0), some (.int x)] [] (Wtps w0 k) := by
  have k134 := B.2.2.2.1 _ List.mem_cons_self
  have k0 : KD K.ks 0 _ := B.2.2.2.1 lowHead (List.mem_cons_of_mem _ List.mem_cons_self)
  refine x_iload_n B.1 dX11_init_98 rfl rfl ?_
  refine x_bipush B.1 (v := 6) dX11_init_99 (by decide) ?_
  refine x_icmpge (α := Unit) (A := some ()) (B := none) (r := ()) B.1 dX11_init_101 (tgt := 123) rfl (if_pos hx6) (fun _ _ => ?_) (fun _ h => by cases h)
  refine x_aload_n B.1 dX11_init_104 rfl rfl ?_
  refine x_getR B.1 k0 5 (b := 134) rfl cl11 rfl wf_X11_46 dX11_init_105 ?_
  refine x_iload_n B.1 dX11_init_108 rfl rfl ?_
  refine c_obj (L' := ctp k) (w' := Wtps w0 (k + 1)) (c' := 1) (s' := 100) (lo' := 135 + 2 * k + 1) (hi' := 135 + 2 * k + 1) (nx := 135 + 2 * k) (ds2 := [(0, 0), (0, 0), (3, 0), (3, 0)]) B cl8 wcl_X11_44 wins_X8 wz_X8 (fun j hj => match j, hj with | 0, _ => rfl | 1, _ => rfl | 2, _ => rfl | 3, _ => rfl | m + 4, h => absurd h (by omega)) (by decide) (fun S1 _ h1 h2 h3 h4 => ?_) mi_X11_67 (List.mem_of_getElem? (i := 0) rfl) (fun q hq => by have := ctp_in q hq; omega) (by omega) (by omega) (by omega) (by omega) (by omega) (by omega) hd rfl (fun v a1 a2 => ?_) (fun v a1 a2 => noVs2i (by omega)) rfl (by omega) dX11_init_109 dX11_init_112 dX11_init_113 (fun K _ B => ?_)
  · have := kX8_init (l := K.l) (img := 201 + 100 * k) (by simp [zi]) h1 h2 h3 h4
    have e : 135 + 2 * k + 1 = 136 + 2 * k := by omega
    rw [e] at this ⊢
    rw [show Wtps w0 (k + 1) = Wtp k (zi (Wtps w0 k) (135 + 2 * k)) from rfl, Wtp, e]
    exact this
  · have h9 := noV1 (a := 0) (v := v) (by omega)
    simp [noV] at h9 ⊢
    exact h9
  refine c_ast (a := 134) (b := 135 + 2 * k) (n := 6) (t0 := 4) (f := tpf k) (st := []) (L := lowR k ++ ctp k) B (Or.inr ⟨rfl, rfl⟩) (List.mem_append_right _ (List.mem_of_getElem? (i := 0) rfl)) cl8 hx0 (by omega) ?_ dX11_init_116 (fun K B => ?_)
  · intro q hq
    rcases List.mem_append.mp hq with hq | hq
    · exact ne134 (Nat.le_of_lt hk) q hq
    · have := ctp_in q hq
      omega
  rw [hx, tpf_up] at B
  refine x_iinc B.1 dX11_init_117 (x := x) (v := 1) rfl rfl rfl rfl rfl ?_
  refine x_goto B.1 (tgt := 98) dX11_init_120 rfl ?_
  refine kk K (B.sub (fun q hq => ?_))
  rcases List.mem_cons.mp hq with rfl | hq
  · exact List.mem_cons_self
  · refine List.mem_cons_of_mem _ ?_
    rcases List.mem_cons.mp hq with rfl | hq
    · exact List.mem_append_left _ List.mem_cons_self
    · simp only [List.mem_append, lowR, List.mem_cons, ctps] at hq ⊢
      rcases hq with (hq | hq) | hq | hq
      · exact Or.inl (Or.inr (Or.inl (Or.inl hq)))
      · exact Or.inl (Or.inr (Or.inl (Or.inr hq)))
      · exact Or.inl (Or.inr (Or.inr hq))
      · exact Or.inr hq
def lowL : List (Nat × Kd) := (134, .inr (4, 6, fun j => some (135 + 2 * j))) :: lowR 6
set_option maxHeartbeats 16000000 in
theorem kX11_init {l : Launch} {S : KS} {w : Wd} (hX : XCs S) (hI : Inj S) (hv : KD S 0 (.inl (11, [(3, 0), (3, 0), (3, 0), (3, 0), (3, 0), (3, 0), (3, 0), (0, 0), (0, 0), (0, 0), (0, 0)]))) (hf : ∀ a, 1 ≤ a → a ≤ 147 → ¬ S.D a) (hc : Clo S w) : CK l yX11_init cX11_init 2 6 147 7499 S 0 1 147 w (Wlow w) lowL := by
  refine mk_entryC (own := RX11) rfl (by decide +kernel) rfl hI 1 rfl rfl (fun K sz h1 h2 h3 hR hc0 hs0 hcR hsR G => ?_)
  subst h1
  refine x_aload_n G dX11_init_0 rfl rfl ?_
  refine x_objI G wo_X11_1 wo_1 wo_2 rfl rfl dX11_init_1 ?_
  have B := c_start G h2 h3 hR hc0 hs0 hcR hsR hv hf hc
  clear G h2 h3 hR hc0 hs0 hcR hsR
  refine x_aload_n B.1 dX11_init_4 rfl rfl ?_
  refine c_obj (L' := cityL 0) (w' := Wcity 0 (zi _ 1)) (c' := 90) (s' := 4345) (lo' := 2) (hi' := 91) (nx := 1) (ds2 := [(3, 0), (3, 0), (3, 0), (3, 0), (3, 0), (0, 0), (0, 0), (0, 0), (0, 0), (0, 0), (0, 0), (0, 0), (0, 0)]) B cl0 wcl_X11_7 wins_X0 wz_X0 (fun j hj => match j, hj with | 0, _ => rfl | 1, _ => rfl | 2, _ => rfl | 3, _ => rfl | 4, _ => rfl | 5, _ => rfl | 6, _ => rfl | 7, _ => rfl | 8, _ => rfl | 9, _ => rfl | 10, _ => rfl | 11, _ => rfl | 12, _ => rfl | m + 13, h => absurd h (by omega)) (by decide) (fun S1 hx h1 h2 h3 h4 => kX0_init (z := 0) (fun A U H h => hX A U H (hx ▸ h)) h1 h2 h3 h4) mi_X11_9 (List.mem_of_getElem? (i := 0) rfl) cityL0_in (by omega) (by omega) (by omega) (by omega) (by omega) (by omega) rfl rfl (fun v a1 a2 => noV1n (by omega)) (fun v a1 a2 => noVs1 (by omega)) rfl (by omega) dX11_init_5 dX11_init_8 dX11_init_9 (fun K _ B => ?_)
  refine c_put (k := 0) (b := 1) (L := cityL 0) B (List.mem_of_getElem? (i := 0) rfl) cl11 (fun q hq => by have := lne_0 q hq; omega) rfl rfl wf_X11_10 (Or.inr ⟨rfl, rfl⟩) (fun _ => rfl) (fun _ => rfl) dX11_init_12 (fun K B => ?_)
  refine x_aload_n B.1 dX11_init_15 rfl rfl ?_
  refine c_obj (L' := lL1) (w' := WL1 (zi _ 92)) (c' := 7) (s' := 700) (lo' := 93) (hi' := 99) (nx := 92) (ds2 := [(3, 0), (3, 0), (3, 0), (3, 0), (3, 0), (3, 0), (3, 0)]) B cl1 wcl_X11_16 wins_X1 wz_X1 (fun j hj => match j, hj with | 0, _ => rfl | 1, _ => rfl | 2, _ => rfl | 3, _ => rfl | 4, _ => rfl | 5, _ => rfl | 6, _ => rfl | m + 7, h => absurd h (by omega)) (by decide) (fun S1 _ h1 h2 h3 h4 => kX1_init h1 h2 h3 h4) mi_X11_18 (List.mem_of_getElem? (i := 0) rfl) lL1_in (by omega) (by omega) (by omega) (by omega) (by omega) (by omega) rfl rfl (fun v a1 a2 => noV1n (by omega)) (fun v a1 a2 => noVs1 (by omega)) rfl (by omega) dX11_init_16 dX11_init_19 dX11_init_20 (fun K _ B => ?_)
  refine c_put (k := 1) (b := 92) (L := cityL 0 ++ lL1) B (List.mem_append_right _ (List.mem_of_getElem? (i := 0) rfl)) cl11 (fun q hq => by have := lne_1 q hq; omega) rfl rfl wf_X11_19 (Or.inr ⟨rfl, rfl⟩) (fun _ => rfl) (fun _ => rfl) dX11_init_23 (fun K B => ?_)
  refine x_aload_n B.1 dX11_init_26 rfl rfl ?_
  refine c_obj (L' := lL9) (w' := WL9 (zi _ 100)) (c' := 1) (s' := 60) (lo' := 101) (hi' := 101) (nx := 100) (ds2 := [(0, 0), (3, 0)]) B cl9 wcl_X11_23 wins_X9 wz_X9 (fun j hj => match j, hj with | 0, _ => rfl | 1, _ => rfl | m + 2, h => absurd h (by omega)) (by decide) (fun S1 _ h1 h2 h3 h4 => kX9_init h1 h2 h3 h4) mi_X11_25 (List.mem_of_getElem? (i := 0) rfl) lL9_in (by omega) (by omega) (by omega) (by omega) (by omega) (by omega) rfl rfl (fun v a1 a2 => noV1n (by omega)) (fun v a1 a2 => noVs1 (by omega)) rfl (by omega) dX11_init_27 dX11_init_30 dX11_init_31 (fun K _ B => ?_)
  refine c_put (k := 2) (b := 100) (L := cityL 0 ++ lL1 ++ lL9) B (List.mem_append_right _ (List.mem_of_getElem? (i := 0) rfl)) cl11 (fun q hq => by have := lne_2 q hq; omega) rfl rfl wf_X11_26 (Or.inr ⟨rfl, rfl⟩) (fun _ => rfl) (fun _ => rfl) dX11_init_34 (fun K B => ?_)
  refine x_aload_n B.1 dX11_init_37 rfl rfl ?_
  refine c_obj (L' := lL7) (w' := WL7 (zi _ 102)) (c' := 3) (s' := 138) (lo' := 103) (hi' := 105) (nx := 102) (ds2 := [(0, 0), (3, 0), (3, 0), (3, 0)]) B cl7 wcl_X11_30 wins_X7 wz_X7 (fun j hj => match j, hj with | 0, _ => rfl | 1, _ => rfl | 2, _ => rfl | 3, _ => rfl | m + 4, h => absurd h (by omega)) (by decide) (fun S1 _ h1 h2 h3 h4 => kX7_init h1 h2 h3 h4) mi_X11_32 (List.mem_of_getElem? (i := 0) rfl) lL7_in (by omega) (by omega) (by omega) (by omega) (by omega) (by omega) rfl rfl (fun v a1 a2 => noV1n (by omega)) (fun v a1 a2 => noVs1 (by omega)) rfl (by omega) dX11_init_38 dX11_init_41 dX11_init_42 (fun K _ B => ?_)
  refine c_put (k := 3) (b := 102) (L := cityL 0 ++ lL1 ++ lL9 ++ lL7) B (List.mem_append_right _ (List.mem_of_getElem? (i := 0) rfl)) cl11 (fun q hq => by have := lne_3 q hq; omega) rfl rfl wf_X11_33 (Or.inr ⟨rfl, rfl⟩) (fun _ => rfl) (fun _ => rfl) dX11_init_45 (fun K B => ?_)
  refine x_aload_n B.1 dX11_init_48 rfl rfl ?_
  refine c_obj (L' := lawsL) (w' := Wlaws (zi _ 106)) (c' := 27) (s' := 1580) (lo' := 107) (hi' := 133) (nx := 106) (ds2 := [(0, 0), (3, 0), (3, 0), (3, 0), (3, 0), (3, 0), (3, 0), (3, 0), (0, 0), (0, 0), (0, 0), (0, 0)]) B cl4 wcl_X11_37 wins_X4 wz_X4 (fun j hj => match j, hj with | 0, _ => rfl | 1, _ => rfl | 2, _ => rfl | 3, _ => rfl | 4, _ => rfl | 5, _ => rfl | 6, _ => rfl | 7, _ => rfl | 8, _ => rfl | 9, _ => rfl | 10, _ => rfl | 11, _ => rfl | m + 12, h => absurd h (by omega)) (by decide) (fun S1 hx h1 h2 h3 h4 => kX4_init (fun A U H h => hX A U H (hx ▸ h)) h1 h2 h3 h4) mi_X11_39 (List.mem_of_getElem? (i := 0) rfl) lawsL_in (by omega) (by omega) (by omega) (by omega) (by omega) (by omega) rfl rfl (fun v a1 a2 => noV1n (by omega)) (fun v a1 a2 => noVs1 (by omega)) rfl (by omega) dX11_init_49 dX11_init_52 dX11_init_53 (fun K _ B => ?_)
  refine c_put (k := 4) (b := 106) (L := cityL 0 ++ lL1 ++ lL9 ++ lL7 ++ lawsL) B (List.mem_append_right _ (List.mem_of_getElem? (i := 0) rfl)) cl11 (fun q hq => by have := lne_4 q hq; omega) rfl rfl wf_X11_40 (Or.inr ⟨rfl, rfl⟩) (fun _ => rfl) (fun _ => rfl) dX11_init_56 (fun K B => ?_)
  refine x_aload_n B.1 dX11_init_59 rfl rfl ?_
  refine x_bipush B.1 (v := 6) dX11_init_60 (by decide) ?_
  refine c_fieldQ (t0 := 4) (n := 6) (k := 5) (C0 := RX8) (L := cityL 0 ++ lL1 ++ lL9 ++ lL7 ++ lawsL) B hX (Or.inr ⟨rfl, rfl⟩) wcl_X11_44 cl11 (by decide) (by decide) (by decide) (by omega) (by omega) (noV1n (by omega)) (by omega) (by omega) (by omega) (fun q hq => by have := lne_4 q hq; omega) rfl rfl wf_X11_46 (Or.inr ⟨rfl, rfl⟩) (fun _ => rfl) (fun _ => rfl) dX11_init_62 dX11_init_65 (fun K B => ?_)
  have n147 : ¬ K.ks.D 147 := B.2.2.2.2.1 147 (by omega) (by omega)
  replace B := B.fh (fh2 := 146) (by omega)
  refine x_aload_n B.1 dX11_init_68 rfl rfl ?_
  refine x_bipush B.1 (v := 8) dX11_init_69 (by decide) ?_
  refine c_fieldA2 (v := 147) (at0 := .int) (ty := .int) (n := 8) (t0 := 0) (k := 6) (L := lbody) B n147 cl11 rfl (Or.inl ⟨rfl, rfl⟩) wa_int (by decide) (by decide) (by decide) (by omega) (by omega) (noV1n (by omega)) (by omega) (by omega) (by omega) (by omega) (fun q hq => by have := lbody_in q hq; omega) rfl rfl wf_X11_50 (Or.inr ⟨rfl, rfl⟩) (fun _ => rfl) (fun _ => rfl) dX11_init_71 dX11_init_73 (fun K B _ => ?_)
  refine x_aload_n B.1 dX11_init_76 rfl rfl ?_
  refine x_iconst B.1 (v := 0) dX11_init_77 (by decide) ?_
  refine c_fieldI (k := 7) B cl11 rfl rfl wf_X11_54 rfl rfl rfl dX11_init_78 (fun B => ?_)
  refine x_aload_n B.1 dX11_init_81 rfl rfl ?_
  refine x_iconst B.1 (v := 0) dX11_init_82 (by decide) ?_
  refine c_fieldI (k := 8) B cl11 rfl rfl wf_X11_58 rfl rfl rfl dX11_init_83 (fun B => ?_)
  refine x_aload_n B.1 dX11_init_86 rfl rfl ?_
  refine x_iconst B.1 (v := 0) dX11_init_87 (by decide) ?_
  refine c_fieldI (k := 9) B cl11 rfl rfl wf_X11_61 rfl rfl rfl dX11_init_88 (fun B => ?_)
  refine x_aload_n B.1 dX11_init_91 rfl rfl ?_
  refine x_iconst B.1 (v := 0) dX11_init_92 (by decide) ?_
  refine c_fieldI (k := 10) B cl11 rfl rfl wf_X11_64 rfl rfl rfl dX11_init_93 (fun B => ?_)
  replace B := B.sub (L' := (134, .inr (4, 6, tpf 0)) :: lowR 0) (fun q hq => by
    rcases List.mem_cons.mp hq with rfl | hq
    · exact List.mem_cons_of_mem _ (List.mem_append_left _ (List.mem_append_right _ (List.mem_cons_self)))
    · rcases List.mem_cons.mp hq with rfl | hq
      · exact List.mem_cons_self
      · rcases List.mem_append.mp hq with hq | hq
        · rcases List.mem_append.mp hq with hq | hq
          · exact List.mem_cons_of_mem _ (List.mem_append_left _ (List.mem_append_left _ hq))
          · exact List.mem_cons_of_mem _ (List.mem_append_right _ hq)
        · cases hq)
  refine x_iconst B.1 (v := 0) dX11_init_96 (by decide) ?_
  refine x_istore_n B.1 dX11_init_97 rfl rfl rfl rfl ?_
  refine c_tape (k := 0) (x := 0) (by omega) B (by decide) (by decide) (by decide) rfl (by omega) (by omega) (fun K B => ?_)
  refine c_tape (k := 1) (x := 1) (by omega) B (by decide) (by decide) (by decide) rfl (by omega) (by omega) (fun K B => ?_)
  refine c_tape (k := 2) (x := 2) (by omega) B (by decide) (by decide) (by decide) rfl (by omega) (by omega) (fun K B => ?_)
  refine c_tape (k := 3) (x := 3) (by omega) B (by decide) (by decide) (by decide) rfl (by omega) (by omega) (fun K B => ?_)
  refine c_tape (k := 4) (x := 4) (by omega) B (by decide) (by decide) (by decide) rfl (by omega) (by omega) (fun K B => ?_)
  refine c_tape (k := 5) (x := 5) (by omega) B (by decide) (by decide) (by decide) rfl (by omega) (by omega) (fun K B => ?_)
  refine x_iload_n B.1 dX11_init_98 rfl rfl ?_
  refine x_bipush B.1 (v := 6) dX11_init_99 (by decide) ?_
  refine x_icmpge (α := Unit) (A := none) (B := some ()) (r := ()) B.1 dX11_init_101 (tgt := 123) rfl rfl (fun _ h => by cases h) (fun _ _ => ?_)
  refine c_kind (f' := fun j => some (135 + 2 * j)) B (by omega) (fun q hq => if_pos hq) (by omega) (ne134 (by omega)) (fun K B => ?_)
  exact c_ret B (by omega) (by omega) dX11_init_123
