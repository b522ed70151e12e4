section CM
variable {K : KT} {cc : ByteArray} {own : String} {nL d pc : Nat} {S : KS} {sz lo hi fh v0 c s : Nat} {wF w w' : Wd} {LF L : List (Nat × Kd)} {nx i j ci : Nat} {ds : List (Nat × Nat)} {lv : List (Option Value)}
theorem c_fieldA2 (B : CBU K cc own nL d S sz lo hi fh v0 c s wF LF ((v0, .inl (ci, ds)) :: L) nx i j w) {at0 : ArrayType} {v t0 n k ix : Nat} {ty : FieldType} {z : Int32} {C : String} {T : u_T} {N : Nat} {tyC : Nat → FieldType} (hnv : ¬ K.ks.D v) (hC : CLS ci C T N tyC) (hat : newarray.typeOf at0 = ty) (ht : (t0 = 0 ∧ ty = .int) ∨ (t0 = 1 ∧ ty = .long) ∨ (t0 = 2 ∧ ty = .boolean)) (harr : Cond.arrayClass ty ∈ gtbl) (hz : ¬ z < 0) (hzn : z.toNatClampNeg = n) (hb : n * componentBytes ty ≤ 536870912) (h1 : i + 1 ≤ c) (h2 : j + n ≤ s) (hlv : noV v lv = true) (h0 : v0 < lo ∨ hi < v0) (hx1 : lo ≤ v) (hx2 : v ≤ hi) (hx3 : v < nx ∨ fh < v) (hne : ∀ q ∈ L, q.1 ≠ v0) (hkl : Nat.blt k ds.length = true) (hkN : Nat.blt k N = true) (hq : Cond.fieldLink own ix (T k).1 (T k).2.1 (T k).2.2.1 ∈ gtbl) (hfin : (T k).2.2.2 = false ∨ ((T k).2.2.2 = true ∧ (T k).1 = own)) (hn : ∀ q, narrow (tyC k) (.ref q) = .ref q) (hfit : ∀ q, fits (tyC k) (.ref q) = true) (d1 : decode cc pc = .ok (.newarray at0, 2)) (d2 : decode cc (pc + 2) = .ok (.putfield ix, 3))
    (kk : ∀ K' : KT, CBU K' cc own nL d S sz lo hi fh v0 c s wF LF ((v0, .inl (ci, ds.set k (1, v))) :: (L ++ [(v, .inr (t0, n, nt))])) nx (i + 1) (j + n) (zi w v) → (∀ a, a ≠ v → ¬ K.ks.D a → ¬ K'.ks.D a) → XW K' (pc + 5) lv [] (zi w v)) : XW K pc lv [.int z, .ref v0] w := by
  obtain ⟨G, hc, hE, hK, hF, hR, e1, e2, e3, e4, e5⟩ := B
  have hv0 := hK (v0, .inl (ci, ds)) List.mem_cons_self
  have hne0 : v ≠ v0 := by omega
  refine x_newA G (v := v) hat ht harr hz hzn hb hc hnv (by omega) (by omega) hlv (noVs1 (Ne.symm hne0)) d1 (fun q hq9 G1 c1 => ?_)
  have hE1 := hE.xx (k := .inr (t0, n, nt)) ⟨hx1, hx2⟩ (by rw [e5]; exact hq9) G1.2.2.2.2.2.2.1 c1
  have hk0 : KD (KSx K.ks v q (.inr (t0, n, nt))) v0 (.inl (ci, ds)) := hv0.x hnv
  refine x_putR G1 (a := v0) (b := v) hk0 (Or.inr rfl) k hkl hC hkN hq (hfin.imp id (fun h => ⟨h.1, hR.2.2.2, h.2⟩)) hn hfit c1 d2 (fun G2 c2 => ?_)
  refine kk _ ⟨G2, c2, hE1.kk (Or.inl rfl) G2.2.2.2.2.2.2.1 c2, fun q9 hq8 => ?_, fun a a1 a2 h => ?_, hR, ?_, ?_, e3, e4, e5⟩ (fun a hne h h8 => (show K.ks.D a ∨ a = v from h8).elim h hne)
  · rcases List.mem_cons.mp hq8 with rfl | hq8
    · exact KD.kv hk0.1
    rcases List.mem_append.mp hq8 with hq8 | hq8
    · exact ((hK q9 (List.mem_cons_of_mem _ hq8)).x hnv).kk (hne q9 hq8)
    · rcases List.mem_cons.mp hq8 with rfl | hq8
      · exact KD.kk ⟨Or.inr rfl, if_pos rfl⟩ hne0
      · cases hq8
  · rcases (show K.ks.D a ∨ a = v from h) with h | h
    · exact hF a a1 a2 h
    · omega
  · show K.cells + 1 = i + 1
    rw [e1]
  · show K.slots + n = j + n
    rw [e2]
theorem EX.xm {S T : KS} {w w' : Wd} {sz lo hi v0 v r n k h : Nat} (hE : EX S T w sz lo hi v0) (hv : lo ≤ v ∧ v ≤ hi) (hr : lo ≤ r ∧ r + n ≤ hi + 1) (hq : sz ≤ h) (hI : Inj (KSm T v r n k h)) (hC : Clo (KSm T v r n k h) w') : EX S (KSm T v r n k h) w' sz lo hi v0 := by
  obtain ⟨h1, h2, h3, h4, -, -⟩ := hE
  refine ⟨h1, fun a ha h0 => ?_, fun a ha => ?_, fun a a1 a2 hd => ?_, hI, hC⟩
  · have hne : a ≠ v := fun e => ha (e ▸ hv)
    have hnr : ¬ (r ≤ a ∧ a < r + n) := fun e => ha (by omega)
    obtain ⟨e1, e2⟩ := h2 a ha h0
    refine ⟨⟨fun h => e1.mp (h.resolve_right (fun g => g.elim hne hnr)), fun h => Or.inl (e1.mpr h)⟩, ?_⟩
    show (if a = v then _ else if r ≤ a ∧ a < r + n then _ else T.kd a) = _
    rw [if_neg hne, if_neg hnr]
    exact e2
  · have hne : a ≠ v := fun e => ha (e ▸ hv)
    have hnr : ¬ (r ≤ a ∧ a < r + n) := fun e => ha (by omega)
    show (if a = v then h else if r ≤ a ∧ a < r + n then h + 1 + (a - r) else T.ad a) = _
    rw [if_neg hne, if_neg hnr]
    exact h3 a ha
  · show sz ≤ (if a = v then h else if r ≤ a ∧ a < r + n then h + 1 + (a - r) else T.ad a)
    by_cases e : a = v
    · rw [if_pos e]
      exact hq
    · rw [if_neg e]
      by_cases e2 : r ≤ a ∧ a < r + n
      · rw [if_pos e2]
        omega
      · rw [if_neg e2]
        exact h4 a a1 a2 ((show T.D a ∨ a = v ∨ (r ≤ a ∧ a < r + n) from hd).resolve_right (fun g => g.elim e e2))
theorem KD.m {S : KS} {v r n k h a : Nat} {k0 : Kd} (hk : KD S a k0) (hv : ¬ S.D v) (hr : ∀ a, r ≤ a ∧ a < r + n → ¬ S.D a) : KD (KSm S v r n k h) a k0 := by
  have hne : a ≠ v := fun e => hv (e ▸ hk.1)
  have hnr : ¬ (r ≤ a ∧ a < r + n) := fun e => hr a e hk.1
  refine ⟨Or.inl hk.1, ?_⟩
  show (if a = v then _ else if r ≤ a ∧ a < r + n then _ else S.kd a) = _
  rw [if_neg hne, if_neg hnr]
  exact hk.2
def rowsL (r k : Nat) : Nat → List (Nat × Kd)
  | 0 => []
  | n + 1 => rowsL r k n ++ [(r + n, .inr (0, k, nt))]
theorem rowsL_mem {r k : Nat} : ∀ {n : Nat} {q : Nat × Kd}, q ∈ rowsL r k n → (r ≤ q.1 ∧ q.1 < r + n) ∧ q.2 = .inr (0, k, nt)
  | 0, q, h => by cases h
  | n + 1, q, h => by
    rcases List.mem_append.mp h with h | h
    · have := rowsL_mem h
      exact ⟨by omega, this.2⟩
    · rcases List.mem_cons.mp h with rfl | h
      · exact ⟨by simp, rfl⟩
      · cases h
theorem c_fieldM (B : CBU K cc own nL d S sz lo hi fh v0 c s wF LF ((v0, .inl (ci, ds)) :: L) nx i j w) {v r n k ix ixN kf : Nat} {zn zk : Int32} {C : String} {T : u_T} {N : Nat} {tyC : Nat → FieldType} (hX : XCs S) (hC : CLS ci C T N tyC) (hcl : Cond.classLink own ixN ("[" ++ (FieldType.array FieldType.int).toString) ∈ gtbl) (harr : Cond.arrayClass FieldType.int ∈ gtbl) (h0n : ¬ zn < 0) (h0k : ¬ zk < 0) (hn : zn.toNatClampNeg = n) (hk : zk.toNatClampNeg = k) (hb1 : n * 4 ≤ 536870912) (hb2 : k * 4 ≤ 536870912) (hb3 : k ≤ 536870912) (hvr : ¬ (r ≤ v ∧ v < r + n)) (hnx : nx ≤ v ∧ v ≤ fh ∧ nx ≤ r ∧ r + n ≤ fh + 1 ∧ fh ≤ hi) (hx1 : lo ≤ nx) (h0 : v0 < lo ∨ hi < v0) (h1 : i + (1 + n) ≤ c) (h2 : j + (n + n * k) ≤ s) (hlv : ∀ a, lo ≤ a → a ≤ hi → noV a lv = true) (hne : ∀ q ∈ L, q.1 ≠ v0) (hkl : Nat.blt kf ds.length = true) (hkN : Nat.blt kf N = true) (hq : Cond.fieldLink own ix (T kf).1 (T kf).2.1 (T kf).2.2.1 ∈ gtbl) (hfin : (T kf).2.2.2 = false ∨ ((T kf).2.2.2 = true ∧ (T kf).1 = own)) (hn9 : ∀ q, narrow (tyC kf) (.ref q) = .ref q) (hfit : ∀ q, fits (tyC kf) (.ref q) = true) (d1 : decode cc pc = .ok (.multianewarray ixN 2, 4)) (d2 : decode cc (pc + 4) = .ok (.putfield ix, 3))
    (kk : ∀ K' : KT, CBU K' cc own nL d S sz lo hi fh v0 c s wF LF ((v0, .inl (ci, ds.set kf (1, v))) :: (L ++ ((v, .inr (5, n, fun j => some (r + j))) :: rowsL r k n))) (fh + 1) (i + 1 + n) (j + n + n * k) (zm w r n) → (∀ a, a ≠ v → ¬ (r ≤ a ∧ a < r + n) → nx ≤ a → a ≤ fh → ¬ K'.ks.D a) → XW K' (pc + 7) lv [] (zm w r n)) : XW K pc lv [.int zk, .int zn, .ref v0] w := by
  obtain ⟨G, hc, hE, hK, hF, hR, e1, e2, e3, e4, e5⟩ := B
  have hv0 := hK (v0, .inl (ci, ds)) List.mem_cons_self
  have hnv : ¬ K.ks.D v := hF v hnx.1 hnx.2.1
  have hnr : ∀ a, r ≤ a ∧ a < r + n → ¬ K.ks.D a := fun a ha => hF a (by omega) (by omega)
  have hne0 : v ≠ v0 := by omega
  have hX1 : XCs K.ks := fun A U H h => hX A U H (by rw [← hE.1.2.2]; exact h)
  refine x_newM G (v := v) (r := r) hX1 hcl harr h0n h0k hn hk hb1 hb2 hb3 hvr hc hnv hnr (by omega) (by omega) (fun a ha => hlv a (by omega) (by omega)) (fun a ha => noVs1 (by omega)) d1 (fun h hq9 G1 c1 => ?_)
  have hE1 := hE.xm (k := k) ⟨by omega, by omega⟩ ⟨by omega, by omega⟩ (by rw [e5]; exact hq9) G1.2.2.2.2.2.2.1 c1
  have hk0 : KD (KSm K.ks v r n k h) v0 (.inl (ci, ds)) := hv0.m hnv hnr
  refine x_putR G1 (a := v0) (b := v) hk0 (Or.inr (Or.inl rfl)) kf hkl hC hkN hq (hfin.imp id (fun h => ⟨h.1, hR.2.2.2, h.2⟩)) hn9 hfit c1 d2 (fun G2 c2 => ?_)
  refine kk _ ⟨G2, c2, hE1.kk (Or.inl rfl) G2.2.2.2.2.2.2.1 c2, fun q9 hq8 => ?_, fun a a1 a2 h => by omega, hR, ?_, ?_, e3, e4, e5⟩ (fun a hne hnr2 a1 a2 h8 => (show K.ks.D a ∨ a = v ∨ (r ≤ a ∧ a < r + n) from h8).elim (hF a a1 a2) (fun g => g.elim hne hnr2))
  · rcases List.mem_cons.mp hq8 with rfl | hq8
    · exact KD.kv hk0.1
    rcases List.mem_append.mp hq8 with hq8 | hq8
    · exact ((hK q9 (List.mem_cons_of_mem _ hq8)).m hnv hnr).kk (hne q9 hq8)
    · rcases List.mem_cons.mp hq8 with rfl | hq8
      · exact KD.kk ⟨Or.inr (Or.inl rfl), if_pos rfl⟩ hne0
      · obtain ⟨m1, m2⟩ := rowsL_mem hq8
        have hnev : q9.1 ≠ v := fun e => hvr (by omega)
        refine KD.kk ⟨Or.inr (Or.inr m1), ?_⟩ (by omega)
        rw [m2]
        show (if q9.1 = v then _ else if r ≤ q9.1 ∧ q9.1 < r + n then _ else K.ks.kd q9.1) = _
        rw [if_neg hnev, if_pos m1]
  · show K.cells + 1 + n = i + 1 + n
    rw [e1]
  · show K.slots + n + n * k = j + n + n * k
    rw [e2]
end CM
theorem dX4_init_0 : decode cX4_init 0 = .ok (.aload_n 0, 1) := by decide +kernel
theorem dX4_init_1 : decode cX4_init 1 = .ok (.invokespecial 3, 3) := by decide +kernel
theorem dX4_init_4 : decode cX4_init 4 = .ok (.aload_n 0, 1) := by decide +kernel
theorem dX4_init_5 : decode cX4_init 5 = .ok (.iconst 0, 1) := by decide +kernel
theorem dX4_init_6 : decode cX4_init 6 = .ok (.putfield 9, 3) := by decide +kernel
theorem dX4_init_9 : decode cX4_init 9 = .ok (.aload_n 0, 1) := by decide +kernel
theorem dX4_init_10 : decode cX4_init 10 = .ok (.bipush 20, 2) := by decide +kernel
theorem dX4_init_12 : decode cX4_init 12 = .ok (.newarray .int, 2) := by decide +kernel
theorem dX4_init_14 : decode cX4_init 14 = .ok (.putfield 15, 3) := by decide +kernel
theorem dX4_init_17 : decode cX4_init 17 = .ok (.aload_n 0, 1) := by decide +kernel
theorem dX4_init_18 : decode cX4_init 18 = .ok (.bipush 20, 2) := by decide +kernel
theorem dX4_init_20 : decode cX4_init 20 = .ok (.newarray .int, 2) := by decide +kernel
theorem dX4_init_22 : decode cX4_init 22 = .ok (.putfield 19, 3) := by decide +kernel
theorem dX4_init_25 : decode cX4_init 25 = .ok (.aload_n 0, 1) := by decide +kernel
theorem dX4_init_26 : decode cX4_init 26 = .ok (.bipush 20, 2) := by decide +kernel
theorem dX4_init_28 : decode cX4_init 28 = .ok (.newarray .int, 2) := by decide +kernel
theorem dX4_init_30 : decode cX4_init 30 = .ok (.putfield 22, 3) := by decide +kernel
theorem dX4_init_33 : decode cX4_init 33 = .ok (.aload_n 0, 1) := by decide +kernel
theorem dX4_init_34 : decode cX4_init 34 = .ok (.bipush 20, 2) := by decide +kernel
theorem dX4_init_36 : decode cX4_init 36 = .ok (.bipush 60, 2) := by decide +kernel
theorem dX4_init_38 : decode cX4_init 38 = .ok (.multianewarray 25 2, 4) := by decide +kernel
theorem dX4_init_42 : decode cX4_init 42 = .ok (.putfield 27, 3) := by decide +kernel
theorem dX4_init_45 : decode cX4_init 45 = .ok (.aload_n 0, 1) := by decide +kernel
theorem dX4_init_46 : decode cX4_init 46 = .ok (.bipush 100, 2) := by decide +kernel
theorem dX4_init_48 : decode cX4_init 48 = .ok (.newarray .int, 2) := by decide +kernel
theorem dX4_init_50 : decode cX4_init 50 = .ok (.putfield 30, 3) := by decide +kernel
theorem dX4_init_53 : decode cX4_init 53 = .ok (.aload_n 0, 1) := by decide +kernel
theorem dX4_init_54 : decode cX4_init 54 = .ok (.bipush 100, 2) := by decide +kernel
theorem dX4_init_56 : decode cX4_init 56 = .ok (.newarray .long, 2) := by decide +kernel
theorem dX4_init_58 : decode cX4_init 58 = .ok (.putfield 33, 3) := by decide +kernel
theorem dX4_init_61 : decode cX4_init 61 = .ok (.aload_n 0, 1) := by decide +kernel
theorem dX4_init_62 : decode cX4_init 62 = .ok (.bipush 100, 2) := by decide +kernel
theorem dX4_init_64 : decode cX4_init 64 = .ok (.newarray .int, 2) := by decide +kernel
theorem dX4_init_66 : decode cX4_init 66 = .ok (.putfield 37, 3) := by decide +kernel
theorem dX4_init_69 : decode cX4_init 69 = .ok (.aload_n 0, 1) := by decide +kernel
theorem dX4_init_70 : decode cX4_init 70 = .ok (.iconst 0, 1) := by decide +kernel
theorem dX4_init_71 : decode cX4_init 71 = .ok (.putfield 40, 3) := by decide +kernel
theorem dX4_init_74 : decode cX4_init 74 = .ok (.aload_n 0, 1) := by decide +kernel
theorem dX4_init_75 : decode cX4_init 75 = .ok (.iconst 0, 1) := by decide +kernel
theorem dX4_init_76 : decode cX4_init 76 = .ok (.putfield 43, 3) := by decide +kernel
theorem dX4_init_79 : decode cX4_init 79 = .ok (.aload_n 0, 1) := by decide +kernel
theorem dX4_init_80 : decode cX4_init 80 = .ok (.iconst 0, 1) := by decide +kernel
theorem dX4_init_81 : decode cX4_init 81 = .ok (.putfield 46, 3) := by decide +kernel
theorem dX4_init_84 : decode cX4_init 84 = .ok (.aload_n 0, 1) := by decide +kernel
theorem dX4_init_85 : decode cX4_init 85 = .ok (.iconst (-1), 1) := by decide +kernel
theorem dX4_init_86 : decode cX4_init 86 = .ok (.putfield 49, 3) := by decide +kernel
theorem dX4_init_89 : decode cX4_init 89 = .ok (.return_, 1) := by decide +kernel
theorem wo_X4_3 : Cond.methodLink RX4 3 Lib.objectInit ∈ gtbl := gq (by decide +kernel) (by decide +kernel)
theorem wcl_X4_25 : Cond.classLink RX4 25 ("[" ++ (FieldType.array FieldType.int).toString) ∈ gtbl := gq (by decide +kernel) (by decide +kernel)
def lawsL1 : List (Nat × Kd) := [(107, .inr (0, 20, nt)), (108, .inr (0, 20, nt)), (109, .inr (0, 20, nt))] ++ ((110, .inr (5, 20, fun j => some (114 + j))) :: rowsL 114 60 20)
theorem lawsL1_in : ∀ q ∈ lawsL1, 107 ≤ q.1 ∧ q.1 ≤ 133 := by
  intro q hq
  rcases List.mem_append.mp hq with hq | hq
  · simp at hq
    rcases hq with rfl | rfl | rfl <;> simp
  · rcases List.mem_cons.mp hq with rfl | hq
    · simp
    · have := (rowsL_mem hq).1
      omega
def lawsL2 : List (Nat × Kd) := lawsL1 ++ [(111, .inr (0, 100, nt))]
theorem lawsL2_in : ∀ q ∈ lawsL2, 107 ≤ q.1 ∧ q.1 ≤ 133 := by
  intro q hq
  rcases List.mem_append.mp hq with hq | hq
  · exact lawsL1_in q hq
  · simp at hq
    rw [hq]
    simp
def lawsL3 : List (Nat × Kd) := lawsL2 ++ [(112, .inr (1, 100, nt))]
theorem lawsL3_in : ∀ q ∈ lawsL3, 107 ≤ q.1 ∧ q.1 ≤ 133 := by
  intro q hq
  rcases List.mem_append.mp hq with hq | hq
  · exact lawsL2_in q hq
  · simp at hq
    rw [hq]
    simp
def lawsL : List (Nat × Kd) := (106, .inl (4, [(0, 0), (1, 107), (1, 108), (1, 109), (1, 110), (1, 111), (1, 112), (1, 113), (0, 0), (0, 0), (0, 0), (0, 0)])) :: (lawsL3 ++ [(113, .inr (0, 100, nt))])
def Wlaws (w : Wd) : Wd := (si (si (si (si (zi (zi (zi (zm (zi (zi (zi (si w 106 0 (0)) 107) 108) 109) 114 20) 111) 112) 113) 106 8 (0)) 106 9 (0)) 106 10 (0)) 106 11 (-1))
set_option maxHeartbeats 4000000 in
theorem kX4_init {l : Launch} {S : KS} {w : Wd} (hX : XCs S) (hI : Inj S) (hv : KD S 106 (.inl (4, [(0, 0), (3, 0), (3, 0), (3, 0), (3, 0), (3, 0), (3, 0), (3, 0), (0, 0), (0, 0), (0, 0), (0, 0)]))) (hf : ∀ a, 107 ≤ a → a ≤ 133 → ¬ S.D a) (hc : Clo S w) : CK l yX4_init cX4_init 1 2 27 1580 S 106 107 133 w (Wlaws w) lawsL := by
  refine mk_entryC (own := RX4) rfl (by decide +kernel) rfl hI 0 rfl rfl (fun K sz h1 h2 h3 hR hc0 hs0 hcR hsR G => ?_)
  refine x_aload_n G dX4_init_0 rfl rfl ?_
  refine x_objI G wo_X4_3 wo_1 wo_2 rfl rfl dX4_init_1 ?_
  have B := c_start G h2 h3 hR hc0 hs0 hcR hsR hv hf hc
  clear G h2 h3 hR hc0 hs0 hcR hsR
  refine x_aload_n B.1 dX4_init_4 rfl rfl ?_
  refine x_iconst B.1 (v := 0) dX4_init_5 (by decide) ?_
  refine c_fieldI (k := 0) B cl4 rfl rfl wf_X4_9 rfl rfl rfl dX4_init_6 (fun B => ?_)
  refine x_aload_n B.1 dX4_init_9 rfl rfl ?_
  refine x_bipush B.1 (v := 20) dX4_init_10 (by decide) ?_
  refine c_fieldA (at0 := .int) (ty := .int) (n := 20) (t0 := 0) (k := 1) B cl4 rfl (Or.inl ⟨rfl, rfl⟩) wa_int (by decide) (by decide) (by decide) (by omega) (by omega) (noV1 (by omega)) (by omega) (by omega) (by omega) (by simp) rfl rfl wf_X4_15 (Or.inr ⟨rfl, rfl⟩) (fun _ => rfl) (fun _ => rfl) dX4_init_12 dX4_init_14 (fun K B => ?_)
  refine x_aload_n B.1 dX4_init_17 rfl rfl ?_
  refine x_bipush B.1 (v := 20) dX4_init_18 (by decide) ?_
  refine c_fieldA (at0 := .int) (ty := .int) (n := 20) (t0 := 0) (k := 2) B cl4 rfl (Or.inl ⟨rfl, rfl⟩) wa_int (by decide) (by decide) (by decide) (by omega) (by omega) (noV1 (by omega)) (by omega) (by omega) (by omega) (by simp) rfl rfl wf_X4_19 (Or.inr ⟨rfl, rfl⟩) (fun _ => rfl) (fun _ => rfl) dX4_init_20 dX4_init_22 (fun K B => ?_)
  refine x_aload_n B.1 dX4_init_25 rfl rfl ?_
  refine x_bipush B.1 (v := 20) dX4_init_26 (by decide) ?_
  refine c_fieldA (at0 := .int) (ty := .int) (n := 20) (t0 := 0) (k := 3) B cl4 rfl (Or.inl ⟨rfl, rfl⟩) wa_int (by decide) (by decide) (by decide) (by omega) (by omega) (noV1 (by omega)) (by omega) (by omega) (by omega) (by simp) rfl rfl wf_X4_22 (Or.inr ⟨rfl, rfl⟩) (fun _ => rfl) (fun _ => rfl) dX4_init_28 dX4_init_30 (fun K B => ?_)
  refine x_aload_n B.1 dX4_init_33 rfl rfl ?_
  refine x_bipush B.1 (v := 20) dX4_init_34 (by decide) ?_
  refine x_bipush B.1 (v := 60) dX4_init_36 (by decide) ?_
  refine c_fieldM (v := 110) (r := 114) (n := 20) (k := 60) (kf := 4) B hX cl4 wcl_X4_25 wa_int (by decide) (by decide) (by decide) (by decide) (by decide) (by decide) (by decide) (by omega) (by omega) (by omega) (by omega) (by omega) (by omega) (fun a a1 a2 => noV1 (by omega)) (by simp) rfl rfl wf_X4_27 (Or.inr ⟨rfl, rfl⟩) (fun _ => rfl) (fun _ => rfl) dX4_init_38 dX4_init_42 (fun K B nf => ?_)
  replace nf : ∀ a, 111 ≤ a → a ≠ 110 → ¬ (114 ≤ a ∧ a < 134) → a ≤ 133 → ¬ K.ks.D a := fun a a1 a2 a3 a4 => nf a a2 (by omega) (by omega) a4
  refine x_aload_n B.1 dX4_init_45 rfl rfl ?_
  refine x_bipush B.1 (v := 100) dX4_init_46 (by decide) ?_
  refine c_fieldA2 (v := 111) (at0 := .int) (ty := .int) (n := 100) (t0 := 0) (k := 5) B (nf 111 (by omega) (by omega) (by omega) (by omega)) cl4 rfl (Or.inl ⟨rfl, rfl⟩) wa_int (by decide) (by decide) (by decide) (by omega) (by omega) (noV1 (by omega)) (by omega) (by omega) (by omega) (by omega) (fun q hq => by have := lawsL1_in q hq; omega) rfl rfl wf_X4_30 (Or.inr ⟨rfl, rfl⟩) (fun _ => rfl) (fun _ => rfl) dX4_init_48 dX4_init_50 (fun K B nf2 => ?_)
  have nf : ∀ a, 112 ≤ a → a ≠ 110 → ¬ (114 ≤ a ∧ a < 134) → a ≤ 133 → ¬ K.ks.D a := fun a a1 a2 a3 a4 => nf2 a (by omega) (nf a (by omega) a2 a3 a4)
  clear nf2
  refine x_aload_n B.1 dX4_init_53 rfl rfl ?_
  refine x_bipush B.1 (v := 100) dX4_init_54 (by decide) ?_
  refine c_fieldA2 (v := 112) (at0 := .long) (ty := .long) (n := 100) (t0 := 1) (k := 6) B (nf 112 (by omega) (by omega) (by omega) (by omega)) cl4 rfl (Or.inr (Or.inl ⟨rfl, rfl⟩)) wa_long (by decide) (by decide) (by decide) (by omega) (by omega) (noV1 (by omega)) (by omega) (by omega) (by omega) (by omega) (fun q hq => by have := lawsL2_in q hq; omega) rfl rfl wf_X4_33 (Or.inr ⟨rfl, rfl⟩) (fun _ => rfl) (fun _ => rfl) dX4_init_56 dX4_init_58 (fun K B nf2 => ?_)
  have nf : ∀ a, 113 ≤ a → a ≠ 110 → ¬ (114 ≤ a ∧ a < 134) → a ≤ 133 → ¬ K.ks.D a := fun a a1 a2 a3 a4 => nf2 a (by omega) (nf a (by omega) a2 a3 a4)
  clear nf2
  refine x_aload_n B.1 dX4_init_61 rfl rfl ?_
  refine x_bipush B.1 (v := 100) dX4_init_62 (by decide) ?_
  refine c_fieldA2 (v := 113) (at0 := .int) (ty := .int) (n := 100) (t0 := 0) (k := 7) B (nf 113 (by omega) (by omega) (by omega) (by omega)) cl4 rfl (Or.inl ⟨rfl, rfl⟩) wa_int (by decide) (by decide) (by decide) (by omega) (by omega) (noV1 (by omega)) (by omega) (by omega) (by omega) (by omega) (fun q hq => by have := lawsL3_in q hq; omega) rfl rfl wf_X4_37 (Or.inr ⟨rfl, rfl⟩) (fun _ => rfl) (fun _ => rfl) dX4_init_64 dX4_init_66 (fun K B nf2 => ?_)
  have nf : ∀ a, 114 ≤ a → a ≠ 110 → ¬ (114 ≤ a ∧ a < 134) → a ≤ 133 → ¬ K.ks.D a := fun a a1 a2 a3 a4 => nf2 a (by omega) (nf a (by omega) a2 a3 a4)
  clear nf2
  refine x_aload_n B.1 dX4_init_69 rfl rfl ?_
  refine x_iconst B.1 (v := 0) dX4_init_70 (by decide) ?_
  refine c_fieldI (k := 8) B cl4 rfl rfl wf_X4_40 rfl rfl rfl dX4_init_71 (fun B => ?_)
  refine x_aload_n B.1 dX4_init_74 rfl rfl ?_
  refine x_iconst B.1 (v := 0) dX4_init_75 (by decide) ?_
  refine c_fieldI (k := 9) B cl4 rfl rfl wf_X4_43 rfl rfl rfl dX4_init_76 (fun B => ?_)
  refine x_aload_n B.1 dX4_init_79 rfl rfl ?_
  refine x_iconst B.1 (v := 0) dX4_init_80 (by decide) ?_
  refine c_fieldI (k := 10) B cl4 rfl rfl wf_X4_46 rfl rfl rfl dX4_init_81 (fun B => ?_)
  refine x_aload_n B.1 dX4_init_84 rfl rfl ?_
  refine x_iconst B.1 (v := -1) dX4_init_85 (by decide) ?_
  refine c_fieldI (k := 11) B cl4 rfl rfl wf_X4_49 rfl rfl rfl dX4_init_86 (fun B => ?_)
  exact c_ret B (by omega) (by omega) dX4_init_89
