-- constructors: rows for fields that are new objects, rows of objects, nulls
theorem CBU.sub {K : KT} {cc : ByteArray} {own : String} {nL d : Nat} {S : KS} {sz lo hi fh v0 c s : Nat} {wF : Wd} {LF L L' : List (Nat × Kd)} {nx i j : Nat} {w : Wd} (B : CBU K cc own nL d S sz lo hi fh v0 c s wF LF L nx i j w) (h : ∀ q ∈ L', q ∈ L) : CBU K cc own nL d S sz lo hi fh v0 c s wF LF L' nx i j w :=
  ⟨B.1, B.2.1, B.2.2.1, fun q hq => B.2.2.2.1 q (h q hq), B.2.2.2.2⟩
theorem noVs1 {a v : Nat} (h : ¬ a = v) : noVs v [Value.ref a] = true := by
  have : Nat.beq a v = false := by
    cases hb : Nat.beq a v
    · rfl
    · exact absurd (Nat.eq_of_beq_eq_true hb) h
  simp [noVs, this]
theorem noVs2 {a b v : Nat} (h : ¬ a = v) (h' : ¬ b = v) : noVs v [Value.ref a, Value.ref b] = true := by
  have h1 := noVs1 h
  have h2 := noVs1 h'
  simp [noVs] at h1 h2 ⊢
  exact ⟨h1, h2⟩
theorem noVs2i {a v : Nat} {x : Int32} (h : ¬ a = v) : noVs v [Value.int x, Value.ref a] = true := by
  have h1 := noVs1 h
  simp [noVs] at h1 ⊢
  exact h1
theorem noVs3i {a b v : Nat} {x : Int32} (h : ¬ a = v) (h' : ¬ b = v) : noVs v [Value.ref a, Value.int x, Value.ref b] = true := by
  have h1 := noVs1 h
  have h2 := noVs1 h'
  simp [noVs] at h1 h2 ⊢
  exact ⟨h1, h2⟩
/-- what is wanted of a nested constructor -/
def NEST (l : Launch) (X : (Nat → Prop) → State → Heap → Prop) (y : MethodName) (b : ByteArray) (n d' c' s' nx lo' hi' ci2 : Nat) (ds2 : List (Nat × Nat)) (w w' : Wd) (L' : List (Nat × Kd)) : Prop :=
  ∀ S1 : KS, S1.X = X → Inj S1 → KD S1 nx (.inl (ci2, ds2)) → (∀ a, lo' ≤ a → a ≤ hi' → ¬ S1.D a) → Clo S1 w → CK l y b n d' c' s' S1 nx lo' hi' w w' L'
theorem EX.nest {S T S2 : KS} {w w' : Wd} {sz z lo hi v0 lo' hi' nx : Nat} (h : EX S T w sz lo hi v0) (hz : sz ≤ z) (h2 : EX T S2 w' z lo' hi' nx) (h1 : lo ≤ nx) (h3 : nx < lo') (h4 : nx ≤ hi ∧ hi' ≤ hi) (hT : T.D nx) : EX S S2 w' sz lo hi v0 := by
  obtain ⟨⟨a1, a2, a3⟩, b, c, d, -, -⟩ := h
  obtain ⟨⟨a1', a2', a3'⟩, b', c', d', e', f'⟩ := h2
  refine ⟨⟨a1'.trans a1, a2'.trans a2, a3'.trans a3⟩, fun a ha h0 => ?_, fun a ha => ?_, fun a g1 g2 hd => ?_, e', f'⟩
  · obtain ⟨u1, u2⟩ := b' a (by omega) (by omega)
    obtain ⟨v1, v2⟩ := b a ha h0
    exact ⟨u1.trans v1, u2.trans v2⟩
  · rw [c' a (by omega), c a ha]
  · by_cases e : lo' ≤ a ∧ a ≤ hi'
    · exact Nat.le_trans hz (d' a e.1 e.2 hd)
    · rw [c' a e]
      by_cases e9 : a = nx
      · subst e9
        exact d a g1 g2 hT
      · exact d a g1 g2 ((b' a e e9).1.mp hd)
section CO
variable {K : KT} {cc : ByteArray} {own : String} {nL d pc : Nat} {S : KS} {sz lo hi fh v0 c s : Nat} {wF w w' : Wd} {LF L : List (Nat × Kd)} {nx i j ci : Nat} {ds : List (Nat × Nat)} {lv : List (Option Value)}
/-- new object at nx, made by its constructor; what stands then -/
theorem c_obj (B : CBU K cc own nL d S sz lo hi fh v0 c s wF LF L nx i j w) {ixN ixI ci2 N2 c' s' lo' hi' n' d' : Nat} {C2 : String} {T2 : u_T} {ty2 : Nat → FieldType} {ds2 : List (Nat × Nat)} {y : MethodName} {b : ByteArray} {host : String} {L' : List (Nat × Kd)} {st : List Value} {kx : Kd}
    (hC2 : CLS ci2 C2 T2 N2 ty2) (hcl : Cond.classLink own ixN C2 ∈ gtbl) (hinst : Cond.instantiable C2 N2 ∈ gtbl) (hini : Cond.initialized C2 ∈ gtbl) (hds : ∀ j, j < N2 → defaultValue (ty2 j) = vp_V (dfl ds2) j) (hn : ∀ d ∈ ds2, d.1 = 0 ∨ d.1 = 2 ∨ d.1 = 3)
    (hM : NEST K.l S.X y b n' d' c' s' nx lo' hi' ci2 ds2 (zi w nx) w' L') (hm : MIN own ixI y host b n' ∨ MIP own ixI y b n') (hLx : (nx, kx) ∈ L') (hL' : ∀ q ∈ L', q.1 = nx ∨ (lo' ≤ q.1 ∧ q.1 ≤ hi')) (hlo : lo' = nx + 1) (hx1 : lo ≤ nx) (hx2 : nx ≤ fh ∧ hi' ≤ fh ∧ fh ≤ hi) (hx3 : nx ≤ hi')
    (h1 : i + 1 + c' ≤ c) (h2 : j + N2 + s' ≤ s) (hdd : Nat.blt d' d = true) (hn' : Nat.ble n' 41 = true) (hlv : ∀ v, nx ≤ v → v ≤ hi' → noV v lv = true) (hst : ∀ v, nx ≤ v → v ≤ hi' → noVs v st = true) (h8 : Nat.ble (Value.ref nx :: st |>.map fun v => v.category).sum 8 = true) (h0 : v0 < lo ∨ hi < v0)
    (d0 : decode cc pc = .ok (.new ixN, 3)) (d1 : decode cc (pc + 3) = .ok (.dup, 1)) (d2 : decode cc (pc + 4) = .ok (.invokespecial ixI, 3))
    (kk : ∀ K' : KT, K'.meth = K.meth → CBU K' cc own nL d S sz lo hi fh v0 c s wF LF (L ++ L') (hi' + 1) (i + 1 + c') (j + N2 + s') w' → XW K' (pc + 7) lv (.ref nx :: st) w') : XW K pc lv st w := by
  obtain ⟨G, hc, hE, hK, hF, hR, e1, e2, e3, e4, e5⟩ := B
  subst hlo
  have hnv : ¬ K.ks.D nx := hF nx (Nat.le_refl _) hx2.1
  refine x_newO G (v := nx) hC2 hcl hinst hini hds hn hc hnv (by omega) (by omega) (hlv nx (Nat.le_refl _) hx3) (hst nx (Nat.le_refl _) hx3) d0 (fun q hq9 G1 c1 => ?_)
  refine x_dup G1 d1 rfl ?_
  have hX1 : (KSx K.ks nx q (.inl (ci2, ds2))).X = S.X := hE.1.2.2
  have hM1 := hM (KSx K.ks nx q (.inl (ci2, ds2))) hX1 G1.2.2.2.2.2.2.1 ⟨Or.inr rfl, if_pos rfl⟩ (fun a a1 a2 h => (show K.ks.D a ∨ a = nx from h).elim (hF a (by omega) (by omega)) (by omega)) c1
  have hE1 : EX S (KSx K.ks nx q (.inl (ci2, ds2))) (zi w nx) sz lo hi v0 := hE.xx ⟨hx1, by omega⟩ (by rw [e5]; exact hq9) G1.2.2.2.2.2.2.1 c1
  have key : ∀ (S' : KS) (z : Nat), K.H0.size ≤ z → EX (KSx K.ks nx q (.inl (ci2, ds2))) S' w' z (nx + 1) hi' nx → (∀ q ∈ L', KD S' q.1 q.2) → GK (Kn K S' (K.cells + 1 + c') (K.slots + N2 + s')) cc own nL d → XW (Kn K S' (K.cells + 1 + c') (K.slots + N2 + s')) (pc + 7) lv (.ref nx :: st) w' := fun S' z hz E2 L2 G2 => by
    have hE2 : EX S S' w' sz lo hi v0 := hE1.nest (by rw [e5]; exact hz) E2 hx1 (Nat.lt_succ_self _) (by omega) (Or.inr rfl)
    have old : ∀ a, ¬ (nx ≤ a ∧ a ≤ hi') → a ≠ nx → (S'.D a ↔ K.ks.D a) ∧ S'.kd a = K.ks.kd a := fun a ha hne => by
      obtain ⟨u1, u2⟩ := E2.2.1 a (by omega) hne
      exact ⟨⟨fun h => (u1.mp h).resolve_right hne, fun h => u1.mpr (Or.inl h)⟩, u2.trans (if_neg hne : (KSx K.ks nx q (.inl (ci2, ds2))).kd a = K.ks.kd a)⟩
    refine kk _ rfl ⟨G2, E2.2.2.2.2.2, hE2, fun q9 hq9 => ?_, fun a a1 a2 h => ?_, hR, ?_, ?_, e3, e4, e5⟩
    · rcases List.mem_append.mp hq9 with hq | hq
      · have hk := hK q9 hq
        have hd9 : ¬ (nx ≤ q9.1 ∧ q9.1 ≤ hi') := fun h => hF q9.1 h.1 (by omega) hk.1
        have hne : q9.1 ≠ nx := fun h => hnv (h ▸ hk.1)
        obtain ⟨u1, u2⟩ := old q9.1 hd9 hne
        exact ⟨u1.mpr hk.1, u2.trans hk.2⟩
      · exact L2 q9 hq
    · obtain ⟨u1, -⟩ := old a (by omega) (by omega)
      exact hF a (by omega) a2 (u1.mp h)
    · show K.cells + 1 + c' = i + 1 + c'
      rw [e1]
    · show K.slots + N2 + s' = j + N2 + s'
      rw [e2]
  rcases hm with hm | hm
  · exact x_ctorN G1 hM1 hm (Or.inr rfl) (by omega) hdd hn' h8 (by show K.cells + 1 + c' ≤ K.R.cells; omega) (by show K.slots + N2 + s' ≤ K.R.slots; omega) (fun v a1 a2 => hlv v (by omega) a2) (fun v a1 a2 => by
      have := hst v (by omega) a2
      have h9 : Nat.beq nx v = false := by
        cases hb : Nat.beq nx v
        · rfl
        · exact absurd (Nat.eq_of_beq_eq_true hb) (by omega)
      simp [noVs, h9, this]) d2 (fun S' z hz E2 L2 G2 => key S' z hz E2 L2 G2)
  · exact x_ctorP G1 hM1 hm (Or.inr rfl) (by omega) hdd hn' h8 (by show K.cells + 1 + c' ≤ K.R.cells; omega) (by show K.slots + N2 + s' ≤ K.R.slots; omega) (fun v a1 a2 => hlv v (by omega) a2) (fun v a1 a2 => by
      have := hst v (by omega) a2
      have h9 : Nat.beq nx v = false := by
        cases hb : Nat.beq nx v
        · rfl
        · exact absurd (Nat.eq_of_beq_eq_true hb) (by omega)
      simp [noVs, h9, this]) d2 (fun S' z hz E2 L2 G2 => key S' z hz E2 L2 G2)
/-- a field of the object := what stands on the stack -/
theorem c_put (B : CBU K cc own nL d S sz lo hi fh v0 c s wF LF ((v0, .inl (ci, ds)) :: L) nx i j w) {b k ix : Nat} {C : String} {T : u_T} {N : Nat} {tyC : Nat → FieldType} {kb : Kd} (hb : (b, kb) ∈ L) (hC : CLS ci C T N tyC) (hne : ∀ q ∈ L, q.1 ≠ v0) (hkl : Nat.blt k ds.length = true) (hkN : Nat.blt k N = true) (hq : Cond.fieldLink own ix (T k).1 (T k).2.1 (T k).2.2.1 ∈ gtbl) (hfin : (T k).2.2.2 = false ∨ ((T k).2.2.2 = true ∧ (T k).1 = own)) (hn : ∀ q, narrow (tyC k) (.ref q) = .ref q) (hfit : ∀ q, fits (tyC k) (.ref q) = true) (d1 : decode cc pc = .ok (.putfield ix, 3))
    (kk : ∀ K' : KT, CBU K' cc own nL d S sz lo hi fh v0 c s wF LF ((v0, .inl (ci, ds.set k (1, b))) :: L) nx i j w → XW K' (pc + 3) lv [] w) : XW K pc lv [.ref b, .ref v0] w := by
  obtain ⟨G, hc, hE, hK, hF, hR, e⟩ := B
  have hv0 := hK (v0, .inl (ci, ds)) List.mem_cons_self
  refine x_putR G (a := v0) (b := b) hv0 (hK _ (List.mem_cons_of_mem _ hb)).1 k hkl hC hkN hq (hfin.imp id (fun h => ⟨h.1, hR.2.2.2, h.2⟩)) hn hfit hc d1 (fun G2 c2 => ?_)
  refine kk _ ⟨G2, c2, hE.kk (Or.inl rfl) G2.2.2.2.2.2.2.1 c2, fun q9 hq8 => ?_, hF, hR, e⟩
  rcases List.mem_cons.mp hq8 with rfl | hq8
  · exact KD.kv hv0.1
  · exact (hK q9 (List.mem_cons_of_mem _ hq8)).kk (hne q9 hq8)
end CO
section CQ
variable {K : KT} {cc : ByteArray} {own : String} {nL d pc : Nat} {S : KS} {sz lo hi fh v0 c s : Nat} {wF w w' : Wd} {LF L : List (Nat × Kd)} {nx i j ci : Nat} {ds : List (Nat × Nat)} {lv : List (Option Value)}
/-- a row of references into a field -/
theorem c_fieldQ (B : CBU K cc own nL d S sz lo hi fh v0 c s wF LF ((v0, .inl (ci, ds)) :: L) nx i j w) {C0 : String} {t0 n k ixN ix : Nat} {z : Int32} {C : String} {T : u_T} {N : Nat} {tyC : Nat → FieldType} (hX : XCs S) (ht : (t0 = 3 ∧ C0 = "LowFall$Line") ∨ (t0 = 4 ∧ C0 = "LowFall$Tape")) (hcl : Cond.classLink own ixN C0 ∈ gtbl) (hC : CLS ci C T N tyC) (hz : ¬ z < 0) (hzn : z.toNatClampNeg = n) (hb : n * 4 ≤ 536870912) (h1 : i + 1 ≤ c) (h2 : j + n ≤ s) (hlv : noV nx lv = true) (h0 : v0 < lo ∨ hi < v0) (hx1 : lo ≤ nx) (hx2 : nx ≤ fh ∧ fh ≤ hi) (hne : ∀ q ∈ L, q.1 ≠ v0) (hkl : Nat.blt k ds.length = true) (hkN : Nat.blt k N = true) (hq : Cond.fieldLink own ix (T k).1 (T k).2.1 (T k).2.2.1 ∈ gtbl) (hfin : (T k).2.2.2 = false ∨ ((T k).2.2.2 = true ∧ (T k).1 = own)) (hn : ∀ q, narrow (tyC k) (.ref q) = .ref q) (hfit : ∀ q, fits (tyC k) (.ref q) = true) (d1 : decode cc pc = .ok (.anewarray ixN, 3)) (d2 : decode cc (pc + 3) = .ok (.putfield ix, 3))
    (kk : ∀ K' : KT, CBU K' cc own nL d S sz lo hi fh v0 c s wF LF ((v0, .inl (ci, ds.set k (1, nx))) :: (L ++ [(nx, .inr (t0, n, nt))])) (nx + 1) (i + 1) (j + n) (zi w nx) → XW K' (pc + 6) lv [] (zi w nx)) : XW K pc lv [.int z, .ref v0] w := by
  obtain ⟨G, hc, hE, hK, hF, hR, e1, e2, e3, e4, e5⟩ := B
  have hv0 := hK (v0, .inl (ci, ds)) List.mem_cons_self
  have hnv : ¬ K.ks.D nx := hF nx (Nat.le_refl _) hx2.1
  have hne0 : nx ≠ v0 := by omega
  have hX1 : XCs K.ks := fun A U H h => hX A U H (by rw [← hE.1.2.2]; exact h)
  refine x_newQ G (v := nx) ht hX1 hcl hz hzn hb hc hnv (by omega) (by omega) hlv (noVs1 (Ne.symm hne0)) d1 (fun q hq9 G1 c1 => ?_)
  have hE1 := hE.xx (k := .inr (t0, n, nt)) ⟨hx1, by omega⟩ (by rw [e5]; exact hq9) G1.2.2.2.2.2.2.1 c1
  have hk0 : KD (KSx K.ks nx q (.inr (t0, n, nt))) v0 (.inl (ci, ds)) := hv0.x hnv
  refine x_putR G1 (a := v0) (b := nx) hk0 (Or.inr rfl) k hkl hC hkN hq (hfin.imp id (fun h => ⟨h.1, hR.2.2.2, h.2⟩)) hn hfit c1 d2 (fun G2 c2 => ?_)
  refine kk _ ⟨G2, c2, hE1.kk (Or.inl rfl) G2.2.2.2.2.2.2.1 c2, fun q9 hq8 => ?_, fun a a1 a2 h => ?_, hR, ?_, ?_, e3, e4, e5⟩
  · rcases List.mem_cons.mp hq8 with rfl | hq8
    · exact KD.kv hk0.1
    rcases List.mem_append.mp hq8 with hq8 | hq8
    · exact ((hK q9 (List.mem_cons_of_mem _ hq8)).x hnv).kk (hne q9 hq8)
    · rcases List.mem_cons.mp hq8 with rfl | hq8
      · exact KD.kk ⟨Or.inr rfl, if_pos rfl⟩ hne0
      · cases hq8
  · rcases (show K.ks.D a ∨ a = nx from h) with h | h
    · exact hF a (by omega) a2 h
    · omega
  · show K.cells + 1 = i + 1
    rw [e1]
  · show K.slots + n = j + n
    rw [e2]
/-- a place of a row of references := an object -/
theorem c_ast {a b n t0 cb : Nat} {f : Nat → Option Nat} {jx : Int32} {C0 : String} {T : u_T} {N : Nat} {ty : Nat → FieldType} {dsb : List (Nat × Nat)} {st : List Value} (B : CBU K cc own nL d S sz lo hi fh v0 c s wF LF ((a, .inr (t0, n, f)) :: L) nx i j w) (ht : (t0 = 3 ∧ C0 = "LowFall$Line") ∨ (t0 = 4 ∧ C0 = "LowFall$Tape")) (hb : (b, .inl (cb, dsb)) ∈ L) (hC : CLS cb C0 T N ty) (hj : inb jx n = true) (ha : lo ≤ a ∧ a ≤ hi) (hne : ∀ q ∈ L, q.1 ≠ a) (hd : decode cc pc = .ok (.aastore, 1))
    (kk : ∀ K' : KT, CBU K' cc own nL d S sz lo hi fh v0 c s wF LF ((a, .inr (t0, n, va_up f jx.toNatClampNeg (some b))) :: L) nx i j w → XW K' (pc + 1) lv st w) : XW K pc lv (.ref b :: .int jx :: .ref a :: st) w := by
  obtain ⟨G, hc, hE, hK, hF, hR, e⟩ := B
  have hka := hK (a, .inr (t0, n, f)) List.mem_cons_self
  refine x_astR G ht hka (hK _ (List.mem_cons_of_mem _ hb)) hC hj hc hd (fun G2 c2 => ?_)
  refine kk _ ⟨G2, c2, hE.kk (Or.inr ha) G2.2.2.2.2.2.2.1 c2, fun q9 hq8 => ?_, hF, hR, e⟩
  rcases List.mem_cons.mp hq8 with rfl | hq8
  · exact KD.kv hka.1
  · exact (hK q9 (List.mem_cons_of_mem _ hq8)).kk (hne q9 hq8)
/-- another function for the same row -/
theorem c_kind {a n t0 : Nat} {f f' : Nat → Option Nat} {st : List Value} (B : CBU K cc own nL d S sz lo hi fh v0 c s wF LF ((a, .inr (t0, n, f)) :: L) nx i j w) (h3 : 3 ≤ t0) (hff : ∀ q, q < n → f q = f' q) (ha : lo ≤ a ∧ a ≤ hi) (hne : ∀ q ∈ L, q.1 ≠ a)
    (kk : ∀ K' : KT, CBU K' cc own nL d S sz lo hi fh v0 c s wF LF ((a, .inr (t0, n, f')) :: L) nx i j w → XW K' pc lv st w) : XW K pc lv st w := fun H locs ls hH hS hL => by
  obtain ⟨G, hc, hE, hK, hF, hR, e⟩ := B
  have hka := hK (a, .inr (t0, n, f)) List.mem_cons_self
  have hCn : Clo (KSk K.ks a (.inr (t0, n, f'))) w := hc.k (fun t ht2 => by
    obtain ⟨h3, q, hqm, hq⟩ := ht2
    exact hc a hka.1 t (by rw [hka.2]; exact ⟨h3, q, hqm, (hff q hqm).trans hq⟩))
  have G2 : GK (Kn K (KSk K.ks a (.inr (t0, n, f'))) K.cells K.slots) cc own nL d := G.n rfl rfl rfl G.2.2.2.2.2.2.1 G.2.2.2.2.2.2.2.1 G.2.2.2.2.2.2.2.2.2.2.2.2.1 G.2.2.2.2.2.2.2.2.2.2.2.2.2
  have hHn : HH (KSk K.ks a (.inr (t0, n, f'))) w H := hH.putk G.2.2.2.2.2.2.1 hka (fun _ _ => rfl) (by
    have h0 := hH.one hka 0 _ rfl
    obtain ⟨m, rfl⟩ : ∃ m, t0 = m + 3 := ⟨t0 - 3, by omega⟩
    have h1 : H[K.ks.ad a]? = some (arrV (K.ks.cA (m + 3)) n (fun j => va_rf ((f j).map K.ks.ad))) := h0
    show H[K.ks.ad a]? = some (arrV (K.ks.cA (m + 3)) n (fun j => va_rf ((f' j).map K.ks.ad)))
    rw [h1]
    exact congrArg some (arrV_congr fun q hq => by rw [hff q hq]))
  exact kk _ ⟨G2, hCn, hE.kk (Or.inr ha) G2.2.2.2.2.2.2.1 hCn, fun q9 hq8 => by
    rcases List.mem_cons.mp hq8 with rfl | hq8
    · exact KD.kv hka.1
    · exact (hK q9 (List.mem_cons_of_mem _ hq8)).kk (hne q9 hq8), hF, hR, e⟩ H locs ls hHn hS hL
theorem fvs_set0 {ad : Nat → Nat} {w : Wd} {a b : Nat} : ∀ (ds : List (Nat × Nat)) (j k : Nat), w.1 a (j + k) = 0 → fvs ad w a j (ds.set k (2, b)) = (fvs ad w a j ds).set k .null
  | [], _, _, _ => rfl
  | d :: r, j, 0, h => by
    show fv ad w a j (2, b) :: fvs ad w a (j + 1) r = .null :: fvs ad w a (j + 1) r
    rw [show fv ad w a j (2, b) = (if w.1 a j = 0 then .null else .ref (ad b)) from rfl, if_pos (show w.1 a j = 0 from h)]
  | d :: r, j, k + 1, h => by
    show fv ad w a j d :: fvs ad w a (j + 1) (r.set k (2, b)) = fv ad w a j d :: (fvs ad w a (j + 1) r).set k .null
    rw [fvs_set0 r (j + 1) k (by rw [show j + 1 + k = j + (k + 1) by omega]; exact h)]
theorem tgt_set0 {w : Wd} {a ci k b : Nat} {ds : List (Nat × Nat)} {t : Nat} (h0 : w.1 a k = 0) (h : tgt w a (.inl (ci, ds.set k (2, b))) t) : tgt w a (.inl (ci, ds)) t := by
  obtain ⟨j, d, h1, h2, h3⟩ := h
  rw [List.getElem?_set] at h1
  by_cases e : k = j
  · rw [if_pos e] at h1
    split at h1
    · cases h1
      subst e
      rcases h3 with h3 | h3
      · exact absurd (show 2 = 1 from h3) (by decide)
      · exact absurd h0 h3.2
    · cases h1
  · rw [if_neg e] at h1
    exact ⟨j, d, h1, h2, h3⟩
/-- a field := null, which may be told later -/
theorem c_null (B : CBU K cc own nL d S sz lo hi fh v0 c s wF LF ((v0, .inl (ci, ds)) :: L) nx i j w) {b k ix : Nat} {C : String} {T : u_T} {N : Nat} {tyC : Nat → FieldType} (hC : CLS ci C T N tyC) (hne : ∀ q ∈ L, q.1 ≠ v0) (hkl : Nat.blt k ds.length = true) (hkN : Nat.blt k N = true) (hq : Cond.fieldLink own ix (T k).1 (T k).2.1 (T k).2.2.1 ∈ gtbl) (hfin : (T k).2.2.2 = false) (hn : narrow (tyC k) .null = .null) (hfit : fits (tyC k) .null = true) (hw : w.1 v0 k = 0) (d1 : decode cc pc = .ok (.putfield ix, 3))
    (kk : ∀ K' : KT, CBU K' cc own nL d S sz lo hi fh v0 c s wF LF ((v0, .inl (ci, ds.set k (2, b))) :: L) nx i j w → XW K' (pc + 3) lv [] w) : XW K pc lv [.null, .ref v0] w := fun H locs ls hH hS hL => by
  obtain ⟨G, hc, hE, hK0, hF, hR, e⟩ := B
  have hv0 := hK0 (v0, .inl (ci, ds)) List.mem_cons_self
  have hkN : k < N := Nat.le_of_ble_eq_true hkN
  have hkl : k < ds.length := Nat.le_of_ble_eq_true hkl
  have hK : va_K K.ks.G vwCl (tysK K.ks.cA) K.s := G.2.2.2.2.2.1.1
  have hap := va_apart (own := own) G.2.2.2.2.1 hC.2.1 tyC hC.2.2.1 hC.2.2.2 hK hC.1
  have hP := hH.one hv0
  obtain ⟨r, h1, cell, q1, q2, q3, q4⟩ := hP 0 _ rfl
  have hr : r = (C, T, N) := Option.some.inj (h1.symm.trans hC.1)
  subst hr
  obtain ⟨hSl, hfc, kC, hkC, hkind⟩ := hK.1 ci _ hC.1
  obtain ⟨cf, kf, fi, f, hi, hsl⟩ := hSl k hkN
  have hlay := G.2.2.2.2.1 _ (hC.2.1 _ (u_in_lay hkN))
  unfold u_lay at hlay
  rw [if_neg (by rw [hfin]; decide)] at hlay
  have hst := (u_facts hfc hkC (u_lays G.2.2.2.2.1 hC.2.1 hkN) hi).1
  have h6 := u_store hfc hkC hkind hlay hi (hC.2.2.1 k hkN) hn hfit
  refine W.putK G.1 G.2.1 (f := f) ⟨G.2.2.2.1, G.2.2.2.2.1 _ hq, ⟨_, _, _, hi⟩, hst⟩ (by rw [q2]; exact h6) q1 q3 (by rw [hsl]; exact k2_hasslot (q4 k hkN)) rfl rfl d1 fun H' e1 e2 e3 => ?_
  rw [hsl] at e1 ⊢
  have hHn : HH (KSk K.ks v0 (.inl (ci, ds.set k (2, b)))) w H' := by
    refine hH.putk G.2.2.2.2.2.2.1 hv0 e3 ⟨_, hC.1, t_OB.to (V := updV (vp_V (fvs K.ks.ad w v0 0 ds)) k .null) ⟨_, e1, q2, q3, t_set q4 hap hkN .null⟩ (fun j _ => ?_)⟩
    show _ = vp_V (fvs K.ks.ad w v0 0 (ds.set k (2, b))) j
    rw [fvs_set0 ds 0 k (by rw [Nat.zero_add]; exact hw)]
    exact vp_updV_set (by rw [fvs_len]; exact hkl) _ j
  have hCn : Clo (KSk K.ks v0 (.inl (ci, ds.set k (2, b)))) w := hc.k (fun t ht => hc v0 hv0.1 t (by rw [hv0.2]; exact tgt_set0 hw ht))
  have G2 : GK (Kn K (KSk K.ks v0 (.inl (ci, ds.set k (2, b)))) K.cells K.slots) cc own nL d := G.n rfl rfl rfl G.2.2.2.2.2.2.1 G.2.2.2.2.2.2.2.1 G.2.2.2.2.2.2.2.2.2.2.2.2.1 G.2.2.2.2.2.2.2.2.2.2.2.2.2
  exact kk _ ⟨G2, hCn, hE.kk (Or.inl rfl) G2.2.2.2.2.2.2.1 hCn, fun q9 hq8 => by
    rcases List.mem_cons.mp hq8 with rfl | hq8
    · exact KD.kv hv0.1
    · exact (hK0 q9 (List.mem_cons_of_mem _ hq8)).kk (hne q9 hq8), hF, hR, e⟩ H' _ ls hHn (hS.put e2 e3 (G.2.2.2.2.2.2.2.1 v0 hv0.1)) hL
end CQ
