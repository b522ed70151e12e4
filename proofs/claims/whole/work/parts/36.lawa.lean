-- the law's loop: rows, what holds at its head
def TPs (S : KS) : Prop := ∀ a, S.D a → n2 (S.kd a) ∨ ∃ d, d < 6 ∧ a = 135 + 2 * d
def FL (w w' : Wd) : Prop := ∀ d, d < 6 → w'.1 (135 + 2 * d) 3 = w.1 (135 + 2 * d) 3
theorem Clo.fl {S : KS} {w w' : Wd} (M : Main S) (hT : TPs S) (h : Clo S w) (hf : FL w w') : Clo S w' := by
  intro a ha t ht
  rcases hT a ha with (⟨x, e⟩ | ⟨ci, ds, e, h2⟩) | ⟨d, hd, rfl⟩
  · refine h a ha t ?_
    rw [e] at ht ⊢
    exact ht
  · refine h a ha t ?_
    rw [e] at ht ⊢
    obtain ⟨j, d, h1, h3, h4⟩ := ht
    exact ⟨j, d, h1, h3, h4.imp id (fun q => absurd q.1 (h2 d (List.mem_of_getElem? h1)))⟩
  · refine h _ ha t ?_
    have hk := (tapeAt M d hd).1.2
    rw [hk] at ht ⊢
    obtain ⟨j, q, g1, g2, g3⟩ := ht
    refine ⟨j, q, g1, g2, g3.imp id (fun g => ⟨g.1, ?_⟩)⟩
    have hj : j = 3 := by
      rcases j with _ | _ | _ | _ | j
      · simp at g1; subst g1; exact absurd (show 0 = 2 from g.1) (by decide)
      · simp at g1; subst g1; exact absurd (show 0 = 2 from g.1) (by decide)
      · simp at g1; subst g1; exact absurd (show 1 = 2 from g.1) (by decide)
      · rfl
      · simp at g1
    subst hj
    rw [← hf d hd]
    exact g.2
theorem IM.fl {S : KS} {w w' : Wd} (hT : TPs S) (h : IM S w) (hf : FL w w') : IM S w' := by
  intro T hT2 hn
  refine h T hT2 ?_
  rcases hT T hT2.1.1 with (⟨x, e⟩ | ⟨ci, ds, e, h2⟩) | ⟨d, hd, rfl⟩
  · rw [hT2.1.2] at e
    cases e
  · rw [hT2.1.2] at e
    cases e
    exact absurd rfl (h2 _ (List.mem_of_getElem? (i := 3) rfl))
  · rw [← hf d hd]
    exact hn
theorem FR.fl {S : KS} {w w' : Wd} (h : FR S w) (hf : FL w w') : FR S w' := fun d hd hn => h d hd (by rw [← hf d hd]; exact hn)
def LE (K : KT) (b : Nat) : Prop := K.R = room_1 ∧ K.args = #[Value.ref b] ∧ K.Q = lw_Z K.below #[Value.ref b] K.s ∧ K.A = (fun q => K.s.heap.size ≤ q) ∧ K.H0 = K.s.heap ∧ K.meth.sig.returnType = ret
def LB (K : KT) (b L : Nat) (xs : Nat → Int32) (n : Nat) (w : Wd) : Prop :=
  (GK K code RL 8 300 ∧ Main K.ks ∧ KD K.ks 169 (.inr (1, 1, nt)) ∧ TPs K.ks ∧ XCs K.ks) ∧ (IM K.ks w ∧ FR K.ks w ∧ Clo K.ks w) ∧ (K.cells ≤ 300 + 100 * n ∧ K.slots ≤ 60000 + 5000 * n) ∧ (K.l.stackTraces = false ∧ K.ks.ad 170 = b ∧ va_X b L xs K.s K.H0 ∧ b < K.H0.size ∧ ¬ K.A b ∧ L ≤ 3072) ∧ LE K b
theorem LB.fl {K : KT} {b L n : Nat} {xs : Nat → Int32} {w w' : Wd} (B : LB K b L xs n w) (hf : FL w w') : LB K b L xs n w' :=
  ⟨B.1, ⟨B.2.1.1.fl B.1.2.2.2.1 hf, B.2.1.2.1.fl hf, B.2.1.2.2.fl B.1.2.1 B.1.2.2.2.1 hf⟩, B.2.2⟩
theorem LB.up {K : KT} {b L n : Nat} {xs : Nat → Int32} {w : Wd} (B : LB K b L xs n w) : LB K b L xs (n + 1) w :=
  ⟨B.1, B.2.1, ⟨by have := B.2.2.1.1; omega, by have := B.2.2.1.2; omega⟩, B.2.2.2⟩
theorem LB.room {K : KT} {b L n : Nat} {xs : Nat → Int32} {w : Wd} (B : LB K b L xs n w) (hn : n < 512) : K.cells + 91 ≤ K.R.cells ∧ K.slots + 4358 ≤ K.R.slots ∧ K.cells + 91 ≤ 300 + 100 * (n + 1) ∧ K.slots + 4358 ≤ 60000 + 5000 * (n + 1) := by
  have h1 := B.2.2.1.1
  have h2 := B.2.2.1.2
  have h3 : K.R = room_1 := B.2.2.2.2.1
  have h4 : K.R.cells = 601024 := by rw [h3]; rfl
  have h5 : K.R.slots = 7293033 := by rw [h3]; rfl
  omega
def LV (n : Nat) : List (Option Value) := [some (.ref 170), some (.ref 0), some (.ref 148), some (.ref 169), some (.int (iN (6 * n))), none, none, none]
section LW
variable {K : KT} {cc : ByteArray} {own : String} {nL d pc : Nat} {lv : List (Option Value)} {st : List Value} {w w' : Wd}
variable {y : MethodName} {b : ByteArray} {n k d' i : Nat} {ret : Option FieldType} {C : String} {a : Nat} {As : List Value} {ci : Nat} {ds : List (Nat × Nat)} {T : u_T} {N : Nat} {ty : Nat → FieldType}
theorem x_sld (G : GK K cc own nL d) {b L : Nat} {xs : Nat → Int32} (hb : K.ks.ad 170 = b) (hX : va_X b L xs K.s K.H0) (hbl : b < K.H0.size) (hbA : ¬ K.A b) {j : Int32} (hin : inb j L = true) (hd : decode cc pc = .ok (.iaload, 1)) (kk : XW K (pc + 1) lv (.int (xs j.toNatClampNeg) :: st) w) : XW K pc lv (.int j :: .ref 170 :: st) w := fun H locs ls hH hS hL => by
  have := va_sld G.1 G.2.1 hX hbl hbA hS (inb_vp hin) hd (kk H locs ls hH hS hL)
  show W K.p K.l K.e K.R K.s K.m K.args K.below K.meth K.c H locs K.cells K.slots K.Q (F0 K.m pc ls (.int j :: .ref (K.ks.ad 170) :: st.map (cv K.ks.ad)))
  rw [hb]
  exact this
theorem x_slen (G : GK K cc own nL d) {b L : Nat} {xs : Nat → Int32} (hb : K.ks.ad 170 = b) (hX : va_X b L xs K.s K.H0) (hbl : b < K.H0.size) (hbA : ¬ K.A b) (hd : decode cc pc = .ok (.arraylength, 1)) (kk : XW K (pc + 1) lv (.int (Int32.ofNat L) :: st) w) : XW K pc lv (.ref 170 :: st) w := fun H locs ls hH hS hL => by
  have := va_slen G.1 G.2.1 hX hbl hbA hS hd (kk H locs ls hH hS hL)
  show W K.p K.l K.e K.R K.s K.m K.args K.below K.meth K.c H locs K.cells K.slots K.Q (F0 K.m pc ls (.ref (K.ks.ad 170) :: st.map (cv K.ks.ad)))
  rw [hb]
  exact this
/-- the words of a helper's call -/
def MH (own : String) (idx : Nat) (y : MethodName) (b : ByteArray) (n : Nat) (hh : List (Nat × Nat × Nat × Nat)) (k : Nat) : Prop :=
  (Cond.methodLink own idx y ∈ gtbl ∧ Cond.static y ∈ gtbl ∧ Cond.initialized y.cls ∈ gtbl ∧ Cond.codeWith y b n (some .int) hh ∈ gtbl) ∧ (y.cls ≠ "java/lang/invoke/MethodHandle" ∧ y.cls ≠ "java/lang/invoke/VarHandle" ∧ (parseMethodDescriptor y.desc).map (fun d => d.parameters.length) = some k)
theorem xh_sta (G : GK K cc own nL d) {hh : List (Nat × Nat × Nat × Nat)} {r : Int32 × Wd} (hM : CHI K.l y b n hh d' K.ks As w r) (hv : MH own i y b n hh k) {st0 : List Value} (hst : st0 = As.reverse ++ st) (hl : As.length = k) (hdd : Nat.blt d' d = true) (hn : Nat.ble n 41 = true) (h8 : Nat.ble (st.map fun v => v.category).sum 8 = true) (hd : decode cc pc = .ok (.invokestatic i, 3)) (hc : K.cells + 1 ≤ K.R.cells) (hs : K.slots + 6 ≤ K.R.slots) (kk : XW (Kn K K.ks (K.cells + 1) (K.slots + 6)) (pc + 3) lv (.int r.1 :: st) r.2) : XW K pc lv st0 w := fun H locs ls hH hS hL => by
  subst hst
  have hA := g_inA G hS
  have h8' : (st.map fun v => v.category).sum ≤ 8 := Nat.le_of_ble_eq_true h8
  obtain ⟨⟨m1, m2, m3, m5⟩, h⟩ := hv
  have hn : n ≤ 41 := Nat.le_of_ble_eq_true hn
  have hd9 : d' < d := Nat.le_of_ble_eq_true hdd
  obtain ⟨r1, r2, -⟩ := G.2.2.2.2.2.2.2.2.2.2
  have cw : vx_CSW K.R K.s K.args own i y b n (some .int) hh (wsH y b n (some .int) hh) (rmH d') 1 6 k := vx_cwSW k G.2.2.2.2.1 (Ts := gtbl) (good_app (good_list (fun _ h => h) _ (by
    intro w hw
    rcases List.mem_cons.mp hw with rfl | hw
    · exact m1
    rcases List.mem_cons.mp hw with rfl | hw
    · exact m2
    rcases List.mem_cons.mp hw with rfl | hw
    · exact m3
    · cases hw)) (good_list (fun _ h => h) _ (fun w hw => by
      rcases List.mem_cons.mp hw with rfl | hw
      · exact m5
      · exact hw))) rfl rfl rfl h ⟨by show d' + 1 ≤ _; omega, by show 8 + (n + 11) + 60 * d' ≤ _; omega⟩
  refine va_calli (vx_runSW (As := As.map (cv K.ks.ad)) (rest := st.map (cv K.ks.ad)) (g_fix G) (hM H.size) cw ⟨pc_blind G.2.2.2.2.2.2.1, g_pre G hS hH As⟩ rfl (by rw [List.length_map]; exact hl) (hL.1.trans G.2.2.1) (by show List.map _ _ = _; simp) (lv_room (by rw [cv_cats]; exact h8')) hd ⟨hc, hs⟩) hS hA.1 hA.2 (fun r u t H1 locs1 ht hvm hp hB hz hk1 hS1 => ?_)
  subst hp
  exact kk H1 locs1 ls (by rw [← ht]; exact hB) hS1 hL
theorem noV_ad {S S' : KS} {lo hi : Nat} {lv : List (Option Value)} (h : ∀ v, lo ≤ v → v ≤ hi → noV v lv = true) (had : ∀ a, ¬ (lo ≤ a ∧ a ≤ hi) → S'.ad a = S.ad a) {i : Nat} {x : Value} (hx : lv[i]? = some (some x)) : cv S'.ad x = cv S.ad x := by
  cases x with
  | ref v =>
    show Value.ref _ = Value.ref _
    rw [had v (fun hb => noV_get (h v hb.1 hb.2) i v hx rfl)]
  | _ => rfl
theorem x_keep (G : GK K cc own nL d) (hX : XCs K.ks) (M : Main K.ks) (hIM : IM K.ks w) (hFR : FR K.ks w) (hCl : Clo K.ks w) {v1 : Int32} {r : Int32 × Wd} (hf : fX11_keep v1 w = some r) (hv : MV own i yX11_keep cX11_keep 3 (some .int) RX11 1) (hst : st.map (cv K.ks.ad) = st.map (cv K.ks.ad)) (hdd : Nat.blt 7 d = true) (h8 : Nat.ble (st.map fun v => v.category).sum 8 = true) (hd : decode cc pc = .ok (.invokevirtual i, 3)) (hc : K.cells + 91 ≤ K.R.cells) (hs : K.slots + 4358 ≤ K.R.slots) (hlv : ∀ v, 200 ≤ v → noV v lv = true) (hst0 : st = []) (kk : ∀ (S' : KS) (sz : Nat), K.H0.size ≤ sz → KP K.ks S' r.2 sz → GK (Kn K S' (K.cells + 91) (K.slots + 4358)) cc own nL d → XW (Kn K S' (K.cells + 91) (K.slots + 4358)) (pc + 3) lv [.int r.1] r.2) : XW K pc lv (.int v1 :: .ref 0 :: st) w := fun H locs ls hH hS hL => by
  subst hst0
  have hA := g_inA G hS
  obtain ⟨⟨m1, m2, m3, m4, m5⟩, h⟩ := hv
  have hd9 : 7 < d := Nat.le_of_ble_eq_true hdd
  obtain ⟨r1, r2, -⟩ := G.2.2.2.2.2.2.2.2.2.2
  have cw : CallW K.R K.s K.args own RX11 i yX11_keep cX11_keep 3 (some .int) (wsM yX11_keep cX11_keep 3 (some .int)) (rmC 7 91 4358) 91 4358 1 := by
    refine cwV 1 G.2.2.2.2.1 (Ts := gtbl) ?_ rfl rfl rfl h ⟨by show 7 + 1 ≤ _; omega, by show 8 + (3 + 11) + 60 * 7 ≤ _; omega⟩
    exact good_app (good_list (fun _ h => h) _ (by
      intro w hw
      rcases List.mem_cons.mp hw with rfl | hw
      · exact m1
      rcases List.mem_cons.mp hw with rfl | hw
      · exact m2
      rcases List.mem_cons.mp hw with rfl | hw
      · exact m3
      rcases List.mem_cons.mp hw with rfl | hw
      · exact m4
      · cases hw)) (good_gtbl (fun _ h => h) m5)
  refine va_calli (va_runV (As := [Value.int v1]) (rest := []) (b := K.ks.ad 0) (g_fix G) (mX11_keep hX G.2.2.2.2.2.2.1 M hIM hFR hCl hf H.size) cw ⟨pc_blind (av := [.ref (K.ks.ad 0), .int v1]) G.2.2.2.2.2.2.1, g_recv G hH (kd0 M) cl11, g_pre G hS hH [.ref 0, .int v1]⟩ rfl rfl (hL.1.trans G.2.2.1) rfl (lv_room (by simp)) hd ⟨hc, hs⟩) hS hA.1 hA.2 (fun r9 S' t H1 locs1 ht hvm hp hB hz hk1 hS1 => ?_)
  obtain ⟨rfl, hP⟩ := hp
  have hP0 := hP
  obtain ⟨lo, hi, hlo, hE, h9, -⟩ := hP
  have G2 : GK (Kn K S' (K.cells + 91) (K.slots + 4358)) cc own nL d := by
    obtain ⟨⟨e1, e2, e3⟩, e4, e5, e6, e7, e8⟩ := hE
    refine G.n e1 e2 e3 e7 (fun k hk => ?_) hc hs
    by_cases hb : lo ≤ k ∧ k ≤ hi
    · exact G.2.2.2.2.2.2.2.2.1 _ (Nat.le_trans hS.1 (e6 k hb.1 hb.2 hk))
    · rw [e5 k hb]
      by_cases h99 : k = 9999
      · rw [h99] at hk ⊢
        exact G.2.2.2.2.2.2.2.1 _ (h9.1.mp hk)
      · exact G.2.2.2.2.2.2.2.1 k ((e4 k hb h99).1.mp hk)
  have hLn : LH (Kn K S' (K.cells + 91) (K.slots + 4358)) ls lv := by
    refine ⟨hL.1, hL.2.1, fun i x hi => ?_⟩
    rw [hL.2.2 i x hi]
    exact congrArg some (congrArg Slot.val (noV_ad (lo := lo) (hi := _) (fun v a1 a2 => hlv v (by omega)) hE.2.2.1 hi).symm)
  exact kk S' H.size hS.1 hP0 G2 H1 locs1 ls (by rw [← ht]; exact hB) hS1 hLn
end LW
