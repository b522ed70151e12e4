-- law's helpers: a throwing call, caught (printed by wip/whole/help.py)
theorem wcl_RL_13 : Cond.classLink RL 13 RIAE ∈ gtbl := gq (by decide +kernel) (by decide +kernel)
theorem wcl_RL_15 : Cond.classLink RL 15 RISE ∈ gtbl := gq (by decide +kernel) (by decide +kernel)
theorem wm_RL_7 : Cond.methodLink RL 7 yX11_of ∈ gtbl := gq (by decide +kernel) (by decide +kernel)
theorem wi_X11_of : Cond.instanceMethod yX11_of ∈ gtbl := gq (by decide +kernel) (by decide +kernel)
theorem we_X11_of : Cond.selects RX11 yX11_of yX11_of ∈ gtbl := gq (by decide +kernel) (by decide +kernel)
theorem wk_X11_of : Cond.code yX11_of cX11_of 3 (some .int) ∈ gtbl := gq (by decide +kernel) (by decide +kernel)
theorem mv_RL_7 : MV RL 7 yX11_of cX11_of 3 (some .int) RX11 2 := ⟨⟨wm_RL_7, wi_X11_of, we_X11_of, wz_X11, wk_X11_of⟩, rfl, by decide +kernel, by decide +kernel, by decide +kernel⟩
theorem wm_RL_17 : Cond.methodLink RL 17 yX11_level ∈ gtbl := gq (by decide +kernel) (by decide +kernel)
theorem wi_X11_level : Cond.instanceMethod yX11_level ∈ gtbl := gq (by decide +kernel) (by decide +kernel)
theorem we_X11_level : Cond.selects RX11 yX11_level yX11_level ∈ gtbl := gq (by decide +kernel) (by decide +kernel)
theorem wk_X11_level : Cond.code yX11_level cX11_level 2 (some .int) ∈ gtbl := gq (by decide +kernel) (by decide +kernel)
theorem mv_RL_17 : MV RL 17 yX11_level cX11_level 2 (some .int) RX11 1 := ⟨⟨wm_RL_17, wi_X11_level, we_X11_level, wz_X11, wk_X11_level⟩, rfl, by decide +kernel, by decide +kernel, by decide +kernel⟩
theorem wm_RL_21 : Cond.methodLink RL 21 yX11_lineOf ∈ gtbl := gq (by decide +kernel) (by decide +kernel)
theorem wi_X11_lineOf : Cond.instanceMethod yX11_lineOf ∈ gtbl := gq (by decide +kernel) (by decide +kernel)
theorem we_X11_lineOf : Cond.selects RX11 yX11_lineOf yX11_lineOf ∈ gtbl := gq (by decide +kernel) (by decide +kernel)
theorem wk_X11_lineOf : Cond.code yX11_lineOf cX11_lineOf 5 (some .int) ∈ gtbl := gq (by decide +kernel) (by decide +kernel)
theorem mv_RL_21 : MV RL 21 yX11_lineOf cX11_lineOf 5 (some .int) RX11 3 := ⟨⟨wm_RL_21, wi_X11_lineOf, we_X11_lineOf, wz_X11, wk_X11_lineOf⟩, rfl, by decide +kernel, by decide +kernel, by decide +kernel⟩
theorem wm_RL_25 : Cond.methodLink RL 25 yX11_house ∈ gtbl := gq (by decide +kernel) (by decide +kernel)
theorem wi_X11_house : Cond.instanceMethod yX11_house ∈ gtbl := gq (by decide +kernel) (by decide +kernel)
theorem we_X11_house : Cond.selects RX11 yX11_house yX11_house ∈ gtbl := gq (by decide +kernel) (by decide +kernel)
theorem wk_X11_house : Cond.code yX11_house cX11_house 3 (some .int) ∈ gtbl := gq (by decide +kernel) (by decide +kernel)
theorem mv_RL_25 : MV RL 25 yX11_house cX11_house 3 (some .int) RX11 2 := ⟨⟨wm_RL_25, wi_X11_house, we_X11_house, wz_X11, wk_X11_house⟩, rfl, by decide +kernel, by decide +kernel, by decide +kernel⟩
theorem wm_RL_28 : Cond.methodLink RL 28 yX11_at ∈ gtbl := gq (by decide +kernel) (by decide +kernel)
theorem wi_X11_at : Cond.instanceMethod yX11_at ∈ gtbl := gq (by decide +kernel) (by decide +kernel)
theorem we_X11_at : Cond.selects RX11 yX11_at yX11_at ∈ gtbl := gq (by decide +kernel) (by decide +kernel)
theorem wk_X11_at : Cond.code yX11_at cX11_at 4 (some .long) ∈ gtbl := gq (by decide +kernel) (by decide +kernel)
theorem mv_RL_28 : MV RL 28 yX11_at cX11_at 4 (some .long) RX11 2 := ⟨⟨wm_RL_28, wi_X11_at, we_X11_at, wz_X11, wk_X11_at⟩, rfl, by decide +kernel, by decide +kernel, by decide +kernel⟩
def wsH (y : MethodName) (b : ByteArray) (n : Nat) (r : Option FieldType) (hh : List (Nat × Nat × Nat × Nat)) : List Cond := .codeWith y b n r hh :: gtbl
def rmH (d : Nat) : Room := { frames := d, cells := 1, slots := 6, locals := 60 * d }
def oI (r : (Int32 ⊕ Bool) × Wd) : Int32 × Wd := match r.1 with
  | .inl v => (0, wl r.2 169 0 v.toInt64)
  | .inr false => (1, r.2)
  | .inr true => (2, r.2)
def oJ (r : (Int64 ⊕ Bool) × Wd) : Int32 × Wd := match r.1 with
  | .inl v => (0, wl r.2 169 0 v)
  | .inr false => (1, r.2)
  | .inr true => (2, r.2)
def RHI (K : KT) (r : Int32) (w : Wd) : Prop := K.meth.sig.returnType = some .int ∧ K.Q = MQ K.below (va_Qi (fun (r' : Int32) (_ : Unit) => r' = r) (fun _ t => HH K.ks w t.heap) K.A) K.args K.s 1 6 K.A ∧ K.H0 = K.s.heap
def CHI (l : Launch) (y : MethodName) (b : ByteArray) (n : Nat) (hh : List (Nat × Nat × Nat × Nat)) (d : Nat) (S : KS) (av : List Value) (w : Wd) (r : Int32 × Wd) : Prop := ∀ sz : Nat, Met l y (wsH y b n (some .int) hh) (rmH d) (va_Pc (av.map (cv S.ad)) (fun U => U.heap.size = sz ∧ HH S w U.heap ∧ KK S (AA S sz) U U.heap)) (va_Qi (fun (r' : Int32) (_ : Unit) => r' = r.1) (fun _ t => HH S r.2 t.heap) (AA S sz)) 1 6 (AA S sz)
/-- a method with a table of its own, that returns -/
theorem ofWH {l : Launch} {y : MethodName} {ws ws' : List Cond} {rm : Room} {Pc : Array Value → State → Prop} {Qc : Array Value → State → Outcome → State → Prop} {mc ms : Nat} {free : Addr → Prop} {cc : ByteArray} {maxL : Nat} {ret : Option FieldType} {hh : List (Nat × Nat × Nat × Nat)}
    (hy : plainName y.cls = true) (hw : ws = Cond.codeWith y cc maxL ret hh :: ws')
    (body : ∀ p e s m args below meth c s₁, BodyLoose p l y (headSpec ws rm) cc maxL ret e s m args below meth c s₁ → c.maxLocals = maxL → c.exceptionTable.toList = tableOf hh → Pc args s →
      W p l e (headSpec ws rm).room s m args below meth c s.heap [] 0 0 (MQ below Qc args s mc ms free) (entryFrame m args maxL)) : Met l y ws rm Pc Qc mc ms free := by
  refine MetFree.of_bodyS (code := cc) (maxLocals := maxL) (ret := ret) hy ?_ ?_
  · intro args s m h hn
    obtain ⟨m9, meth, c, hn9, h1, h2, h3, h4, -, h5, h6, -⟩ := Cond.codeWith_spec (atoms_spec (ws := ws) h _ (by rw [hw]; exact List.mem_cons_self))
    cases hn.symm.trans hn9
    exact ⟨meth, c, h1, h2, h3, h4, h5, h6⟩
  · intro p e s m args below meth c s₁ B hml hP _
    have hh0 : s₁.heap = s.heap := by rw [B.state]; rfl
    have ht := vx_table (x := y) B (atoms_spec (ws := ws) B.pre _ (by rw [hw]; exact List.mem_cons_self))
    obtain ⟨t, a1, o, b1, b2, b3⟩ := body p e s m args below meth c s₁ B hml ht hP s₁ hh0 (Stand.of_body B)
    exact ⟨t, o, a1, b1, b2, b3⟩
theorem mk_entryH {l : Launch} {y : MethodName} {b : ByteArray} {n : Nat} {hh : List (Nat × Nat × Nat × Nat)} {d : Nat} {S : KS} {av : List Value} {w : Wd} {own : String} {lv : List (Option Value)} {r : Int32 × Wd} (hown : y.cls = own) (hy : plainName y.cls = true) (hI : Inj S) (m : Nat) (hlv : entL av ++ List.replicate m none = lv) (hsl : Nat.ble (lg_sl av).length n = true)
    (body : ∀ K : KT, K.l = l → K.ks = S → RHI K r.1 r.2 → (K.cells = 0 ∧ K.slots = 0 ∧ 1 ≤ K.R.cells ∧ 6 ≤ K.R.slots) → K.c.exceptionTable.toList = tableOf hh → GK K b own n d → XW K 0 lv [] w) :
    CHI l y b n hh d S av w r := by
  intro sz
  refine ofWH (cc := b) (maxL := n) (ret := some .int) hy rfl ?_
  intro p e s m' args below meth c s₁ B hml htab hv
  obtain ⟨rfl, hsz, hH, hK⟩ := hv
  have hts := atoms_spec (ws := wsH y b n (some .int) hh) B.pre
  have hown' : s.vm.findClass own = some m'.cls := hown ▸ findClass_of_methodNamed B.named
  have hsl' : (lg_sl (av.map (cv S.ad))).length ≤ n := by
    have e : (lg_sl (av.map (cv S.ad))).length = (lg_sl av).length := by
      unfold lg_sl
      rw [List.flatMap_map]
      simp only [List.length_flatMap]
      congr 1
      apply List.map_congr_left
      intro v _
      rw [cv_cat]
      split <;> rfl
    rw [e]
    exact Nat.le_of_ble_eq_true hsl
  have hl := lv_entry (av.map (cv S.ad)) hsl'
  rw [lg_entry_eq]
  let K : KT := ((p, l, e, (headSpec (wsH y b n (some .int) hh) (rmH d)).room, s, m', (av.map (cv S.ad)).toArray, below), (meth, c, MQ below (va_Qi (fun (r' : Int32) (_ : Unit) => r' = r.1) (fun _ t => HH S r.2 t.heap) (AA S sz)) (av.map (cv S.ad)).toArray s 1 6 (AA S sz), 0, 0), S, AA S sz, s.heap)
  have G : GK K b own n d := ⟨B.exec, B.bytes, hml, hown', fun w hw => hts w (List.mem_cons_of_mem _ hw), hK, hI, fun k hk => Or.inl ⟨k, hk, rfl⟩, fun q hq => Or.inr (by rw [← hsz]; exact hq), B.notSynchronized, Nat.le_refl d, Nat.le_refl (60 * d), Nat.zero_le 1, Nat.zero_le 6⟩
  refine body K rfl rfl ⟨B.returns, rfl, rfl⟩ ⟨rfl, rfl, Nat.le_refl 1, Nat.le_refl 6⟩ htab G s.heap [] _ hH va_S.rf ?_
  refine ⟨by rw [hl.1]; exact hml.symm, hl.2.1, fun i v hi => hl.2.2 (i, cv S.ad v) ?_⟩
  rw [← hlv] at hi
  have := entL_args S.ad av 0 i v (pad_get hi)
  rwa [Nat.zero_add] at this
section HLP
variable {K : KT} {cc : ByteArray} {own : String} {nL d pc : Nat} {lv : List (Option Value)} {st : List Value} {w w' : Wd}
variable {y : MethodName} {b : ByteArray} {n k d' i : Nat} {ret : Option FieldType} {C : String} {a : Nat} {As : List Value} {ci : Nat} {ds : List (Nat × Nat)} {T : u_T} {N : Nat} {ty : Nat → FieldType}
theorem xh_iret (G : GK K cc own nL d) {x : Int32} (hR : RHI K x w) (hc : K.cells ≤ 1) (hs : K.slots ≤ 6) (hd : decode cc pc = .ok (.ireturn, 1)) : XW K pc lv [.int x] w := fun H locs ls hH hS hL => by
  obtain ⟨h1, h2, h3⟩ := hR
  have hlk : K.meth.locks = false := G.2.2.2.2.2.2.2.2.2.1
  rw [h2]
  refine W.widen (k := 1) (n := 6) hc hs ?_
  exact W.zret G.1 G.2.1 h1 rfl (fun t ht hW => ⟨⟨x, (), rfl, rfl, by show HH K.ks w t.heap; rw [ht]; exact hH⟩, va_S.F (by rw [← h3]; exact hS) ht⟩) hS.2.2 hd (hlocks := hlk)
theorem g_cwX (G : GK K cc own nL d) (hM : MV own i y b n ret C k) (hd : Nat.blt d' d = true) (hn : Nat.ble n 41 = true) : CallW K.R K.s K.args own C i y b n ret (wsM y b n ret) (rmX d') 1 6 k := by
  obtain ⟨⟨m1, m2, m3, m4, m5⟩, h⟩ := hM
  have hn : n ≤ 41 := Nat.le_of_ble_eq_true hn
  have hd : d' < d := Nat.le_of_ble_eq_true hd
  obtain ⟨r1, r2, -⟩ := G.2.2.2.2.2.2.2.2.2.2
  refine cwV k G.2.2.2.2.1 (Ts := gtbl) ?_ rfl rfl rfl h ⟨by show d' + 1 ≤ _; omega, by show 8 + (n + 11) + 60 * d' ≤ _; omega⟩
  exact good_app (good_list (fun _ h => h) _ (by
    intro w hw
    rcases List.mem_cons.mp hw with rfl | hw
    · exact m1
    rcases List.mem_cons.mp hw with rfl | hw
    · exact m2
    rcases List.mem_cons.mp hw with rfl | hw
    · exact m3
    rcases List.mem_cons.mp hw with rfl | hw
    · exact m4
    · cases hw)) (good_gtbl (fun _ h => h) m5)
/-- what is owed where the callee has thrown -/
def KX {α : Type} (K : KT) (pc : Nat) (lv : List (Option Value)) (st : List Value) (o : α ⊕ Bool) (w' : Wd) : Prop :=
  ∀ E : String, ((o = .inr false ∧ E = RIAE) ∨ (o = .inr true ∧ E = RISE)) → ∀ (q9 : Nat) (ce : Cell) (H1 : Heap) (locs1 : List Loc) (ls : Array Slot), HH K.ks w' H1 → va_S K.A K.H0 H1 locs1 → LH K ls lv → H1[q9]? = some ce → ce.vm = .none → K.s.vm.findClass E = some ce.cls → vx_W K.p K.l K.e K.R K.s K.m K.args K.below K.meth K.c H1 locs1 (K.cells + 1) (K.slots + 6) K.Q (F0 K.m pc ls (st.map (cv K.ks.ad))) q9
theorem xh_virI (G : GK K cc own nL d) {o : Int32 ⊕ Bool} (hM : CTI K.l y b n ret d' K.ks (.ref a :: As) w o w') (hv : MV own i y b n ret C k) (hk : KD K.ks a (.inl (ci, ds))) (hC : CLS ci C T N ty) {st0 : List Value} (hst : st0 = As.reverse ++ .ref a :: st) (hl : As.length = k) (hdd : Nat.blt d' d = true) (hn : Nat.ble n 41 = true) (h8 : Nat.ble (st.map fun v => v.category).sum 8 = true) (hd : decode cc pc = .ok (.invokevirtual i, 3)) (hc : K.cells + 1 ≤ K.R.cells) (hs : K.slots + 6 ≤ K.R.slots) (kn : ∀ r, o = .inl r → XW (Kn K K.ks (K.cells + 1) (K.slots + 6)) (pc + 3) lv (.int r :: st) w') (kx : KX K pc lv st o w') : XW K pc lv st0 w := fun H locs ls hH hS hL => by
  subst hst
  have hA := g_inA G hS
  have h8' : (st.map fun v => v.category).sum ≤ 8 := Nat.le_of_ble_eq_true h8
  refine vx_calli (vx_runV (As := As.map (cv K.ks.ad)) (rest := st.map (cv K.ks.ad)) (b := K.ks.ad a) (g_fix G) (hM H.size) (g_cwX G hv hdd hn) ⟨pc_blind G.2.2.2.2.2.2.1, g_recv G hH hk hC, g_pre G hS hH (.ref a :: As)⟩ rfl (by rw [List.length_map]; exact hl) (hL.1.trans G.2.2.1) (by show List.map _ _ = _; simp [cv]) (lv_room (by rw [cv_cats]; exact h8')) hd ⟨hc, hs⟩) hS hA.1 hA.2 hA.1 (fun E ce q9 u t H1 locs1 ht hvm _ hB hz hk1 hS1 hce hcv hcl => ?_) (fun r u t H1 locs1 ht hvm hp hB hz hk1 hS1 => ?_)
  · exact kx E hB.1 q9 ce H1 locs1 ls (by rw [← ht]; exact hB.2) hS1 hL hce hcv hcl
  · exact kn r hp H1 locs1 ls (by rw [← ht]; exact hB) hS1 hL
theorem xh_virJ (G : GK K cc own nL d) {o : Int64 ⊕ Bool} (hM : CTJ K.l y b n ret d' K.ks (.ref a :: As) w o w') (hv : MV own i y b n ret C k) (hk : KD K.ks a (.inl (ci, ds))) (hC : CLS ci C T N ty) {st0 : List Value} (hst : st0 = As.reverse ++ .ref a :: st) (hl : As.length = k) (hdd : Nat.blt d' d = true) (hn : Nat.ble n 41 = true) (h8 : Nat.ble (st.map fun v => v.category).sum 8 = true) (hd : decode cc pc = .ok (.invokevirtual i, 3)) (hc : K.cells + 1 ≤ K.R.cells) (hs : K.slots + 6 ≤ K.R.slots) (kn : ∀ r, o = .inl r → XW (Kn K K.ks (K.cells + 1) (K.slots + 6)) (pc + 3) lv (.long r :: st) w') (kx : KX K pc lv st o w') : XW K pc lv st0 w := fun H locs ls hH hS hL => by
  subst hst
  have hA := g_inA G hS
  have h8' : (st.map fun v => v.category).sum ≤ 8 := Nat.le_of_ble_eq_true h8
  refine vx_calll (vx_runV (As := As.map (cv K.ks.ad)) (rest := st.map (cv K.ks.ad)) (b := K.ks.ad a) (g_fix G) (hM H.size) (g_cwX G hv hdd hn) ⟨pc_blind G.2.2.2.2.2.2.1, g_recv G hH hk hC, g_pre G hS hH (.ref a :: As)⟩ rfl (by rw [List.length_map]; exact hl) (hL.1.trans G.2.2.1) (by show List.map _ _ = _; simp [cv]) (lv_room (by rw [cv_cats]; exact h8')) hd ⟨hc, hs⟩) hS hA.1 hA.2 hA.1 (fun E ce q9 u t H1 locs1 ht hvm _ hB hz hk1 hS1 hce hcv hcl => ?_) (fun r u t H1 locs1 ht hvm hp hB hz hk1 hS1 => ?_)
  · exact kx E hB.1 q9 ce H1 locs1 ls (by rw [← ht]; exact hB.2) hS1 hL hce hcv hcl
  · exact kn r hp H1 locs1 ls (by rw [← ht]; exact hB) hS1 hL
theorem GK.kn (G : GK K cc own nL d) (hc : K.cells + 1 ≤ K.R.cells) (hs : K.slots + 6 ≤ K.R.slots) : GK (Kn K K.ks (K.cells + 1) (K.slots + 6)) cc own nL d := G.n rfl rfl rfl G.2.2.2.2.2.2.1 G.2.2.2.2.2.2.2.1 hc hs
/-- a handler: the cell is put away, a number comes back -/
theorem xh_hand (G : GK K cc own nL d) {q9 i : Nat} {x : Int32} {H1 : Heap} {locs1 : List Loc} {ls : Array Slot} (hR : RHI K x w) (hc0 : K.cells = 0) (hs0 : K.slots = 0) (hcR : 1 ≤ K.R.cells) (hsR : 6 ≤ K.R.slots) (hH : HH K.ks w H1) (hS : va_S K.A K.H0 H1 locs1) (hL : LH K ls lv) (hn : Nat.blt i nL = true) {nx : Int} (hv : Int32.ofInt nx = x)
    (hd : ∃ ln, (decode cc pc = .ok (.astore i, 2) ∧ ln = 2 ∨ (∃ k : Fin 4, decode cc pc = .ok (.astore_n k, 1) ∧ (k : Nat) = i) ∧ ln = 1) ∧ decode cc (pc + ln) = .ok (.iconst nx, 1) ∧ decode cc (pc + ln + 1) = .ok (.ireturn, 1)) : W K.p K.l K.e K.R K.s K.m K.args K.below K.meth K.c H1 locs1 (K.cells + 1) (K.slots + 6) K.Q (F0 K.m pc ls [.ref q9]) := by
  have G2 := G.kn (by omega) (by omega)
  have hR2 : RHI (Kn K K.ks (K.cells + 1) (K.slots + 6)) x w := hR
  obtain ⟨ln, hd1, hd2, hd3⟩ := hd
  have kk : ∀ ls' : Array Slot, LH K ls' [] → W K.p K.l K.e K.R K.s K.m K.args K.below K.meth K.c H1 locs1 (K.cells + 1) (K.slots + 6) K.Q (F0 K.m (pc + ln) ls' []) := fun ls' hL' => by
    have h1 : XW (Kn K K.ks (K.cells + 1) (K.slots + 6)) (pc + ln) [] [] w := x_iconst G2 hd2 hv (xh_iret G2 hR2 (by show K.cells + 1 ≤ 1; omega) (by show K.slots + 6 ≤ 6; omega) hd3)
    exact h1 H1 locs1 ls' hH hS hL'
  rcases hd1 with ⟨hd1, rfl⟩ | ⟨⟨k, hd1, hk⟩, rfl⟩
  · exact lv_astore G.1 G.2.1 hd1 hL.has (by rw [G.2.2.1]; exact Nat.le_of_ble_eq_true hn) rfl (fun ls' h' => kk ls' ⟨h'.1, h'.2.1, fun i v hi => by simp at hi⟩)
  · exact lv_astore_n G.1 G.2.1 hd1 hk hL.has (by rw [G.2.2.1]; exact Nat.le_of_ble_eq_true hn) rfl (fun ls' h' => kk ls' ⟨h'.1, h'.2.1, fun i v hi => by simp at hi⟩)
theorem gCA (G : GK K cc own nL d) (M : Main K.ks) : (Cond.castable RIAE RIAE).before K.args K.s = true := va_Nw.use (excA_t _ (List.mem_of_getElem? (i := 3) rfl)) ((gX G M).2.2.1 _ (List.mem_of_getElem? (i := 3) rfl))
theorem gCS (G : GK K cc own nL d) (M : Main K.ks) : (Cond.castable RISE RISE).before K.args K.s = true := va_Nw.use (excS_t _ (List.mem_of_getElem? (i := 3) rfl)) ((gX G M).2.2.2.1 _ (List.mem_of_getElem? (i := 3) rfl))
/-- two handlers: IllegalArgumentException, IllegalStateException -/
theorem xh_two {α : Type} (G : GK K cc RL nL d) (M : Main K.ks) {o : α ⊕ Bool} {lo hi h1 h2 : Nat} (htab : K.c.exceptionTable.toList = tableOf [(lo, hi, h1, 13), (lo, hi, h2, 15)]) (hcov : lo ≤ pc ∧ pc < hi)
    (ka : o = .inr false → ∀ (q9 : Nat) (H1 : Heap) (locs1 : List Loc) (ls : Array Slot), HH K.ks w' H1 → va_S K.A K.H0 H1 locs1 → LH K ls lv → W K.p K.l K.e K.R K.s K.m K.args K.below K.meth K.c H1 locs1 (K.cells + 1) (K.slots + 6) K.Q (F0 K.m h1 ls [.ref q9]))
    (ks : o = .inr true → ∀ (q9 : Nat) (H1 : Heap) (locs1 : List Loc) (ls : Array Slot), HH K.ks w' H1 → va_S K.A K.H0 H1 locs1 → LH K ls lv → W K.p K.l K.e K.R K.s K.m K.args K.below K.meth K.c H1 locs1 (K.cells + 1) (K.slots + 6) K.Q (F0 K.m h2 ls [.ref q9])) : KX K pc lv st o w' := by
  intro E hE q9 ce H1 locs1 ls hH hS hL hce hcv hcl
  have cov : ∀ (hp ct : Nat), covers (⟨lo, hi, hp, ct⟩ : ExceptionTableEntry) pc = true := fun hp ct => by simp [covers, hcov.1, hcov.2]
  rcases hE with ⟨ho, rfl⟩ | ⟨ho, rfl⟩
  · exact vx_catch (name := RIAE) G.2.2.2.1 [] ⟨lo, hi, h1, 13⟩ [⟨lo, hi, h2, 15⟩] htab (fun z hz => by cases hz) (cov _ _) (by show (13 : Nat) ≠ 0; decide) (G.2.2.2.2.1 _ wcl_RL_13) (gCA G M) hce hcv hcl (ka ho q9 H1 locs1 ls hH hS hL)
  · refine vx_catch (name := RISE) G.2.2.2.1 [⟨lo, hi, h1, 13⟩] ⟨lo, hi, h2, 15⟩ [] htab (fun z hz => ?_) (cov _ _) (by show (15 : Nat) ≠ 0; decide) (G.2.2.2.2.1 _ wcl_RL_15) (gCS G M) hce hcv hcl (ks ho q9 H1 locs1 ls hH hS hL)
    rcases List.mem_cons.mp hz with rfl | hz
    · exact Or.inr ⟨by show (13 : Nat) ≠ 0; decide, RIAE, G.2.2.2.2.1 _ wcl_RL_13, (gX G M).2.2.2.2⟩
    · cases hz
theorem xh_one {α : Type} (G : GK K cc RL nL d) (M : Main K.ks) {o : α ⊕ Bool} {lo hi h1 : Nat} (htab : K.c.exceptionTable.toList = tableOf [(lo, hi, h1, 13)]) (hcov : lo ≤ pc ∧ pc < hi) (hno : ¬ o = .inr true)
    (ka : o = .inr false → ∀ (q9 : Nat) (H1 : Heap) (locs1 : List Loc) (ls : Array Slot), HH K.ks w' H1 → va_S K.A K.H0 H1 locs1 → LH K ls lv → W K.p K.l K.e K.R K.s K.m K.args K.below K.meth K.c H1 locs1 (K.cells + 1) (K.slots + 6) K.Q (F0 K.m h1 ls [.ref q9])) : KX K pc lv st o w' := by
  intro E hE q9 ce H1 locs1 ls hH hS hL hce hcv hcl
  have cov : ∀ (hp ct : Nat), covers (⟨lo, hi, hp, ct⟩ : ExceptionTableEntry) pc = true := fun hp ct => by simp [covers, hcov.1, hcov.2]
  rcases hE with ⟨ho, rfl⟩ | ⟨ho, rfl⟩
  · exact vx_catch (name := RIAE) G.2.2.2.1 [] ⟨lo, hi, h1, 13⟩ [] htab (fun z hz => by cases hz) (cov _ _) (by show (13 : Nat) ≠ 0; decide) (G.2.2.2.2.1 _ wcl_RL_13) (gCA G M) hce hcv hcl (ka ho q9 H1 locs1 ls hH hS hL)
  · exact absurd ho hno
end HLP
theorem level_no {v1 : Int32} {w : Wd} {r : (Int32 ⊕ Bool) × Wd} (hf : fX11_level v1 w = some r) : ¬ r.1 = .inr true := by
  unfold fX11_level at hf
  obtain ⟨b, -, hf⟩ := bnd hf
  rcases ite_or hf with ⟨-, hf⟩ | ⟨-, hf⟩
  · obtain ⟨v, -, hf⟩ := bnd hf
    cases hf
    simp
  · cases hf
    simp
theorem dL_of_0 : decode cL_of 0 = .ok (.aload_n 3, 1) := by decide +kernel
theorem dL_of_1 : decode cL_of 1 = .ok (.iconst 0, 1) := by decide +kernel
theorem dL_of_2 : decode cL_of 2 = .ok (.aload_n 0, 1) := by decide +kernel
theorem dL_of_3 : decode cL_of 3 = .ok (.iload_n 1, 1) := by decide +kernel
theorem dL_of_4 : decode cL_of 4 = .ok (.iload_n 2, 1) := by decide +kernel
theorem dL_of_5 : decode cL_of 5 = .ok (.invokevirtual 7, 3) := by decide +kernel
theorem dL_of_8 : decode cL_of 8 = .ok (.i2l, 1) := by decide +kernel
theorem dL_of_9 : decode cL_of 9 = .ok (.lastore, 1) := by decide +kernel
theorem dL_of_10 : decode cL_of 10 = .ok (.goto 11, 3) := by decide +kernel
theorem dL_of_13 : decode cL_of 13 = .ok (.astore 4, 2) := by decide +kernel
theorem dL_of_15 : decode cL_of 15 = .ok (.iconst 1, 1) := by decide +kernel
theorem dL_of_16 : decode cL_of 16 = .ok (.ireturn, 1) := by decide +kernel
theorem dL_of_17 : decode cL_of 17 = .ok (.astore 4, 2) := by decide +kernel
theorem dL_of_19 : decode cL_of 19 = .ok (.iconst 2, 1) := by decide +kernel
theorem dL_of_20 : decode cL_of 20 = .ok (.ireturn, 1) := by decide +kernel
theorem dL_of_21 : decode cL_of 21 = .ok (.iconst 0, 1) := by decide +kernel
theorem dL_of_22 : decode cL_of 22 = .ok (.ireturn, 1) := by decide +kernel
set_option maxHeartbeats 4000000 in
theorem mL_of {l : Launch} (hst : l.stackTraces = false) {S : KS} {w : Wd} (hI : Inj S) (M : Main S) (h169 : KD S 169 (.inr (1, 1, nt))) {v1 v2 : Int32} {r : (Int32 ⊕ Bool) × Wd} (hf : fX11_of v1 v2 w = some r) : CHI l yL_of cL_of 5 [(0, 10, 13, 13), (0, 10, 17, 15)] 7 S [.ref 0, .int v1, .int v2, .ref 169] w (oI r) := by
  refine mk_entryH (own := RL) rfl (by decide +kernel) hI 1 rfl rfl (fun K h1 h2 hR hc htab G => ?_)
  subst h1
  subst h2
  obtain ⟨hc0, hs0, hcR, hsR⟩ := hc
  refine x_aload_n G dL_of_0 rfl rfl ?_
  refine x_iconst G (v := 0) dL_of_1 (by decide) ?_
  refine x_aload_n G dL_of_2 rfl rfl ?_
  refine x_iload_n G dL_of_3 rfl rfl ?_
  refine x_iload_n G dL_of_4 rfl rfl ?_
  refine xh_virI G (As := [.int v1, .int v2]) (mX11_of hst hI M hf) mv_RL_7 (kd0 M) cl11 rfl rfl rfl rfl rfl dL_of_5 (by omega) (by omega) (fun x hx => ?_) ?_
  · have G2 := G.kn (by omega) (by omega)
    have hR2 : RHI (Kn K K.ks (K.cells + 1) (K.slots + 6)) 0 (wl r.2 169 0 x.toInt64) := by
      have : oI r = (0, wl r.2 169 0 x.toInt64) := by
        unfold oI
        rw [hx]
      rw [this] at hR
      exact hR
    refine x_i2l G2 dL_of_8 ?_
    refine x_last0 G2 h169 dL_of_9 (by decide) ?_
    refine x_goto G2 (tgt := 21) dL_of_10 rfl ?_
    refine x_iconst G2 (v := 0) dL_of_21 (by decide) ?_
    exact xh_iret G2 hR2 (by show K.cells + 1 ≤ 1; omega) (by show K.slots + 6 ≤ 6; omega) dL_of_22
  · exact xh_two G M htab (by omega) (fun ho q9 H1 locs1 ls hH hS hL => xh_hand G (i := 4) (x := 1) (by have : oI r = (1, r.2) := by { unfold oI; rw [ho] }; rw [this] at hR; exact hR) hc0 hs0 hcR hsR hH hS hL rfl (by decide) ⟨2, Or.inl ⟨dL_of_13, rfl⟩, dL_of_15, dL_of_16⟩) (fun ho q9 H1 locs1 ls hH hS hL => xh_hand G (i := 4) (x := 2) (by have : oI r = (2, r.2) := by { unfold oI; rw [ho] }; rw [this] at hR; exact hR) hc0 hs0 hcR hsR hH hS hL rfl (by decide) ⟨2, Or.inl ⟨dL_of_17, rfl⟩, dL_of_19, dL_of_20⟩)
theorem dL_level_0 : decode cL_level 0 = .ok (.aload_n 2, 1) := by decide +kernel
theorem dL_level_1 : decode cL_level 1 = .ok (.iconst 0, 1) := by decide +kernel
theorem dL_level_2 : decode cL_level 2 = .ok (.aload_n 0, 1) := by decide +kernel
theorem dL_level_3 : decode cL_level 3 = .ok (.iload_n 1, 1) := by decide +kernel
theorem dL_level_4 : decode cL_level 4 = .ok (.invokevirtual 17, 3) := by decide +kernel
theorem dL_level_7 : decode cL_level 7 = .ok (.i2l, 1) := by decide +kernel
theorem dL_level_8 : decode cL_level 8 = .ok (.lastore, 1) := by decide +kernel
theorem dL_level_9 : decode cL_level 9 = .ok (.goto 6, 3) := by decide +kernel
theorem dL_level_12 : decode cL_level 12 = .ok (.astore_n 3, 1) := by decide +kernel
theorem dL_level_13 : decode cL_level 13 = .ok (.iconst 1, 1) := by decide +kernel
theorem dL_level_14 : decode cL_level 14 = .ok (.ireturn, 1) := by decide +kernel
theorem dL_level_15 : decode cL_level 15 = .ok (.iconst 0, 1) := by decide +kernel
theorem dL_level_16 : decode cL_level 16 = .ok (.ireturn, 1) := by decide +kernel
set_option maxHeartbeats 4000000 in
theorem mL_level {l : Launch} (hst : l.stackTraces = false) {S : KS} {w : Wd} (hI : Inj S) (M : Main S) (h169 : KD S 169 (.inr (1, 1, nt))) {v1 : Int32} {r : (Int32 ⊕ Bool) × Wd} (hf : fX11_level v1 w = some r) : CHI l yL_level cL_level 4 [(0, 9, 12, 13)] 7 S [.ref 0, .int v1, .ref 169] w (oI r) := by
  refine mk_entryH (own := RL) rfl (by decide +kernel) hI 1 rfl rfl (fun K h1 h2 hR hc htab G => ?_)
  subst h1
  subst h2
  obtain ⟨hc0, hs0, hcR, hsR⟩ := hc
  refine x_aload_n G dL_level_0 rfl rfl ?_
  refine x_iconst G (v := 0) dL_level_1 (by decide) ?_
  refine x_aload_n G dL_level_2 rfl rfl ?_
  refine x_iload_n G dL_level_3 rfl rfl ?_
  refine xh_virI G (As := [.int v1]) (mX11_level hst hI M hf) mv_RL_17 (kd0 M) cl11 rfl rfl rfl rfl rfl dL_level_4 (by omega) (by omega) (fun x hx => ?_) ?_
  · have G2 := G.kn (by omega) (by omega)
    have hR2 : RHI (Kn K K.ks (K.cells + 1) (K.slots + 6)) 0 (wl r.2 169 0 x.toInt64) := by
      have : oI r = (0, wl r.2 169 0 x.toInt64) := by
        unfold oI
        rw [hx]
      rw [this] at hR
      exact hR
    refine x_i2l G2 dL_level_7 ?_
    refine x_last0 G2 h169 dL_level_8 (by decide) ?_
    refine x_goto G2 (tgt := 15) dL_level_9 rfl ?_
    refine x_iconst G2 (v := 0) dL_level_15 (by decide) ?_
    exact xh_iret G2 hR2 (by show K.cells + 1 ≤ 1; omega) (by show K.slots + 6 ≤ 6; omega) dL_level_16
  · exact xh_one G M htab (by omega) (level_no hf) (fun ho q9 H1 locs1 ls hH hS hL => xh_hand G (i := 3) (x := 1) (by have : oI r = (1, r.2) := by { unfold oI; rw [ho] }; rw [this] at hR; exact hR) hc0 hs0 hcR hsR hH hS hL rfl (by decide) ⟨1, Or.inr ⟨⟨3, dL_level_12, rfl⟩, rfl⟩, dL_level_13, dL_level_14⟩)
theorem dL_lineOf_0 : decode cL_lineOf 0 = .ok (.aload 4, 2) := by decide +kernel
theorem dL_lineOf_2 : decode cL_lineOf 2 = .ok (.iconst 0, 1) := by decide +kernel
theorem dL_lineOf_3 : decode cL_lineOf 3 = .ok (.aload_n 0, 1) := by decide +kernel
theorem dL_lineOf_4 : decode cL_lineOf 4 = .ok (.iload_n 1, 1) := by decide +kernel
theorem dL_lineOf_5 : decode cL_lineOf 5 = .ok (.iload_n 2, 1) := by decide +kernel
theorem dL_lineOf_6 : decode cL_lineOf 6 = .ok (.iload_n 3, 1) := by decide +kernel
theorem dL_lineOf_7 : decode cL_lineOf 7 = .ok (.invokevirtual 21, 3) := by decide +kernel
theorem dL_lineOf_10 : decode cL_lineOf 10 = .ok (.i2l, 1) := by decide +kernel
theorem dL_lineOf_11 : decode cL_lineOf 11 = .ok (.lastore, 1) := by decide +kernel
theorem dL_lineOf_12 : decode cL_lineOf 12 = .ok (.goto 11, 3) := by decide +kernel
theorem dL_lineOf_15 : decode cL_lineOf 15 = .ok (.astore 5, 2) := by decide +kernel
theorem dL_lineOf_17 : decode cL_lineOf 17 = .ok (.iconst 1, 1) := by decide +kernel
theorem dL_lineOf_18 : decode cL_lineOf 18 = .ok (.ireturn, 1) := by decide +kernel
theorem dL_lineOf_19 : decode cL_lineOf 19 = .ok (.astore 5, 2) := by decide +kernel
theorem dL_lineOf_21 : decode cL_lineOf 21 = .ok (.iconst 2, 1) := by decide +kernel
theorem dL_lineOf_22 : decode cL_lineOf 22 = .ok (.ireturn, 1) := by decide +kernel
theorem dL_lineOf_23 : decode cL_lineOf 23 = .ok (.iconst 0, 1) := by decide +kernel
theorem dL_lineOf_24 : decode cL_lineOf 24 = .ok (.ireturn, 1) := by decide +kernel
set_option maxHeartbeats 4000000 in
theorem mL_lineOf {l : Launch} (hst : l.stackTraces = false) {S : KS} {w : Wd} (hI : Inj S) (M : Main S) (h169 : KD S 169 (.inr (1, 1, nt))) {v1 v2 v3 : Int32} {r : (Int32 ⊕ Bool) × Wd} (hf : fX11_lineOf v1 v2 v3 w = some r) : CHI l yL_lineOf cL_lineOf 6 [(0, 12, 15, 13), (0, 12, 19, 15)] 7 S [.ref 0, .int v1, .int v2, .int v3, .ref 169] w (oI r) := by
  refine mk_entryH (own := RL) rfl (by decide +kernel) hI 1 rfl rfl (fun K h1 h2 hR hc htab G => ?_)
  subst h1
  subst h2
  obtain ⟨hc0, hs0, hcR, hsR⟩ := hc
  refine x_aload G dL_lineOf_0 rfl ?_
  refine x_iconst G (v := 0) dL_lineOf_2 (by decide) ?_
  refine x_aload_n G dL_lineOf_3 rfl rfl ?_
  refine x_iload_n G dL_lineOf_4 rfl rfl ?_
  refine x_iload_n G dL_lineOf_5 rfl rfl ?_
  refine x_iload_n G dL_lineOf_6 rfl rfl ?_
  refine xh_virI G (As := [.int v1, .int v2, .int v3]) (mX11_lineOf hst hI M hf) mv_RL_21 (kd0 M) cl11 rfl rfl rfl rfl rfl dL_lineOf_7 (by omega) (by omega) (fun x hx => ?_) ?_
  · have G2 := G.kn (by omega) (by omega)
    have hR2 : RHI (Kn K K.ks (K.cells + 1) (K.slots + 6)) 0 (wl r.2 169 0 x.toInt64) := by
      have : oI r = (0, wl r.2 169 0 x.toInt64) := by
        unfold oI
        rw [hx]
      rw [this] at hR
      exact hR
    refine x_i2l G2 dL_lineOf_10 ?_
    refine x_last0 G2 h169 dL_lineOf_11 (by decide) ?_
    refine x_goto G2 (tgt := 23) dL_lineOf_12 rfl ?_
    refine x_iconst G2 (v := 0) dL_lineOf_23 (by decide) ?_
    exact xh_iret G2 hR2 (by show K.cells + 1 ≤ 1; omega) (by show K.slots + 6 ≤ 6; omega) dL_lineOf_24
  · exact xh_two G M htab (by omega) (fun ho q9 H1 locs1 ls hH hS hL => xh_hand G (i := 5) (x := 1) (by have : oI r = (1, r.2) := by { unfold oI; rw [ho] }; rw [this] at hR; exact hR) hc0 hs0 hcR hsR hH hS hL rfl (by decide) ⟨2, Or.inl ⟨dL_lineOf_15, rfl⟩, dL_lineOf_17, dL_lineOf_18⟩) (fun ho q9 H1 locs1 ls hH hS hL => xh_hand G (i := 5) (x := 2) (by have : oI r = (2, r.2) := by { unfold oI; rw [ho] }; rw [this] at hR; exact hR) hc0 hs0 hcR hsR hH hS hL rfl (by decide) ⟨2, Or.inl ⟨dL_lineOf_19, rfl⟩, dL_lineOf_21, dL_lineOf_22⟩)
theorem dL_house_0 : decode cL_house 0 = .ok (.aload_n 3, 1) := by decide +kernel
theorem dL_house_1 : decode cL_house 1 = .ok (.iconst 0, 1) := by decide +kernel
theorem dL_house_2 : decode cL_house 2 = .ok (.aload_n 0, 1) := by decide +kernel
theorem dL_house_3 : decode cL_house 3 = .ok (.iload_n 1, 1) := by decide +kernel
theorem dL_house_4 : decode cL_house 4 = .ok (.iload_n 2, 1) := by decide +kernel
theorem dL_house_5 : decode cL_house 5 = .ok (.invokevirtual 25, 3) := by decide +kernel
theorem dL_house_8 : decode cL_house 8 = .ok (.i2l, 1) := by decide +kernel
theorem dL_house_9 : decode cL_house 9 = .ok (.lastore, 1) := by decide +kernel
theorem dL_house_10 : decode cL_house 10 = .ok (.goto 11, 3) := by decide +kernel
theorem dL_house_13 : decode cL_house 13 = .ok (.astore 4, 2) := by decide +kernel
theorem dL_house_15 : decode cL_house 15 = .ok (.iconst 1, 1) := by decide +kernel
theorem dL_house_16 : decode cL_house 16 = .ok (.ireturn, 1) := by decide +kernel
theorem dL_house_17 : decode cL_house 17 = .ok (.astore 4, 2) := by decide +kernel
theorem dL_house_19 : decode cL_house 19 = .ok (.iconst 2, 1) := by decide +kernel
theorem dL_house_20 : decode cL_house 20 = .ok (.ireturn, 1) := by decide +kernel
theorem dL_house_21 : decode cL_house 21 = .ok (.iconst 0, 1) := by decide +kernel
theorem dL_house_22 : decode cL_house 22 = .ok (.ireturn, 1) := by decide +kernel
set_option maxHeartbeats 4000000 in
theorem mL_house {l : Launch} (hst : l.stackTraces = false) {S : KS} {w : Wd} (hI : Inj S) (M : Main S) (h169 : KD S 169 (.inr (1, 1, nt))) {v1 v2 : Int32} {r : (Int32 ⊕ Bool) × Wd} (hf : fX11_house v1 v2 w = some r) : CHI l yL_house cL_house 5 [(0, 10, 13, 13), (0, 10, 17, 15)] 7 S [.ref 0, .int v1, .int v2, .ref 169] w (oI r) := by
  refine mk_entryH (own := RL) rfl (by decide +kernel) hI 1 rfl rfl (fun K h1 h2 hR hc htab G => ?_)
  subst h1
  subst h2
  obtain ⟨hc0, hs0, hcR, hsR⟩ := hc
  refine x_aload_n G dL_house_0 rfl rfl ?_
  refine x_iconst G (v := 0) dL_house_1 (by decide) ?_
  refine x_aload_n G dL_house_2 rfl rfl ?_
  refine x_iload_n G dL_house_3 rfl rfl ?_
  refine x_iload_n G dL_house_4 rfl rfl ?_
  refine xh_virI G (As := [.int v1, .int v2]) (mX11_house hst hI M hf) mv_RL_25 (kd0 M) cl11 rfl rfl rfl rfl rfl dL_house_5 (by omega) (by omega) (fun x hx => ?_) ?_
  · have G2 := G.kn (by omega) (by omega)
    have hR2 : RHI (Kn K K.ks (K.cells + 1) (K.slots + 6)) 0 (wl r.2 169 0 x.toInt64) := by
      have : oI r = (0, wl r.2 169 0 x.toInt64) := by
        unfold oI
        rw [hx]
      rw [this] at hR
      exact hR
    refine x_i2l G2 dL_house_8 ?_
    refine x_last0 G2 h169 dL_house_9 (by decide) ?_
    refine x_goto G2 (tgt := 21) dL_house_10 rfl ?_
    refine x_iconst G2 (v := 0) dL_house_21 (by decide) ?_
    exact xh_iret G2 hR2 (by show K.cells + 1 ≤ 1; omega) (by show K.slots + 6 ≤ 6; omega) dL_house_22
  · exact xh_two G M htab (by omega) (fun ho q9 H1 locs1 ls hH hS hL => xh_hand G (i := 4) (x := 1) (by have : oI r = (1, r.2) := by { unfold oI; rw [ho] }; rw [this] at hR; exact hR) hc0 hs0 hcR hsR hH hS hL rfl (by decide) ⟨2, Or.inl ⟨dL_house_13, rfl⟩, dL_house_15, dL_house_16⟩) (fun ho q9 H1 locs1 ls hH hS hL => xh_hand G (i := 4) (x := 2) (by have : oI r = (2, r.2) := by { unfold oI; rw [ho] }; rw [this] at hR; exact hR) hc0 hs0 hcR hsR hH hS hL rfl (by decide) ⟨2, Or.inl ⟨dL_house_17, rfl⟩, dL_house_19, dL_house_20⟩)
theorem dL_at_0 : decode cL_at 0 = .ok (.aload_n 3, 1) := by decide +kernel
theorem dL_at_1 : decode cL_at 1 = .ok (.iconst 0, 1) := by decide +kernel
theorem dL_at_2 : decode cL_at 2 = .ok (.aload_n 0, 1) := by decide +kernel
theorem dL_at_3 : decode cL_at 3 = .ok (.iload_n 1, 1) := by decide +kernel
theorem dL_at_4 : decode cL_at 4 = .ok (.iload_n 2, 1) := by decide +kernel
theorem dL_at_5 : decode cL_at 5 = .ok (.invokevirtual 28, 3) := by decide +kernel
theorem dL_at_8 : decode cL_at 8 = .ok (.lastore, 1) := by decide +kernel
theorem dL_at_9 : decode cL_at 9 = .ok (.goto 11, 3) := by decide +kernel
theorem dL_at_12 : decode cL_at 12 = .ok (.astore 4, 2) := by decide +kernel
theorem dL_at_14 : decode cL_at 14 = .ok (.iconst 1, 1) := by decide +kernel
theorem dL_at_15 : decode cL_at 15 = .ok (.ireturn, 1) := by decide +kernel
theorem dL_at_16 : decode cL_at 16 = .ok (.astore 4, 2) := by decide +kernel
theorem dL_at_18 : decode cL_at 18 = .ok (.iconst 2, 1) := by decide +kernel
theorem dL_at_19 : decode cL_at 19 = .ok (.ireturn, 1) := by decide +kernel
theorem dL_at_20 : decode cL_at 20 = .ok (.iconst 0, 1) := by decide +kernel
theorem dL_at_21 : decode cL_at 21 = .ok (.ireturn, 1) := by decide +kernel
set_option maxHeartbeats 4000000 in
theorem mL_at {l : Launch} (hst : l.stackTraces = false) {S : KS} {w : Wd} (hI : Inj S) (M : Main S) (h169 : KD S 169 (.inr (1, 1, nt))) {v1 v2 : Int32} {r : (Int64 ⊕ Bool) × Wd} (hf : fX11_at v1 v2 w = some r) : CHI l yL_at cL_at 5 [(0, 9, 12, 13), (0, 9, 16, 15)] 7 S [.ref 0, .int v1, .int v2, .ref 169] w (oJ r) := by
  refine mk_entryH (own := RL) rfl (by decide +kernel) hI 1 rfl rfl (fun K h1 h2 hR hc htab G => ?_)
  subst h1
  subst h2
  obtain ⟨hc0, hs0, hcR, hsR⟩ := hc
  refine x_aload_n G dL_at_0 rfl rfl ?_
  refine x_iconst G (v := 0) dL_at_1 (by decide) ?_
  refine x_aload_n G dL_at_2 rfl rfl ?_
  refine x_iload_n G dL_at_3 rfl rfl ?_
  refine x_iload_n G dL_at_4 rfl rfl ?_
  refine xh_virJ G (As := [.int v1, .int v2]) (mX11_at hst hI M hf) mv_RL_28 (kd0 M) cl11 rfl rfl rfl rfl rfl dL_at_5 (by omega) (by omega) (fun x hx => ?_) ?_
  · have G2 := G.kn (by omega) (by omega)
    have hR2 : RHI (Kn K K.ks (K.cells + 1) (K.slots + 6)) 0 (wl r.2 169 0 x) := by
      have : oJ r = (0, wl r.2 169 0 x) := by
        unfold oJ
        rw [hx]
      rw [this] at hR
      exact hR
    refine x_last0 G2 h169 dL_at_8 (by decide) ?_
    refine x_goto G2 (tgt := 20) dL_at_9 rfl ?_
    refine x_iconst G2 (v := 0) dL_at_20 (by decide) ?_
    exact xh_iret G2 hR2 (by show K.cells + 1 ≤ 1; omega) (by show K.slots + 6 ≤ 6; omega) dL_at_21
  · exact xh_two G M htab (by omega) (fun ho q9 H1 locs1 ls hH hS hL => xh_hand G (i := 4) (x := 1) (by have : oJ r = (1, r.2) := by { unfold oJ; rw [ho] }; rw [this] at hR; exact hR) hc0 hs0 hcR hsR hH hS hL rfl (by decide) ⟨2, Or.inl ⟨dL_at_12, rfl⟩, dL_at_14, dL_at_15⟩) (fun ho q9 H1 locs1 ls hH hS hL => xh_hand G (i := 4) (x := 2) (by have : oJ r = (2, r.2) := by { unfold oJ; rw [ho] }; rw [this] at hR; exact hR) hc0 hs0 hcR hsR hH hS hL rfl (by decide) ⟨2, Or.inl ⟨dL_at_16, rfl⟩, dL_at_18, dL_at_19⟩)

