-- methods that return or throw
theorem va_at_lt {D : va_G} {cl : List vw_C} {q : Nat × va_E} {H : Heap} (h : va_at D cl q H) : q.1 < H.size := by
  obtain ⟨a, e⟩ := q
  rcases e with e | e
  · exact (Array.getElem?_eq_some_iff.mp h).1
  · obtain ⟨r, -, cell, h1, -⟩ := h
    exact (Array.getElem?_eq_some_iff.mp h1).1
theorem HH.grown {S : KS} {w : Wd} {H H1 : Heap} (h : HH S w H) (h1 : ∀ q : Nat, q < H.size → H1[q]? = H[q]?) : HH S w H1 := fun k hk => (h k hk).kept (h1 _ (va_at_lt (h k hk)))
def rmX (d : Nat) : Room := { frames := d, cells := 1, slots := 6, locals := 60 * d }
def XE {α : Type} (S : KS) (o : α ⊕ Bool) (w : Wd) (A : Nat → Prop) : String → State → State → Prop := vx_X (fun _ : Unit => True) (fun E _ t => ((o = .inr false ∧ E = RIAE) ∨ (o = .inr true ∧ E = RISE)) ∧ HH S w t.heap) A
def CTI (l : Launch) (y : MethodName) (b : ByteArray) (n : Nat) (ret : Option FieldType) (d : Nat) (S : KS) (av : List Value) (w : Wd) (o : Int32 ⊕ Bool) (w' : Wd) : Prop := ∀ sz : Nat, vx_Met l y (wsM y b n ret) (rmX d) (va_Pc (av.map (cv S.ad)) (fun U => U.heap.size = sz ∧ HH S w U.heap ∧ KK S (AA S sz) U U.heap)) (va_Qi (fun (r' : Int32) (_ : Unit) => o = .inl r') (fun _ t => HH S w' t.heap) (AA S sz)) (XE S o w' (AA S sz)) 1 6 (AA S sz)
def CTJ (l : Launch) (y : MethodName) (b : ByteArray) (n : Nat) (ret : Option FieldType) (d : Nat) (S : KS) (av : List Value) (w : Wd) (o : Int64 ⊕ Bool) (w' : Wd) : Prop := ∀ sz : Nat, vx_Met l y (wsM y b n ret) (rmX d) (va_Pc (av.map (cv S.ad)) (fun U => U.heap.size = sz ∧ HH S w U.heap ∧ KK S (AA S sz) U U.heap)) (va_Ql (fun (r' : Int64) (_ : Unit) => o = .inl r') (fun _ t => HH S w' t.heap) (AA S sz)) (XE S o w' (AA S sz)) 1 6 (AA S sz)
def RTX {α : Type} (K : KT) (o : α ⊕ Bool) (w : Wd) (Qc : Array Value → State → Outcome → State → Prop) (rt : FieldType) : Prop := K.meth.sig.returnType = some rt ∧ K.Q = vx_MQ K.below Qc (XE K.ks o w K.A) K.args K.s 1 6 K.A ∧ K.H0 = K.s.heap ∧ (K.cells = 0 ∧ K.slots = 0 ∧ 1 ≤ K.R.cells ∧ 6 ≤ K.R.slots) ∧ (∀ x ∈ K.c.exceptionTable.toList, False) ∧ K.l.stackTraces = false
def RTI (K : KT) (o : Int32 ⊕ Bool) (w : Wd) : Prop := RTX K o w (va_Qi (fun (r' : Int32) (_ : Unit) => o = .inl r') (fun _ t => HH K.ks w t.heap) K.A) .int
def RTJ (K : KT) (o : Int64 ⊕ Bool) (w : Wd) : Prop := RTX K o w (va_Ql (fun (r' : Int64) (_ : Unit) => o = .inl r') (fun _ t => HH K.ks w t.heap) K.A) .long
section THR
variable {K : KT} {cc : ByteArray} {own : String} {nL d pc i : Nat} {lv : List (Option Value)} {st : List Value} {w : Wd}
theorem xt_iret (G : GK K cc own nL d) {x : Int32} {r : (Int32 ⊕ Bool) × Wd} (hf : some (Sum.inl x, w) = some r) (hR : RTI K r.1 r.2) (hd : decode cc pc = .ok (.ireturn, 1)) : XW K pc lv [.int x] w := fun H locs ls hH hS hL => by
  cases hf
  obtain ⟨h1, h2, h3, ⟨c1, c2, c3, c4⟩, -⟩ := hR
  have hlk : K.meth.locks = false := G.2.2.2.2.2.2.2.2.2.1
  rw [h2]
  refine vx_ret (W.widen (k := 1) (n := 6) (by omega) (by omega) ?_)
  exact W.zret G.1 G.2.1 h1 rfl (fun t ht hW => ⟨⟨x, (), rfl, rfl, by show HH K.ks w t.heap; rw [ht]; exact hH⟩, va_S.F (by rw [← h3]; exact hS) ht⟩) hS.2.2 hd (hlocks := hlk)
theorem xt_lret (G : GK K cc own nL d) {x : Int64} {r : (Int64 ⊕ Bool) × Wd} (hf : some (Sum.inl x, w) = some r) (hR : RTJ K r.1 r.2) (hd : decode cc pc = .ok (.lreturn, 1)) : XW K pc lv [.long x] w := fun H locs ls hH hS hL => by
  cases hf
  obtain ⟨h1, h2, h3, ⟨c1, c2, c3, c4⟩, -⟩ := hR
  have hlk : K.meth.locks = false := G.2.2.2.2.2.2.2.2.2.1
  rw [h2]
  refine vx_ret (W.widen (k := 1) (n := 6) (by omega) (by omega) ?_)
  exact W.lret G.1 G.2.1 h1 (fun t ht hW => ⟨⟨x, (), rfl, rfl, by show HH K.ks w t.heap; rw [ht]; exact hH⟩, va_S.F (by rw [← h3]; exact hS) ht⟩) hS.2.2 hd (hlocks := hlk)
theorem excA_t : ∀ w ∈ excB RIAE, w.onTables = true := by decide +kernel
theorem excS_t : ∀ w ∈ excB RISE, w.onTables = true := by decide +kernel
theorem excA_all (G : GK K cc own nL d) (M : Main K.ks) : ∀ w ∈ excW 100 104 RIAE, w.before K.args K.s = true := vx_hat (L := excW 100 104 RIAE) (B := excB RIAE) (fun w hw => G.2.2.2.2.1 _ (excA_g w hw)) excA_b (fun w hw => va_Nw.use (excA_t w hw) ((gX G M).2.2.1 w hw))
theorem excS_all (G : GK K cc own nL d) (M : Main K.ks) : ∀ w ∈ excW 107 111 RISE, w.before K.args K.s = true := vx_hat (L := excW 107 111 RISE) (B := excB RISE) (fun w hw => G.2.2.2.2.1 _ (excS_g w hw)) excS_b (fun w hw => va_Nw.use (excS_t w hw) ((gX G M).2.2.2.1 w hw))
section
variable {α : Type} {o : α ⊕ Bool} {r : (α ⊕ Bool) × Wd} {Qc : Array Value → State → Outcome → State → Prop} {rt : FieldType}
theorem xt_out (hR : RTX K o w Qc rt) (e : String) (he : (o = .inr false ∧ e = RIAE) ∨ (o = .inr true ∧ e = RISE)) {H : Heap} {locs : List Loc} (hH : HH K.ks w H) (hS : va_S K.A K.s.heap H locs) : ∀ t : State, K.s.vm.Alike t.vm → H.size ≤ t.heap.size → (∀ q : Nat, q < H.size → t.heap[q]? = H[q]?) → XE K.ks o w K.A e K.s t := fun t _ h1 h2 =>
  ⟨(), trivial, ⟨he, hH.grown h2⟩, Nat.le_trans hS.1 h1, fun q hq hA => (h2 q (Nat.lt_of_lt_of_le hq hS.1)).trans (hS.2.1 q hq hA)⟩
theorem xt_thA (G : GK K cc RX11 nL d) (M : Main K.ks) {is : Nat} {text : String} (hf : some (Sum.inr false, w) = some r) (hR : RTX K r.1 r.2 Qc rt) (hq : (is, text) ∈ excT) (hdd : Nat.blt 5 d = true) (h8 : Nat.ble (st.map fun v => v.category).sum 8 = true) (d0 : decode cc pc = .ok (.new 100, 3)) (d3 : decode cc (pc + 3) = .ok (.dup, 1)) (d4 : decode cc (pc + 4) = .ok (.ldc is, 2)) (d6 : decode cc (pc + 6) = .ok (.invokespecial 104, 3)) (d9 : decode cc (pc + 9) = .ok (.athrow, 1)) : XW K pc lv st w := fun H locs ls hH hS hL => by
  cases hf
  have hdd : 5 < d := Nat.le_of_ble_eq_true hdd
  have h8 : ((st.map (cv K.ks.ad)).map fun v => v.category).sum ≤ 8 := by rw [cv_cats]; exact Nat.le_of_ble_eq_true h8
  have hX := gX G M
  have hall := excA_all G M
  have hx := xt_out hR RIAE (Or.inl ⟨rfl, rfl⟩) hH (gS G hS)
  obtain ⟨h1, h2, h3, ⟨c1, c2, c3, c4⟩, h5, h6⟩ := hR
  obtain ⟨sa, hsa⟩ := hX.2.1.1 _ hq
  obtain ⟨r1, r2, -⟩ := G.2.2.2.2.2.2.2.2.2.2
  rw [h2]
  exact vx_throwS G.1 G.2.1 h6 G.2.2.2.1 (cls := RIAE) (names := excN) (ik := 100) (ic := 104) (by decide +kernel) (by decide +kernel) (hall _ List.mem_cons_self) (hall _ (List.mem_cons_of_mem _ List.mem_cons_self)) hsa (fun w hw => hall w (List.mem_cons_of_mem _ (List.mem_cons_of_mem _ hw))) excA_o hX.2.1.2.1 hX.2.1.2.2 (gS G hS) hL.1 d0 d3 d4 d6 d9 (fun x hx => (h5 x hx).elim) (by show 2 + 3 < _; omega) (by show _ + (13 * (2 + 1) + 43) ≤ _; omega) (by omega) (by omega) G.2.2.2.2.2.2.2.2.2.1 hx hS.2.2 (by omega) (by omega)
theorem xt_thS (G : GK K cc RX11 nL d) (M : Main K.ks) {is : Nat} {text : String} (hf : some (Sum.inr true, w) = some r) (hR : RTX K r.1 r.2 Qc rt) (hq : (is, text) ∈ excT) (hdd : Nat.blt 5 d = true) (h8 : Nat.ble (st.map fun v => v.category).sum 8 = true) (d0 : decode cc pc = .ok (.new 107, 3)) (d3 : decode cc (pc + 3) = .ok (.dup, 1)) (d4 : decode cc (pc + 4) = .ok (.ldc is, 2)) (d6 : decode cc (pc + 6) = .ok (.invokespecial 111, 3)) (d9 : decode cc (pc + 9) = .ok (.athrow, 1)) : XW K pc lv st w := fun H locs ls hH hS hL => by
  cases hf
  have hdd : 5 < d := Nat.le_of_ble_eq_true hdd
  have h8 : ((st.map (cv K.ks.ad)).map fun v => v.category).sum ≤ 8 := by rw [cv_cats]; exact Nat.le_of_ble_eq_true h8
  have hX := gX G M
  have hall := excS_all G M
  have hx := xt_out hR RISE (Or.inr ⟨rfl, rfl⟩) hH (gS G hS)
  obtain ⟨h1, h2, h3, ⟨c1, c2, c3, c4⟩, h5, h6⟩ := hR
  obtain ⟨sa, hsa⟩ := hX.2.1.1 _ hq
  obtain ⟨r1, r2, -⟩ := G.2.2.2.2.2.2.2.2.2.2
  rw [h2]
  exact vx_throwS G.1 G.2.1 h6 G.2.2.2.1 (cls := RISE) (names := excN) (ik := 107) (ic := 111) (by decide +kernel) (by decide +kernel) (hall _ List.mem_cons_self) (hall _ (List.mem_cons_of_mem _ List.mem_cons_self)) hsa (fun w hw => hall w (List.mem_cons_of_mem _ (List.mem_cons_of_mem _ hw))) excS_o hX.2.1.2.1 hX.2.1.2.2 (gS G hS) hL.1 d0 d3 d4 d6 d9 (fun x hx => (h5 x hx).elim) (by show 2 + 3 < _; omega) (by show _ + (13 * (2 + 1) + 43) ≤ _; omega) (by omega) (by omega) G.2.2.2.2.2.2.2.2.2.1 hx hS.2.2 (by omega) (by omega)
theorem xt_thAW (G : GK K cc RX11 nL d) (M : Main K.ks) {is : Nat} {text : String} (hf : some (Sum.inr false, w) = some r) (hR : RTX K r.1 r.2 Qc rt) (hq : (is, text) ∈ excT) (hdd : Nat.blt 5 d = true) (h8 : Nat.ble (st.map fun v => v.category).sum 8 = true) (d0 : decode cc pc = .ok (.new 100, 3)) (d3 : decode cc (pc + 3) = .ok (.dup, 1)) (d4 : decode cc (pc + 4) = .ok (.ldc_w is, 3)) (d6 : decode cc (pc + 7) = .ok (.invokespecial 104, 3)) (d9 : decode cc (pc + 10) = .ok (.athrow, 1)) : XW K pc lv st w := fun H locs ls hH hS hL => by
  cases hf
  have hdd : 5 < d := Nat.le_of_ble_eq_true hdd
  have h8 : ((st.map (cv K.ks.ad)).map fun v => v.category).sum ≤ 8 := by rw [cv_cats]; exact Nat.le_of_ble_eq_true h8
  have hX := gX G M
  have hall := excA_all G M
  have hx := xt_out hR RIAE (Or.inl ⟨rfl, rfl⟩) hH (gS G hS)
  obtain ⟨h1, h2, h3, ⟨c1, c2, c3, c4⟩, h5, h6⟩ := hR
  obtain ⟨sa, hsa⟩ := hX.2.1.1 _ hq
  obtain ⟨r1, r2, -⟩ := G.2.2.2.2.2.2.2.2.2.2
  rw [h2]
  exact vx_throwSW G.1 G.2.1 h6 G.2.2.2.1 (cls := RIAE) (names := excN) (ik := 100) (ic := 104) (by decide +kernel) (by decide +kernel) (hall _ List.mem_cons_self) (hall _ (List.mem_cons_of_mem _ List.mem_cons_self)) hsa (fun w hw => hall w (List.mem_cons_of_mem _ (List.mem_cons_of_mem _ hw))) excA_o hX.2.1.2.1 hX.2.1.2.2 (gS G hS) hL.1 d0 d3 d4 d6 d9 (fun x hx => (h5 x hx).elim) (by show 2 + 3 < _; omega) (by show _ + (13 * (2 + 1) + 43) ≤ _; omega) (by omega) (by omega) G.2.2.2.2.2.2.2.2.2.1 hx hS.2.2 (by omega) (by omega)
theorem xt_thSW (G : GK K cc RX11 nL d) (M : Main K.ks) {is : Nat} {text : String} (hf : some (Sum.inr true, w) = some r) (hR : RTX K r.1 r.2 Qc rt) (hq : (is, text) ∈ excT) (hdd : Nat.blt 5 d = true) (h8 : Nat.ble (st.map fun v => v.category).sum 8 = true) (d0 : decode cc pc = .ok (.new 107, 3)) (d3 : decode cc (pc + 3) = .ok (.dup, 1)) (d4 : decode cc (pc + 4) = .ok (.ldc_w is, 3)) (d6 : decode cc (pc + 7) = .ok (.invokespecial 111, 3)) (d9 : decode cc (pc + 10) = .ok (.athrow, 1)) : XW K pc lv st w := fun H locs ls hH hS hL => by
  cases hf
  have hdd : 5 < d := Nat.le_of_ble_eq_true hdd
  have h8 : ((st.map (cv K.ks.ad)).map fun v => v.category).sum ≤ 8 := by rw [cv_cats]; exact Nat.le_of_ble_eq_true h8
  have hX := gX G M
  have hall := excS_all G M
  have hx := xt_out hR RISE (Or.inr ⟨rfl, rfl⟩) hH (gS G hS)
  obtain ⟨h1, h2, h3, ⟨c1, c2, c3, c4⟩, h5, h6⟩ := hR
  obtain ⟨sa, hsa⟩ := hX.2.1.1 _ hq
  obtain ⟨r1, r2, -⟩ := G.2.2.2.2.2.2.2.2.2.2
  rw [h2]
  exact vx_throwSW G.1 G.2.1 h6 G.2.2.2.1 (cls := RISE) (names := excN) (ik := 107) (ic := 111) (by decide +kernel) (by decide +kernel) (hall _ List.mem_cons_self) (hall _ (List.mem_cons_of_mem _ List.mem_cons_self)) hsa (fun w hw => hall w (List.mem_cons_of_mem _ (List.mem_cons_of_mem _ hw))) excS_o hX.2.1.2.1 hX.2.1.2.2 (gS G hS) hL.1 d0 d3 d4 d6 d9 (fun x hx => (h5 x hx).elim) (by show 2 + 3 < _; omega) (by show _ + (13 * (2 + 1) + 43) ≤ _; omega) (by omega) (by omega) G.2.2.2.2.2.2.2.2.2.1 hx hS.2.2 (by omega) (by omega)
end
end THR
theorem mk_entryT {l : Launch} {y : MethodName} {b : ByteArray} {n : Nat} {ret : Option FieldType} {d : Nat} {S : KS} {av : List Value} {w : Wd} {sz : Nat} {own : String} {lv : List (Option Value)} {Qc : Array Value → State → Outcome → State → Prop} {XC : String → State → State → Prop} (hown : y.cls = own) (hy : plainName y.cls = true) (hI : Inj S) (m : Nat) (hlv : entL av ++ List.replicate m none = lv) (hsl : Nat.ble (lg_sl av).length n = true)
    (body : ∀ K : KT, K.l = l → K.ks = S → K.meth.sig.returnType = ret → K.Q = vx_MQ K.below Qc XC K.args K.s 1 6 K.A → K.H0 = K.s.heap → K.A = AA S sz → (K.cells = 0 ∧ K.slots = 0 ∧ 1 ≤ K.R.cells ∧ 6 ≤ K.R.slots) → (∀ x ∈ K.c.exceptionTable.toList, False) → GK K b own n d → XW K 0 lv [] w) :
    vx_Met l y (wsM y b n ret) (rmX d) (va_Pc (av.map (cv S.ad)) (fun U => U.heap.size = sz ∧ HH S w U.heap ∧ KK S (AA S sz) U U.heap)) Qc XC 1 6 (AA S sz) := by
  refine vx_ofW (cc := b) (maxL := n) (ret := ret) hy rfl ?_
  intro p e s m' args below meth c s₁ B hml htab hv
  obtain ⟨rfl, hsz, hH, hK⟩ := hv
  have hts := atoms_spec (ws := wsM y b n ret) B.pre
  have hown' : s.vm.findClass own = some m'.cls := hown ▸ findClass_of_methodNamed B.named
  have hsl' : (lg_sl (av.map (cv S.ad))).length ≤ n := by
    have e : (lg_sl (av.map (cv S.ad))).length = (lg_sl av).length := by
      unfold lg_sl
      rw [List.flatMap_map]
      simp only [List.length_flatMap]
      congr 1
      apply List.map_congr_left
      intro v _
      rw [cv_cat]
      split <;> rfl
    rw [e]
    exact Nat.le_of_ble_eq_true hsl
  have hl := lv_entry (av.map (cv S.ad)) hsl'
  rw [lg_entry_eq]
  let K : KT := ((p, l, e, (headSpec (wsM y b n ret) (rmX d)).room, s, m', (av.map (cv S.ad)).toArray, below), (meth, c, vx_MQ below Qc XC (av.map (cv S.ad)).toArray s 1 6 (AA S sz), 0, 0), S, AA S sz, s.heap)
  have G : GK K b own n d := ⟨B.exec, B.bytes, hml, hown', fun w hw => hts w (List.mem_cons_of_mem _ hw), hK, hI, fun k hk => Or.inl ⟨k, hk, rfl⟩, fun q hq => Or.inr (by rw [← hsz]; exact hq), B.notSynchronized, Nat.le_refl d, Nat.le_refl (60 * d), Nat.zero_le 1, Nat.zero_le 6⟩
  refine body K rfl rfl B.returns rfl rfl rfl ⟨rfl, rfl, Nat.le_refl 1, Nat.le_refl 6⟩ htab G s.heap [] _ hH va_S.rf ?_
  refine ⟨by rw [hl.1]; exact hml.symm, hl.2.1, fun i v hi => hl.2.2 (i, cv S.ad v) ?_⟩
  rw [← hlv] at hi
  have := entL_args S.ad av 0 i v (pad_get hi)
  rwa [Nat.zero_add] at this
theorem wm_X11_112 : Cond.methodLink RX11 112 yX2_told ∈ gtbl := gq_t 1325 (by decide +kernel) (by decide +kernel)
theorem wi_X2_told : Cond.instanceMethod yX2_told ∈ gtbl := gq_t 1326 (by decide +kernel) (by decide +kernel)
theorem we_X2_told : Cond.selects RX2 yX2_told yX2_told ∈ gtbl := gq_t 1327 (by decide +kernel) (by decide +kernel)
theorem wk_X2_told : Cond.code yX2_told cX2_told 4 (some .int) ∈ gtbl := gq_t 1328 (by decide +kernel) (by decide +kernel)
theorem mv_X11_112 : MV RX11 112 yX2_told cX2_told 4 (some .int) RX2 2 := ⟨⟨wm_X11_112, wi_X2_told, we_X2_told, wz_X2, wk_X2_told⟩, rfl, by decide +kernel, by decide +kernel, by decide +kernel⟩
theorem wm_X11_140 : Cond.methodLink RX11 140 yX0_isShut ∈ gtbl := gq_t 1330 (by decide +kernel) (by decide +kernel)
theorem mv_X11_140 : MV RX11 140 yX0_isShut cX0_isShut 5 (some .boolean) RX0 1 := ⟨⟨wm_X11_140, wi_X0_isShut, we_X0_isShut, wz_X0, wk_X0_isShut⟩, rfl, by decide +kernel, by decide +kernel, by decide +kernel⟩
theorem wm_X11_242 : Cond.methodLink RX11 242 yX2_digAt ∈ gtbl := gq_t 1349 (by decide +kernel) (by decide +kernel)
theorem mv_X11_242 : MV RX11 242 yX2_digAt cX2_digAt 4 (some .int) RX2 2 := ⟨⟨wm_X11_242, wi_X2_digAt, we_X2_digAt, wz_X2, wk_X2_digAt⟩, rfl, by decide +kernel, by decide +kernel, by decide +kernel⟩
theorem wc_X11_160 : Cond.constant RX11 160 (100000) ∈ gtbl := gq_t 1338 (by decide +kernel) (by decide +kernel)
theorem wf_X11_128 : Cond.fieldLink RX11 128 (TX10 2).1 (TX10 2).2.1 (TX10 2).2.2.1 ∈ gtbl := gq_t 120 (by decide +kernel) (by decide +kernel)
theorem wf_X11_131 : Cond.fieldLink RX11 131 (TX10 3).1 (TX10 3).2.1 (TX10 3).2.2.1 ∈ gtbl := gq_t 124 (by decide +kernel) (by decide +kernel)
theorem wf_X11_245 : Cond.fieldLink RX11 245 (TX5 7).1 (TX5 7).2.1 (TX5 7).2.2.1 ∈ gtbl := gq_t 284 (by decide +kernel) (by decide +kernel)
theorem wf_X11_251 : Cond.fieldLink RX11 251 (TX5 9).1 (TX5 9).2.1 (TX5 9).2.2.1 ∈ gtbl := gq_t 290 (by decide +kernel) (by decide +kernel)
def fX11_of (v1 : Int32) (v2 : Int32) (w : Wd) : Option ((Int32 ⊕ Bool) × Wd) :=
  (fX11_isCell v1 w).bind fun v_1 => (
  if v_1 = true then (
    (fX11_within v2 (0 : Int32) (16 : Int32) w).bind fun v_3 => (
    if v_3 = true then (
      if (8 : Int32) < v2 then (
        if v2 = (9 : Int32) then (
          if inb v1 100 = true then (
          some (Sum.inl (ri w 15 v1), w)) else none)
        else if v2 = (10 : Int32) then (
          if inb v1 100 = true then (
          some (Sum.inl (ri w 16 v1), w)) else none)
        else if v2 = (11 : Int32) then (
          if inb v1 100 = true then (
          some (Sum.inl (ri w 17 v1), w)) else none)
        else if v2 = (12 : Int32) then (
          if inb v1 100 = true then (
          some (Sum.inl (ri w 18 v1), w)) else none)
        else if v2 = (13 : Int32) then (
          (fX11_holdNow v1 w).bind fun v_14 => (
          some (Sum.inl v_14.1, v_14.2)))
        else if v2 = (14 : Int32) then (
          if inb v1 100 = true then (
          some (Sum.inl (ri w 12 v1), w)) else none)
        else if v2 = (15 : Int32) then (
          (fX0_isShut v1 w).bind fun v_18 => (
          if v_18 = true then (
            some (Sum.inl (1 : Int32), w))
          else (
            some (Sum.inl (0 : Int32), w))))
        else (
        if inb v1 100 = true then (
        some (Sum.inl (ri w 13 v1), w)) else none))
      else (
        (fX2_told v1 v2 w).bind fun v_22 => (
        some (Sum.inl v_22, w))))
    else (
      some (Sum.inr true, w))))
  else (
    some (Sum.inr false, w)))

def fX11_level (v1 : Int32) (w : Wd) : Option ((Int32 ⊕ Bool) × Wd) :=
  (fX11_within v1 (0 : Int32) (100000 : Int32) w).bind fun v_1 => (
  if v_1 = true then (
    (fX9_levelAt v1 w).bind fun v_3 => (
    some (Sum.inl v_3, w)))
  else (
    some (Sum.inr false, w)))

def fX11_lineOf_18 (w : Wd) : Option ((Int32 ⊕ Bool) × Wd) :=
  some (Sum.inr false, w)
def fX11_lineOf (v1 : Int32) (v2 : Int32) (v3 : Int32) (w : Wd) : Option ((Int32 ⊕ Bool) × Wd) :=
  (fX11_isLine v1 w).bind fun v_1 => (
  if v_1 = true then (
    (fX11_within v3 (0 : Int32) (6 : Int32) w).bind fun v_3 => (
    if v_3 = true then (
      (fX11_isOnLine v1 v2 w).bind fun v_5 => (
      if v_5 = true then (
        if inb v1 8 = true then (
        if v3 = (0 : Int32) then (
          if inb v2 19 = true then (
          some (Sum.inl (ri w ((36 + 7 * (v1).toNatClampNeg) + 1) v2), w)) else none)
        else if v3 = (1 : Int32) then (
          if inb v2 19 = true then (
          some (Sum.inl (ri w ((36 + 7 * (v1).toNatClampNeg) + 2) v2), w)) else none)
        else if v3 = (2 : Int32) then (
          if inb v2 19 = true then (
          (fX2_digAt (ri w ((36 + 7 * (v1).toNatClampNeg) + 1) v2) (ri w ((36 + 7 * (v1).toNatClampNeg) + 2) v2) w).bind fun v_13 => (
          some (Sum.inl v_13, w))) else none)
        else if v3 = (3 : Int32) then (
          if inb v2 19 = true then (
          some (Sum.inl (ri w ((36 + 7 * (v1).toNatClampNeg) + 3) v2), w)) else none)
        else if v3 = (4 : Int32) then (
          if inb v2 19 = true then (
          some (Sum.inl (ri w ((36 + 7 * (v1).toNatClampNeg) + 4) v2), w)) else none)
        else if v3 = (5 : Int32) then (
          if inb v2 19 = true then (
          some (Sum.inl (ri w ((36 + 7 * (v1).toNatClampNeg) + 5) v2), w)) else none)
        else (
        if inb v2 19 = true then (
        some (Sum.inl (ri w ((36 + 7 * (v1).toNatClampNeg) + 6) v2), w)) else none)) else none)
      else (
        some (Sum.inr true, w))))
    else (
      fX11_lineOf_18 w)))
  else (
    fX11_lineOf_18 w))

def fX11_house_39 (v1 : Int32) (v2 : Int32) (s1 : Int32) (s2 : Int32) (w : Wd) : Option ((Int32 ⊕ Bool) × Wd) :=
  (fX11_isHouse s1 s2 w).bind fun v_1 => (
  if v_1 = true then (
    if v2 = (0 : Int32) then (
      if inb v1 100 = true then (
      some (Sum.inl (ri w 28 v1), w)) else none)
    else if v2 = (1 : Int32) then (
      if inb v1 100 = true then (
      some (Sum.inl (ri w 29 v1), w)) else none)
    else if v2 = (2 : Int32) then (
      if inb v1 100 = true then (
      some (Sum.inl (ri w 23 v1), w)) else none)
    else (
    if inb v1 100 = true then (
    some (Sum.inl (ri w 24 v1), w)) else none))
  else (
    some (Sum.inr true, w)))
def fX11_house_16 (w : Wd) : Option ((Int32 ⊕ Bool) × Wd) :=
  some (Sum.inr false, w)
def fX11_house (v1 : Int32) (v2 : Int32) (w : Wd) : Option ((Int32 ⊕ Bool) × Wd) :=
  (fX11_isCell v1 w).bind fun v_1 => (
  if v_1 = true then (
    (fX11_within v2 (0 : Int32) (3 : Int32) w).bind fun v_3 => (
    if v_3 = true then (
      if v2 < (2 : Int32) then (
        fX11_house_39 v1 v2 v1 (2 : Int32) w)
      else (
        fX11_house_39 v1 v2 v1 (1 : Int32) w))
    else (
      fX11_house_16 w)))
  else (
    fX11_house_16 w))

def fX11_at_46 (w : Wd) : Option ((Int64 ⊕ Bool) × Wd) :=
  some (Sum.inr true, w)
def fX11_at (v1 : Int32) (v2 : Int32) (w : Wd) : Option ((Int64 ⊕ Bool) × Wd) :=
  (fX11_isTape v1 w).bind fun v_1 => (
  if v_1 = true then (
    if inb v1 6 = true then (
    (fX8_holdsRow (135 + 2 * (v1).toNatClampNeg) w).bind fun v_4 => (
    if v_4 = true then (
      (fX11_within v2 (0 : Int32) ((w.1 (135 + 2 * (v1).toNatClampNeg) 1) - (1 : Int32)) w).bind fun v_6 => (
      if v_6 = true then (
        if inb v2 100 = true then (
        some (Sum.inl (rl w ((135 + 2 * (v1).toNatClampNeg) + 1) v2), w)) else none)
      else (
        fX11_at_46 w)))
    else (
      fX11_at_46 w))) else none)
  else (
    some (Sum.inr false, w)))
theorem dX11_of_0 : decode cX11_of 0 = .ok (.iload_n 1, 1) := by decide +kernel
theorem dX11_of_1 : decode cX11_of 1 = .ok (.invokestatic 88, 3) := by decide +kernel
theorem dX11_of_4 : decode cX11_of 4 = .ok (.ifCond .ne 13, 3) := by decide +kernel
theorem dX11_of_7 : decode cX11_of 7 = .ok (.new 100, 3) := by decide +kernel
theorem dX11_of_10 : decode cX11_of 10 = .ok (.dup, 1) := by decide +kernel
theorem dX11_of_11 : decode cX11_of 11 = .ok (.ldc 102, 2) := by decide +kernel
theorem dX11_of_13 : decode cX11_of 13 = .ok (.invokespecial 104, 3) := by decide +kernel
theorem dX11_of_16 : decode cX11_of 16 = .ok (.athrow, 1) := by decide +kernel
theorem dX11_of_17 : decode cX11_of 17 = .ok (.iload_n 2, 1) := by decide +kernel
theorem dX11_of_18 : decode cX11_of 18 = .ok (.iconst 0, 1) := by decide +kernel
theorem dX11_of_19 : decode cX11_of 19 = .ok (.bipush 16, 2) := by decide +kernel
theorem dX11_of_21 : decode cX11_of 21 = .ok (.invokestatic 96, 3) := by decide +kernel
theorem dX11_of_24 : decode cX11_of 24 = .ok (.ifCond .ne 13, 3) := by decide +kernel
theorem dX11_of_27 : decode cX11_of 27 = .ok (.new 107, 3) := by decide +kernel
theorem dX11_of_30 : decode cX11_of 30 = .ok (.dup, 1) := by decide +kernel
theorem dX11_of_31 : decode cX11_of 31 = .ok (.ldc 109, 2) := by decide +kernel
theorem dX11_of_33 : decode cX11_of 33 = .ok (.invokespecial 111, 3) := by decide +kernel
theorem dX11_of_36 : decode cX11_of 36 = .ok (.athrow, 1) := by decide +kernel
theorem dX11_of_37 : decode cX11_of 37 = .ok (.iload_n 2, 1) := by decide +kernel
theorem dX11_of_38 : decode cX11_of 38 = .ok (.bipush 8, 2) := by decide +kernel
theorem dX11_of_40 : decode cX11_of 40 = .ok (.if_icmp .gt 16, 3) := by decide +kernel
theorem dX11_of_43 : decode cX11_of 43 = .ok (.aload_n 0, 1) := by decide +kernel
theorem dX11_of_44 : decode cX11_of 44 = .ok (.getfield 10, 3) := by decide +kernel
theorem dX11_of_47 : decode cX11_of 47 = .ok (.getfield 78, 3) := by decide +kernel
theorem dX11_of_50 : decode cX11_of 50 = .ok (.iload_n 1, 1) := by decide +kernel
theorem dX11_of_51 : decode cX11_of 51 = .ok (.iload_n 2, 1) := by decide +kernel
theorem dX11_of_52 : decode cX11_of 52 = .ok (.invokevirtual 112, 3) := by decide +kernel
theorem dX11_of_55 : decode cX11_of 55 = .ok (.ireturn, 1) := by decide +kernel
theorem dX11_of_56 : decode cX11_of 56 = .ok (.iload_n 2, 1) := by decide +kernel
theorem dX11_of_57 : decode cX11_of 57 = .ok (.tableswitch 131 9 15 #[43, 56, 69, 82, 95, 101, 114], 43) := by decide +kernel
theorem dX11_of_100 : decode cX11_of 100 = .ok (.aload_n 0, 1) := by decide +kernel
theorem dX11_of_101 : decode cX11_of 101 = .ok (.getfield 10, 3) := by decide +kernel
theorem dX11_of_104 : decode cX11_of 104 = .ok (.getfield 116, 3) := by decide +kernel
theorem dX11_of_107 : decode cX11_of 107 = .ok (.getfield 120, 3) := by decide +kernel
theorem dX11_of_110 : decode cX11_of 110 = .ok (.iload_n 1, 1) := by decide +kernel
theorem dX11_of_111 : decode cX11_of 111 = .ok (.iaload, 1) := by decide +kernel
theorem dX11_of_112 : decode cX11_of 112 = .ok (.ireturn, 1) := by decide +kernel
theorem dX11_of_113 : decode cX11_of 113 = .ok (.aload_n 0, 1) := by decide +kernel
theorem dX11_of_114 : decode cX11_of 114 = .ok (.getfield 10, 3) := by decide +kernel
theorem dX11_of_117 : decode cX11_of 117 = .ok (.getfield 116, 3) := by decide +kernel
theorem dX11_of_120 : decode cX11_of 120 = .ok (.getfield 125, 3) := by decide +kernel
theorem dX11_of_123 : decode cX11_of 123 = .ok (.iload_n 1, 1) := by decide +kernel
theorem dX11_of_124 : decode cX11_of 124 = .ok (.iaload, 1) := by decide +kernel
theorem dX11_of_125 : decode cX11_of 125 = .ok (.ireturn, 1) := by decide +kernel
theorem dX11_of_126 : decode cX11_of 126 = .ok (.aload_n 0, 1) := by decide +kernel
theorem dX11_of_127 : decode cX11_of 127 = .ok (.getfield 10, 3) := by decide +kernel
theorem dX11_of_130 : decode cX11_of 130 = .ok (.getfield 116, 3) := by decide +kernel
theorem dX11_of_133 : decode cX11_of 133 = .ok (.getfield 128, 3) := by decide +kernel
theorem dX11_of_136 : decode cX11_of 136 = .ok (.iload_n 1, 1) := by decide +kernel
theorem dX11_of_137 : decode cX11_of 137 = .ok (.iaload, 1) := by decide +kernel
theorem dX11_of_138 : decode cX11_of 138 = .ok (.ireturn, 1) := by decide +kernel
theorem dX11_of_139 : decode cX11_of 139 = .ok (.aload_n 0, 1) := by decide +kernel
theorem dX11_of_140 : decode cX11_of 140 = .ok (.getfield 10, 3) := by decide +kernel
theorem dX11_of_143 : decode cX11_of 143 = .ok (.getfield 116, 3) := by decide +kernel
theorem dX11_of_146 : decode cX11_of 146 = .ok (.getfield 131, 3) := by decide +kernel
theorem dX11_of_149 : decode cX11_of 149 = .ok (.iload_n 1, 1) := by decide +kernel
theorem dX11_of_150 : decode cX11_of 150 = .ok (.iaload, 1) := by decide +kernel
theorem dX11_of_151 : decode cX11_of 151 = .ok (.ireturn, 1) := by decide +kernel
theorem dX11_of_152 : decode cX11_of 152 = .ok (.aload_n 0, 1) := by decide +kernel
theorem dX11_of_153 : decode cX11_of 153 = .ok (.iload_n 1, 1) := by decide +kernel
theorem dX11_of_154 : decode cX11_of 154 = .ok (.invokevirtual 134, 3) := by decide +kernel
theorem dX11_of_157 : decode cX11_of 157 = .ok (.ireturn, 1) := by decide +kernel
theorem dX11_of_158 : decode cX11_of 158 = .ok (.aload_n 0, 1) := by decide +kernel
theorem dX11_of_159 : decode cX11_of 159 = .ok (.getfield 10, 3) := by decide +kernel
theorem dX11_of_162 : decode cX11_of 162 = .ok (.getfield 78, 3) := by decide +kernel
theorem dX11_of_165 : decode cX11_of 165 = .ok (.getfield 137, 3) := by decide +kernel
theorem dX11_of_168 : decode cX11_of 168 = .ok (.iload_n 1, 1) := by decide +kernel
theorem dX11_of_169 : decode cX11_of 169 = .ok (.iaload, 1) := by decide +kernel
theorem dX11_of_170 : decode cX11_of 170 = .ok (.ireturn, 1) := by decide +kernel
theorem dX11_of_171 : decode cX11_of 171 = .ok (.aload_n 0, 1) := by decide +kernel
theorem dX11_of_172 : decode cX11_of 172 = .ok (.getfield 10, 3) := by decide +kernel
theorem dX11_of_175 : decode cX11_of 175 = .ok (.iload_n 1, 1) := by decide +kernel
theorem dX11_of_176 : decode cX11_of 176 = .ok (.invokevirtual 140, 3) := by decide +kernel
theorem dX11_of_179 : decode cX11_of 179 = .ok (.ifCond .eq 7, 3) := by decide +kernel
theorem dX11_of_182 : decode cX11_of 182 = .ok (.iconst 1, 1) := by decide +kernel
theorem dX11_of_183 : decode cX11_of 183 = .ok (.goto 4, 3) := by decide +kernel
theorem dX11_of_186 : decode cX11_of 186 = .ok (.iconst 0, 1) := by decide +kernel
theorem dX11_of_187 : decode cX11_of 187 = .ok (.ireturn, 1) := by decide +kernel
theorem dX11_of_188 : decode cX11_of 188 = .ok (.aload_n 0, 1) := by decide +kernel
theorem dX11_of_189 : decode cX11_of 189 = .ok (.getfield 10, 3) := by decide +kernel
theorem dX11_of_192 : decode cX11_of 192 = .ok (.getfield 78, 3) := by decide +kernel
theorem dX11_of_195 : decode cX11_of 195 = .ok (.getfield 143, 3) := by decide +kernel
theorem dX11_of_198 : decode cX11_of 198 = .ok (.iload_n 1, 1) := by decide +kernel
theorem dX11_of_199 : decode cX11_of 199 = .ok (.iaload, 1) := by decide +kernel
theorem dX11_of_200 : decode cX11_of 200 = .ok (.ireturn, 1) := by decide +kernel
set_option maxHeartbeats 4000000 in
set_option maxRecDepth 100000 in
theorem xX11_of_e {K : KT} {v1 : Int32} {v2 : Int32} {w : Wd} {r : (Int32 ⊕ Bool) × Wd} (G : GK K cX11_of RX11 3 6) (M : Main K.ks) (hf : fX11_of v1 v2 w = some r) (hr : RTI K r.1 r.2) : XW K 0 [some (.ref 0), some (.int v1), some (.int v2)] [] w := by
  unfold fX11_of at hf
  refine x_iload_n G dX11_of_0 rfl rfl ?_
  obtain ⟨v_1, hv_1, hf⟩ := bnd hf
  refine x_staI G (As := [.int v1]) (mX11_isCell G.2.2.2.2.2.2.1 M hv_1) ms_X11_88 rfl rfl rfl rfl rfl dX11_of_1 ?_
  refine x_ifneB G (tgt := 17) dX11_of_4 (by decide) hf (fun c_2 hf => ?_) (fun c_2 hf => ?_)
  · refine x_iload_n G dX11_of_17 rfl rfl ?_
    refine x_iconst G (v := 0) dX11_of_18 (by decide) ?_
    refine x_bipush G (v := 16) dX11_of_19 (by decide) ?_
    obtain ⟨v_3, hv_3, hf⟩ := bnd hf
    refine x_staI G (As := [.int v2, .int (0 : Int32), .int (16 : Int32)]) (mX11_within G.2.2.2.2.2.2.1 M hv_3) ms_X11_96 rfl rfl rfl rfl rfl dX11_of_21 ?_
    refine x_ifneB G (tgt := 37) dX11_of_24 (by decide) hf (fun c_4 hf => ?_) (fun c_4 hf => ?_)
    · refine x_iload_n G dX11_of_37 rfl rfl ?_
      refine x_bipush G (v := 8) dX11_of_38 (by decide) ?_
      refine x_icmpgt G (tgt := 56) dX11_of_40 (by decide) hf (fun c_5 hf => ?_) (fun c_5 hf => ?_)
      · refine x_iload_n G dX11_of_56 rfl rfl ?_
        rcases ite_or hf with ⟨c_7, hf⟩ | ⟨c_7, hf⟩
        · refine x_swIn G (tgt := 100) (off := 43) (k := 9) dX11_of_57 c_7 (by decide) (by decide) (by decide) (by decide) ?_
          refine x_aload_n G dX11_of_100 rfl rfl ?_
          refine x_getR G (kd0 M) 0 (b := 1) rfl cl11 rfl wf_X11_10 dX11_of_101 ?_
          refine x_getR G (kd1 M) 1 (b := 14) rfl cl0 rfl wf_X11_116 dX11_of_104 ?_
          refine x_getR G (kd14 M) 0 (b := 15) rfl cl10 rfl wf_X11_120 dX11_of_107 ?_
          refine x_iload_n G dX11_of_110 rfl rfl ?_
          refine x_iald G (kd15 M) dX11_of_111 hf (fun hb_6 hf => ?_)
          exact xt_iret G hf hr dX11_of_112
        rcases ite_or hf with ⟨c_9, hf⟩ | ⟨c_9, hf⟩
        · refine x_swIn G (tgt := 113) (off := 56) (k := 10) dX11_of_57 c_9 (by decide) (by decide) (by decide) (by decide) ?_
          refine x_aload_n G dX11_of_113 rfl rfl ?_
          refine x_getR G (kd0 M) 0 (b := 1) rfl cl11 rfl wf_X11_10 dX11_of_114 ?_
          refine x_getR G (kd1 M) 1 (b := 14) rfl cl0 rfl wf_X11_116 dX11_of_117 ?_
          refine x_getR G (kd14 M) 1 (b := 16) rfl cl10 rfl wf_X11_125 dX11_of_120 ?_
          refine x_iload_n G dX11_of_123 rfl rfl ?_
          refine x_iald G (kd16 M) dX11_of_124 hf (fun hb_8 hf => ?_)
          exact xt_iret G hf hr dX11_of_125
        rcases ite_or hf with ⟨c_11, hf⟩ | ⟨c_11, hf⟩
        · refine x_swIn G (tgt := 126) (off := 69) (k := 11) dX11_of_57 c_11 (by decide) (by decide) (by decide) (by decide) ?_
          refine x_aload_n G dX11_of_126 rfl rfl ?_
          refine x_getR G (kd0 M) 0 (b := 1) rfl cl11 rfl wf_X11_10 dX11_of_127 ?_
          refine x_getR G (kd1 M) 1 (b := 14) rfl cl0 rfl wf_X11_116 dX11_of_130 ?_
          refine x_getR G (kd14 M) 2 (b := 17) rfl cl10 rfl wf_X11_128 dX11_of_133 ?_
          refine x_iload_n G dX11_of_136 rfl rfl ?_
          refine x_iald G (kd17 M) dX11_of_137 hf (fun hb_10 hf => ?_)
          exact xt_iret G hf hr dX11_of_138
        rcases ite_or hf with ⟨c_13, hf⟩ | ⟨c_13, hf⟩
        · refine x_swIn G (tgt := 139) (off := 82) (k := 12) dX11_of_57 c_13 (by decide) (by decide) (by decide) (by decide) ?_
          refine x_aload_n G dX11_of_139 rfl rfl ?_
          refine x_getR G (kd0 M) 0 (b := 1) rfl cl11 rfl wf_X11_10 dX11_of_140 ?_
          refine x_getR G (kd1 M) 1 (b := 14) rfl cl0 rfl wf_X11_116 dX11_of_143 ?_
          refine x_getR G (kd14 M) 3 (b := 18) rfl cl10 rfl wf_X11_131 dX11_of_146 ?_
          refine x_iload_n G dX11_of_149 rfl rfl ?_
          refine x_iald G (kd18 M) dX11_of_150 hf (fun hb_12 hf => ?_)
          exact xt_iret G hf hr dX11_of_151
        rcases ite_or hf with ⟨c_15, hf⟩ | ⟨c_15, hf⟩
        · refine x_swIn G (tgt := 152) (off := 95) (k := 13) dX11_of_57 c_15 (by decide) (by decide) (by decide) (by decide) ?_
          refine x_aload_n G dX11_of_152 rfl rfl ?_
          refine x_iload_n G dX11_of_153 rfl rfl ?_
          obtain ⟨v_14, hv_14, hf⟩ := bnd hf
          refine x_virI G (As := [.int v1]) (mX11_holdNow G.2.2.2.2.2.2.1 M hv_14) mv_X11_134 (kd0 M) cl11 rfl rfl rfl rfl rfl dX11_of_154 ?_
          exact xt_iret G hf hr dX11_of_157
        rcases ite_or hf with ⟨c_17, hf⟩ | ⟨c_17, hf⟩
        · refine x_swIn G (tgt := 158) (off := 101) (k := 14) dX11_of_57 c_17 (by decide) (by decide) (by decide) (by decide) ?_
          refine x_aload_n G dX11_of_158 rfl rfl ?_
          refine x_getR G (kd0 M) 0 (b := 1) rfl cl11 rfl wf_X11_10 dX11_of_159 ?_
          refine x_getR G (kd1 M) 0 (b := 2) rfl cl0 rfl wf_X11_78 dX11_of_162 ?_
          refine x_getR G (kd2 M) 9 (b := 12) rfl cl2 rfl wf_X11_137 dX11_of_165 ?_
          refine x_iload_n G dX11_of_168 rfl rfl ?_
          refine x_iald G (kd12 M) dX11_of_169 hf (fun hb_16 hf => ?_)
          exact xt_iret G hf hr dX11_of_170
        rcases ite_or hf with ⟨c_20, hf⟩ | ⟨c_20, hf⟩
        · refine x_swIn G (tgt := 171) (off := 114) (k := 15) dX11_of_57 c_20 (by decide) (by decide) (by decide) (by decide) ?_
          refine x_aload_n G dX11_of_171 rfl rfl ?_
          refine x_getR G (kd0 M) 0 (b := 1) rfl cl11 rfl wf_X11_10 dX11_of_172 ?_
          refine x_iload_n G dX11_of_175 rfl rfl ?_
          obtain ⟨v_18, hv_18, hf⟩ := bnd hf
          refine x_virI G (As := [.int v1]) (mX0_isShut G.2.2.2.2.2.2.1 M hv_18) mv_X11_140 (kd1 M) cl0 rfl rfl rfl rfl rfl dX11_of_176 ?_
          refine x_ifeqB G (tgt := 186) dX11_of_179 (by decide) hf (fun c_19 hf => ?_) (fun c_19 hf => ?_)
          · refine x_iconst G (v := 1) dX11_of_182 (by decide) ?_
            refine x_goto G (tgt := 187) dX11_of_183 (by decide) ?_
            exact xt_iret G hf hr dX11_of_187
          · refine x_iconst G (v := 0) dX11_of_186 (by decide) ?_
            exact xt_iret G hf hr dX11_of_187
        refine x_swDef G (tgt := 188) dX11_of_57 (by decide) [9, 10, 11, 12, 13, 14, 15] (List.forall_mem_cons.mpr ⟨nek c_7 (by decide), (List.forall_mem_cons.mpr ⟨nek c_9 (by decide), (List.forall_mem_cons.mpr ⟨nek c_11 (by decide), (List.forall_mem_cons.mpr ⟨nek c_13 (by decide), (List.forall_mem_cons.mpr ⟨nek c_15 (by decide), (List.forall_mem_cons.mpr ⟨nek c_17 (by decide), (List.forall_mem_cons.mpr ⟨nek c_20 (by decide), (fun _ h => absurd h List.not_mem_nil)⟩)⟩)⟩)⟩)⟩)⟩)⟩) (by decide +kernel) ?_
        refine x_aload_n G dX11_of_188 rfl rfl ?_
        refine x_getR G (kd0 M) 0 (b := 1) rfl cl11 rfl wf_X11_10 dX11_of_189 ?_
        refine x_getR G (kd1 M) 0 (b := 2) rfl cl0 rfl wf_X11_78 dX11_of_192 ?_
        refine x_getR G (kd2 M) 10 (b := 13) rfl cl2 rfl wf_X11_143 dX11_of_195 ?_
        refine x_iload_n G dX11_of_198 rfl rfl ?_
        refine x_iald G (kd13 M) dX11_of_199 hf (fun hb_21 hf => ?_)
        exact xt_iret G hf hr dX11_of_200
      · refine x_aload_n G dX11_of_43 rfl rfl ?_
        refine x_getR G (kd0 M) 0 (b := 1) rfl cl11 rfl wf_X11_10 dX11_of_44 ?_
        refine x_getR G (kd1 M) 0 (b := 2) rfl cl0 rfl wf_X11_78 dX11_of_47 ?_
        refine x_iload_n G dX11_of_50 rfl rfl ?_
        refine x_iload_n G dX11_of_51 rfl rfl ?_
        obtain ⟨v_22, hv_22, hf⟩ := bnd hf
        refine x_virI G (As := [.int v1, .int v2]) (mX2_told G.2.2.2.2.2.2.1 M hv_22) mv_X11_112 (kd2 M) cl2 rfl rfl rfl rfl rfl dX11_of_52 ?_
        exact xt_iret G hf hr dX11_of_55
    · exact xt_thS G M (text := "no such what") hf hr (by decide +kernel) rfl rfl dX11_of_27 dX11_of_30 dX11_of_31 dX11_of_33 dX11_of_36
  · exact xt_thA G M (text := "no such cell") hf hr (by decide +kernel) rfl rfl dX11_of_7 dX11_of_10 dX11_of_11 dX11_of_13 dX11_of_16

theorem mX11_of {l : Launch} (hst : l.stackTraces = false) {S : KS} {w : Wd} (hI : Inj S) (M : Main S) {v1 : Int32} {v2 : Int32} {r : (Int32 ⊕ Bool) × Wd} (hf : fX11_of v1 v2 w = some r) : CTI l yX11_of cX11_of 3 (some .int) 6 S [.ref 0, .int v1, .int v2] w r.1 r.2 := by
  intro sz
  refine mk_entryT rfl (by decide +kernel) hI 0 rfl rfl (fun K h1 h2 h3 h4 h5 h6 h7 h8 G => ?_)
  subst h2
  exact xX11_of_e G M hf ⟨h3, by rw [h4, h6], h5, h7, h8, by rw [h1]; exact hst⟩

theorem dX11_level_0 : decode cX11_level 0 = .ok (.iload_n 1, 1) := by decide +kernel
theorem dX11_level_1 : decode cX11_level 1 = .ok (.iconst 0, 1) := by decide +kernel
theorem dX11_level_2 : decode cX11_level 2 = .ok (.ldc 160, 2) := by decide +kernel
theorem dX11_level_4 : decode cX11_level 4 = .ok (.invokestatic 96, 3) := by decide +kernel
theorem dX11_level_7 : decode cX11_level 7 = .ok (.ifCond .ne 13, 3) := by decide +kernel
theorem dX11_level_10 : decode cX11_level 10 = .ok (.new 100, 3) := by decide +kernel
theorem dX11_level_13 : decode cX11_level 13 = .ok (.dup, 1) := by decide +kernel
theorem dX11_level_14 : decode cX11_level 14 = .ok (.ldc 161, 2) := by decide +kernel
theorem dX11_level_16 : decode cX11_level 16 = .ok (.invokespecial 104, 3) := by decide +kernel
theorem dX11_level_19 : decode cX11_level 19 = .ok (.athrow, 1) := by decide +kernel
theorem dX11_level_20 : decode cX11_level 20 = .ok (.aload_n 0, 1) := by decide +kernel
theorem dX11_level_21 : decode cX11_level 21 = .ok (.getfield 26, 3) := by decide +kernel
theorem dX11_level_24 : decode cX11_level 24 = .ok (.iload_n 1, 1) := by decide +kernel
theorem dX11_level_25 : decode cX11_level 25 = .ok (.invokevirtual 163, 3) := by decide +kernel
theorem dX11_level_28 : decode cX11_level 28 = .ok (.ireturn, 1) := by decide +kernel
set_option maxHeartbeats 4000000 in
set_option maxRecDepth 100000 in
theorem xX11_level_e {K : KT} {v1 : Int32} {w : Wd} {r : (Int32 ⊕ Bool) × Wd} (G : GK K cX11_level RX11 2 6) (M : Main K.ks) (hf : fX11_level v1 w = some r) (hr : RTI K r.1 r.2) : XW K 0 [some (.ref 0), some (.int v1)] [] w := by
  unfold fX11_level at hf
  refine x_iload_n G dX11_level_0 rfl rfl ?_
  refine x_iconst G (v := 0) dX11_level_1 (by decide) ?_
  refine x_ldc G wc_X11_160 dX11_level_2 ?_
  obtain ⟨v_1, hv_1, hf⟩ := bnd hf
  refine x_staI G (As := [.int v1, .int (0 : Int32), .int (100000 : Int32)]) (mX11_within G.2.2.2.2.2.2.1 M hv_1) ms_X11_96 rfl rfl rfl rfl rfl dX11_level_4 ?_
  refine x_ifneB G (tgt := 20) dX11_level_7 (by decide) hf (fun c_2 hf => ?_) (fun c_2 hf => ?_)
  · refine x_aload_n G dX11_level_20 rfl rfl ?_
    refine x_getR G (kd0 M) 2 (b := 100) rfl cl11 rfl wf_X11_26 dX11_level_21 ?_
    refine x_iload_n G dX11_level_24 rfl rfl ?_
    obtain ⟨v_3, hv_3, hf⟩ := bnd hf
    refine x_virI G (As := [.int v1]) (mX9_levelAt G.2.2.2.2.2.2.1 M hv_3) mv_X11_163 (kd100 M) cl9 rfl rfl rfl rfl rfl dX11_level_25 ?_
    exact xt_iret G hf hr dX11_level_28
  · exact xt_thA G M (text := "no such hour") hf hr (by decide +kernel) rfl rfl dX11_level_10 dX11_level_13 dX11_level_14 dX11_level_16 dX11_level_19

theorem mX11_level {l : Launch} (hst : l.stackTraces = false) {S : KS} {w : Wd} (hI : Inj S) (M : Main S) {v1 : Int32} {r : (Int32 ⊕ Bool) × Wd} (hf : fX11_level v1 w = some r) : CTI l yX11_level cX11_level 2 (some .int) 6 S [.ref 0, .int v1] w r.1 r.2 := by
  intro sz
  refine mk_entryT rfl (by decide +kernel) hI 0 rfl rfl (fun K h1 h2 h3 h4 h5 h6 h7 h8 G => ?_)
  subst h2
  exact xX11_level_e G M hf ⟨h3, by rw [h4, h6], h5, h7, h8, by rw [h1]; exact hst⟩

theorem dX11_lineOf_0 : decode cX11_lineOf 0 = .ok (.aload_n 0, 1) := by decide +kernel
theorem dX11_lineOf_1 : decode cX11_lineOf 1 = .ok (.iload_n 1, 1) := by decide +kernel
theorem dX11_lineOf_2 : decode cX11_lineOf 2 = .ok (.invokevirtual 230, 3) := by decide +kernel
theorem dX11_lineOf_5 : decode cX11_lineOf 5 = .ok (.ifCond .eq 13, 3) := by decide +kernel
theorem dX11_lineOf_8 : decode cX11_lineOf 8 = .ok (.iload_n 3, 1) := by decide +kernel
theorem dX11_lineOf_9 : decode cX11_lineOf 9 = .ok (.iconst 0, 1) := by decide +kernel
theorem dX11_lineOf_10 : decode cX11_lineOf 10 = .ok (.bipush 6, 2) := by decide +kernel
theorem dX11_lineOf_12 : decode cX11_lineOf 12 = .ok (.invokestatic 96, 3) := by decide +kernel
theorem dX11_lineOf_15 : decode cX11_lineOf 15 = .ok (.ifCond .ne 13, 3) := by decide +kernel
theorem dX11_lineOf_18 : decode cX11_lineOf 18 = .ok (.new 100, 3) := by decide +kernel
theorem dX11_lineOf_21 : decode cX11_lineOf 21 = .ok (.dup, 1) := by decide +kernel
theorem dX11_lineOf_22 : decode cX11_lineOf 22 = .ok (.ldc 233, 2) := by decide +kernel
theorem dX11_lineOf_24 : decode cX11_lineOf 24 = .ok (.invokespecial 104, 3) := by decide +kernel
theorem dX11_lineOf_27 : decode cX11_lineOf 27 = .ok (.athrow, 1) := by decide +kernel
theorem dX11_lineOf_28 : decode cX11_lineOf 28 = .ok (.aload_n 0, 1) := by decide +kernel
theorem dX11_lineOf_29 : decode cX11_lineOf 29 = .ok (.iload_n 1, 1) := by decide +kernel
theorem dX11_lineOf_30 : decode cX11_lineOf 30 = .ok (.iload_n 2, 1) := by decide +kernel
theorem dX11_lineOf_31 : decode cX11_lineOf 31 = .ok (.invokevirtual 235, 3) := by decide +kernel
theorem dX11_lineOf_34 : decode cX11_lineOf 34 = .ok (.ifCond .ne 13, 3) := by decide +kernel
theorem dX11_lineOf_37 : decode cX11_lineOf 37 = .ok (.new 107, 3) := by decide +kernel
theorem dX11_lineOf_40 : decode cX11_lineOf 40 = .ok (.dup, 1) := by decide +kernel
theorem dX11_lineOf_41 : decode cX11_lineOf 41 = .ok (.ldc 238, 2) := by decide +kernel
theorem dX11_lineOf_43 : decode cX11_lineOf 43 = .ok (.invokespecial 111, 3) := by decide +kernel
theorem dX11_lineOf_46 : decode cX11_lineOf 46 = .ok (.athrow, 1) := by decide +kernel
theorem dX11_lineOf_47 : decode cX11_lineOf 47 = .ok (.aload_n 0, 1) := by decide +kernel
theorem dX11_lineOf_48 : decode cX11_lineOf 48 = .ok (.getfield 10, 3) := by decide +kernel
theorem dX11_lineOf_51 : decode cX11_lineOf 51 = .ok (.getfield 220, 3) := by decide +kernel
theorem dX11_lineOf_54 : decode cX11_lineOf 54 = .ok (.iload_n 1, 1) := by decide +kernel
theorem dX11_lineOf_55 : decode cX11_lineOf 55 = .ok (.aaload, 1) := by decide +kernel
theorem dX11_lineOf_56 : decode cX11_lineOf 56 = .ok (.astore 4, 2) := by decide +kernel
theorem dX11_lineOf_58 : decode cX11_lineOf 58 = .ok (.iload_n 3, 1) := by decide +kernel
theorem dX11_lineOf_59 : decode cX11_lineOf 59 = .ok (.tableswitch 102 0 5 #[37, 45, 53, 78, 86, 94], 37) := by decide +kernel
theorem dX11_lineOf_96 : decode cX11_lineOf 96 = .ok (.aload 4, 2) := by decide +kernel
theorem dX11_lineOf_98 : decode cX11_lineOf 98 = .ok (.getfield 240, 3) := by decide +kernel
theorem dX11_lineOf_101 : decode cX11_lineOf 101 = .ok (.iload_n 2, 1) := by decide +kernel
theorem dX11_lineOf_102 : decode cX11_lineOf 102 = .ok (.iaload, 1) := by decide +kernel
theorem dX11_lineOf_103 : decode cX11_lineOf 103 = .ok (.ireturn, 1) := by decide +kernel
theorem dX11_lineOf_104 : decode cX11_lineOf 104 = .ok (.aload 4, 2) := by decide +kernel
theorem dX11_lineOf_106 : decode cX11_lineOf 106 = .ok (.getfield 241, 3) := by decide +kernel
theorem dX11_lineOf_109 : decode cX11_lineOf 109 = .ok (.iload_n 2, 1) := by decide +kernel
theorem dX11_lineOf_110 : decode cX11_lineOf 110 = .ok (.iaload, 1) := by decide +kernel
theorem dX11_lineOf_111 : decode cX11_lineOf 111 = .ok (.ireturn, 1) := by decide +kernel
theorem dX11_lineOf_112 : decode cX11_lineOf 112 = .ok (.aload_n 0, 1) := by decide +kernel
theorem dX11_lineOf_113 : decode cX11_lineOf 113 = .ok (.getfield 10, 3) := by decide +kernel
theorem dX11_lineOf_116 : decode cX11_lineOf 116 = .ok (.getfield 78, 3) := by decide +kernel
theorem dX11_lineOf_119 : decode cX11_lineOf 119 = .ok (.aload 4, 2) := by decide +kernel
theorem dX11_lineOf_121 : decode cX11_lineOf 121 = .ok (.getfield 240, 3) := by decide +kernel
theorem dX11_lineOf_124 : decode cX11_lineOf 124 = .ok (.iload_n 2, 1) := by decide +kernel
theorem dX11_lineOf_125 : decode cX11_lineOf 125 = .ok (.iaload, 1) := by decide +kernel
theorem dX11_lineOf_126 : decode cX11_lineOf 126 = .ok (.aload 4, 2) := by decide +kernel
theorem dX11_lineOf_128 : decode cX11_lineOf 128 = .ok (.getfield 241, 3) := by decide +kernel
theorem dX11_lineOf_131 : decode cX11_lineOf 131 = .ok (.iload_n 2, 1) := by decide +kernel
theorem dX11_lineOf_132 : decode cX11_lineOf 132 = .ok (.iaload, 1) := by decide +kernel
theorem dX11_lineOf_133 : decode cX11_lineOf 133 = .ok (.invokevirtual 242, 3) := by decide +kernel
theorem dX11_lineOf_136 : decode cX11_lineOf 136 = .ok (.ireturn, 1) := by decide +kernel
theorem dX11_lineOf_137 : decode cX11_lineOf 137 = .ok (.aload 4, 2) := by decide +kernel
theorem dX11_lineOf_139 : decode cX11_lineOf 139 = .ok (.getfield 245, 3) := by decide +kernel
theorem dX11_lineOf_142 : decode cX11_lineOf 142 = .ok (.iload_n 2, 1) := by decide +kernel
theorem dX11_lineOf_143 : decode cX11_lineOf 143 = .ok (.iaload, 1) := by decide +kernel
theorem dX11_lineOf_144 : decode cX11_lineOf 144 = .ok (.ireturn, 1) := by decide +kernel
theorem dX11_lineOf_145 : decode cX11_lineOf 145 = .ok (.aload 4, 2) := by decide +kernel
theorem dX11_lineOf_147 : decode cX11_lineOf 147 = .ok (.getfield 248, 3) := by decide +kernel
theorem dX11_lineOf_150 : decode cX11_lineOf 150 = .ok (.iload_n 2, 1) := by decide +kernel
theorem dX11_lineOf_151 : decode cX11_lineOf 151 = .ok (.iaload, 1) := by decide +kernel
theorem dX11_lineOf_152 : decode cX11_lineOf 152 = .ok (.ireturn, 1) := by decide +kernel
theorem dX11_lineOf_153 : decode cX11_lineOf 153 = .ok (.aload 4, 2) := by decide +kernel
theorem dX11_lineOf_155 : decode cX11_lineOf 155 = .ok (.getfield 251, 3) := by decide +kernel
theorem dX11_lineOf_158 : decode cX11_lineOf 158 = .ok (.iload_n 2, 1) := by decide +kernel
theorem dX11_lineOf_159 : decode cX11_lineOf 159 = .ok (.iaload, 1) := by decide +kernel
theorem dX11_lineOf_160 : decode cX11_lineOf 160 = .ok (.ireturn, 1) := by decide +kernel
theorem dX11_lineOf_161 : decode cX11_lineOf 161 = .ok (.aload 4, 2) := by decide +kernel
theorem dX11_lineOf_163 : decode cX11_lineOf 163 = .ok (.getfield 254, 3) := by decide +kernel
theorem dX11_lineOf_166 : decode cX11_lineOf 166 = .ok (.iload_n 2, 1) := by decide +kernel
theorem dX11_lineOf_167 : decode cX11_lineOf 167 = .ok (.iaload, 1) := by decide +kernel
theorem dX11_lineOf_168 : decode cX11_lineOf 168 = .ok (.ireturn, 1) := by decide +kernel
set_option maxHeartbeats 4000000 in
set_option maxRecDepth 100000 in
theorem xX11_lineOf_18 {K : KT} {w : Wd} {r : (Int32 ⊕ Bool) × Wd} (G : GK K cX11_lineOf RX11 5 6) (M : Main K.ks) (hf : fX11_lineOf_18 w = some r) (hr : RTI K r.1 r.2) : XW K 18 [none, none, none, none, none] [] w := by
  unfold fX11_lineOf_18 at hf
  exact xt_thA G M (text := "no such line or what") hf hr (by decide +kernel) rfl rfl dX11_lineOf_18 dX11_lineOf_21 dX11_lineOf_22 dX11_lineOf_24 dX11_lineOf_27

set_option maxHeartbeats 4000000 in
set_option maxRecDepth 100000 in
theorem xX11_lineOf_e {K : KT} {v1 : Int32} {v2 : Int32} {v3 : Int32} {w : Wd} {r : (Int32 ⊕ Bool) × Wd} (G : GK K cX11_lineOf RX11 5 6) (M : Main K.ks) (hf : fX11_lineOf v1 v2 v3 w = some r) (hr : RTI K r.1 r.2) : XW K 0 [some (.ref 0), some (.int v1), some (.int v2), some (.int v3), none] [] w := by
  unfold fX11_lineOf at hf
  refine x_aload_n G dX11_lineOf_0 rfl rfl ?_
  refine x_iload_n G dX11_lineOf_1 rfl rfl ?_
  obtain ⟨v_1, hv_1, hf⟩ := bnd hf
  refine x_virI G (As := [.int v1]) (mX11_isLine G.2.2.2.2.2.2.1 M hv_1) mv_X11_230 (kd0 M) cl11 rfl rfl rfl rfl rfl dX11_lineOf_2 ?_
  refine x_ifeqB G (tgt := 18) dX11_lineOf_5 (by decide) hf (fun c_2 hf => ?_) (fun c_2 hf => ?_)
  · refine x_iload_n G dX11_lineOf_8 rfl rfl ?_
    refine x_iconst G (v := 0) dX11_lineOf_9 (by decide) ?_
    refine x_bipush G (v := 6) dX11_lineOf_10 (by decide) ?_
    obtain ⟨v_3, hv_3, hf⟩ := bnd hf
    refine x_staI G (As := [.int v3, .int (0 : Int32), .int (6 : Int32)]) (mX11_within G.2.2.2.2.2.2.1 M hv_3) ms_X11_96 rfl rfl rfl rfl rfl dX11_lineOf_12 ?_
    refine x_ifneB G (tgt := 28) dX11_lineOf_15 (by decide) hf (fun c_4 hf => ?_) (fun c_4 hf => ?_)
    · refine x_aload_n G dX11_lineOf_28 rfl rfl ?_
      refine x_iload_n G dX11_lineOf_29 rfl rfl ?_
      refine x_iload_n G dX11_lineOf_30 rfl rfl ?_
      obtain ⟨v_5, hv_5, hf⟩ := bnd hf
      refine x_virI G (As := [.int v1, .int v2]) (mX11_isOnLine G.2.2.2.2.2.2.1 M hv_5) mv_X11_235 (kd0 M) cl11 rfl rfl rfl rfl rfl dX11_lineOf_31 ?_
      refine x_ifneB G (tgt := 47) dX11_lineOf_34 (by decide) hf (fun c_6 hf => ?_) (fun c_6 hf => ?_)
      · refine x_aload_n G dX11_lineOf_47 rfl rfl ?_
        refine x_getR G (kd0 M) 0 (b := 1) rfl cl11 rfl wf_X11_10 dX11_lineOf_48 ?_
        refine x_getR G (kd1 M) 4 (b := 35) rfl cl0 rfl wf_X11_220 dX11_lineOf_51 ?_
        refine x_iload_n G dX11_lineOf_54 rfl rfl ?_
        refine x_aald G (kd35 M) (kn := 0) (by decide) dX11_lineOf_55 hf (fun hb_7 hf => ?_)
        refine x_astore G (lv' := [some (.ref 0), some (.int v1), some (.int v2), some (.int v3), some (.ref (36 + 7 * (v1).toNatClampNeg))]) dX11_lineOf_56 rfl rfl rfl ?_
        refine x_iload_n G dX11_lineOf_58 rfl rfl ?_
        rcases ite_or hf with ⟨c_9, hf⟩ | ⟨c_9, hf⟩
        · refine x_swIn G (tgt := 96) (off := 37) (k := 0) dX11_lineOf_59 c_9 (by decide) (by decide) (by decide) (by decide) ?_
          refine x_aload G dX11_lineOf_96 rfl ?_
          refine x_getR G (lineOkM M hb_7).1 5 (b := ((36 + 7 * (v1).toNatClampNeg) + 1)) rfl cl5 rfl wf_X11_240 dX11_lineOf_98 ?_
          refine x_iload_n G dX11_lineOf_101 rfl rfl ?_
          refine x_iald G (lineOkM M hb_7).2.1 dX11_lineOf_102 hf (fun hb_8 hf => ?_)
          exact xt_iret G hf hr dX11_lineOf_103
        rcases ite_or hf with ⟨c_11, hf⟩ | ⟨c_11, hf⟩
        · refine x_swIn G (tgt := 104) (off := 45) (k := 1) dX11_lineOf_59 c_11 (by decide) (by decide) (by decide) (by decide) ?_
          refine x_aload G dX11_lineOf_104 rfl ?_
          refine x_getR G (lineOkM M hb_7).1 6 (b := ((36 + 7 * (v1).toNatClampNeg) + 2)) rfl cl5 rfl wf_X11_241 dX11_lineOf_106 ?_
          refine x_iload_n G dX11_lineOf_109 rfl rfl ?_
          refine x_iald G (lineOkM M hb_7).2.2.1 dX11_lineOf_110 hf (fun hb_10 hf => ?_)
          exact xt_iret G hf hr dX11_lineOf_111
        rcases ite_or hf with ⟨c_14, hf⟩ | ⟨c_14, hf⟩
        · refine x_swIn G (tgt := 112) (off := 53) (k := 2) dX11_lineOf_59 c_14 (by decide) (by decide) (by decide) (by decide) ?_
          refine x_aload_n G dX11_lineOf_112 rfl rfl ?_
          refine x_getR G (kd0 M) 0 (b := 1) rfl cl11 rfl wf_X11_10 dX11_lineOf_113 ?_
          refine x_getR G (kd1 M) 0 (b := 2) rfl cl0 rfl wf_X11_78 dX11_lineOf_116 ?_
          refine x_aload G dX11_lineOf_119 rfl ?_
          refine x_getR G (lineOkM M hb_7).1 5 (b := ((36 + 7 * (v1).toNatClampNeg) + 1)) rfl cl5 rfl wf_X11_240 dX11_lineOf_121 ?_
          refine x_iload_n G dX11_lineOf_124 rfl rfl ?_
          refine x_iald G (lineOkM M hb_7).2.1 dX11_lineOf_125 hf (fun hb_12 hf => ?_)
          refine x_aload G dX11_lineOf_126 rfl ?_
          refine x_getR G (lineOkM M hb_7).1 6 (b := ((36 + 7 * (v1).toNatClampNeg) + 2)) rfl cl5 rfl wf_X11_241 dX11_lineOf_128 ?_
          refine x_iload_n G dX11_lineOf_131 rfl rfl ?_
          refine x_iald0 G (lineOkM M hb_7).2.2.1 dX11_lineOf_132 hb_12 ?_
          obtain ⟨v_13, hv_13, hf⟩ := bnd hf
          refine x_virI G (As := [.int (ri w ((36 + 7 * (v1).toNatClampNeg) + 1) v2), .int (ri w ((36 + 7 * (v1).toNatClampNeg) + 2) v2)]) (mX2_digAt G.2.2.2.2.2.2.1 M hv_13) mv_X11_242 (kd2 M) cl2 rfl rfl rfl rfl rfl dX11_lineOf_133 ?_
          exact xt_iret G hf hr dX11_lineOf_136
        rcases ite_or hf with ⟨c_16, hf⟩ | ⟨c_16, hf⟩
        · refine x_swIn G (tgt := 137) (off := 78) (k := 3) dX11_lineOf_59 c_16 (by decide) (by decide) (by decide) (by decide) ?_
          refine x_aload G dX11_lineOf_137 rfl ?_
          refine x_getR G (lineOkM M hb_7).1 7 (b := ((36 + 7 * (v1).toNatClampNeg) + 3)) rfl cl5 rfl wf_X11_245 dX11_lineOf_139 ?_
          refine x_iload_n G dX11_lineOf_142 rfl rfl ?_
          refine x_iald G (lineOkM M hb_7).2.2.2.1 dX11_lineOf_143 hf (fun hb_15 hf => ?_)
          exact xt_iret G hf hr dX11_lineOf_144
        rcases ite_or hf with ⟨c_18, hf⟩ | ⟨c_18, hf⟩
        · refine x_swIn G (tgt := 145) (off := 86) (k := 4) dX11_lineOf_59 c_18 (by decide) (by decide) (by decide) (by decide) ?_
          refine x_aload G dX11_lineOf_145 rfl ?_
          refine x_getR G (lineOkM M hb_7).1 8 (b := ((36 + 7 * (v1).toNatClampNeg) + 4)) rfl cl5 rfl wf_X11_248 dX11_lineOf_147 ?_
          refine x_iload_n G dX11_lineOf_150 rfl rfl ?_
          refine x_iald G (lineOkM M hb_7).2.2.2.2.1 dX11_lineOf_151 hf (fun hb_17 hf => ?_)
          exact xt_iret G hf hr dX11_lineOf_152
        rcases ite_or hf with ⟨c_20, hf⟩ | ⟨c_20, hf⟩
        · refine x_swIn G (tgt := 153) (off := 94) (k := 5) dX11_lineOf_59 c_20 (by decide) (by decide) (by decide) (by decide) ?_
          refine x_aload G dX11_lineOf_153 rfl ?_
          refine x_getR G (lineOkM M hb_7).1 9 (b := ((36 + 7 * (v1).toNatClampNeg) + 5)) rfl cl5 rfl wf_X11_251 dX11_lineOf_155 ?_
          refine x_iload_n G dX11_lineOf_158 rfl rfl ?_
          refine x_iald G (lineOkM M hb_7).2.2.2.2.2.1 dX11_lineOf_159 hf (fun hb_19 hf => ?_)
          exact xt_iret G hf hr dX11_lineOf_160
        refine x_swDef G (tgt := 161) dX11_lineOf_59 (by decide) [0, 1, 2, 3, 4, 5] (List.forall_mem_cons.mpr ⟨nek c_9 (by decide), (List.forall_mem_cons.mpr ⟨nek c_11 (by decide), (List.forall_mem_cons.mpr ⟨nek c_14 (by decide), (List.forall_mem_cons.mpr ⟨nek c_16 (by decide), (List.forall_mem_cons.mpr ⟨nek c_18 (by decide), (List.forall_mem_cons.mpr ⟨nek c_20 (by decide), (fun _ h => absurd h List.not_mem_nil)⟩)⟩)⟩)⟩)⟩)⟩) (by decide +kernel) ?_
        refine x_aload G dX11_lineOf_161 rfl ?_
        refine x_getR G (lineOkM M hb_7).1 10 (b := ((36 + 7 * (v1).toNatClampNeg) + 6)) rfl cl5 rfl wf_X11_254 dX11_lineOf_163 ?_
        refine x_iload_n G dX11_lineOf_166 rfl rfl ?_
        refine x_iald G (lineOkM M hb_7).2.2.2.2.2.2 dX11_lineOf_167 hf (fun hb_21 hf => ?_)
        exact xt_iret G hf hr dX11_lineOf_168
      · exact xt_thS G M (text := "no such cell of the line") hf hr (by decide +kernel) rfl rfl dX11_lineOf_37 dX11_lineOf_40 dX11_lineOf_41 dX11_lineOf_43 dX11_lineOf_46
    · exact XW.sub (lv' := [none, none, none, none, none]) trivial (xX11_lineOf_18 G M hf hr)
  · exact XW.sub (lv' := [none, none, none, none, none]) trivial (xX11_lineOf_18 G M hf hr)

theorem mX11_lineOf {l : Launch} (hst : l.stackTraces = false) {S : KS} {w : Wd} (hI : Inj S) (M : Main S) {v1 : Int32} {v2 : Int32} {v3 : Int32} {r : (Int32 ⊕ Bool) × Wd} (hf : fX11_lineOf v1 v2 v3 w = some r) : CTI l yX11_lineOf cX11_lineOf 5 (some .int) 6 S [.ref 0, .int v1, .int v2, .int v3] w r.1 r.2 := by
  intro sz
  refine mk_entryT rfl (by decide +kernel) hI 1 rfl rfl (fun K h1 h2 h3 h4 h5 h6 h7 h8 G => ?_)
  subst h2
  exact xX11_lineOf_e G M hf ⟨h3, by rw [h4, h6], h5, h7, h8, by rw [h1]; exact hst⟩

theorem dX11_house_0 : decode cX11_house 0 = .ok (.iload_n 1, 1) := by decide +kernel
theorem dX11_house_1 : decode cX11_house 1 = .ok (.invokestatic 88, 3) := by decide +kernel
theorem dX11_house_4 : decode cX11_house 4 = .ok (.ifCond .eq 12, 3) := by decide +kernel
theorem dX11_house_7 : decode cX11_house 7 = .ok (.iload_n 2, 1) := by decide +kernel
theorem dX11_house_8 : decode cX11_house 8 = .ok (.iconst 0, 1) := by decide +kernel
theorem dX11_house_9 : decode cX11_house 9 = .ok (.iconst 3, 1) := by decide +kernel
theorem dX11_house_10 : decode cX11_house 10 = .ok (.invokestatic 96, 3) := by decide +kernel
theorem dX11_house_13 : decode cX11_house 13 = .ok (.ifCond .ne 14, 3) := by decide +kernel
theorem dX11_house_16 : decode cX11_house 16 = .ok (.new 100, 3) := by decide +kernel
theorem dX11_house_19 : decode cX11_house 19 = .ok (.dup, 1) := by decide +kernel
theorem dX11_house_20 : decode cX11_house 20 = .ok (.ldc_w 333, 3) := by decide +kernel
theorem dX11_house_23 : decode cX11_house 23 = .ok (.invokespecial 104, 3) := by decide +kernel
theorem dX11_house_26 : decode cX11_house 26 = .ok (.athrow, 1) := by decide +kernel
theorem dX11_house_27 : decode cX11_house 27 = .ok (.aload_n 0, 1) := by decide +kernel
theorem dX11_house_28 : decode cX11_house 28 = .ok (.iload_n 1, 1) := by decide +kernel
theorem dX11_house_29 : decode cX11_house 29 = .ok (.iload_n 2, 1) := by decide +kernel
theorem dX11_house_30 : decode cX11_house 30 = .ok (.iconst 2, 1) := by decide +kernel
theorem dX11_house_31 : decode cX11_house 31 = .ok (.if_icmp .ge 7, 3) := by decide +kernel
theorem dX11_house_34 : decode cX11_house 34 = .ok (.iconst 2, 1) := by decide +kernel
theorem dX11_house_35 : decode cX11_house 35 = .ok (.goto 4, 3) := by decide +kernel
theorem dX11_house_38 : decode cX11_house 38 = .ok (.iconst 1, 1) := by decide +kernel
theorem dX11_house_39 : decode cX11_house 39 = .ok (.invokevirtual 302, 3) := by decide +kernel
theorem dX11_house_42 : decode cX11_house 42 = .ok (.ifCond .ne 14, 3) := by decide +kernel
theorem dX11_house_45 : decode cX11_house 45 = .ok (.new 107, 3) := by decide +kernel
theorem dX11_house_48 : decode cX11_house 48 = .ok (.dup, 1) := by decide +kernel
theorem dX11_house_49 : decode cX11_house 49 = .ok (.ldc_w 335, 3) := by decide +kernel
theorem dX11_house_52 : decode cX11_house 52 = .ok (.invokespecial 111, 3) := by decide +kernel
theorem dX11_house_55 : decode cX11_house 55 = .ok (.athrow, 1) := by decide +kernel
theorem dX11_house_56 : decode cX11_house 56 = .ok (.iload_n 2, 1) := by decide +kernel
theorem dX11_house_57 : decode cX11_house 57 = .ok (.tableswitch 66 0 2 #[27, 40, 53], 27) := by decide +kernel
theorem dX11_house_84 : decode cX11_house 84 = .ok (.aload_n 0, 1) := by decide +kernel
theorem dX11_house_85 : decode cX11_house 85 = .ok (.getfield 10, 3) := by decide +kernel
theorem dX11_house_88 : decode cX11_house 88 = .ok (.getfield 278, 3) := by decide +kernel
theorem dX11_house_91 : decode cX11_house 91 = .ok (.getfield 322, 3) := by decide +kernel
theorem dX11_house_94 : decode cX11_house 94 = .ok (.iload_n 1, 1) := by decide +kernel
theorem dX11_house_95 : decode cX11_house 95 = .ok (.iaload, 1) := by decide +kernel
theorem dX11_house_96 : decode cX11_house 96 = .ok (.ireturn, 1) := by decide +kernel
theorem dX11_house_97 : decode cX11_house 97 = .ok (.aload_n 0, 1) := by decide +kernel
theorem dX11_house_98 : decode cX11_house 98 = .ok (.getfield 10, 3) := by decide +kernel
theorem dX11_house_101 : decode cX11_house 101 = .ok (.getfield 278, 3) := by decide +kernel
theorem dX11_house_104 : decode cX11_house 104 = .ok (.getfield 325, 3) := by decide +kernel
theorem dX11_house_107 : decode cX11_house 107 = .ok (.iload_n 1, 1) := by decide +kernel
theorem dX11_house_108 : decode cX11_house 108 = .ok (.iaload, 1) := by decide +kernel
theorem dX11_house_109 : decode cX11_house 109 = .ok (.ireturn, 1) := by decide +kernel
theorem dX11_house_110 : decode cX11_house 110 = .ok (.aload_n 0, 1) := by decide +kernel
theorem dX11_house_111 : decode cX11_house 111 = .ok (.getfield 10, 3) := by decide +kernel
theorem dX11_house_114 : decode cX11_house 114 = .ok (.getfield 278, 3) := by decide +kernel
theorem dX11_house_117 : decode cX11_house 117 = .ok (.getfield 296, 3) := by decide +kernel
theorem dX11_house_120 : decode cX11_house 120 = .ok (.iload_n 1, 1) := by decide +kernel
theorem dX11_house_121 : decode cX11_house 121 = .ok (.iaload, 1) := by decide +kernel
theorem dX11_house_122 : decode cX11_house 122 = .ok (.ireturn, 1) := by decide +kernel
theorem dX11_house_123 : decode cX11_house 123 = .ok (.aload_n 0, 1) := by decide +kernel
theorem dX11_house_124 : decode cX11_house 124 = .ok (.getfield 10, 3) := by decide +kernel
theorem dX11_house_127 : decode cX11_house 127 = .ok (.getfield 278, 3) := by decide +kernel
theorem dX11_house_130 : decode cX11_house 130 = .ok (.getfield 299, 3) := by decide +kernel
theorem dX11_house_133 : decode cX11_house 133 = .ok (.iload_n 1, 1) := by decide +kernel
theorem dX11_house_134 : decode cX11_house 134 = .ok (.iaload, 1) := by decide +kernel
theorem dX11_house_135 : decode cX11_house 135 = .ok (.ireturn, 1) := by decide +kernel
set_option maxHeartbeats 4000000 in
set_option maxRecDepth 100000 in
theorem xX11_house_39 {K : KT} {v1 : Int32} {v2 : Int32} {s1 : Int32} {s2 : Int32} {w : Wd} {r : (Int32 ⊕ Bool) × Wd} (G : GK K cX11_house RX11 3 6) (M : Main K.ks) (hf : fX11_house_39 v1 v2 s1 s2 w = some r) (hr : RTI K r.1 r.2) : XW K 39 [some (.ref 0), some (.int v1), some (.int v2)] [.int s2, .int s1, .ref 0] w := by
  unfold fX11_house_39 at hf
  obtain ⟨v_1, hv_1, hf⟩ := bnd hf
  refine x_virI G (As := [.int s1, .int s2]) (mX11_isHouse G.2.2.2.2.2.2.1 M hv_1) mv_X11_302 (kd0 M) cl11 rfl rfl rfl rfl rfl dX11_house_39 ?_
  refine x_ifneB G (tgt := 56) dX11_house_42 (by decide) hf (fun c_2 hf => ?_) (fun c_2 hf => ?_)
  · refine x_iload_n G dX11_house_56 rfl rfl ?_
    rcases ite_or hf with ⟨c_4, hf⟩ | ⟨c_4, hf⟩
    · refine x_swIn G (tgt := 84) (off := 27) (k := 0) dX11_house_57 c_4 (by decide) (by decide) (by decide) (by decide) ?_
      refine x_aload_n G dX11_house_84 rfl rfl ?_
      refine x_getR G (kd0 M) 0 (b := 1) rfl cl11 rfl wf_X11_10 dX11_house_85 ?_
      refine x_getR G (kd1 M) 2 (b := 19) rfl cl0 rfl wf_X11_278 dX11_house_88 ?_
      refine x_getR G (kd19 M) 8 (b := 28) rfl cl3 rfl wf_X11_322 dX11_house_91 ?_
      refine x_iload_n G dX11_house_94 rfl rfl ?_
      refine x_iald G (kd28 M) dX11_house_95 hf (fun hb_3 hf => ?_)
      exact xt_iret G hf hr dX11_house_96
    rcases ite_or hf with ⟨c_6, hf⟩ | ⟨c_6, hf⟩
    · refine x_swIn G (tgt := 97) (off := 40) (k := 1) dX11_house_57 c_6 (by decide) (by decide) (by decide) (by decide) ?_
      refine x_aload_n G dX11_house_97 rfl rfl ?_
      refine x_getR G (kd0 M) 0 (b := 1) rfl cl11 rfl wf_X11_10 dX11_house_98 ?_
      refine x_getR G (kd1 M) 2 (b := 19) rfl cl0 rfl wf_X11_278 dX11_house_101 ?_
      refine x_getR G (kd19 M) 9 (b := 29) rfl cl3 rfl wf_X11_325 dX11_house_104 ?_
      refine x_iload_n G dX11_house_107 rfl rfl ?_
      refine x_iald G (kd29 M) dX11_house_108 hf (fun hb_5 hf => ?_)
      exact xt_iret G hf hr dX11_house_109
    rcases ite_or hf with ⟨c_8, hf⟩ | ⟨c_8, hf⟩
    · refine x_swIn G (tgt := 110) (off := 53) (k := 2) dX11_house_57 c_8 (by decide) (by decide) (by decide) (by decide) ?_
      refine x_aload_n G dX11_house_110 rfl rfl ?_
      refine x_getR G (kd0 M) 0 (b := 1) rfl cl11 rfl wf_X11_10 dX11_house_111 ?_
      refine x_getR G (kd1 M) 2 (b := 19) rfl cl0 rfl wf_X11_278 dX11_house_114 ?_
      refine x_getR G (kd19 M) 3 (b := 23) rfl cl3 rfl wf_X11_296 dX11_house_117 ?_
      refine x_iload_n G dX11_house_120 rfl rfl ?_
      refine x_iald G (kd23 M) dX11_house_121 hf (fun hb_7 hf => ?_)
      exact xt_iret G hf hr dX11_house_122
    refine x_swDef G (tgt := 123) dX11_house_57 (by decide) [0, 1, 2] (List.forall_mem_cons.mpr ⟨nek c_4 (by decide), (List.forall_mem_cons.mpr ⟨nek c_6 (by decide), (List.forall_mem_cons.mpr ⟨nek c_8 (by decide), (fun _ h => absurd h List.not_mem_nil)⟩)⟩)⟩) (by decide +kernel) ?_
    refine x_aload_n G dX11_house_123 rfl rfl ?_
    refine x_getR G (kd0 M) 0 (b := 1) rfl cl11 rfl wf_X11_10 dX11_house_124 ?_
    refine x_getR G (kd1 M) 2 (b := 19) rfl cl0 rfl wf_X11_278 dX11_house_127 ?_
    refine x_getR G (kd19 M) 4 (b := 24) rfl cl3 rfl wf_X11_299 dX11_house_130 ?_
    refine x_iload_n G dX11_house_133 rfl rfl ?_
    refine x_iald G (kd24 M) dX11_house_134 hf (fun hb_9 hf => ?_)
    exact xt_iret G hf hr dX11_house_135
  · exact xt_thSW G M (text := "none there") hf hr (by decide +kernel) rfl rfl dX11_house_45 dX11_house_48 dX11_house_49 dX11_house_52 dX11_house_55

set_option maxHeartbeats 4000000 in
set_option maxRecDepth 100000 in
theorem xX11_house_16 {K : KT} {w : Wd} {r : (Int32 ⊕ Bool) × Wd} (G : GK K cX11_house RX11 3 6) (M : Main K.ks) (hf : fX11_house_16 w = some r) (hr : RTI K r.1 r.2) : XW K 16 [none, none, none] [] w := by
  unfold fX11_house_16 at hf
  exact xt_thAW G M (text := "no such cell or what") hf hr (by decide +kernel) rfl rfl dX11_house_16 dX11_house_19 dX11_house_20 dX11_house_23 dX11_house_26

set_option maxHeartbeats 4000000 in
set_option maxRecDepth 100000 in
theorem xX11_house_e {K : KT} {v1 : Int32} {v2 : Int32} {w : Wd} {r : (Int32 ⊕ Bool) × Wd} (G : GK K cX11_house RX11 3 6) (M : Main K.ks) (hf : fX11_house v1 v2 w = some r) (hr : RTI K r.1 r.2) : XW K 0 [some (.ref 0), some (.int v1), some (.int v2)] [] w := by
  unfold fX11_house at hf
  refine x_iload_n G dX11_house_0 rfl rfl ?_
  obtain ⟨v_1, hv_1, hf⟩ := bnd hf
  refine x_staI G (As := [.int v1]) (mX11_isCell G.2.2.2.2.2.2.1 M hv_1) ms_X11_88 rfl rfl rfl rfl rfl dX11_house_1 ?_
  refine x_ifeqB G (tgt := 16) dX11_house_4 (by decide) hf (fun c_2 hf => ?_) (fun c_2 hf => ?_)
  · refine x_iload_n G dX11_house_7 rfl rfl ?_
    refine x_iconst G (v := 0) dX11_house_8 (by decide) ?_
    refine x_iconst G (v := 3) dX11_house_9 (by decide) ?_
    obtain ⟨v_3, hv_3, hf⟩ := bnd hf
    refine x_staI G (As := [.int v2, .int (0 : Int32), .int (3 : Int32)]) (mX11_within G.2.2.2.2.2.2.1 M hv_3) ms_X11_96 rfl rfl rfl rfl rfl dX11_house_10 ?_
    refine x_ifneB G (tgt := 27) dX11_house_13 (by decide) hf (fun c_4 hf => ?_) (fun c_4 hf => ?_)
    · refine x_aload_n G dX11_house_27 rfl rfl ?_
      refine x_iload_n G dX11_house_28 rfl rfl ?_
      refine x_iload_n G dX11_house_29 rfl rfl ?_
      refine x_iconst G (v := 2) dX11_house_30 (by decide) ?_
      refine x_icmpge G (tgt := 38) dX11_house_31 (by decide) hf (fun c_5 hf => ?_) (fun c_5 hf => ?_)
      · refine x_iconst G (v := 2) dX11_house_34 (by decide) ?_
        refine x_goto G (tgt := 39) dX11_house_35 (by decide) ?_
        exact (xX11_house_39 G M hf hr)
      · refine x_iconst G (v := 1) dX11_house_38 (by decide) ?_
        exact (xX11_house_39 G M hf hr)
    · exact XW.sub (lv' := [none, none, none]) trivial (xX11_house_16 G M hf hr)
  · exact XW.sub (lv' := [none, none, none]) trivial (xX11_house_16 G M hf hr)

theorem mX11_house {l : Launch} (hst : l.stackTraces = false) {S : KS} {w : Wd} (hI : Inj S) (M : Main S) {v1 : Int32} {v2 : Int32} {r : (Int32 ⊕ Bool) × Wd} (hf : fX11_house v1 v2 w = some r) : CTI l yX11_house cX11_house 3 (some .int) 6 S [.ref 0, .int v1, .int v2] w r.1 r.2 := by
  intro sz
  refine mk_entryT rfl (by decide +kernel) hI 0 rfl rfl (fun K h1 h2 h3 h4 h5 h6 h7 h8 G => ?_)
  subst h2
  exact xX11_house_e G M hf ⟨h3, by rw [h4, h6], h5, h7, h8, by rw [h1]; exact hst⟩

theorem dX11_at_0 : decode cX11_at 0 = .ok (.iload_n 1, 1) := by decide +kernel
theorem dX11_at_1 : decode cX11_at 1 = .ok (.invokestatic 146, 3) := by decide +kernel
theorem dX11_at_4 : decode cX11_at 4 = .ok (.ifCond .ne 14, 3) := by decide +kernel
theorem dX11_at_7 : decode cX11_at 7 = .ok (.new 100, 3) := by decide +kernel
theorem dX11_at_10 : decode cX11_at 10 = .ok (.dup, 1) := by decide +kernel
theorem dX11_at_11 : decode cX11_at 11 = .ok (.ldc_w 418, 3) := by decide +kernel
theorem dX11_at_14 : decode cX11_at 14 = .ok (.invokespecial 104, 3) := by decide +kernel
theorem dX11_at_17 : decode cX11_at 17 = .ok (.athrow, 1) := by decide +kernel
theorem dX11_at_18 : decode cX11_at 18 = .ok (.aload_n 0, 1) := by decide +kernel
theorem dX11_at_19 : decode cX11_at 19 = .ok (.getfield 46, 3) := by decide +kernel
theorem dX11_at_22 : decode cX11_at 22 = .ok (.iload_n 1, 1) := by decide +kernel
theorem dX11_at_23 : decode cX11_at 23 = .ok (.aaload, 1) := by decide +kernel
theorem dX11_at_24 : decode cX11_at 24 = .ok (.astore_n 3, 1) := by decide +kernel
theorem dX11_at_25 : decode cX11_at 25 = .ok (.aload_n 3, 1) := by decide +kernel
theorem dX11_at_26 : decode cX11_at 26 = .ok (.invokevirtual 420, 3) := by decide +kernel
theorem dX11_at_29 : decode cX11_at 29 = .ok (.ifCond .eq 17, 3) := by decide +kernel
theorem dX11_at_32 : decode cX11_at 32 = .ok (.iload_n 2, 1) := by decide +kernel
theorem dX11_at_33 : decode cX11_at 33 = .ok (.iconst 0, 1) := by decide +kernel
theorem dX11_at_34 : decode cX11_at 34 = .ok (.aload_n 3, 1) := by decide +kernel
theorem dX11_at_35 : decode cX11_at 35 = .ok (.getfield 155, 3) := by decide +kernel
theorem dX11_at_38 : decode cX11_at 38 = .ok (.iconst 1, 1) := by decide +kernel
theorem dX11_at_39 : decode cX11_at 39 = .ok (.isub, 1) := by decide +kernel
theorem dX11_at_40 : decode cX11_at 40 = .ok (.invokestatic 96, 3) := by decide +kernel
theorem dX11_at_43 : decode cX11_at 43 = .ok (.ifCond .ne 14, 3) := by decide +kernel
theorem dX11_at_46 : decode cX11_at 46 = .ok (.new 107, 3) := by decide +kernel
theorem dX11_at_49 : decode cX11_at 49 = .ok (.dup, 1) := by decide +kernel
theorem dX11_at_50 : decode cX11_at 50 = .ok (.ldc_w 424, 3) := by decide +kernel
theorem dX11_at_53 : decode cX11_at 53 = .ok (.invokespecial 111, 3) := by decide +kernel
theorem dX11_at_56 : decode cX11_at 56 = .ok (.athrow, 1) := by decide +kernel
theorem dX11_at_57 : decode cX11_at 57 = .ok (.aload_n 3, 1) := by decide +kernel
theorem dX11_at_58 : decode cX11_at 58 = .ok (.getfield 392, 3) := by decide +kernel
theorem dX11_at_61 : decode cX11_at 61 = .ok (.iload_n 2, 1) := by decide +kernel
theorem dX11_at_62 : decode cX11_at 62 = .ok (.laload, 1) := by decide +kernel
theorem dX11_at_63 : decode cX11_at 63 = .ok (.lreturn, 1) := by decide +kernel
set_option maxHeartbeats 4000000 in
set_option maxRecDepth 100000 in
theorem xX11_at_46 {K : KT} {w : Wd} {r : (Int64 ⊕ Bool) × Wd} (G : GK K cX11_at RX11 4 6) (M : Main K.ks) (hf : fX11_at_46 w = some r) (hr : RTJ K r.1 r.2) : XW K 46 [none, none, none, none] [] w := by
  unfold fX11_at_46 at hf
  exact xt_thSW G M (text := "no such place") hf hr (by decide +kernel) rfl rfl dX11_at_46 dX11_at_49 dX11_at_50 dX11_at_53 dX11_at_56

set_option maxHeartbeats 4000000 in
set_option maxRecDepth 100000 in
theorem xX11_at_e {K : KT} {v1 : Int32} {v2 : Int32} {w : Wd} {r : (Int64 ⊕ Bool) × Wd} (G : GK K cX11_at RX11 4 6) (M : Main K.ks) (hf : fX11_at v1 v2 w = some r) (hr : RTJ K r.1 r.2) : XW K 0 [some (.ref 0), some (.int v1), some (.int v2), none] [] w := by
  unfold fX11_at at hf
  refine x_iload_n G dX11_at_0 rfl rfl ?_
  obtain ⟨v_1, hv_1, hf⟩ := bnd hf
  refine x_staI G (As := [.int v1]) (mX11_isTape G.2.2.2.2.2.2.1 M hv_1) ms_X11_146 rfl rfl rfl rfl rfl dX11_at_1 ?_
  refine x_ifneB G (tgt := 18) dX11_at_4 (by decide) hf (fun c_2 hf => ?_) (fun c_2 hf => ?_)
  · refine x_aload_n G dX11_at_18 rfl rfl ?_
    refine x_getR G (kd0 M) 5 (b := 134) rfl cl11 rfl wf_X11_46 dX11_at_19 ?_
    refine x_iload_n G dX11_at_22 rfl rfl ?_
    refine x_aald G (kd134 M) (kn := 1) (by decide) dX11_at_23 hf (fun hb_3 hf => ?_)
    refine x_astore_n G (lv' := [some (.ref 0), some (.int v1), some (.int v2), some (.ref (135 + 2 * (v1).toNatClampNeg))]) dX11_at_24 rfl rfl rfl rfl ?_
    refine x_aload_n G dX11_at_25 rfl rfl ?_
    obtain ⟨v_4, hv_4, hf⟩ := bnd hf
    refine x_virI G (As := []) (mX8_holdsRow G.2.2.2.2.2.2.1 M (tapeOk M hb_3) hv_4) mv_X11_420 (tapeOk M hb_3).1 cl8 rfl rfl rfl rfl rfl dX11_at_26 ?_
    refine x_ifeqB G (tgt := 46) dX11_at_29 (by decide) hf (fun c_5 hf => ?_) (fun c_5 hf => ?_)
    · refine x_iload_n G dX11_at_32 rfl rfl ?_
      refine x_iconst G (v := 0) dX11_at_33 (by decide) ?_
      refine x_aload_n G dX11_at_34 rfl rfl ?_
      refine x_getI G (tapeOk M hb_3).1 1 rfl cl8 rfl wf_X11_155 dX11_at_35 ?_
      refine x_iconst G (v := 1) dX11_at_38 (by decide) ?_
      refine x_isub G dX11_at_39 ?_
      obtain ⟨v_6, hv_6, hf⟩ := bnd hf
      refine x_staI G (As := [.int v2, .int (0 : Int32), .int ((w.1 (135 + 2 * (v1).toNatClampNeg) 1) - (1 : Int32))]) (mX11_within G.2.2.2.2.2.2.1 M hv_6) ms_X11_96 rfl rfl rfl rfl rfl dX11_at_40 ?_
      refine x_ifneB G (tgt := 57) dX11_at_43 (by decide) hf (fun c_7 hf => ?_) (fun c_7 hf => ?_)
      · refine x_aload_n G dX11_at_57 rfl rfl ?_
        refine x_getR G (tapeOk M hb_3).1 2 (b := ((135 + 2 * (v1).toNatClampNeg) + 1)) rfl cl8 rfl wf_X11_392 dX11_at_58 ?_
        refine x_iload_n G dX11_at_61 rfl rfl ?_
        refine x_lald G (tapeOk M hb_3).2 dX11_at_62 hf (fun hb_8 hf => ?_)
        exact xt_lret G hf hr dX11_at_63
      · exact XW.sub (lv' := [none, none, none, none]) trivial (xX11_at_46 G M hf hr)
    · exact XW.sub (lv' := [none, none, none, none]) trivial (xX11_at_46 G M hf hr)
  · exact xt_thAW G M (text := "no such tape") hf hr (by decide +kernel) rfl rfl dX11_at_7 dX11_at_10 dX11_at_11 dX11_at_14 dX11_at_17

theorem mX11_at {l : Launch} (hst : l.stackTraces = false) {S : KS} {w : Wd} (hI : Inj S) (M : Main S) {v1 : Int32} {v2 : Int32} {r : (Int64 ⊕ Bool) × Wd} (hf : fX11_at v1 v2 w = some r) : CTJ l yX11_at cX11_at 4 (some .long) 6 S [.ref 0, .int v1, .int v2] w r.1 r.2 := by
  intro sz
  refine mk_entryT rfl (by decide +kernel) hI 1 rfl rfl (fun K h1 h2 h3 h4 h5 h6 h7 h8 G => ?_)
  subst h2
  exact xX11_at_e G M hf ⟨h3, by rw [h4, h6], h5, h7, h8, by rw [h1]; exact hst⟩

