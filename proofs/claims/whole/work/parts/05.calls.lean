-- contracts of methods over a world (no cell is made), and their calls
def CI (l : Launch) (y : MethodName) (b : ByteArray) (n : Nat) (ret : Option FieldType) (d : Nat) (S : KS) (av : List Value) (w : Wd) (r : Int32) (w' : Wd) : Prop := ∀ sz : Nat, Met l y (wsM y b n ret) (rmD d) (va_Pc (av.map (cv S.ad)) (fun U => U.heap.size = sz ∧ HH S w U.heap ∧ KK S (AA S sz) U U.heap)) (va_Qi (fun (r' : Int32) (_ : Unit) => r' = r) (fun _ t => HH S w' t.heap) (AA S sz)) 0 0 (AA S sz)
def CJ (l : Launch) (y : MethodName) (b : ByteArray) (n : Nat) (ret : Option FieldType) (d : Nat) (S : KS) (av : List Value) (w : Wd) (r : Int64) (w' : Wd) : Prop := ∀ sz : Nat, Met l y (wsM y b n ret) (rmD d) (va_Pc (av.map (cv S.ad)) (fun U => U.heap.size = sz ∧ HH S w U.heap ∧ KK S (AA S sz) U U.heap)) (va_Ql (fun (r' : Int64) (_ : Unit) => r' = r) (fun _ t => HH S w' t.heap) (AA S sz)) 0 0 (AA S sz)
def CV (l : Launch) (y : MethodName) (b : ByteArray) (n : Nat) (ret : Option FieldType) (d : Nat) (S : KS) (av : List Value) (w : Wd) (w' : Wd) : Prop := ∀ sz : Nat, Met l y (wsM y b n ret) (rmD d) (va_Pc (av.map (cv S.ad)) (fun U => U.heap.size = sz ∧ HH S w U.heap ∧ KK S (AA S sz) U U.heap)) (va_Qv (fun (_ : Unit) => True) (fun _ t => HH S w' t.heap) (AA S sz)) 0 0 (AA S sz)
/-- an answer that is null or a cell of the world -/
def CQ (l : Launch) (y : MethodName) (b : ByteArray) (n : Nat) (ret : Option FieldType) (d : Nat) (S : KS) (av : List Value) (w : Wd) (r : Option Nat) (w' : Wd) : Prop := ∀ sz : Nat, Met l y (wsM y b n ret) (rmD d) (va_Pc (av.map (cv S.ad)) (fun U => U.heap.size = sz ∧ HH S w U.heap ∧ KK S (AA S sz) U U.heap)) (va_Qq (fun (r' : Option Nat) (_ : Unit) => r' = r.map S.ad) (fun _ t => HH S w' t.heap) (AA S sz)) 0 0 (AA S sz)
theorem NK.warm {s U : State} (hW : s.WarmedH U.vm) (h : NK s) : NK U := fun q hq => va_Nw.warmM hW (h q hq)
theorem NK.same {u U : State} (e : u.vm = U.vm) (h : NK u) : NK U := fun q hq => va_Nw.same rfl e (h q hq)
theorem warm_refl (U V : State) (h : V.vm = U.vm) : U.WarmedH V.vm := by rw [h]; exact State.WarmedH.refl U
theorem pc_blind {S : KS} (hI : Inj S) {av : List Value} {sz : Nat} {w : Wd} : FrameBlind (va_Pc av (fun U => U.heap.size = sz ∧ HH S w U.heap ∧ KK S (AA S sz) U U.heap)) := fun a U g mk q => by
  obtain ⟨q0, q1, qP, qK, qN, qX, _⟩ := q
  exact ⟨q0, q1, qP, va_K.moved (u := U) (U := U.calling g mk a) (Vm.Alike.refl U.vm) qK, NK.same (u := U) (U := U.calling g mk a) rfl qN, hI.2 _ _ U (U.calling g mk a) U.heap U.heap qX (warm_refl U (U.calling g mk a) rfl) (fun _ h => h) (fun _ _ _ => rfl), rfl⟩
/-- the words of a call by its place: links, the receiver's class, the code -/
def MV (own : String) (idx : Nat) (y : MethodName) (b : ByteArray) (n : Nat) (ret : Option FieldType) (C : String) (k : Nat) : Prop :=
  (Cond.methodLink own idx y ∈ gtbl ∧ Cond.instanceMethod y ∈ gtbl ∧ Cond.selects C y y ∈ gtbl ∧ Cond.initialized C ∈ gtbl ∧ Cond.code y b n ret ∈ gtbl) ∧ (y.cls = C ∧ y.cls ≠ "java/lang/invoke/MethodHandle" ∧ y.cls ≠ "java/lang/invoke/VarHandle" ∧ (parseMethodDescriptor y.desc).map (fun d => d.parameters.length) = some k)
def MS (own : String) (idx : Nat) (y : MethodName) (b : ByteArray) (n : Nat) (ret : Option FieldType) (k : Nat) : Prop :=
  (Cond.methodLink own idx y ∈ gtbl ∧ Cond.static y ∈ gtbl ∧ Cond.initialized y.cls ∈ gtbl ∧ Cond.code y b n ret ∈ gtbl) ∧ (y.cls ≠ "java/lang/invoke/MethodHandle" ∧ y.cls ≠ "java/lang/invoke/VarHandle" ∧ (parseMethodDescriptor y.desc).map (fun d => d.parameters.length) = some k)
/-- a static method of the nest host -/
def MN (own : String) (idx : Nat) (y : MethodName) (host : String) (b : ByteArray) (n : Nat) (ret : Option FieldType) (k : Nat) : Prop :=
  ((own, idx, y, host) ∈ nestQ ∧ Cond.static y ∈ gtbl ∧ Cond.initialized y.cls ∈ gtbl ∧ Cond.code y b n ret ∈ gtbl) ∧ (y.cls ≠ "java/lang/invoke/MethodHandle" ∧ y.cls ≠ "java/lang/invoke/VarHandle" ∧ (parseMethodDescriptor y.desc).map (fun d => d.parameters.length) = some k)
theorem good_app {big a b : List Cond} (ha : GoodIn big a) (hb : GoodIn big b) : GoodIn big (a ++ b) := fun w h => (List.mem_append.mp h).elim (ha w) (hb w)
section CALLS
variable {K : KT} {cc : ByteArray} {own : String} {nL d pc : Nat} {lv : List (Option Value)} {st : List Value} {w w' : Wd}
variable {y : MethodName} {b : ByteArray} {n k d' i : Nat} {ret : Option FieldType} {C : String} {a : Nat} {As : List Value} {ci : Nat} {ds : List (Nat × Nat)} {T : u_T} {N : Nat} {ty : Nat → FieldType} {host : String}
theorem g_fix (G : GK K cc own nL d) : CallFix K.p K.m K.c cc nL K.s K.args gtbl own := ⟨G.1, G.2.1, G.2.2.1, G.2.2.2.1, G.2.2.2.2.1⟩
theorem g_cwV (G : GK K cc own nL d) (hM : MV own i y b n ret C k) (hd : Nat.blt d' d = true) (hn : Nat.ble n 41 = true) : CallW K.R K.s K.args own C i y b n ret (wsM y b n ret) (rmD d') 0 0 k := by
  obtain ⟨⟨m1, m2, m3, m4, m5⟩, h⟩ := hM
  have hn : n ≤ 41 := Nat.le_of_ble_eq_true hn
  have hd : d' < d := Nat.le_of_ble_eq_true hd
  obtain ⟨r1, r2, -⟩ := G.2.2.2.2.2.2.2.2.2.2
  refine cwV k G.2.2.2.2.1 (Ts := gtbl) ?_ rfl rfl rfl h ⟨by show d' + 1 ≤ _; omega, by show 8 + (n + 11) + 60 * d' ≤ _; omega⟩
  exact good_app (good_list (fun _ h => h) _ (by
    intro w hw
    rcases List.mem_cons.mp hw with rfl | hw
    · exact m1
    rcases List.mem_cons.mp hw with rfl | hw
    · exact m2
    rcases List.mem_cons.mp hw with rfl | hw
    · exact m3
    rcases List.mem_cons.mp hw with rfl | hw
    · exact m4
    · cases hw)) (good_gtbl (fun _ h => h) m5)
theorem g_cwS (G : GK K cc own nL d) (hM : MS own i y b n ret k) (hd : Nat.blt d' d = true) (hn : Nat.ble n 41 = true) : CallB K.R K.s K.args own i y b n ret (wsM y b n ret) (rmD d') 0 0 k ∧ (Cond.static y).before K.args K.s = true := by
  obtain ⟨⟨m1, m2, m3, m5⟩, h⟩ := hM
  have hn : n ≤ 41 := Nat.le_of_ble_eq_true hn
  have hd : d' < d := Nat.le_of_ble_eq_true hd
  obtain ⟨r1, r2, -⟩ := G.2.2.2.2.2.2.2.2.2.2
  refine va_cwS k G.2.2.2.2.1 (Ts := gtbl) ?_ rfl rfl rfl h ⟨by show d' + 1 ≤ _; omega, by show 8 + (n + 11) + 60 * d' ≤ _; omega⟩
  exact good_app (good_list (fun _ h => h) _ (by
    intro w hw
    rcases List.mem_cons.mp hw with rfl | hw
    · exact m1
    rcases List.mem_cons.mp hw with rfl | hw
    · exact m2
    rcases List.mem_cons.mp hw with rfl | hw
    · exact m3
    · cases hw)) (good_gtbl (fun _ h => h) m5)
theorem g_cwN (G : GK K cc own nL d) (hM : MN own i y host b n ret k) (hd : Nat.blt d' d = true) (hn : Nat.ble n 41 = true) : va_CN K.R K.s K.args own i y host b n ret (wsM y b n ret) (rmD d') 0 0 k ∧ (Cond.static y).before K.args K.s = true ∧ True := by
  obtain ⟨⟨m1, m2, m3, m5⟩, h⟩ := hM
  have hn : n ≤ 41 := Nat.le_of_ble_eq_true hn
  have hd : d' < d := Nat.le_of_ble_eq_true hd
  obtain ⟨r1, r2, -⟩ := G.2.2.2.2.2.2.2.2.2.2
  exact ⟨va_cnB k G.2.2.2.2.1 (good_gtbl (fun _ h => h) m5) rfl rfl rfl (G.2.2.2.2.2.1.2.1 _ m1) (G.2.2.2.2.1 _ m3) h ⟨by show d' + 1 ≤ _; omega, by show 8 + (n + 11) + 60 * d' ≤ _; omega⟩, G.2.2.2.2.1 _ m2, trivial⟩
theorem g_inA (G : GK K cc own nL d) {H : Heap} {locs : List Loc} (hS : va_S K.A K.H0 H locs) : (∀ q, q < H.size → AA K.ks H.size q → K.A q) ∧ ∀ q, AA K.ks H.size q → K.A q := by
  have h : ∀ q, AA K.ks H.size q → K.A q := by
    intro q hq
    rcases hq with ⟨k, h1, rfl⟩ | h
    · exact G.2.2.2.2.2.2.2.1 k h1
    · exact G.2.2.2.2.2.2.2.2.1 q (Nat.le_trans hS.1 h)
  exact ⟨fun q _ => h q, h⟩
theorem g_pre (G : GK K cc own nL d) {H : Heap} {locs : List Loc} (hS : va_S K.A K.H0 H locs) (hH : HH K.ks w H) (av : List Value) : ∀ U : State, U.heap = H → K.s.WarmedH U.vm → va_Pc (av.map (cv K.ks.ad)) (fun U => U.heap.size = H.size ∧ HH K.ks w U.heap ∧ KK K.ks (AA K.ks H.size) U U.heap) (av.map (cv K.ks.ad)).toArray U := fun U hU hW => by
  have h := G.2.2.2.2.2.1
  refine ⟨rfl, by rw [hU], by rw [hU]; exact hH, va_K.moved hW.alike h.1, NK.warm hW h.2.1, ?_, rfl⟩
  rw [hU]
  exact G.2.2.2.2.2.2.1.2 K.A (AA K.ks H.size) K.s U K.H0 H h.2.2.1 hW (g_inA G hS).2 hS.2.1
theorem g_recv (G : GK K cc own nL d) {H : Heap} (hH : HH K.ks w H) (hk : KD K.ks a (.inl (ci, ds))) (hC : CLS ci C T N ty) : ∃ cell : Cell, H[K.ks.ad a]? = some cell ∧ cell.vm.isStatics = false ∧ K.s.vm.findClass C = some cell.cls := va_recv (q := (C, T, N)) G.2.2.2.2.2.1.1 (hH.one hk) hC.1 (q0 := 0) rfl
theorem x_virI (G : GK K cc own nL d) {r0 : Int32} (hM : CI K.l y b n ret d' K.ks (.ref a :: As) w r0 w') (hv : MV own i y b n ret C k) (hk : KD K.ks a (.inl (ci, ds))) (hC : CLS ci C T N ty) {st0 : List Value} (hst : st0 = As.reverse ++ .ref a :: st) (hl : As.length = k) (hdd : Nat.blt d' d = true) (hn : Nat.ble n 41 = true) (h8 : Nat.ble (st.map fun v => v.category).sum 8 = true) (hd : decode cc pc = .ok (.invokevirtual i, 3)) (kk : XW K (pc + 3) lv (.int r0 :: st) w') : XW K pc lv st0 w := fun H locs ls hH hS hL => by
  subst hst
  have hA := g_inA G hS
  have h8' : (st.map fun v => v.category).sum ≤ 8 := Nat.le_of_ble_eq_true h8
  refine va_calli (va_runV (As := As.map (cv K.ks.ad)) (rest := st.map (cv K.ks.ad)) (b := K.ks.ad a) (g_fix G) (hM H.size) (g_cwV G hv hdd hn) ⟨pc_blind G.2.2.2.2.2.2.1, g_recv G hH hk hC, g_pre G hS hH (.ref a :: As)⟩ rfl (by rw [List.length_map]; exact hl) (hL.1.trans G.2.2.1) (by show List.map _ _ = _; simp [cv]) (lv_room (by rw [cv_cats]; exact h8')) hd ⟨G.2.2.2.2.2.2.2.2.2.2.2.2.1, G.2.2.2.2.2.2.2.2.2.2.2.2.2⟩) hS hA.1 hA.2 (fun r u t H1 locs1 ht hvm hp hB hz hk1 hS1 => ?_)
  subst hp
  exact kk H1 locs1 ls (by rw [← ht]; exact hB) hS1 hL
theorem x_virJ (G : GK K cc own nL d) {r0 : Int64} (hM : CJ K.l y b n ret d' K.ks (.ref a :: As) w r0 w') (hv : MV own i y b n ret C k) (hk : KD K.ks a (.inl (ci, ds))) (hC : CLS ci C T N ty) {st0 : List Value} (hst : st0 = As.reverse ++ .ref a :: st) (hl : As.length = k) (hdd : Nat.blt d' d = true) (hn : Nat.ble n 41 = true) (h8 : Nat.ble (st.map fun v => v.category).sum 8 = true) (hd : decode cc pc = .ok (.invokevirtual i, 3)) (kk : XW K (pc + 3) lv (.long r0 :: st) w') : XW K pc lv st0 w := fun H locs ls hH hS hL => by
  subst hst
  have hA := g_inA G hS
  have h8' : (st.map fun v => v.category).sum ≤ 8 := Nat.le_of_ble_eq_true h8
  refine va_calll (va_runV (As := As.map (cv K.ks.ad)) (rest := st.map (cv K.ks.ad)) (b := K.ks.ad a) (g_fix G) (hM H.size) (g_cwV G hv hdd hn) ⟨pc_blind G.2.2.2.2.2.2.1, g_recv G hH hk hC, g_pre G hS hH (.ref a :: As)⟩ rfl (by rw [List.length_map]; exact hl) (hL.1.trans G.2.2.1) (by show List.map _ _ = _; simp [cv]) (lv_room (by rw [cv_cats]; exact h8')) hd ⟨G.2.2.2.2.2.2.2.2.2.2.2.2.1, G.2.2.2.2.2.2.2.2.2.2.2.2.2⟩) hS hA.1 hA.2 (fun r u t H1 locs1 ht hvm hp hB hz hk1 hS1 => ?_)
  subst hp
  exact kk H1 locs1 ls (by rw [← ht]; exact hB) hS1 hL
theorem x_virV (G : GK K cc own nL d) (hM : CV K.l y b n ret d' K.ks (.ref a :: As) w w') (hv : MV own i y b n ret C k) (hk : KD K.ks a (.inl (ci, ds))) (hC : CLS ci C T N ty) {st0 : List Value} (hst : st0 = As.reverse ++ .ref a :: st) (hl : As.length = k) (hdd : Nat.blt d' d = true) (hn : Nat.ble n 41 = true) (h8 : Nat.ble (st.map fun v => v.category).sum 8 = true) (hd : decode cc pc = .ok (.invokevirtual i, 3)) (kk : XW K (pc + 3) lv st w') : XW K pc lv st0 w := fun H locs ls hH hS hL => by
  subst hst
  have hA := g_inA G hS
  have h8' : (st.map fun v => v.category).sum ≤ 8 := Nat.le_of_ble_eq_true h8
  refine va_callv (va_runV (As := As.map (cv K.ks.ad)) (rest := st.map (cv K.ks.ad)) (b := K.ks.ad a) (g_fix G) (hM H.size) (g_cwV G hv hdd hn) ⟨pc_blind G.2.2.2.2.2.2.1, g_recv G hH hk hC, g_pre G hS hH (.ref a :: As)⟩ rfl (by rw [List.length_map]; exact hl) (hL.1.trans G.2.2.1) (by show List.map _ _ = _; simp [cv]) (lv_room (by rw [cv_cats]; exact h8')) hd ⟨G.2.2.2.2.2.2.2.2.2.2.2.2.1, G.2.2.2.2.2.2.2.2.2.2.2.2.2⟩) hS hA.1 hA.2 (fun u t H1 locs1 ht hvm hp hB hz hk1 hS1 => ?_)
  exact kk H1 locs1 ls (by rw [← ht]; exact hB) hS1 hL
theorem x_virQ (G : GK K cc own nL d) {r0 : Option Nat} (hM : CQ K.l y b n ret d' K.ks (.ref a :: As) w r0 w') (hv : MV own i y b n ret C k) (hk : KD K.ks a (.inl (ci, ds))) (hC : CLS ci C T N ty) {st0 : List Value} (hst : st0 = As.reverse ++ .ref a :: st) (hl : As.length = k) (hdd : Nat.blt d' d = true) (hn : Nat.ble n 41 = true) (h8 : Nat.ble (st.map fun v => v.category).sum 8 = true) (hd : decode cc pc = .ok (.invokevirtual i, 3)) (kk : XW K (pc + 3) lv (va_rf r0 :: st) w') : XW K pc lv st0 w := fun H locs ls hH hS hL => by
  subst hst
  have hA := g_inA G hS
  have h8' : (st.map fun v => v.category).sum ≤ 8 := Nat.le_of_ble_eq_true h8
  refine va_callq (va_runV (As := As.map (cv K.ks.ad)) (rest := st.map (cv K.ks.ad)) (b := K.ks.ad a) (g_fix G) (hM H.size) (g_cwV G hv hdd hn) ⟨pc_blind G.2.2.2.2.2.2.1, g_recv G hH hk hC, g_pre G hS hH (.ref a :: As)⟩ rfl (by rw [List.length_map]; exact hl) (hL.1.trans G.2.2.1) (by show List.map _ _ = _; simp [cv]) (lv_room (by rw [cv_cats]; exact h8')) hd ⟨G.2.2.2.2.2.2.2.2.2.2.2.2.1, G.2.2.2.2.2.2.2.2.2.2.2.2.2⟩) hS hA.1 hA.2 (fun r u t H1 locs1 ht hvm hp hB hz hk1 hS1 => ?_)
  subst hp
  have := kk H1 locs1 ls (by rw [← ht]; exact hB) hS1 hL
  cases r0 <;> exact this
-- static methods: of the own class, of another class, of the nest host
theorem x_staI (G : GK K cc own nL d) {r0 : Int32} (hM : CI K.l y b n ret d' K.ks As w r0 w') (hv : MS own i y b n ret k) {st0 : List Value} (hst : st0 = As.reverse ++ st) (hl : As.length = k) (hdd : Nat.blt d' d = true) (hn : Nat.ble n 41 = true) (h8 : Nat.ble (st.map fun v => v.category).sum 8 = true) (hd : decode cc pc = .ok (.invokestatic i, 3)) (kk : XW K (pc + 3) lv (.int r0 :: st) w') : XW K pc lv st0 w := fun H locs ls hH hS hL => by
  subst hst
  have hA := g_inA G hS
  have h8' : (st.map fun v => v.category).sum ≤ 8 := Nat.le_of_ble_eq_true h8
  refine va_calli (va_runS (As := As.map (cv K.ks.ad)) (rest := st.map (cv K.ks.ad)) (g_fix G) (hM H.size) (g_cwS G hv hdd hn) ⟨pc_blind G.2.2.2.2.2.2.1, g_pre G hS hH As⟩ rfl (by rw [List.length_map]; exact hl) (hL.1.trans G.2.2.1) (by show List.map _ _ = _; simp) (lv_room (by rw [cv_cats]; exact h8')) hd ⟨G.2.2.2.2.2.2.2.2.2.2.2.2.1, G.2.2.2.2.2.2.2.2.2.2.2.2.2⟩) hS hA.1 hA.2 (fun r u t H1 locs1 ht hvm hp hB hz hk1 hS1 => ?_)
  subst hp
  exact kk H1 locs1 ls (by rw [← ht]; exact hB) hS1 hL
theorem x_staJ (G : GK K cc own nL d) {r0 : Int64} (hM : CJ K.l y b n ret d' K.ks As w r0 w') (hv : MS own i y b n ret k) {st0 : List Value} (hst : st0 = As.reverse ++ st) (hl : As.length = k) (hdd : Nat.blt d' d = true) (hn : Nat.ble n 41 = true) (h8 : Nat.ble (st.map fun v => v.category).sum 8 = true) (hd : decode cc pc = .ok (.invokestatic i, 3)) (kk : XW K (pc + 3) lv (.long r0 :: st) w') : XW K pc lv st0 w := fun H locs ls hH hS hL => by
  subst hst
  have hA := g_inA G hS
  have h8' : (st.map fun v => v.category).sum ≤ 8 := Nat.le_of_ble_eq_true h8
  refine va_calll (va_runS (As := As.map (cv K.ks.ad)) (rest := st.map (cv K.ks.ad)) (g_fix G) (hM H.size) (g_cwS G hv hdd hn) ⟨pc_blind G.2.2.2.2.2.2.1, g_pre G hS hH As⟩ rfl (by rw [List.length_map]; exact hl) (hL.1.trans G.2.2.1) (by show List.map _ _ = _; simp) (lv_room (by rw [cv_cats]; exact h8')) hd ⟨G.2.2.2.2.2.2.2.2.2.2.2.2.1, G.2.2.2.2.2.2.2.2.2.2.2.2.2⟩) hS hA.1 hA.2 (fun r u t H1 locs1 ht hvm hp hB hz hk1 hS1 => ?_)
  subst hp
  exact kk H1 locs1 ls (by rw [← ht]; exact hB) hS1 hL
theorem x_staV (G : GK K cc own nL d) (hM : CV K.l y b n ret d' K.ks As w w') (hv : MS own i y b n ret k) {st0 : List Value} (hst : st0 = As.reverse ++ st) (hl : As.length = k) (hdd : Nat.blt d' d = true) (hn : Nat.ble n 41 = true) (h8 : Nat.ble (st.map fun v => v.category).sum 8 = true) (hd : decode cc pc = .ok (.invokestatic i, 3)) (kk : XW K (pc + 3) lv st w') : XW K pc lv st0 w := fun H locs ls hH hS hL => by
  subst hst
  have hA := g_inA G hS
  have h8' : (st.map fun v => v.category).sum ≤ 8 := Nat.le_of_ble_eq_true h8
  refine va_callv (va_runS (As := As.map (cv K.ks.ad)) (rest := st.map (cv K.ks.ad)) (g_fix G) (hM H.size) (g_cwS G hv hdd hn) ⟨pc_blind G.2.2.2.2.2.2.1, g_pre G hS hH As⟩ rfl (by rw [List.length_map]; exact hl) (hL.1.trans G.2.2.1) (by show List.map _ _ = _; simp) (lv_room (by rw [cv_cats]; exact h8')) hd ⟨G.2.2.2.2.2.2.2.2.2.2.2.2.1, G.2.2.2.2.2.2.2.2.2.2.2.2.2⟩) hS hA.1 hA.2 (fun u t H1 locs1 ht hvm hp hB hz hk1 hS1 => ?_)
  exact kk H1 locs1 ls (by rw [← ht]; exact hB) hS1 hL
theorem x_nesI (G : GK K cc own nL d) {r0 : Int32} (hM : CI K.l y b n ret d' K.ks As w r0 w') (hv : MN own i y host b n ret k) {st0 : List Value} (hst : st0 = As.reverse ++ st) (hl : As.length = k) (hdd : Nat.blt d' d = true) (hn : Nat.ble n 41 = true) (h8 : Nat.ble (st.map fun v => v.category).sum 8 = true) (hd : decode cc pc = .ok (.invokestatic i, 3)) (kk : XW K (pc + 3) lv (.int r0 :: st) w') : XW K pc lv st0 w := fun H locs ls hH hS hL => by
  subst hst
  have hA := g_inA G hS
  have h8' : (st.map fun v => v.category).sum ≤ 8 := Nat.le_of_ble_eq_true h8
  refine va_calli (va_runSN (As := As.map (cv K.ks.ad)) (rest := st.map (cv K.ks.ad)) (g_fix G) (hM H.size) (g_cwN G hv hdd hn) ⟨pc_blind G.2.2.2.2.2.2.1, g_pre G hS hH As⟩ rfl (by rw [List.length_map]; exact hl) (hL.1.trans G.2.2.1) (by show List.map _ _ = _; simp) (lv_room (by rw [cv_cats]; exact h8')) hd ⟨G.2.2.2.2.2.2.2.2.2.2.2.2.1, G.2.2.2.2.2.2.2.2.2.2.2.2.2⟩) hS hA.1 hA.2 (fun r u t H1 locs1 ht hvm hp hB hz hk1 hS1 => ?_)
  subst hp
  exact kk H1 locs1 ls (by rw [← ht]; exact hB) hS1 hL
theorem x_nesV (G : GK K cc own nL d) (hM : CV K.l y b n ret d' K.ks As w w') (hv : MN own i y host b n ret k) {st0 : List Value} (hst : st0 = As.reverse ++ st) (hl : As.length = k) (hdd : Nat.blt d' d = true) (hn : Nat.ble n 41 = true) (h8 : Nat.ble (st.map fun v => v.category).sum 8 = true) (hd : decode cc pc = .ok (.invokestatic i, 3)) (kk : XW K (pc + 3) lv st w') : XW K pc lv st0 w := fun H locs ls hH hS hL => by
  subst hst
  have hA := g_inA G hS
  have h8' : (st.map fun v => v.category).sum ≤ 8 := Nat.le_of_ble_eq_true h8
  refine va_callv (va_runSN (As := As.map (cv K.ks.ad)) (rest := st.map (cv K.ks.ad)) (g_fix G) (hM H.size) (g_cwN G hv hdd hn) ⟨pc_blind G.2.2.2.2.2.2.1, g_pre G hS hH As⟩ rfl (by rw [List.length_map]; exact hl) (hL.1.trans G.2.2.1) (by show List.map _ _ = _; simp) (lv_room (by rw [cv_cats]; exact h8')) hd ⟨G.2.2.2.2.2.2.2.2.2.2.2.2.1, G.2.2.2.2.2.2.2.2.2.2.2.2.2⟩) hS hA.1 hA.2 (fun u t H1 locs1 ht hvm hp hB hz hk1 hS1 => ?_)
  exact kk H1 locs1 ls (by rw [← ht]; exact hB) hS1 hL
-- Math
def mmin (x y : Int32) : Int32 := if y < x then y else x
def mabs (x : Int32) : Int32 := if 0 ≤ x then x else 0 - x
def lmin (x y : Int64) : Int64 := if y < x then y else x
def lmax (x y : Int64) : Int64 := if y < x then x else y
theorem x_min (G : GK K cc own nL d) {x y : Int32} (hl : Cond.methodLink own i Lib.Math.min.name ∈ gtbl) (h1 : Cond.static Lib.Math.min.name ∈ gtbl) (h2 : Cond.initialized "java/lang/Math" ∈ gtbl) (h3 : Cond.code Lib.Math.min.name Lib.Math.min.code 2 (some .int) ∈ gtbl) (hd0 : Nat.blt 0 d = true) (h8 : Nat.ble (st.map fun v => v.category).sum 8 = true) (hd : decode cc pc = .ok (.invokestatic i, 3)) (kk : XW K (pc + 3) lv (.int (mmin x y) :: st) w) : XW K pc lv (.int y :: .int x :: st) w := fun H locs ls hH hS hL => by
  have hd0 : 0 < d := Nat.le_of_ble_eq_true hd0
  obtain ⟨r1, r2, r3, r4⟩ := G.2.2.2.2.2.2.2.2.2.2
  have h8' : ((st.map (cv K.ks.ad)).map fun v => v.category).sum ≤ 8 := by rw [cv_cats]; exact Nat.le_of_ble_eq_true h8
  exact va_mmin G.1 G.2.1 hL.1.symm G.2.2.2.1 (G.2.2.2.2.1 _ hl) (G.2.2.2.2.1 _ h1) (G.2.2.2.2.1 _ h2) (G.2.2.2.2.1 _ h3) (by omega) (by omega) r3 r4 hd (kk H locs ls hH hS hL)
theorem x_abs (G : GK K cc own nL d) {x : Int32} (hl : Cond.methodLink own i Lib.Math.abs.name ∈ gtbl) (h1 : Cond.static Lib.Math.abs.name ∈ gtbl) (h2 : Cond.initialized "java/lang/Math" ∈ gtbl) (h3 : Cond.code Lib.Math.abs.name Lib.Math.abs.code 1 (some .int) ∈ gtbl) (hd0 : Nat.blt 0 d = true) (h8 : Nat.ble (st.map fun v => v.category).sum 8 = true) (hd : decode cc pc = .ok (.invokestatic i, 3)) (kk : XW K (pc + 3) lv (.int (mabs x) :: st) w) : XW K pc lv (.int x :: st) w := fun H locs ls hH hS hL => by
  have hd0 : 0 < d := Nat.le_of_ble_eq_true hd0
  obtain ⟨r1, r2, r3, r4⟩ := G.2.2.2.2.2.2.2.2.2.2
  have h8' : ((st.map (cv K.ks.ad)).map fun v => v.category).sum ≤ 8 := by rw [cv_cats]; exact Nat.le_of_ble_eq_true h8
  exact va_mabs G.1 G.2.1 hL.1.symm G.2.2.2.1 (G.2.2.2.2.1 _ hl) (G.2.2.2.2.1 _ h1) (G.2.2.2.2.1 _ h2) (G.2.2.2.2.1 _ h3) (by omega) (by omega) r3 r4 hd (kk H locs ls hH hS hL)
theorem x_minL (G : GK K cc own nL d) {x y : Int64} (hl : Cond.methodLink own i Lib.MathLoose.min_long.x ∈ gtbl) (h1 : Cond.static Lib.MathLoose.min_long.x ∈ gtbl) (h2 : Cond.initialized "java/lang/Math" ∈ gtbl) (h3 : Cond.code Lib.MathLoose.min_long.x Lib.MathLoose.min_long.code 4 (some .long) ∈ gtbl) (hd0 : Nat.blt 0 d = true) (h8 : Nat.ble (st.map fun v => v.category).sum 8 = true) (hd : decode cc pc = .ok (.invokestatic i, 3)) (kk : XW K (pc + 3) lv (.long (lmin x y) :: st) w) : XW K pc lv (.long y :: .long x :: st) w := fun H locs ls hH hS hL => by
  have hd0 : 0 < d := Nat.le_of_ble_eq_true hd0
  obtain ⟨r1, r2, r3, r4⟩ := G.2.2.2.2.2.2.2.2.2.2
  have h8' : ((st.map (cv K.ks.ad)).map fun v => v.category).sum ≤ 8 := by rw [cv_cats]; exact Nat.le_of_ble_eq_true h8
  exact va_mmin_long G.1 G.2.1 hL.1.symm G.2.2.2.1 (G.2.2.2.2.1 _ hl) (G.2.2.2.2.1 _ h1) (G.2.2.2.2.1 _ h2) (G.2.2.2.2.1 _ h3) (by omega) (by omega) r3 r4 hd (kk H locs ls hH hS hL)
theorem x_maxL (G : GK K cc own nL d) {x y : Int64} (hl : Cond.methodLink own i Lib.MathLoose.max_long.x ∈ gtbl) (h1 : Cond.static Lib.MathLoose.max_long.x ∈ gtbl) (h2 : Cond.initialized "java/lang/Math" ∈ gtbl) (h3 : Cond.code Lib.MathLoose.max_long.x Lib.MathLoose.max_long.code 4 (some .long) ∈ gtbl) (hd0 : Nat.blt 0 d = true) (h8 : Nat.ble (st.map fun v => v.category).sum 8 = true) (hd : decode cc pc = .ok (.invokestatic i, 3)) (kk : XW K (pc + 3) lv (.long (lmax x y) :: st) w) : XW K pc lv (.long y :: .long x :: st) w := fun H locs ls hH hS hL => by
  have hd0 : 0 < d := Nat.le_of_ble_eq_true hd0
  obtain ⟨r1, r2, r3, r4⟩ := G.2.2.2.2.2.2.2.2.2.2
  have h8' : ((st.map (cv K.ks.ad)).map fun v => v.category).sum ≤ 8 := by rw [cv_cats]; exact Nat.le_of_ble_eq_true h8
  exact va_mmax_long G.1 G.2.1 hL.1.symm G.2.2.2.1 (G.2.2.2.2.1 _ hl) (G.2.2.2.2.1 _ h1) (G.2.2.2.2.1 _ h2) (G.2.2.2.2.1 _ h3) (by omega) (by omega) r3 r4 hd (kk H locs ls hH hS hL)
-- returns
def RI (K : KT) (ret : FieldType) (r : Int32) (w' : Wd) : Prop := K.meth.sig.returnType = some ret ∧ K.Q = MQ K.below (va_Qi (fun (r' : Int32) (_ : Unit) => r' = r) (fun _ t => HH K.ks w' t.heap) K.A) K.args K.s K.cells K.slots K.A ∧ K.H0 = K.s.heap
def RJ (K : KT) (ret : FieldType) (r : Int64) (w' : Wd) : Prop := K.meth.sig.returnType = some ret ∧ K.Q = MQ K.below (va_Ql (fun (r' : Int64) (_ : Unit) => r' = r) (fun _ t => HH K.ks w' t.heap) K.A) K.args K.s K.cells K.slots K.A ∧ K.H0 = K.s.heap
def RV (K : KT) (w' : Wd) : Prop := K.meth.sig.returnType = none ∧ K.Q = MQ K.below (va_Qv (fun (_ : Unit) => True) (fun _ t => HH K.ks w' t.heap) K.A) K.args K.s K.cells K.slots K.A ∧ K.H0 = K.s.heap
def RQ (K : KT) (ret : FieldType) (r : Option Nat) (w' : Wd) : Prop := K.meth.sig.returnType = some ret ∧ K.Q = MQ K.below (va_Qq (fun (r' : Option Nat) (_ : Unit) => r' = r.map K.ks.ad) (fun _ t => HH K.ks w' t.heap) K.A) K.args K.s K.cells K.slots K.A ∧ K.H0 = K.s.heap
theorem x_iret (G : GK K cc own nL d) {rt : FieldType} {x : Int32} (hR : RI K rt x w) (hn : narrow rt (.int x) = .int x) (hd : decode cc pc = .ok (.ireturn, 1)) : XW K pc lv [.int x] w := fun H locs ls hH hS hL => by
  obtain ⟨h1, h2, h3⟩ := hR
  have hlk : K.meth.locks = false := G.2.2.2.2.2.2.2.2.2.1
  rw [h2]
  exact W.zret G.1 G.2.1 h1 hn (fun t ht hW => ⟨⟨x, (), rfl, rfl, by show HH K.ks w t.heap; rw [ht]; exact hH⟩, va_S.F (by rw [← h3]; exact hS) ht⟩) hS.2.2 hd (hlocks := hlk)
theorem x_lret (G : GK K cc own nL d) {x : Int64} (hR : RJ K .long x w) (hd : decode cc pc = .ok (.lreturn, 1)) : XW K pc lv [.long x] w := fun H locs ls hH hS hL => by
  obtain ⟨h1, h2, h3⟩ := hR
  have hlk : K.meth.locks = false := G.2.2.2.2.2.2.2.2.2.1
  rw [h2]
  exact W.lret G.1 G.2.1 h1 (fun t ht hW => ⟨⟨x, (), rfl, rfl, by show HH K.ks w t.heap; rw [ht]; exact hH⟩, va_S.F (by rw [← h3]; exact hS) ht⟩) hS.2.2 hd (hlocks := hlk)
theorem x_vret (G : GK K cc own nL d) (hR : RV K w) (hd : decode cc pc = .ok (.return_, 1)) : XW K pc lv [] w := fun H locs ls hH hS hL => by
  obtain ⟨h1, h2, h3⟩ := hR
  have hlk : K.meth.locks = false := G.2.2.2.2.2.2.2.2.2.1
  rw [h2]
  exact W.vret G.1 G.2.1 h1 (fun t ht hW => ⟨⟨(), rfl, trivial, by show HH K.ks w t.heap; rw [ht]; exact hH⟩, va_S.F (by rw [← h3]; exact hS) ht⟩) hS.2.2 hd (hlocks := hlk)
theorem x_aret (G : GK K cc own nL d) {rt : FieldType} {r : Option Nat} (hR : RQ K rt r w) (hrt : (∃ n, rt = .object n) ∨ ∃ t, rt = .array t) (hd : decode cc pc = .ok (.areturn, 1)) : XW K pc lv [va_rf r] w := fun H locs ls hH hS hL => by
  obtain ⟨h1, h2, h3⟩ := hR
  have hlk : K.meth.locks = false := G.2.2.2.2.2.2.2.2.2.1
  rw [h2]
  have e : List.map (cv K.ks.ad) [va_rf r] = [va_rf (r.map K.ks.ad)] := by cases r <;> rfl
  rw [e]
  exact W.aret G.1 G.2.1 h1 hrt (by cases r <;> simp [va_rf]) (fun t ht hW => ⟨⟨r.map K.ks.ad, (), rfl, rfl, by show HH K.ks w t.heap; rw [ht]; exact hH⟩, va_S.F (by rw [← h3]; exact hS) ht⟩) hS.2.2 hd (hlocks := hlk)
-- a method's start
def entL : List Value → List (Option Value)
  | [] => []
  | v :: r => if v.category = 2 then some v :: none :: entL r else some v :: entL r
theorem entL_args (ad : Nat → Nat) : ∀ (av : List Value) (j i : Nat) (v : Value), (entL av)[i]? = some (some v) → (j + i, cv ad v) ∈ lv_args j (av.map (cv ad))
  | [], j, i, v, h => by simp [entL] at h
  | u :: r, j, i, v, h => by
    show (j + i, cv ad v) ∈ (j, cv ad u) :: lv_args (if (cv ad u).category = 2 then j + 2 else j + 1) (r.map (cv ad))
    rw [cv_cat]
    unfold entL at h
    by_cases c : u.category = 2
    · rw [if_pos c] at h
      rw [if_pos c]
      rcases i with _ | _ | i
      · simp at h
        subst h
        exact List.mem_cons_self
      · simp at h
      · have := entL_args ad r (j + 2) i v (by simpa using h)
        rw [show j + 2 + i = j + (i + 1 + 1) by omega] at this
        exact List.mem_cons_of_mem _ this
    · rw [if_neg c] at h
      rw [if_neg c]
      rcases i with _ | i
      · simp at h
        subst h
        exact List.mem_cons_self
      · have := entL_args ad r (j + 1) i v (by simpa using h)
        rw [show j + 1 + i = j + (i + 1) by omega] at this
        exact List.mem_cons_of_mem _ this
theorem pad_get {l : List (Option Value)} {n i : Nat} {v : Value} (h : (l ++ List.replicate n none)[i]? = some (some v)) : l[i]? = some (some v) := by
  by_cases c : i < l.length
  · rwa [List.getElem?_append_left c] at h
  · rw [List.getElem?_append_right (by omega), List.getElem?_replicate] at h
    split at h <;> simp at h
end CALLS
theorem mk_entry {l : Launch} {y : MethodName} {b : ByteArray} {n : Nat} {ret : Option FieldType} {d : Nat} {S : KS} {av : List Value} {w : Wd} {sz : Nat} {own : String} {lv : List (Option Value)} {Qc : Array Value → State → Outcome → State → Prop} (hown : y.cls = own) (hy : plainName y.cls = true) (hI : Inj S) (m : Nat) (hlv : entL av ++ List.replicate m none = lv) (hsl : Nat.ble (lg_sl av).length n = true)
    (body : ∀ K : KT, K.l = l → K.ks = S → K.meth.sig.returnType = ret → K.Q = MQ K.below Qc K.args K.s K.cells K.slots K.A → K.H0 = K.s.heap → K.A = AA S sz → GK K b own n d → XW K 0 lv [] w) :
    Met l y (wsM y b n ret) (rmD d) (va_Pc (av.map (cv S.ad)) (fun U => U.heap.size = sz ∧ HH S w U.heap ∧ KK S (AA S sz) U U.heap)) Qc 0 0 (AA S sz) := by
  refine Met.ofW (cc := b) (maxL := n) (ret := ret) hy rfl ?_
  intro p e s m' args below meth c s₁ B hml hv
  obtain ⟨rfl, hsz, hH, hK⟩ := hv
  have hts := atoms_spec (ws := wsM y b n ret) B.pre
  have hown' : s.vm.findClass own = some m'.cls := hown ▸ findClass_of_methodNamed B.named
  have hsl' : (lg_sl (av.map (cv S.ad))).length ≤ n := by
    have e : (lg_sl (av.map (cv S.ad))).length = (lg_sl av).length := by
      unfold lg_sl
      rw [List.flatMap_map]
      simp only [List.length_flatMap]
      congr 1
      apply List.map_congr_left
      intro v _
      rw [cv_cat]
      split <;> rfl
    rw [e]
    exact Nat.le_of_ble_eq_true hsl
  have hl := lv_entry (av.map (cv S.ad)) hsl'
  rw [lg_entry_eq]
  let K : KT := ((p, l, e, (headSpec (wsM y b n ret) (rmD d)).room, s, m', (av.map (cv S.ad)).toArray, below), (meth, c, MQ below Qc (av.map (cv S.ad)).toArray s 0 0 (AA S sz), 0, 0), S, AA S sz, s.heap)
  have G : GK K b own n d := ⟨B.exec, B.bytes, hml, hown', fun w hw => hts w (List.mem_cons_of_mem _ hw), hK, hI, fun k hk => Or.inl ⟨k, hk, rfl⟩, fun q hq => Or.inr (by rw [← hsz]; exact hq), B.notSynchronized, Nat.le_refl d, Nat.le_refl (60 * d), Nat.le_refl 0, Nat.le_refl 0⟩
  refine body K rfl rfl B.returns rfl rfl rfl G s.heap [] _ hH va_S.rf ?_
  refine ⟨by rw [hl.1]; exact hml.symm, hl.2.1, fun i v hi => hl.2.2 (i, cv S.ad v) ?_⟩
  rw [← hlv] at hi
  have := entL_args S.ad av 0 i v (pad_get hi)
  rwa [Nat.zero_add] at this
