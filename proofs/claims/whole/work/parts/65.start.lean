theorem aoA_moved {t : FieldType} {u U : State} (hvm : u.vm.Alike U.vm) (h : (Cond.arrayOver (.array t)).before #[] u = true) : (Cond.arrayOver (.array t)).before #[] U = true := by
  obtain ⟨comp, c, k, h1, h2, h3, h4, h5⟩ : ∃ comp c k, u.vm.findClass (FieldType.array t).toString = some comp ∧ (u.vm.classes.findIdx? fun (x : Class) => match x.kind with | .array component _ => component == comp | _ => false) = some c ∧ u.vm.classes[c]? = some k ∧ k.kind = .array comp (.array t) ∧ u.vm.findClass ("[" ++ (FieldType.array t).toString) = some c := by
    have h := h
    unfold Cond.before at h
    simp only [Cond.holds, Cond.value, beq_iff_eq] at h
    cases hc : u.vm.findClass (FieldType.array t).toString with
    | none => simp [hc] at h
    | some comp =>
      simp only [hc, Option.bind_some, Option.bind_eq_some_iff, Option.map_eq_some_iff] at h
      obtain ⟨c, hi, k, hk, hb⟩ := h
      obtain ⟨hlt, hp, -⟩ := Array.findIdx?_eq_some_iff_getElem.mp hi
      have hk2 : u.vm.classes[c] = k := by
        have := Array.getElem?_eq_getElem hlt
        rw [this] at hk
        exact Option.some.inj hk
      rw [hk2] at hp
      refine ⟨comp, c, k, rfl, hi, hk, ?_⟩
      split at hb
      · rename_i c9 ty9 heq
        rw [heq] at hp
        have hcomp : c9 = comp := by simpa using hp
        simp only [Bool.and_eq_true, decide_eq_true_eq] at hb
        exact ⟨by rw [heq, hcomp, hb.1], hb.2⟩
      · cases hb
  obtain ⟨k', hk', he⟩ := hvm.2.2 _ _ h3
  have hi : (U.vm.classes.findIdx? fun (x : Class) => match x.kind with | .array component _ => component == comp | _ => false) = some c := by
    refine (va_idx_bare U.vm comp).symm.trans ?_
    first | rw [hvm.bare_eq] | rw [← hvm.bare_eq]
    exact (va_idx_bare u.vm comp).trans h2
  have hkind : k'.kind = .array comp (.array t) := by rw [he]; exact h4
  have f1 : U.vm.findClass (FieldType.array t).toString = some comp := by rw [hvm.findClass]; exact h1
  have f2 : U.vm.findClass ("[" ++ (FieldType.array t).toString) = some c := by rw [hvm.findClass]; exact h5
  unfold Cond.before Cond.holds
  simp only [Cond.value]
  rw [f1, Option.bind_some]
  refine (congrArg (fun o : Option Nat => (o.bind (fun c => (U.vm.classes[c]?).map fun (k : Class) => match k.kind with | .array _ ty => decide (ty = FieldType.array t) && decide (U.vm.findClass ("[" ++ (FieldType.array t).toString) = some c) | _ => false) == some true)) hi).trans ?_
  simp [hk', hkind, f2]
def XGa (x y : Nat) (A : Nat → Prop) (U : State) (H : Heap) : Prop :=
  (va_Z "java/lang/String" "COMPACT_STRINGS" "Z" (.int 1) A U H ∧ vk_S 1 [12] [[104, 115, 112, 116, 100, 107, 111, 119, 102, 99, 109, 117]] (fun _ => x) (fun _ => y) A U H ∧ vk_R RX4 187 "hsptdkowfcmu" x U) ∧
  ((∀ q ∈ excT, ∃ sa, vk_R RX11 q.1 q.2 sa U) ∧ vx_Zq Bundle.tN "UNASSIGNED_STACK" Bundle.steD A U H ∧ vx_Zq Bundle.tN "SUPPRESSED_SENTINEL" Bundle.listD A U H) ∧
  ((∀ w ∈ excB RIAE, va_Nw w U) ∧ (∀ w ∈ excB RISE, va_Nw w U) ∧ va_Nc RISE RIAE U)
theorem excB_warm {cls : String} {s U : State} (hW : s.WarmedH U.vm) (h : ∀ w ∈ excB cls, va_Nw w s) : ∀ w ∈ excB cls, va_Nw w U := by
  intro w hw
  have h0 := h w hw
  simp only [excB, List.mem_cons, List.not_mem_nil, or_false] at hw
  rcases hw with rfl | rfl | rfl | rfl
  · exact va_Nw.warmD hW h0
  · exact va_Nw.warmD hW h0
  · exact va_Nw.warmD hW h0
  · exact va_Nw.warmC hW h0
theorem XGa_stb {x y : Nat} {A A' : Nat → Prop} {s U : State} {H H' : Heap} (h : XGa x y A s H ∧ XC s) (hW : s.WarmedH U.vm) (hA : ∀ q, A' q → A q) (hq : ∀ a : Nat, a < H.size → ¬ A a → H'[a]? = H[a]?) : XGa x y A' U H' ∧ XC U := by
  obtain ⟨⟨⟨a1, a2, a3⟩, ⟨b1, b2, b3⟩, c1, c2, c3⟩, d1, d2, d3⟩ := h
  have hv := hW.alike
  exact ⟨⟨⟨((a1.kept hq).narrow hA).moved hv, ((a2.kept hq).narrow hA).moved hv, a3.warm hW⟩, ⟨fun q hq => (b1 q hq).imp fun sa h => h.warm hW, ((b2.kept hq).narrow hA).moved hv, ((b3.kept hq).narrow hA).moved hv⟩, excB_warm hW c1, excB_warm hW c2, c3.moved hv⟩, d1.moved hv, d2.moved hv, aoA_moved hv d3⟩
theorem arr_of {args : Array Value} {s : State} {ty : FieldType} (h : (Cond.arrayClass ty).before args s = true) : ∃ cA, ArrOfT s cA ty ∧ s.vm.findClass ("[" ++ ty.toString) = some cA := by
  obtain ⟨c, k, comp, h1, h2, h3⟩ := Cond.arrayClass_spec h
  exact ⟨c, fun n z => ⟨fun k h => (by cases h), k, h2, comp, h3⟩, h1⟩
theorem arrO_of {s : State} {C : String} (h : va_AO C s) : ∃ cA, ArrOfT s cA (.object C) ∧ va_RA s cA (.object C) := by
  obtain ⟨comp, c, k, h1, h2, h3, h4, h5⟩ := Cond.arrayOver_spec h
  exact ⟨c, fun n z => ⟨fun k h => (by cases h), k, h3, comp, h4⟩, k, comp, h3, h4, h1, h5⟩
theorem arrA_of {s : State} {t : FieldType} (h : (Cond.arrayOver (.array t)).before #[] s = true) : ∃ cA, ArrOfT s cA (.array t) ∧ va_RA s cA (.array t) := by
  obtain ⟨comp, c, k, h1, h3, h4, h5⟩ := Cond.arrayOver_specA h
  exact ⟨c, fun n z => ⟨fun k h => (by cases h), k, h3, comp, h4⟩, h5⟩
theorem known_all {args : Array Value} {s : State} (hts : ∀ w ∈ lw_tbl, w.before args s = true) : ∃ (dC : Nat → ClassId) (dI : Nat → Nat → Nat), ∀ (k : Nat) (q : vw_C), vwCl[k]? = some q → u_Kn s q.1 q.2.1 q.2.2 (dC k) (dI k) := by
  have h : ∀ k : Nat, ∃ z : ClassId × (Nat → Nat), ∀ q, vwCl[k]? = some q → u_Kn s q.1 q.2.1 q.2.2 z.1 z.2 := by
    intro k
    have go : ∀ {C : String} {T : u_T} {N : Nat} {ty : Nat → FieldType} {ci : Nat}, CLS ci C T N ty → Cond.instantiable C N ∈ gtbl → ∃ z : ClassId × (Nat → Nat), ∀ q, vwCl[ci]? = some q → u_Kn s q.1 q.2.1 q.2.2 z.1 z.2 := fun {C T N ty ci} hC hi => by
      obtain ⟨c, i, hK⟩ := u_known (C := C) (T := T) (N := N) (n := N) hts (fun w hw => gt_tbl (hC.2.1 w hw)) (hts _ (gt_tbl hi))
      refine ⟨(c, i), fun q hq => ?_⟩
      rw [hC.1] at hq
      cases hq
      exact hK
    rcases Nat.lt_or_ge k 13 with h | h
    · have h9 : k = 0 ∨ k = 1 ∨ k = 2 ∨ k = 3 ∨ k = 4 ∨ k = 5 ∨ k = 6 ∨ k = 7 ∨ k = 8 ∨ k = 9 ∨ k = 10 ∨ k = 11 ∨ k = 12 := by omega
      rcases h9 with rfl | rfl | rfl | rfl | rfl | rfl | rfl | rfl | rfl | rfl | rfl | rfl | rfl
      · exact go cl0 wins_X0
      · exact go cl1 wins_X1
      · exact go cl2 wins_X2
      · exact go cl3 wins_X3
      · exact go cl4 wins_X4
      · exact go cl5 wins_X5
      · exact go cl6 wins_X6
      · exact go cl7 wins_X7
      · exact go cl8 wins_X8
      · exact go cl9 wins_X9
      · exact go cl10 wins_X10
      · exact go cl11 wins_X11
      · exact go cl12 wins_X12
    · refine ⟨(default, fun _ => 0), fun q hq => ?_⟩
      have : (vwCl : List vw_C).length = 13 := rfl
      rw [List.getElem?_eq_none (by omega)] at hq
      cases hq
  obtain ⟨f, hf⟩ := Classical.axiomOfChoice h
  exact ⟨fun k => (f k).1, fun k => (f k).2, hf⟩
theorem nest_good : ∀ q ∈ nestQ, Cond.methodLinkNest q.1 q.2.1 q.2.2.1 q.2.2.2 ∈ lw_tbl := by decide +kernel
theorem NK_of {args : Array Value} {s : State} (hts : ∀ w ∈ lw_tbl, w.before args s = true) : NK s := fun q hq => va_Nw.of rfl (hts _ (nest_good q hq))
set_option maxHeartbeats 8000000 in
theorem XGa_start {b L : Nat} {p : Program} {s : State} {m : MethodId} {meth : Method} {c : Code} {xs : Nat → Int32} (C0 : lw_At p s m meth c b L xs) : ∃ x y, XGa x y (fun q => s.heap.size ≤ q) s s.heap ∧ XC s := by
  obtain ⟨hx, hb, hret, hml, hown, hts, hscr, hbl, hlk, hgv⟩ := C0
  have hg := flat_of_before _ hgv
  have hA : ∀ a : Nat, a < s.heap.size → ¬ (fun q => s.heap.size ≤ q) a := fun a ha h => absurd h (Nat.not_le.mpr ha)
  have z1 := va_Zof (A := fun q => s.heap.size ≤ q) (hts (.laysStatic "java/lang/String" "COMPACT_STRINGS" "Z") (by decide +kernel)) (hts (.initialized "java/lang/String") (by decide +kernel)) (va_eqi (hg (.eq (.static "java/lang/String" "COMPACT_STRINGS" "Z") (.int 1)) (by decide +kernel))) hA
  obtain ⟨adK, adV, hS, hev⟩ := vk_Sof (args := #[Value.ref b]) (s := s) (N := 1) (tm := fun _ => .string RX4 187) (len := [12]) (byt := [[104, 115, 112, 116, 100, 107, 111, 119, 102, 99, 109, 117]]) (A := fun q => s.heap.size ≤ q)
    (fun i hi => by have : i = 0 := by omega
                    subst this
                    decide)
    (fun i hi => hg _ (by decide +kernel)) (fun i hi => hg _ (by decide +kernel)) (fun i hi => hg _ (by decide +kernel))
    (fun i hi => by have : i = 0 := by omega
                    subst this
                    exact hg _ (by decide +kernel))
    (fun i hi j hj => by
      have : i = 0 := by omega
      subst this
      have hj : j < 12 := hj
      have h9 : j = 0 ∨ j = 1 ∨ j = 2 ∨ j = 3 ∨ j = 4 ∨ j = 5 ∨ j = 6 ∨ j = 7 ∨ j = 8 ∨ j = 9 ∨ j = 10 ∨ j = 11 := by omega
      rcases h9 with rfl | rfl | rfl | rfl | rfl | rfl | rfl | rfl | rfl | rfl | rfl | rfl <;> exact hg _ (by decide +kernel))
    (fun i j hi hj hne => absurd (by omega) hne) hA
  have hS2 : vk_S 1 [12] [[104, 115, 112, 116, 100, 107, 111, 119, 102, 99, 109, 117]] (fun _ => adK 0) (fun _ => adV 0) (fun q => s.heap.size ≤ q) s s.heap := by
    refine ⟨fun i hi => ?_, fun i j hi hj _ => by omega⟩
    have : i = 0 := by omega
    subst this
    exact hS.1 0 (by omega)
  have hR : vk_R RX4 187 "hsptdkowfcmu" (adK 0) s := vk_R.of (hts _ (by decide +kernel)) (hev 0 (by omega))
  have hE : ∀ q ∈ excT, ∃ sa, vk_R RX11 q.1 q.2 sa s := by
    intro q hq
    have h1 : (Cond.stringRef RX11 q.1 q.2).before #[Value.ref b] s = true := hts _ ((by decide +kernel : ∀ q ∈ excT, Cond.stringRef RX11 q.1 q.2 ∈ lw_tbl) q hq)
    have h2 : (Cond.exactly (.string RX11 q.1) "java/lang/String").before #[Value.ref b] s = true := hg _ ((by decide +kernel : ∀ q ∈ excT, Cond.exactly (.string RX11 q.1) "java/lang/String" ∈ _) q hq)
    obtain ⟨a, c9, cA, kA, q1, -⟩ := Cond.exactly_spec (args := #[Value.ref b]) (first := s) (o := none) (s := s) (idx := []) h2
    exact ⟨a, vk_R.of h1 q1⟩
  have hU := vx_Zqof (C := Bundle.tN) (n := "UNASSIGNED_STACK") (d := Bundle.steD) (A := fun q => s.heap.size ≤ q) (hts _ (by decide +kernel)) (hts _ (by decide +kernel)) (hg _ (by decide +kernel)) hA
  have hV := vx_Zqof (C := Bundle.tN) (n := "SUPPRESSED_SENTINEL") (d := Bundle.listD) (A := fun q => s.heap.size ≤ q) (hts _ (by decide +kernel)) (hts _ (by decide +kernel)) (hg _ (by decide +kernel)) hA
  have hA1 : ∀ w ∈ excB RIAE, va_Nw w s := fun w hw => va_Nw.of (excA_t w hw) (hts _ ((by decide +kernel : ∀ w ∈ excB RIAE, w ∈ lw_tbl) w hw))
  have hA2 : ∀ w ∈ excB RISE, va_Nw w s := fun w hw => va_Nw.of (excS_t w hw) (hts _ ((by decide +kernel : ∀ w ∈ excB RISE, w ∈ lw_tbl) w hw))
  have hN : va_Nc RISE RIAE s := va_Nc.of (hg (.not (.castable RISE RIAE)) (by decide +kernel))
  exact ⟨adK 0, adV 0, ⟨⟨z1, hS2, hR⟩, ⟨hE, hU, hV⟩, hA1, hA2, hN⟩, va_AO.of (hts _ (by decide +kernel)), va_AO.of (hts _ (by decide +kernel)), hts (.arrayOver (.array .int)) (by decide +kernel)⟩
set_option maxHeartbeats 8000000 in
theorem law_whole {I : Nat → Wd → Prop} (hm : LMath I) (hup : ∀ {n w}, I n w → I (n + 1) w) {rS : Wd} (hrS : fX12_start wRef = some rS) (hI0 : I 0 (zi rS 169)) {p : Program} {e : Env} {s : State} {m : MethodId} {below : List Frame} {meth : Method} {c : Code} (l : Launch) (hflags : l.flags = flags0) {b L : Nat} {xs : Nat → Int32} (hL : L ≤ 3072) (C0 : lw_At p s m meth c b L xs) : W p l e room_1 s m #[Value.ref b] below meth c s.heap [] 0 0 (lw_Z below #[Value.ref b] s) (entryFrame m ([Value.ref b] : List Value).toArray 8) := by
  obtain ⟨x, y, hXG, hXC⟩ := XGa_start C0
  obtain ⟨hx, hb, hret, hml, hown, hts, hscr, hbl, hlk, hgv⟩ := C0
  obtain ⟨dC, dI, hKc⟩ := known_all hts
  obtain ⟨c0, a0, r0⟩ := arr_of (hts _ (gt_tbl wa_int))
  obtain ⟨c1, a1, r1⟩ := arr_of (hts _ (gt_tbl wa_long))
  obtain ⟨c2, a2, r2⟩ := arr_of (hts _ (gt_tbl wa_boolean))
  obtain ⟨c3, a3, r3⟩ := arrO_of hXC.1
  obtain ⟨c4, a4, r4⟩ := arrO_of hXC.2.1
  obtain ⟨c5, a5, r5⟩ := arrA_of hXC.2.2
  have hst : l.stackTraces = false := by
    show (!l.flags.contains Jvm.noTraceFlag) = false
    rw [hflags]
    decide +kernel
  let cA : Nat → ClassId := fun k => if k = 0 then c0 else if k = 1 then c1 else if k = 2 then c2 else if k = 3 then c3 else if k = 4 then c4 else c5
  let S : KS := (fun a => if a = 170 then b else if a = 9000 then x else y, (dC, dI), cA, fun _ => False, fun _ => .inr (0, 0, nt), fun A U H => XGa x y A U H ∧ XC U)
  let K : KT := ((p, l, e, room_1, s, m, #[Value.ref b], below), (meth, c, lw_Z below #[Value.ref b] s, 0, 0), S, (fun q => s.heap.size ≤ q), s.heap)
  have hK : va_K (dC, dI) vwCl (tysK cA) s := by
    refine ⟨hKc, fun k q hq => ?_⟩
    rcases k with _ | _ | _ | _ | _ | _ | k
    · cases hq; exact ⟨a0, r0⟩
    · cases hq; exact ⟨a1, r1⟩
    · cases hq; exact ⟨a2, r2⟩
    · cases hq; exact ⟨a3, r3⟩
    · cases hq; exact ⟨a4, r4⟩
    · cases hq; exact ⟨a5, r5⟩
    · simp [tysK] at hq
  have hI : Inj S := ⟨fun j k hj => hj.elim, fun A A' s U H H' h hW hA hq => XGa_stb h hW hA hq⟩
  have G : GK K code RL 8 300 := ⟨hx, hb, hml, hown, fun w hw => hts w (gt_tbl hw), ⟨hK, NK_of hts, ⟨hXG, hXC⟩, rfl⟩, hI, fun k hk => hk.elim, fun q hq => hq, hlk, Nat.le_of_ble_eq_true rfl, Nat.le_of_ble_eq_true rfl, Nat.zero_le _, Nat.zero_le _⟩
  have hl := lv_entry [Value.ref b] (n := 8) (Nat.le_of_ble_eq_true rfl)
  rw [lg_entry_eq]
  have W1 := law_begin hm hup hrS hI0 (K := K) (b := b) (L := L) (xs := xs) G (fun a h => h) (fun A U H h => h.1) (fun A U H h => h.2) rfl rfl hst rfl hscr hbl (Nat.not_le.mpr hbl) hL ⟨rfl, rfl, rfl, rfl, rfl, hret⟩
  refine W1 s.heap [] _ (fun k hk => hk.elim) va_S.rf ?_
  refine ⟨by rw [hl.1]; exact hml.symm, hl.2.1, fun i v hi => ?_⟩
  rcases i with _ | i
  · simp at hi
    subst hi
    exact hl.2.2 (0, .ref b) List.mem_cons_self
  · exfalso
    rcases i with _ | _ | _ | _ | _ | _ | _ | i <;> simp at hi
