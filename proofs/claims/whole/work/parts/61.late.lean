theorem vr_outer (c : ClassId) (N h0 : Nat) : ∀ i : Nat, Jvm.Free.Multi.outerC c N h0 i = arrV c N (fun j => va_rf (if j < i then some (h0 + 1 + j) else none))
  | 0 => by
    show ({ cls := c, slots := Array.replicate N .null, vm := .none } : Cell) = _
    rw [arrV_new]
    refine congrArg (arrV c N) (funext fun j => ?_)
    simp [va_rf]
  | i + 1 => by
    show (Jvm.Free.Multi.outerC c N h0 i).setSlot i (.ref (h0 + 1 + i)) = _
    rw [vr_outer c N h0 i, arrV_store]
    refine congrArg (arrV c N) (funext fun j => ?_)
    by_cases e : j = i
    · subst e
      simp [updV, va_rf]
    · by_cases h : j < i
      · simp [updV, e, h, Nat.lt_succ_of_lt h]
      · simp [updV, e, h, show ¬ j < i + 1 by omega]
def va_AI (U : State) : Prop := (Cond.arrayOver (.array .int)).before #[] U = true
def KSm (S : KS) (v r n k h : Nat) : KS := (fun a => if a = v then h else if r ≤ a ∧ a < r + n then h + 1 + (a - r) else S.ad a, S.G, S.cA, fun a => S.D a ∨ a = v ∨ (r ≤ a ∧ a < r + n), fun a => if a = v then .inr (5, n, fun j => some (r + j)) else if r ≤ a ∧ a < r + n then .inr (0, k, nt) else S.kd a, S.X)
def zm (w : Wd) (r n : Nat) : Wd := (fun b => if r ≤ b ∧ b < r + n then fun _ => 0 else w.1 b, w.2)
theorem cellOf_zm {ad : Nat → Nat} {cA : Nat → ClassId} {w : Wd} {a r n : Nat} (h : ¬ (r ≤ a ∧ a < r + n)) (k : Kd) : cellOf ad cA (zm w r n) a k = cellOf ad cA w a k := by
  have e : (zm w r n).1 a = w.1 a := if_neg h
  rcases k with ⟨ci, ds⟩ | ⟨n, m, f⟩
  · show (Sum.inr (ci, fvs ad _ a 0 ds) : va_E) = Sum.inr (ci, fvs ad w a 0 ds)
    rw [fvs_ext (w' := w) (a' := a) ds 0 (fun k d _ => by
      obtain ⟨n, t⟩ := d
      rcases n with _ | _ | _ | n <;> simp [fv, e])]
  · rcases n with _ | _ | _ | n <;> simp [cellOf, e] <;> rfl
theorem tgt_zm {w : Wd} {a r n : Nat} (h : ¬ (r ≤ a ∧ a < r + n)) {k : Kd} {t : Nat} (ht : tgt (zm w r n) a k t) : tgt w a k t := by
  have e : (zm w r n).1 a = w.1 a := if_neg h
  rcases k with ⟨ci, ds⟩ | ⟨n, m, f⟩
  · obtain ⟨j, d, h1, h2, h3⟩ := ht
    exact ⟨j, d, h1, h2, h3.imp id (fun z => ⟨z.1, fun e4 => z.2 (by rw [e]; exact e4)⟩)⟩
  · exact ht
section NEWM
variable {K : KT} {cc : ByteArray} {own : String} {nL d pc i : Nat} {lv : List (Option Value)} {st : List Value} {w : Wd}
theorem x_newM (G : GK K cc own nL d) {n k v r : Nat} {zn zk : Int32} (hX : XCs K.ks) (hcl : Cond.classLink own i ("[" ++ (FieldType.array FieldType.int).toString) ∈ gtbl) (harr : Cond.arrayClass FieldType.int ∈ gtbl) (h0n : ¬ zn < 0) (h0k : ¬ zk < 0) (hn : zn.toNatClampNeg = n) (hk : zk.toNatClampNeg = k) (hb1 : n * 4 ≤ 536870912) (hb2 : k * 4 ≤ 536870912) (hb3 : k ≤ 536870912) (hvr : ¬ (r ≤ v ∧ v < r + n)) (hc : Clo K.ks w) (hv : ¬ K.ks.D v) (hr : ∀ a, r ≤ a ∧ a < r + n → ¬ K.ks.D a) (h1 : K.cells + (1 + n) ≤ K.R.cells) (h2 : K.slots + (n + n * k) ≤ K.R.slots) (hlv : ∀ a, (a = v ∨ (r ≤ a ∧ a < r + n)) → noV a lv = true) (hst : ∀ a, (a = v ∨ (r ≤ a ∧ a < r + n)) → noVs a st = true) (hd : decode cc pc = .ok (.multianewarray i 2, 4)) (kk : ∀ h : Nat, K.H0.size ≤ h → GK (Kn K (KSm K.ks v r n k h) (K.cells + 1 + n) (K.slots + n + n * k)) cc own nL d → Clo (KSm K.ks v r n k h) (zm w r n) → XW (Kn K (KSm K.ks v r n k h) (K.cells + 1 + n) (K.slots + n + n * k)) (pc + 4) lv (.ref v :: st) (zm w r n)) : XW K pc lv (.int zk :: .int zn :: st) w := fun H locs ls hH hS hL => by
  subst hn
  subst hk
  have hK := G.2.2.2.2.2.1.1
  have hcy : K.s.vm.findClass (FieldType.array FieldType.int).toString = some (K.ks.cA 0) := (hK.2 0 _ rfl).2
  intro T hT Xs
  obtain ⟨vm₁, cA, comp, -, fA, fC, hO, -, X', step⟩ := Xs.multianewarray2F G.1 G.2.2.2.1 (G.2.2.2.2.1 _ hcl) ((hX _ _ _ G.2.2.2.2.2.1.2.2.1).2.2) (G.2.2.2.2.1 _ harr) (g := F0 K.m pc ls (.int zk :: .int zn :: st.map (cv K.ks.ad))) rfl (by rw [G.2.1]; exact hd) rfl h0n h0k hb1 hb2 hb3 rfl rfl h1 h2
  have ec : some (K.ks.cA 0) = some comp := hcy.symm.trans fC
  cases ec
  generalize hF : Jvm.Free.Multi.fill (T.setVm vm₁) cA (K.ks.cA 0) zn.toNatClampNeg zk.toNatClampNeg (defaultValue .int) zn.toNatClampNeg = F at X' step
  have hTh : (T.setVm vm₁).heap = H := hT
  obtain ⟨f1, f2, -, -⟩ := Jvm.Free.Multi.fill_facts (T.setVm vm₁) cA (K.ks.cA 0) zn.toNatClampNeg zk.toNatClampNeg (defaultValue .int) zn.toNatClampNeg
  rw [hF, hTh] at f1 f2
  have hold : ∀ x : Nat, x < H.size → F.heap[x]? = H[x]? := fun x hx => by
    have := Jvm.Free.Multi.fill_old (T.setVm vm₁) cA (K.ks.cA 0) zn.toNatClampNeg zk.toNatClampNeg (defaultValue .int) (a := x) (by rw [hTh]; exact hx) zn.toNatClampNeg
    rw [hF, hTh] at this
    exact this
  have hrow : ∀ j : Nat, j < zn.toNatClampNeg → F.heap[H.size + 1 + j]? = some (vp_cell (K.ks.cA 0) (zk.toNatClampNeg, .inl (fun _ => 0))) := fun j hj => by
    have := Jvm.Free.Multi.fill_inner (T.setVm vm₁) cA (K.ks.cA 0) zn.toNatClampNeg zk.toNatClampNeg (defaultValue .int) zn.toNatClampNeg j hj
    rw [hF, hTh] at this
    rw [this]
    show some ({ cls := K.ks.cA 0, slots := Array.replicate zk.toNatClampNeg (.int 0), vm := .none } : Cell) = _
    rw [arrV_new]
    rfl
  rw [vr_outer] at f2
  let v0 : Nat → Nat := (KSm K.ks v r zn.toNatClampNeg zk.toNatClampNeg H.size).ad
  have adv : (KSm K.ks v r zn.toNatClampNeg zk.toNatClampNeg H.size).ad v = H.size := if_pos rfl
  have adr : ∀ a, (r ≤ a ∧ a < r + zn.toNatClampNeg) → (KSm K.ks v r zn.toNatClampNeg zk.toNatClampNeg H.size).ad a = H.size + 1 + (a - r) := fun a ha => by
    have hne : a ≠ v := fun e => hvr (e ▸ ha)
    show (if a = v then _ else if r ≤ a ∧ a < r + zn.toNatClampNeg then _ else _) = _
    rw [if_neg hne, if_pos ha]
  have ado : ∀ a, ¬ (a = v ∨ (r ≤ a ∧ a < r + zn.toNatClampNeg)) → (KSm K.ks v r zn.toNatClampNeg zk.toNatClampNeg H.size).ad a = K.ks.ad a := fun a ha => by
    show (if a = v then _ else if r ≤ a ∧ a < r + zn.toNatClampNeg then _ else _) = _
    rw [if_neg (fun e => ha (Or.inl e)), if_neg (fun e => ha (Or.inr e))]
  have kdv : (KSm K.ks v r zn.toNatClampNeg zk.toNatClampNeg H.size).kd v = .inr (5, zn.toNatClampNeg, fun j => some (r + j)) := if_pos rfl
  have kdr : ∀ a, (r ≤ a ∧ a < r + zn.toNatClampNeg) → (KSm K.ks v r zn.toNatClampNeg zk.toNatClampNeg H.size).kd a = .inr (0, zk.toNatClampNeg, nt) := fun a ha => by
    have hne : a ≠ v := fun e => hvr (e ▸ ha)
    show (if a = v then _ else if r ≤ a ∧ a < r + zn.toNatClampNeg then _ else _) = _
    rw [if_neg hne, if_pos ha]
  have kdo : ∀ a, ¬ (a = v ∨ (r ≤ a ∧ a < r + zn.toNatClampNeg)) → (KSm K.ks v r zn.toNatClampNeg zk.toNatClampNeg H.size).kd a = K.ks.kd a := fun a ha => by
    show (if a = v then _ else if r ≤ a ∧ a < r + zn.toNatClampNeg then _ else _) = _
    rw [if_neg (fun e => ha (Or.inl e)), if_neg (fun e => ha (Or.inr e))]
  have hno : ∀ a, K.ks.D a → ¬ (a = v ∨ (r ≤ a ∧ a < r + zn.toNatClampNeg)) := fun a ha h => h.elim (fun e => hv (e ▸ ha)) (fun h => hr a h ha)
  have hlt : ∀ a, K.ks.D a → K.ks.ad a < H.size := fun a ha => va_at_lt (hH a ha)
  have hcA : cA = K.ks.cA 5 := by
    have h3 := (hK.2 5 (K.ks.cA 5, .array .int) rfl).2
    exact Option.some.inj (fA.symm.trans h3)
  have hDo : ∀ a, (KSm K.ks v r zn.toNatClampNeg zk.toNatClampNeg H.size).D a → ¬ (a = v ∨ (r ≤ a ∧ a < r + zn.toNatClampNeg)) → K.ks.D a := fun a ha hn => ha.resolve_right hn
  have hHn : HH (KSm K.ks v r zn.toNatClampNeg zk.toNatClampNeg H.size) (zm w r zn.toNatClampNeg) F.heap := by
    intro a ha
    by_cases e1 : a = v
    · subst e1
      rw [kdv, adv]
      show F.heap[H.size]? = some (arrV (K.ks.cA 5) zn.toNatClampNeg (fun j => va_rf (some ((KSm K.ks a r zn.toNatClampNeg zk.toNatClampNeg H.size).ad (r + j)))))
      rw [f2, hcA]
      refine congrArg some (arrV_congr fun j hj => ?_)
      rw [if_pos hj, adr (r + j) ⟨by omega, by omega⟩, show r + j - r = j by omega]
    by_cases e2 : r ≤ a ∧ a < r + zn.toNatClampNeg
    · rw [kdr a e2, adr a e2]
      show F.heap[_]? = some (vp_cell (K.ks.cA 0) (zk.toNatClampNeg, .inl ((zm w r zn.toNatClampNeg).1 a)))
      rw [hrow (a - r) (by omega)]
      have e3 : (zm w r zn.toNatClampNeg).1 a = fun _ => 0 := if_pos e2
      rw [e3]
    · have e3 : ¬ (a = v ∨ (r ≤ a ∧ a < r + zn.toNatClampNeg)) := fun h => h.elim e1 e2
      have hd := hDo a ha e3
      rw [kdo a e3, ado a e3]
      refine va_at_ad (ad := K.ks.ad) (fun t ht => ado t (hno t (hc a hd t (tgt_zm e2 ht)))) ?_
      show va_at K.ks.G vwCl (K.ks.ad a, cellOf K.ks.ad K.ks.cA (zm w r zn.toNatClampNeg) a (K.ks.kd a)) F.heap
      rw [cellOf_zm e2]
      exact (hH a hd).kept (hold _ (hlt a hd))
  have hCn : Clo (KSm K.ks v r zn.toNatClampNeg zk.toNatClampNeg H.size) (zm w r zn.toNatClampNeg) := by
    intro a ha t ht
    by_cases e1 : a = v
    · subst e1
      rw [kdv] at ht
      obtain ⟨-, j, hj, hjt⟩ := ht
      cases hjt
      exact Or.inr (Or.inr ⟨by omega, by omega⟩)
    by_cases e2 : r ≤ a ∧ a < r + zn.toNatClampNeg
    · rw [kdr a e2] at ht
      obtain ⟨h3, -⟩ := ht
      omega
    · have e3 : ¬ (a = v ∨ (r ≤ a ∧ a < r + zn.toNatClampNeg)) := fun h => h.elim e1 e2
      rw [kdo a e3] at ht
      exact Or.inl (hc a (hDo a ha e3) t (tgt_zm e2 ht))
  have hI0 := G.2.2.2.2.2.2.1
  have hIn : Inj (KSm K.ks v r zn.toNatClampNeg zk.toNatClampNeg H.size) := by
    refine ⟨fun a b ha hb e => ?_, hI0.2⟩
    by_cases a1 : a = v
    · by_cases b1 : b = v
      · rw [a1, b1]
      · by_cases b2 : r ≤ b ∧ b < r + zn.toNatClampNeg
        · rw [a1, adv, adr b b2] at e; omega
        · have b3 : ¬ (b = v ∨ (r ≤ b ∧ b < r + zn.toNatClampNeg)) := fun h => h.elim b1 b2
          rw [a1, adv, ado b b3] at e
          have := hlt b (hDo b hb b3)
          omega
    · by_cases a2 : r ≤ a ∧ a < r + zn.toNatClampNeg
      · by_cases b1 : b = v
        · rw [b1, adv, adr a a2] at e; omega
        · by_cases b2 : r ≤ b ∧ b < r + zn.toNatClampNeg
          · rw [adr a a2, adr b b2] at e; omega
          · have b3 : ¬ (b = v ∨ (r ≤ b ∧ b < r + zn.toNatClampNeg)) := fun h => h.elim b1 b2
            rw [adr a a2, ado b b3] at e
            have := hlt b (hDo b hb b3)
            omega
      · have a3 : ¬ (a = v ∨ (r ≤ a ∧ a < r + zn.toNatClampNeg)) := fun h => h.elim a1 a2
        have hla := hlt a (hDo a ha a3)
        by_cases b1 : b = v
        · rw [b1, adv, ado a a3] at e; omega
        · by_cases b2 : r ≤ b ∧ b < r + zn.toNatClampNeg
          · rw [adr b b2, ado a a3] at e; omega
          · have b3 : ¬ (b = v ∨ (r ≤ b ∧ b < r + zn.toNatClampNeg)) := fun h => h.elim b1 b2
            rw [ado a a3, ado b b3] at e
            exact hI0.1 a b (hDo a ha a3) (hDo b hb b3) e
  have hGn : GK (Kn K (KSm K.ks v r zn.toNatClampNeg zk.toNatClampNeg H.size) (K.cells + 1 + zn.toNatClampNeg) (K.slots + zn.toNatClampNeg + zn.toNatClampNeg * zk.toNatClampNeg)) cc own nL d := G.n rfl rfl rfl hIn (fun a ha => by
    by_cases a1 : a = v
    · rw [a1, adv]
      exact G.2.2.2.2.2.2.2.2.1 _ hS.1
    · by_cases a2 : r ≤ a ∧ a < r + zn.toNatClampNeg
      · rw [adr a a2]
        exact G.2.2.2.2.2.2.2.2.1 _ (Nat.le_trans hS.1 (by omega))
      · have a3 : ¬ (a = v ∨ (r ≤ a ∧ a < r + zn.toNatClampNeg)) := fun h => h.elim a1 a2
        rw [ado a a3]
        exact G.2.2.2.2.2.2.2.1 a (hDo a ha a3)) (by rw [Nat.add_assoc]; exact h1) (by rw [Nat.add_assoc]; exact h2)
  have hSn : va_S K.A K.H0 F.heap locs := ⟨by rw [f1]; have := hS.1; omega, fun x g1 g2 => (hold x (Nat.lt_of_lt_of_le g1 hS.1)).trans (hS.2.1 x g1 g2), hS.2.2⟩
  have hLn : LH (Kn K (KSm K.ks v r zn.toNatClampNeg zk.toNatClampNeg H.size) (K.cells + 1 + zn.toNatClampNeg) (K.slots + zn.toNatClampNeg + zn.toNatClampNeg * zk.toNatClampNeg)) ls lv := by
    refine ⟨hL.1, hL.2.1, fun i x hi => ?_⟩
    rw [hL.2.2 i x hi]
    show some (Slot.val (cv K.ks.ad x)) = some (Slot.val (cv (KSm K.ks v r zn.toNatClampNeg zk.toNatClampNeg H.size).ad x))
    cases x with
    | ref a => 
      have h9 : ¬ (a = v ∨ (r ≤ a ∧ a < r + zn.toNatClampNeg)) := fun h => noV_get (hlv a h) i a hi rfl
      show some (Slot.val (.ref (K.ks.ad a))) = some (Slot.val (.ref ((KSm K.ks v r zn.toNatClampNeg zk.toNatClampNeg H.size).ad a)))
      rw [ado a h9]
    | _ => rfl
  have hstk : (Value.ref v :: st).map (cv (KSm K.ks v r zn.toNatClampNeg zk.toNatClampNeg H.size).ad) = .ref H.size :: st.map (cv K.ks.ad) := by
    show Value.ref ((KSm K.ks v r zn.toNatClampNeg zk.toNatClampNeg H.size).ad v) :: _ = _
    rw [adv]
    congr 1
    refine List.map_congr_left fun x hx => ?_
    cases x with
    | ref a =>
      have h9 : ¬ (a = v ∨ (r ≤ a ∧ a < r + zn.toNatClampNeg)) := fun h => noVs_mem (hst a h) hx
      show Value.ref _ = Value.ref _
      rw [ado a h9]
    | _ => rfl
  have hW := kk H.size hS.1 hGn hCn F.heap locs ls hHn hSn hLn
  have e9 : ((Value.ref v :: st).map (cv (Kn K (KSm K.ks v r zn.toNatClampNeg zk.toNatClampNeg H.size) (K.cells + 1 + zn.toNatClampNeg) (K.slots + zn.toNatClampNeg + zn.toNatClampNeg * zk.toNatClampNeg)).ks.ad)) = .ref H.size :: st.map (cv K.ks.ad) := hstk
  rw [e9] at hW
  obtain ⟨t, a1, b1⟩ := hW F rfl X'
  refine ⟨t, step t ?_, b1⟩
  have e : T.heap.size = H.size := by rw [hT]
  rw [e]
  exact a1
end NEWM
section CM
variable {K : KT} {cc : ByteArray} {own : String} {nL d pc : Nat} {S : KS} {sz lo hi fh v0 c s : Nat} {wF w w' : Wd} {LF L : List (Nat × Kd)} {nx i j ci : Nat} {ds : List (Nat × Nat)} {lv : List (Option Value)}
theorem c_fieldA2 (B : CBU K cc own nL d S sz lo hi fh v0 c s wF LF ((v0, .inl (ci, ds)) :: L) nx i j w) {at0 : ArrayType} {v t0 n k ix : Nat} {ty : FieldType} {z : Int32} {C : String} {T : u_T} {N : Nat} {tyC : Nat → FieldType} (hnv : ¬ K.ks.D v) (hC : CLS ci C T N tyC) (hat : newarray.typeOf at0 = ty) (ht : (t0 = 0 ∧ ty = .int) ∨ (t0 = 1 ∧ ty = .long) ∨ (t0 = 2 ∧ ty = .boolean)) (harr : Cond.arrayClass ty ∈ gtbl) (hz : ¬ z < 0) (hzn : z.toNatClampNeg = n) (hb : n * componentBytes ty ≤ 536870912) (h1 : i + 1 ≤ c) (h2 : j + n ≤ s) (hlv : noV v lv = true) (h0 : v0 < lo ∨ hi < v0) (hx1 : lo ≤ v) (hx2 : v ≤ hi) (hx3 : v < nx ∨ fh < v) (hne : ∀ q ∈ L, q.1 ≠ v0) (hkl : Nat.blt k ds.length = true) (hkN : Nat.blt k N = true) (hq : Cond.fieldLink own ix (T k).1 (T k).2.1 (T k).2.2.1 ∈ gtbl) (hfin : (T k).2.2.2 = false ∨ ((T k).2.2.2 = true ∧ (T k).1 = own)) (hn : ∀ q, narrow (tyC k) (.ref q) = .ref q) (hfit : ∀ q, fits (tyC k) (.ref q) = true) (d1 : decode cc pc = .ok (.newarray at0, 2)) (d2 : decode cc (pc + 2) = .ok (.putfield ix, 3))
    (kk : ∀ K' : KT, CBU K' cc own nL d S sz lo hi fh v0 c s wF LF ((v0, .inl (ci, ds.set k (1, v))) :: (L ++ [(v, .inr (t0, n, nt))])) nx (i + 1) (j + n) (zi w v) → (∀ a, a ≠ v → ¬ K.ks.D a → ¬ K'.ks.D a) → XW K' (pc + 5) lv [] (zi w v)) : XW K pc lv [.int z, .ref v0] w := by
  obtain ⟨G, hc, hE, hK, hF, hR, e1, e2, e3, e4, e5⟩ := B
  have hv0 := hK (v0, .inl (ci, ds)) List.mem_cons_self
  have hne0 : v ≠ v0 := by omega
  refine x_newA G (v := v) hat ht harr hz hzn hb hc hnv (by omega) (by omega) hlv (noVs1 (Ne.symm hne0)) d1 (fun q hq9 G1 c1 => ?_)
  have hE1 := hE.xx (k := .inr (t0, n, nt)) ⟨hx1, hx2⟩ (by rw [e5]; exact hq9) G1.2.2.2.2.2.2.1 c1
  have hk0 : KD (KSx K.ks v q (.inr (t0, n, nt))) v0 (.inl (ci, ds)) := hv0.x hnv
  refine x_putR G1 (a := v0) (b := v) hk0 (Or.inr rfl) k hkl hC hkN hq (hfin.imp id (fun h => ⟨h.1, hR.2.2.2, h.2⟩)) hn hfit c1 d2 (fun G2 c2 => ?_)
  refine kk _ ⟨G2, c2, hE1.kk (Or.inl rfl) G2.2.2.2.2.2.2.1 c2, fun q9 hq8 => ?_, fun a a1 a2 h => ?_, hR, ?_, ?_, e3, e4, e5⟩ (fun a hne h h8 => (show K.ks.D a ∨ a = v from h8).elim h hne)
  · rcases List.mem_cons.mp hq8 with rfl | hq8
    · exact KD.kv hk0.1
    rcases List.mem_append.mp hq8 with hq8 | hq8
    · exact ((hK q9 (List.mem_cons_of_mem _ hq8)).x hnv).kk (hne q9 hq8)
    · rcases List.mem_cons.mp hq8 with rfl | hq8
      · exact KD.kk ⟨Or.inr rfl, if_pos rfl⟩ hne0
      · cases hq8
  · rcases (show K.ks.D a ∨ a = v from h) with h | h
    · exact hF a a1 a2 h
    · omega
  · show K.cells + 1 = i + 1
    rw [e1]
  · show K.slots + n = j + n
    rw [e2]
theorem EX.xm {S T : KS} {w w' : Wd} {sz lo hi v0 v r n k h : Nat} (hE : EX S T w sz lo hi v0) (hv : lo ≤ v ∧ v ≤ hi) (hr : lo ≤ r ∧ r + n ≤ hi + 1) (hq : sz ≤ h) (hI : Inj (KSm T v r n k h)) (hC : Clo (KSm T v r n k h) w') : EX S (KSm T v r n k h) w' sz lo hi v0 := by
  obtain ⟨h1, h2, h3, h4, -, -⟩ := hE
  refine ⟨h1, fun a ha h0 => ?_, fun a ha => ?_, fun a a1 a2 hd => ?_, hI, hC⟩
  · have hne : a ≠ v := fun e => ha (e ▸ hv)
    have hnr : ¬ (r ≤ a ∧ a < r + n) := fun e => ha (by omega)
    obtain ⟨e1, e2⟩ := h2 a ha h0
    refine ⟨⟨fun h => e1.mp (h.resolve_right (fun g => g.elim hne hnr)), fun h => Or.inl (e1.mpr h)⟩, ?_⟩
    show (if a = v then _ else if r ≤ a ∧ a < r + n then _ else T.kd a) = _
    rw [if_neg hne, if_neg hnr]
    exact e2
  · have hne : a ≠ v := fun e => ha (e ▸ hv)
    have hnr : ¬ (r ≤ a ∧ a < r + n) := fun e => ha (by omega)
    show (if a = v then h else if r ≤ a ∧ a < r + n then h + 1 + (a - r) else T.ad a) = _
    rw [if_neg hne, if_neg hnr]
    exact h3 a ha
  · show sz ≤ (if a = v then h else if r ≤ a ∧ a < r + n then h + 1 + (a - r) else T.ad a)
    by_cases e : a = v
    · rw [if_pos e]
      exact hq
    · rw [if_neg e]
      by_cases e2 : r ≤ a ∧ a < r + n
      · rw [if_pos e2]
        omega
      · rw [if_neg e2]
        exact h4 a a1 a2 ((show T.D a ∨ a = v ∨ (r ≤ a ∧ a < r + n) from hd).resolve_right (fun g => g.elim e e2))
theorem KD.m {S : KS} {v r n k h a : Nat} {k0 : Kd} (hk : KD S a k0) (hv : ¬ S.D v) (hr : ∀ a, r ≤ a ∧ a < r + n → ¬ S.D a) : KD (KSm S v r n k h) a k0 := by
  have hne : a ≠ v := fun e => hv (e ▸ hk.1)
  have hnr : ¬ (r ≤ a ∧ a < r + n) := fun e => hr a e hk.1
  refine ⟨Or.inl hk.1, ?_⟩
  show (if a = v then _ else if r ≤ a ∧ a < r + n then _ else S.kd a) = _
  rw [if_neg hne, if_neg hnr]
  exact hk.2
def rowsL (r k : Nat) : Nat → List (Nat × Kd)
  | 0 => []
  | n + 1 => rowsL r k n ++ [(r + n, .inr (0, k, nt))]
theorem rowsL_mem {r k : Nat} : ∀ {n : Nat} {q : Nat × Kd}, q ∈ rowsL r k n → (r ≤ q.1 ∧ q.1 < r + n) ∧ q.2 = .inr (0, k, nt)
  | 0, q, h => by cases h
  | n + 1, q, h => by
    rcases List.mem_append.mp h with h | h
    · have := rowsL_mem h
      exact ⟨by omega, this.2⟩
    · rcases List.mem_cons.mp h with rfl | h
      · exact ⟨by simp, rfl⟩
      · cases h
theorem c_fieldM (B : CBU K cc own nL d S sz lo hi fh v0 c s wF LF ((v0, .inl (ci, ds)) :: L) nx i j w) {v r n k ix ixN kf : Nat} {zn zk : Int32} {C : String} {T : u_T} {N : Nat} {tyC : Nat → FieldType} (hX : XCs S) (hC : CLS ci C T N tyC) (hcl : Cond.classLink own ixN ("[" ++ (FieldType.array FieldType.int).toString) ∈ gtbl) (harr : Cond.arrayClass FieldType.int ∈ gtbl) (h0n : ¬ zn < 0) (h0k : ¬ zk < 0) (hn : zn.toNatClampNeg = n) (hk : zk.toNatClampNeg = k) (hb1 : n * 4 ≤ 536870912) (hb2 : k * 4 ≤ 536870912) (hb3 : k ≤ 536870912) (hvr : ¬ (r ≤ v ∧ v < r + n)) (hnx : nx ≤ v ∧ v ≤ fh ∧ nx ≤ r ∧ r + n ≤ fh + 1 ∧ fh ≤ hi) (hx1 : lo ≤ nx) (h0 : v0 < lo ∨ hi < v0) (h1 : i + (1 + n) ≤ c) (h2 : j + (n + n * k) ≤ s) (hlv : ∀ a, lo ≤ a → a ≤ hi → noV a lv = true) (hne : ∀ q ∈ L, q.1 ≠ v0) (hkl : Nat.blt kf ds.length = true) (hkN : Nat.blt kf N = true) (hq : Cond.fieldLink own ix (T kf).1 (T kf).2.1 (T kf).2.2.1 ∈ gtbl) (hfin : (T kf).2.2.2 = false ∨ ((T kf).2.2.2 = true ∧ (T kf).1 = own)) (hn9 : ∀ q, narrow (tyC kf) (.ref q) = .ref q) (hfit : ∀ q, fits (tyC kf) (.ref q) = true) (d1 : decode cc pc = .ok (.multianewarray ixN 2, 4)) (d2 : decode cc (pc + 4) = .ok (.putfield ix, 3))
    (kk : ∀ K' : KT, CBU K' cc own nL d S sz lo hi fh v0 c s wF LF ((v0, .inl (ci, ds.set kf (1, v))) :: (L ++ ((v, .inr (5, n, fun j => some (r + j))) :: rowsL r k n))) (fh + 1) (i + 1 + n) (j + n + n * k) (zm w r n) → (∀ a, a ≠ v → ¬ (r ≤ a ∧ a < r + n) → nx ≤ a → a ≤ fh → ¬ K'.ks.D a) → XW K' (pc + 7) lv [] (zm w r n)) : XW K pc lv [.int zk, .int zn, .ref v0] w := by
  obtain ⟨G, hc, hE, hK, hF, hR, e1, e2, e3, e4, e5⟩ := B
  have hv0 := hK (v0, .inl (ci, ds)) List.mem_cons_self
  have hnv : ¬ K.ks.D v := hF v hnx.1 hnx.2.1
  have hnr : ∀ a, r ≤ a ∧ a < r + n → ¬ K.ks.D a := fun a ha => hF a (by omega) (by omega)
  have hne0 : v ≠ v0 := by omega
  have hX1 : XCs K.ks := fun A U H h => hX A U H (by rw [← hE.1.2.2]; exact h)
  refine x_newM G (v := v) (r := r) hX1 hcl harr h0n h0k hn hk hb1 hb2 hb3 hvr hc hnv hnr (by omega) (by omega) (fun a ha => hlv a (by omega) (by omega)) (fun a ha => noVs1 (by omega)) d1 (fun h hq9 G1 c1 => ?_)
  have hE1 := hE.xm (k := k) ⟨by omega, by omega⟩ ⟨by omega, by omega⟩ (by rw [e5]; exact hq9) G1.2.2.2.2.2.2.1 c1
  have hk0 : KD (KSm K.ks v r n k h) v0 (.inl (ci, ds)) := hv0.m hnv hnr
  refine x_putR G1 (a := v0) (b := v) hk0 (Or.inr (Or.inl rfl)) kf hkl hC hkN hq (hfin.imp id (fun h => ⟨h.1, hR.2.2.2, h.2⟩)) hn9 hfit c1 d2 (fun G2 c2 => ?_)
  refine kk _ ⟨G2, c2, hE1.kk (Or.inl rfl) G2.2.2.2.2.2.2.1 c2, fun q9 hq8 => ?_, fun a a1 a2 h => by omega, hR, ?_, ?_, e3, e4, e5⟩ (fun a hne hnr2 a1 a2 h8 => (show K.ks.D a ∨ a = v ∨ (r ≤ a ∧ a < r + n) from h8).elim (hF a a1 a2) (fun g => g.elim hne hnr2))
  · rcases List.mem_cons.mp hq8 with rfl | hq8
    · exact KD.kv hk0.1
    rcases List.mem_append.mp hq8 with hq8 | hq8
    · exact ((hK q9 (List.mem_cons_of_mem _ hq8)).m hnv hnr).kk (hne q9 hq8)
    · rcases List.mem_cons.mp hq8 with rfl | hq8
      · exact KD.kk ⟨Or.inr (Or.inl rfl), if_pos rfl⟩ hne0
      · obtain ⟨m1, m2⟩ := rowsL_mem hq8
        have hnev : q9.1 ≠ v := fun e => hvr (by omega)
        refine KD.kk ⟨Or.inr (Or.inr m1), ?_⟩ (by omega)
        rw [m2]
        show (if q9.1 = v then _ else if r ≤ q9.1 ∧ q9.1 < r + n then _ else K.ks.kd q9.1) = _
        rw [if_neg hnev, if_pos m1]
  · show K.cells + 1 + n = i + 1 + n
    rw [e1]
  · show K.slots + n + n * k = j + n + n * k
    rw [e2]
end CM
theorem dX4_init_0 : decode cX4_init 0 = .ok (.aload_n 0, 1) := by decide +kernel
theorem dX4_init_1 : decode cX4_init 1 = .ok (.invokespecial 3, 3) := by decide +kernel
theorem dX4_init_4 : decode cX4_init 4 = .ok (.aload_n 0, 1) := by decide +kernel
theorem dX4_init_5 : decode cX4_init 5 = .ok (.iconst 0, 1) := by decide +kernel
theorem dX4_init_6 : decode cX4_init 6 = .ok (.putfield 9, 3) := by decide +kernel
theorem dX4_init_9 : decode cX4_init 9 = .ok (.aload_n 0, 1) := by decide +kernel
theorem dX4_init_10 : decode cX4_init 10 = .ok (.bipush 20, 2) := by decide +kernel
theorem dX4_init_12 : decode cX4_init 12 = .ok (.newarray .int, 2) := by decide +kernel
theorem dX4_init_14 : decode cX4_init 14 = .ok (.putfield 15, 3) := by decide +kernel
theorem dX4_init_17 : decode cX4_init 17 = .ok (.aload_n 0, 1) := by decide +kernel
theorem dX4_init_18 : decode cX4_init 18 = .ok (.bipush 20, 2) := by decide +kernel
theorem dX4_init_20 : decode cX4_init 20 = .ok (.newarray .int, 2) := by decide +kernel
theorem dX4_init_22 : decode cX4_init 22 = .ok (.putfield 19, 3) := by decide +kernel
theorem dX4_init_25 : decode cX4_init 25 = .ok (.aload_n 0, 1) := by decide +kernel
theorem dX4_init_26 : decode cX4_init 26 = .ok (.bipush 20, 2) := by decide +kernel
theorem dX4_init_28 : decode cX4_init 28 = .ok (.newarray .int, 2) := by decide +kernel
theorem dX4_init_30 : decode cX4_init 30 = .ok (.putfield 22, 3) := by decide +kernel
theorem dX4_init_33 : decode cX4_init 33 = .ok (.aload_n 0, 1) := by decide +kernel
theorem dX4_init_34 : decode cX4_init 34 = .ok (.bipush 20, 2) := by decide +kernel
theorem dX4_init_36 : decode cX4_init 36 = .ok (.bipush 60, 2) := by decide +kernel
theorem dX4_init_38 : decode cX4_init 38 = .ok (.multianewarray 25 2, 4) := by decide +kernel
theorem dX4_init_42 : decode cX4_init 42 = .ok (.putfield 27, 3) := by decide +kernel
theorem dX4_init_45 : decode cX4_init 45 = .ok (.aload_n 0, 1) := by decide +kernel
theorem dX4_init_46 : decode cX4_init 46 = .ok (.bipush 100, 2) := by decide +kernel
theorem dX4_init_48 : decode cX4_init 48 = .ok (.newarray .int, 2) := by decide +kernel
theorem dX4_init_50 : decode cX4_init 50 = .ok (.putfield 30, 3) := by decide +kernel
theorem dX4_init_53 : decode cX4_init 53 = .ok (.aload_n 0, 1) := by decide +kernel
theorem dX4_init_54 : decode cX4_init 54 = .ok (.bipush 100, 2) := by decide +kernel
theorem dX4_init_56 : decode cX4_init 56 = .ok (.newarray .long, 2) := by decide +kernel
theorem dX4_init_58 : decode cX4_init 58 = .ok (.putfield 33, 3) := by decide +kernel
theorem dX4_init_61 : decode cX4_init 61 = .ok (.aload_n 0, 1) := by decide +kernel
theorem dX4_init_62 : decode cX4_init 62 = .ok (.bipush 100, 2) := by decide +kernel
theorem dX4_init_64 : decode cX4_init 64 = .ok (.newarray .int, 2) := by decide +kernel
theorem dX4_init_66 : decode cX4_init 66 = .ok (.putfield 37, 3) := by decide +kernel
theorem dX4_init_69 : decode cX4_init 69 = .ok (.aload_n 0, 1) := by decide +kernel
theorem dX4_init_70 : decode cX4_init 70 = .ok (.iconst 0, 1) := by decide +kernel
theorem dX4_init_71 : decode cX4_init 71 = .ok (.putfield 40, 3) := by decide +kernel
theorem dX4_init_74 : decode cX4_init 74 = .ok (.aload_n 0, 1) := by decide +kernel
theorem dX4_init_75 : decode cX4_init 75 = .ok (.iconst 0, 1) := by decide +kernel
theorem dX4_init_76 : decode cX4_init 76 = .ok (.putfield 43, 3) := by decide +kernel
theorem dX4_init_79 : decode cX4_init 79 = .ok (.aload_n 0, 1) := by decide +kernel
theorem dX4_init_80 : decode cX4_init 80 = .ok (.iconst 0, 1) := by decide +kernel
theorem dX4_init_81 : decode cX4_init 81 = .ok (.putfield 46, 3) := by decide +kernel
theorem dX4_init_84 : decode cX4_init 84 = .ok (.aload_n 0, 1) := by decide +kernel
theorem dX4_init_85 : decode cX4_init 85 = .ok (.iconst (-1), 1) := by decide +kernel
theorem dX4_init_86 : decode cX4_init 86 = .ok (.putfield 49, 3) := by decide +kernel
theorem dX4_init_89 : decode cX4_init 89 = .ok (.return_, 1) := by decide +kernel
theorem wo_X4_3 : Cond.methodLink RX4 3 Lib.objectInit ∈ gtbl := gq (by decide +kernel) (by decide +kernel)
theorem wcl_X4_25 : Cond.classLink RX4 25 ("[" ++ (FieldType.array FieldType.int).toString) ∈ gtbl := gq (by decide +kernel) (by decide +kernel)
def lawsL1 : List (Nat × Kd) := [(107, .inr (0, 20, nt)), (108, .inr (0, 20, nt)), (109, .inr (0, 20, nt))] ++ ((110, .inr (5, 20, fun j => some (114 + j))) :: rowsL 114 60 20)
theorem lawsL1_in : ∀ q ∈ lawsL1, 107 ≤ q.1 ∧ q.1 ≤ 133 := by
  intro q hq
  rcases List.mem_append.mp hq with hq | hq
  · simp at hq
    rcases hq with rfl | rfl | rfl <;> simp
  · rcases List.mem_cons.mp hq with rfl | hq
    · simp
    · have := (rowsL_mem hq).1
      omega
def lawsL2 : List (Nat × Kd) := lawsL1 ++ [(111, .inr (0, 100, nt))]
theorem lawsL2_in : ∀ q ∈ lawsL2, 107 ≤ q.1 ∧ q.1 ≤ 133 := by
  intro q hq
  rcases List.mem_append.mp hq with hq | hq
  · exact lawsL1_in q hq
  · simp at hq
    rw [hq]
    simp
def lawsL3 : List (Nat × Kd) := lawsL2 ++ [(112, .inr (1, 100, nt))]
theorem lawsL3_in : ∀ q ∈ lawsL3, 107 ≤ q.1 ∧ q.1 ≤ 133 := by
  intro q hq
  rcases List.mem_append.mp hq with hq | hq
  · exact lawsL2_in q hq
  · simp at hq
    rw [hq]
    simp
def lawsL : List (Nat × Kd) := (106, .inl (4, [(0, 0), (1, 107), (1, 108), (1, 109), (1, 110), (1, 111), (1, 112), (1, 113), (0, 0), (0, 0), (0, 0), (0, 0)])) :: (lawsL3 ++ [(113, .inr (0, 100, nt))])
def Wlaws (w : Wd) : Wd := (si (si (si (si (zi (zi (zi (zm (zi (zi (zi (si w 106 0 (0)) 107) 108) 109) 114 20) 111) 112) 113) 106 8 (0)) 106 9 (0)) 106 10 (0)) 106 11 (-1))
set_option maxHeartbeats 4000000 in
theorem kX4_init {l : Launch} {S : KS} {w : Wd} (hX : XCs S) (hI : Inj S) (hv : KD S 106 (.inl (4, [(0, 0), (3, 0), (3, 0), (3, 0), (3, 0), (3, 0), (3, 0), (3, 0), (0, 0), (0, 0), (0, 0), (0, 0)]))) (hf : ∀ a, 107 ≤ a → a ≤ 133 → ¬ S.D a) (hc : Clo S w) : CK l yX4_init cX4_init 1 2 27 1580 S 106 107 133 w (Wlaws w) lawsL := by
  refine mk_entryC (own := RX4) rfl (by decide +kernel) rfl hI 0 rfl rfl (fun K sz h1 h2 h3 hR hc0 hs0 hcR hsR G => ?_)
  refine x_aload_n G dX4_init_0 rfl rfl ?_
  refine x_objI G wo_X4_3 wo_1 wo_2 rfl rfl dX4_init_1 ?_
  have B := c_start G h2 h3 hR hc0 hs0 hcR hsR hv hf hc
  clear G h2 h3 hR hc0 hs0 hcR hsR
  refine x_aload_n B.1 dX4_init_4 rfl rfl ?_
  refine x_iconst B.1 (v := 0) dX4_init_5 (by decide) ?_
  refine c_fieldI (k := 0) B cl4 rfl rfl wf_X4_9 rfl rfl rfl dX4_init_6 (fun B => ?_)
  refine x_aload_n B.1 dX4_init_9 rfl rfl ?_
  refine x_bipush B.1 (v := 20) dX4_init_10 (by decide) ?_
  refine c_fieldA (at0 := .int) (ty := .int) (n := 20) (t0 := 0) (k := 1) B cl4 rfl (Or.inl ⟨rfl, rfl⟩) wa_int (by decide) (by decide) (by decide) (by omega) (by omega) (noV1 (by omega)) (by omega) (by omega) (by omega) (by simp) rfl rfl wf_X4_15 (Or.inr ⟨rfl, rfl⟩) (fun _ => rfl) (fun _ => rfl) dX4_init_12 dX4_init_14 (fun K B => ?_)
  refine x_aload_n B.1 dX4_init_17 rfl rfl ?_
  refine x_bipush B.1 (v := 20) dX4_init_18 (by decide) ?_
  refine c_fieldA (at0 := .int) (ty := .int) (n := 20) (t0 := 0) (k := 2) B cl4 rfl (Or.inl ⟨rfl, rfl⟩) wa_int (by decide) (by decide) (by decide) (by omega) (by omega) (noV1 (by omega)) (by omega) (by omega) (by omega) (by simp) rfl rfl wf_X4_19 (Or.inr ⟨rfl, rfl⟩) (fun _ => rfl) (fun _ => rfl) dX4_init_20 dX4_init_22 (fun K B => ?_)
  refine x_aload_n B.1 dX4_init_25 rfl rfl ?_
  refine x_bipush B.1 (v := 20) dX4_init_26 (by decide) ?_
  refine c_fieldA (at0 := .int) (ty := .int) (n := 20) (t0 := 0) (k := 3) B cl4 rfl (Or.inl ⟨rfl, rfl⟩) wa_int (by decide) (by decide) (by decide) (by omega) (by omega) (noV1 (by omega)) (by omega) (by omega) (by omega) (by simp) rfl rfl wf_X4_22 (Or.inr ⟨rfl, rfl⟩) (fun _ => rfl) (fun _ => rfl) dX4_init_28 dX4_init_30 (fun K B => ?_)
  refine x_aload_n B.1 dX4_init_33 rfl rfl ?_
  refine x_bipush B.1 (v := 20) dX4_init_34 (by decide) ?_
  refine x_bipush B.1 (v := 60) dX4_init_36 (by decide) ?_
  refine c_fieldM (v := 110) (r := 114) (n := 20) (k := 60) (kf := 4) B hX cl4 wcl_X4_25 wa_int (by decide) (by decide) (by decide) (by decide) (by decide) (by decide) (by decide) (by omega) (by omega) (by omega) (by omega) (by omega) (by omega) (fun a a1 a2 => noV1 (by omega)) (by simp) rfl rfl wf_X4_27 (Or.inr ⟨rfl, rfl⟩) (fun _ => rfl) (fun _ => rfl) dX4_init_38 dX4_init_42 (fun K B nf => ?_)
  replace nf : ∀ a, 111 ≤ a → a ≠ 110 → ¬ (114 ≤ a ∧ a < 134) → a ≤ 133 → ¬ K.ks.D a := fun a a1 a2 a3 a4 => nf a a2 (by omega) (by omega) a4
  refine x_aload_n B.1 dX4_init_45 rfl rfl ?_
  refine x_bipush B.1 (v := 100) dX4_init_46 (by decide) ?_
  refine c_fieldA2 (v := 111) (at0 := .int) (ty := .int) (n := 100) (t0 := 0) (k := 5) B (nf 111 (by omega) (by omega) (by omega) (by omega)) cl4 rfl (Or.inl ⟨rfl, rfl⟩) wa_int (by decide) (by decide) (by decide) (by omega) (by omega) (noV1 (by omega)) (by omega) (by omega) (by omega) (by omega) (fun q hq => by have := lawsL1_in q hq; omega) rfl rfl wf_X4_30 (Or.inr ⟨rfl, rfl⟩) (fun _ => rfl) (fun _ => rfl) dX4_init_48 dX4_init_50 (fun K B nf2 => ?_)
  have nf : ∀ a, 112 ≤ a → a ≠ 110 → ¬ (114 ≤ a ∧ a < 134) → a ≤ 133 → ¬ K.ks.D a := fun a a1 a2 a3 a4 => nf2 a (by omega) (nf a (by omega) a2 a3 a4)
  clear nf2
  refine x_aload_n B.1 dX4_init_53 rfl rfl ?_
  refine x_bipush B.1 (v := 100) dX4_init_54 (by decide) ?_
  refine c_fieldA2 (v := 112) (at0 := .long) (ty := .long) (n := 100) (t0 := 1) (k := 6) B (nf 112 (by omega) (by omega) (by omega) (by omega)) cl4 rfl (Or.inr (Or.inl ⟨rfl, rfl⟩)) wa_long (by decide) (by decide) (by decide) (by omega) (by omega) (noV1 (by omega)) (by omega) (by omega) (by omega) (by omega) (fun q hq => by have := lawsL2_in q hq; omega) rfl rfl wf_X4_33 (Or.inr ⟨rfl, rfl⟩) (fun _ => rfl) (fun _ => rfl) dX4_init_56 dX4_init_58 (fun K B nf2 => ?_)
  have nf : ∀ a, 113 ≤ a → a ≠ 110 → ¬ (114 ≤ a ∧ a < 134) → a ≤ 133 → ¬ K.ks.D a := fun a a1 a2 a3 a4 => nf2 a (by omega) (nf a (by omega) a2 a3 a4)
  clear nf2
  refine x_aload_n B.1 dX4_init_61 rfl rfl ?_
  refine x_bipush B.1 (v := 100) dX4_init_62 (by decide) ?_
  refine c_fieldA2 (v := 113) (at0 := .int) (ty := .int) (n := 100) (t0 := 0) (k := 7) B (nf 113 (by omega) (by omega) (by omega) (by omega)) cl4 rfl (Or.inl ⟨rfl, rfl⟩) wa_int (by decide) (by decide) (by decide) (by omega) (by omega) (noV1 (by omega)) (by omega) (by omega) (by omega) (by omega) (fun q hq => by have := lawsL3_in q hq; omega) rfl rfl wf_X4_37 (Or.inr ⟨rfl, rfl⟩) (fun _ => rfl) (fun _ => rfl) dX4_init_64 dX4_init_66 (fun K B nf2 => ?_)
  have nf : ∀ a, 114 ≤ a → a ≠ 110 → ¬ (114 ≤ a ∧ a < 134) → a ≤ 133 → ¬ K.ks.D a := fun a a1 a2 a3 a4 => nf2 a (by omega) (nf a (by omega) a2 a3 a4)
  clear nf2
  refine x_aload_n B.1 dX4_init_69 rfl rfl ?_
  refine x_iconst B.1 (v := 0) dX4_init_70 (by decide) ?_
  refine c_fieldI (k := 8) B cl4 rfl rfl wf_X4_40 rfl rfl rfl dX4_init_71 (fun B => ?_)
  refine x_aload_n B.1 dX4_init_74 rfl rfl ?_
  refine x_iconst B.1 (v := 0) dX4_init_75 (by decide) ?_
  refine c_fieldI (k := 9) B cl4 rfl rfl wf_X4_43 rfl rfl rfl dX4_init_76 (fun B => ?_)
  refine x_aload_n B.1 dX4_init_79 rfl rfl ?_
  refine x_iconst B.1 (v := 0) dX4_init_80 (by decide) ?_
  refine c_fieldI (k := 10) B cl4 rfl rfl wf_X4_46 rfl rfl rfl dX4_init_81 (fun B => ?_)
  refine x_aload_n B.1 dX4_init_84 rfl rfl ?_
  refine x_iconst B.1 (v := -1) dX4_init_85 (by decide) ?_
  refine c_fieldI (k := 11) B cl4 rfl rfl wf_X4_49 rfl rfl rfl dX4_init_86 (fun B => ?_)
  exact c_ret B (by omega) (by omega) dX4_init_89
theorem dX11_init_0 : decode cX11_init 0 = .ok (.aload_n 0, 1) := by decide +kernel
theorem dX11_init_1 : decode cX11_init 1 = .ok (.invokespecial 1, 3) := by decide +kernel
theorem dX11_init_4 : decode cX11_init 4 = .ok (.aload_n 0, 1) := by decide +kernel
theorem dX11_init_5 : decode cX11_init 5 = .ok (.new 7, 3) := by decide +kernel
theorem dX11_init_8 : decode cX11_init 8 = .ok (.dup, 1) := by decide +kernel
theorem dX11_init_9 : decode cX11_init 9 = .ok (.invokespecial 9, 3) := by decide +kernel
theorem dX11_init_12 : decode cX11_init 12 = .ok (.putfield 10, 3) := by decide +kernel
theorem dX11_init_15 : decode cX11_init 15 = .ok (.aload_n 0, 1) := by decide +kernel
theorem dX11_init_16 : decode cX11_init 16 = .ok (.new 16, 3) := by decide +kernel
theorem dX11_init_19 : decode cX11_init 19 = .ok (.dup, 1) := by decide +kernel
theorem dX11_init_20 : decode cX11_init 20 = .ok (.invokespecial 18, 3) := by decide +kernel
theorem dX11_init_23 : decode cX11_init 23 = .ok (.putfield 19, 3) := by decide +kernel
theorem dX11_init_26 : decode cX11_init 26 = .ok (.aload_n 0, 1) := by decide +kernel
theorem dX11_init_27 : decode cX11_init 27 = .ok (.new 23, 3) := by decide +kernel
theorem dX11_init_30 : decode cX11_init 30 = .ok (.dup, 1) := by decide +kernel
theorem dX11_init_31 : decode cX11_init 31 = .ok (.invokespecial 25, 3) := by decide +kernel
theorem dX11_init_34 : decode cX11_init 34 = .ok (.putfield 26, 3) := by decide +kernel
theorem dX11_init_37 : decode cX11_init 37 = .ok (.aload_n 0, 1) := by decide +kernel
theorem dX11_init_38 : decode cX11_init 38 = .ok (.new 30, 3) := by decide +kernel
theorem dX11_init_41 : decode cX11_init 41 = .ok (.dup, 1) := by decide +kernel
theorem dX11_init_42 : decode cX11_init 42 = .ok (.invokespecial 32, 3) := by decide +kernel
theorem dX11_init_45 : decode cX11_init 45 = .ok (.putfield 33, 3) := by decide +kernel
theorem dX11_init_48 : decode cX11_init 48 = .ok (.aload_n 0, 1) := by decide +kernel
theorem dX11_init_49 : decode cX11_init 49 = .ok (.new 37, 3) := by decide +kernel
theorem dX11_init_52 : decode cX11_init 52 = .ok (.dup, 1) := by decide +kernel
theorem dX11_init_53 : decode cX11_init 53 = .ok (.invokespecial 39, 3) := by decide +kernel
theorem dX11_init_56 : decode cX11_init 56 = .ok (.putfield 40, 3) := by decide +kernel
theorem dX11_init_59 : decode cX11_init 59 = .ok (.aload_n 0, 1) := by decide +kernel
theorem dX11_init_60 : decode cX11_init 60 = .ok (.bipush 6, 2) := by decide +kernel
theorem dX11_init_62 : decode cX11_init 62 = .ok (.anewarray 44, 3) := by decide +kernel
theorem dX11_init_65 : decode cX11_init 65 = .ok (.putfield 46, 3) := by decide +kernel
theorem dX11_init_68 : decode cX11_init 68 = .ok (.aload_n 0, 1) := by decide +kernel
theorem dX11_init_69 : decode cX11_init 69 = .ok (.bipush 8, 2) := by decide +kernel
theorem dX11_init_71 : decode cX11_init 71 = .ok (.newarray .int, 2) := by decide +kernel
theorem dX11_init_73 : decode cX11_init 73 = .ok (.putfield 50, 3) := by decide +kernel
theorem dX11_init_76 : decode cX11_init 76 = .ok (.aload_n 0, 1) := by decide +kernel
theorem dX11_init_77 : decode cX11_init 77 = .ok (.iconst 0, 1) := by decide +kernel
theorem dX11_init_78 : decode cX11_init 78 = .ok (.putfield 54, 3) := by decide +kernel
theorem dX11_init_81 : decode cX11_init 81 = .ok (.aload_n 0, 1) := by decide +kernel
theorem dX11_init_82 : decode cX11_init 82 = .ok (.iconst 0, 1) := by decide +kernel
theorem dX11_init_83 : decode cX11_init 83 = .ok (.putfield 58, 3) := by decide +kernel
theorem dX11_init_86 : decode cX11_init 86 = .ok (.aload_n 0, 1) := by decide +kernel
theorem dX11_init_87 : decode cX11_init 87 = .ok (.iconst 0, 1) := by decide +kernel
theorem dX11_init_88 : decode cX11_init 88 = .ok (.putfield 61, 3) := by decide +kernel
theorem dX11_init_91 : decode cX11_init 91 = .ok (.aload_n 0, 1) := by decide +kernel
theorem dX11_init_92 : decode cX11_init 92 = .ok (.iconst 0, 1) := by decide +kernel
theorem dX11_init_93 : decode cX11_init 93 = .ok (.putfield 64, 3) := by decide +kernel
theorem dX11_init_96 : decode cX11_init 96 = .ok (.iconst 0, 1) := by decide +kernel
theorem dX11_init_97 : decode cX11_init 97 = .ok (.istore_n 1, 1) := by decide +kernel
theorem dX11_init_98 : decode cX11_init 98 = .ok (.iload_n 1, 1) := by decide +kernel
theorem dX11_init_99 : decode cX11_init 99 = .ok (.bipush 6, 2) := by decide +kernel
theorem dX11_init_101 : decode cX11_init 101 = .ok (.if_icmp .ge 22, 3) := by decide +kernel
theorem dX11_init_104 : decode cX11_init 104 = .ok (.aload_n 0, 1) := by decide +kernel
theorem dX11_init_105 : decode cX11_init 105 = .ok (.getfield 46, 3) := by decide +kernel
theorem dX11_init_108 : decode cX11_init 108 = .ok (.iload_n 1, 1) := by decide +kernel
theorem dX11_init_109 : decode cX11_init 109 = .ok (.new 44, 3) := by decide +kernel
theorem dX11_init_112 : decode cX11_init 112 = .ok (.dup, 1) := by decide +kernel
theorem dX11_init_113 : decode cX11_init 113 = .ok (.invokespecial 67, 3) := by decide +kernel
theorem dX11_init_116 : decode cX11_init 116 = .ok (.aastore, 1) := by decide +kernel
theorem dX11_init_117 : decode cX11_init 117 = .ok (.iinc 1 1, 3) := by decide +kernel
theorem dX11_init_120 : decode cX11_init 120 = .ok (.goto (-22), 3) := by decide +kernel
theorem dX11_init_123 : decode cX11_init 123 = .ok (.return_, 1) := by decide +kernel
theorem wo_X11_1 : Cond.methodLink RX11 1 Lib.objectInit ∈ gtbl := gq (by decide +kernel) (by decide +kernel)
def lL1 : List (Nat × Kd) := [(92, .inl (1, [(1, 93), (1, 94), (1, 95), (1, 96), (1, 97), (1, 98), (1, 99)])), (93, .inr (0, 100, nt)), (94, .inr (0, 100, nt)), (95, .inr (0, 100, nt)), (96, .inr (0, 100, nt)), (97, .inr (0, 100, nt)), (98, .inr (0, 100, nt)), (99, .inr (0, 100, nt))]
def WL1 (w : Wd) : Wd := (zi (zi (zi (zi (zi (zi (zi w (93)) (94)) (95)) (96)) (97)) (98)) (99))
theorem lL1_in : ∀ q ∈ lL1, q.1 = 92 ∨ (93 ≤ q.1 ∧ q.1 ≤ 99) := by simp [lL1]
def lL9 : List (Nat × Kd) := [(100, .inl (9, [(0, 0), (1, 101)])), (101, .inr (0, 60, nt))]
def WL9 (w : Wd) : Wd := (zi (si w (100) 0 (0)) (101))
theorem lL9_in : ∀ q ∈ lL9, q.1 = 100 ∨ (101 ≤ q.1 ∧ q.1 ≤ 101) := by simp [lL9]
def lL7 : List (Nat × Kd) := [(102, .inl (7, [(0, 0), (1, 103), (1, 104), (1, 105)])), (103, .inr (0, 19, nt)), (104, .inr (0, 19, nt)), (105, .inr (0, 100, nt))]
def WL7 (w : Wd) : Wd := (zi (zi (zi (si w (102) 0 (0)) (103)) (104)) (105))
theorem lL7_in : ∀ q ∈ lL7, q.1 = 102 ∨ (103 ≤ q.1 ∧ q.1 ≤ 105) := by simp [lL7]
theorem lawsL_in : ∀ q ∈ lawsL, q.1 = 106 ∨ (107 ≤ q.1 ∧ q.1 ≤ 133) := by
  intro q hq
  rcases List.mem_cons.mp hq with rfl | hq
  · exact Or.inl rfl
  · rcases List.mem_append.mp hq with hq | hq
    · exact Or.inr (lawsL3_in q hq)
    · simp at hq
      rw [hq]
      simp
theorem cityL0_in : ∀ q ∈ cityL 0, q.1 = 1 ∨ (2 ≤ q.1 ∧ q.1 ≤ 91) := by simp [cityL]
theorem lne_0 : ∀ q ∈ (cityL 0), 1 ≤ q.1 ∧ q.1 ≤ 133 := by
  intro q hq
  · have := cityL0_in q hq
    omega
theorem wcl_X11_16 : Cond.classLink RX11 16 RX1 ∈ gtbl := gq (by decide +kernel) (by decide +kernel)
theorem wins_X1 : Cond.instantiable RX1 7 ∈ gtbl := gq (by decide +kernel) (by decide +kernel)
theorem wi_X1_init : Cond.instanceMethod yX1_init ∈ gtbl := gq (by decide +kernel) (by decide +kernel)
theorem wk_X1_init : Cond.code yX1_init cX1_init 1 none ∈ gtbl := gq (by decide +kernel) (by decide +kernel)
theorem mi_X11_18 : MIN RX11 18 yX1_init RX11 cX1_init 1 ∨ MIP RX11 18 yX1_init cX1_init 1 := Or.inl ⟨⟨List.mem_of_getElem? (i := 5) rfl, wi_X1_init, wz_X1, wk_X1_init⟩, ⟨by decide +kernel, by decide +kernel, by decide +kernel⟩, rfl⟩
theorem lne_1 : ∀ q ∈ (cityL 0 ++ lL1), 1 ≤ q.1 ∧ q.1 ≤ 133 := by
  intro q hq
  simp only [List.mem_append] at hq
  rcases hq with hq | hq
  · have := cityL0_in q hq
    omega
  · have := lL1_in q hq
    omega
theorem wcl_X11_23 : Cond.classLink RX11 23 RX9 ∈ gtbl := gq (by decide +kernel) (by decide +kernel)
theorem wins_X9 : Cond.instantiable RX9 2 ∈ gtbl := gq (by decide +kernel) (by decide +kernel)
theorem wi_X9_init : Cond.instanceMethod yX9_init ∈ gtbl := gq (by decide +kernel) (by decide +kernel)
theorem wk_X9_init : Cond.code yX9_init cX9_init 1 none ∈ gtbl := gq (by decide +kernel) (by decide +kernel)
theorem mi_X11_25 : MIN RX11 25 yX9_init RX11 cX9_init 1 ∨ MIP RX11 25 yX9_init cX9_init 1 := Or.inl ⟨⟨List.mem_of_getElem? (i := 6) rfl, wi_X9_init, wz_X9, wk_X9_init⟩, ⟨by decide +kernel, by decide +kernel, by decide +kernel⟩, rfl⟩
theorem lne_2 : ∀ q ∈ (cityL 0 ++ lL1 ++ lL9), 1 ≤ q.1 ∧ q.1 ≤ 133 := by
  intro q hq
  simp only [List.mem_append] at hq
  rcases hq with (hq | hq) | hq
  · have := cityL0_in q hq
    omega
  · have := lL1_in q hq
    omega
  · have := lL9_in q hq
    omega
theorem wcl_X11_30 : Cond.classLink RX11 30 RX7 ∈ gtbl := gq (by decide +kernel) (by decide +kernel)
theorem wins_X7 : Cond.instantiable RX7 4 ∈ gtbl := gq (by decide +kernel) (by decide +kernel)
theorem wi_X7_init : Cond.instanceMethod yX7_init ∈ gtbl := gq (by decide +kernel) (by decide +kernel)
theorem wk_X7_init : Cond.code yX7_init cX7_init 1 none ∈ gtbl := gq (by decide +kernel) (by decide +kernel)
theorem mi_X11_32 : MIN RX11 32 yX7_init RX11 cX7_init 1 ∨ MIP RX11 32 yX7_init cX7_init 1 := Or.inl ⟨⟨List.mem_of_getElem? (i := 7) rfl, wi_X7_init, wz_X7, wk_X7_init⟩, ⟨by decide +kernel, by decide +kernel, by decide +kernel⟩, rfl⟩
theorem lne_3 : ∀ q ∈ (cityL 0 ++ lL1 ++ lL9 ++ lL7), 1 ≤ q.1 ∧ q.1 ≤ 133 := by
  intro q hq
  simp only [List.mem_append] at hq
  rcases hq with ((hq | hq) | hq) | hq
  · have := cityL0_in q hq
    omega
  · have := lL1_in q hq
    omega
  · have := lL9_in q hq
    omega
  · have := lL7_in q hq
    omega
theorem wcl_X11_37 : Cond.classLink RX11 37 RX4 ∈ gtbl := gq (by decide +kernel) (by decide +kernel)
theorem wins_X4 : Cond.instantiable RX4 12 ∈ gtbl := gq (by decide +kernel) (by decide +kernel)
theorem wi_X4_init : Cond.instanceMethod yX4_init ∈ gtbl := gq (by decide +kernel) (by decide +kernel)
theorem wk_X4_init : Cond.code yX4_init cX4_init 1 none ∈ gtbl := gq (by decide +kernel) (by decide +kernel)
theorem mi_X11_39 : MIN RX11 39 yX4_init RX11 cX4_init 1 ∨ MIP RX11 39 yX4_init cX4_init 1 := Or.inl ⟨⟨List.mem_of_getElem? (i := 8) rfl, wi_X4_init, wz_X4, wk_X4_init⟩, ⟨by decide +kernel, by decide +kernel, by decide +kernel⟩, rfl⟩
theorem lne_4 : ∀ q ∈ (cityL 0 ++ lL1 ++ lL9 ++ lL7 ++ lawsL), 1 ≤ q.1 ∧ q.1 ≤ 133 := by
  intro q hq
  simp only [List.mem_append] at hq
  rcases hq with (((hq | hq) | hq) | hq) | hq
  · have := cityL0_in q hq
    omega
  · have := lL1_in q hq
    omega
  · have := lL9_in q hq
    omega
  · have := lL7_in q hq
    omega
  · have := lawsL_in q hq
    omega
theorem wcl_X11_44 : Cond.classLink RX11 44 RX8 ∈ gtbl := gq (by decide +kernel) (by decide +kernel)
theorem wins_X8 : Cond.instantiable RX8 4 ∈ gtbl := gq (by decide +kernel) (by decide +kernel)
theorem wi_X8_init : Cond.instanceMethod yX8_init ∈ gtbl := gq (by decide +kernel) (by decide +kernel)
theorem wk_X8_init : Cond.code yX8_init cX8_init 1 none ∈ gtbl := gq (by decide +kernel) (by decide +kernel)
theorem mi_X11_67 : MIN RX11 67 yX8_init RX11 cX8_init 1 ∨ MIP RX11 67 yX8_init cX8_init 1 := Or.inl ⟨⟨List.mem_of_getElem? (i := 9) rfl, wi_X8_init, wz_X8, wk_X8_init⟩, ⟨by decide +kernel, by decide +kernel, by decide +kernel⟩, rfl⟩
def lbody : List (Nat × Kd) := cityL 0 ++ lL1 ++ lL9 ++ lL7 ++ lawsL ++ [(134, .inr (4, 6, nt))]
def lbody0 : List (Nat × Kd) := cityL 0 ++ lL1 ++ lL9 ++ lL7 ++ lawsL
def WlowA (w : Wd) : Wd := (si (si (si (si (zi (zi (Wlaws (zi (WL7 (zi (WL9 (zi (WL1 (zi (Wcity 0 (zi w 1)) 92)) 100)) 102)) 106)) 134) 147) 0 7 0) 0 8 0) 0 9 0) 0 10 0)
theorem lbody_in : ∀ q ∈ lbody, 1 ≤ q.1 ∧ q.1 ≤ 134 := by
  intro q hq
  rcases List.mem_append.mp hq with hq | hq
  · have := lne_4 q hq
    omega
  · simp at hq
    rw [hq]
    simp
theorem lbody0_in : ∀ q ∈ lbody0, 1 ≤ q.1 ∧ q.1 ≤ 133 := lne_4
def ctp (k : Nat) : List (Nat × Kd) := [(135 + 2 * k, .inl (8, [(0, 0), (0, 0), (1, 136 + 2 * k), (2, 201 + 100 * k)])), (136 + 2 * k, .inr (1, 100, nt))]
theorem ctp_in {k : Nat} : ∀ q ∈ ctp k, q.1 = 135 + 2 * k ∨ (136 + 2 * k ≤ q.1 ∧ q.1 ≤ 136 + 2 * k) := by simp [ctp]
def ctps : Nat → List (Nat × Kd)
  | 0 => []
  | k + 1 => ctps k ++ ctp k
theorem ctps_in : ∀ k, ∀ q ∈ ctps k, 135 ≤ q.1 ∧ q.1 < 135 + 2 * k
  | 0, q, h => by cases h
  | k + 1, q, h => by
    rcases List.mem_append.mp h with h | h
    · have := ctps_in k q h
      omega
    · have := ctp_in q h
      omega
def Wtp (k : Nat) (w : Wd) : Wd := zi (si (si w (135 + 2 * k) 0 0) (135 + 2 * k) 1 0) (135 + 2 * k + 1)
def Wtps (w : Wd) : Nat → Wd
  | 0 => w
  | k + 1 => Wtp k (zi (Wtps w k) (135 + 2 * k))
def tpf (k : Nat) : Nat → Option Nat := fun j => if j < k then some (135 + 2 * j) else none
def Wlow (w : Wd) : Wd := Wtps (WlowA w) 6
theorem noV1n {a v : Nat} (h : ¬ a = v) : noV v [some (.ref a), none] = true := by
  have : Nat.beq a v = false := by
    cases hb : Nat.beq a v
    · rfl
    · exact absurd (Nat.eq_of_beq_eq_true hb) h
  simp [noV, this]
theorem CBU.fh {K : KT} {cc : ByteArray} {own : String} {nL d : Nat} {S : KS} {sz lo hi fh fh2 v0 c s : Nat} {wF : Wd} {LF L : List (Nat × Kd)} {nx i j : Nat} {w : Wd} (B : CBU K cc own nL d S sz lo hi fh v0 c s wF LF L nx i j w) (h : fh2 ≤ fh) : CBU K cc own nL d S sz lo hi fh2 v0 c s wF LF L nx i j w :=
  ⟨B.1, B.2.1, B.2.2.1, B.2.2.2.1, fun a a1 a2 => B.2.2.2.2.1 a a1 (Nat.le_trans a2 h), B.2.2.2.2.2⟩
def lowHead : Nat × Kd := (0, .inl (11, [(1, 1), (1, 92), (1, 100), (1, 102), (1, 106), (1, 134), (1, 147), (0, 0), (0, 0), (0, 0), (0, 0)]))
def lowR (k : Nat) : List (Nat × Kd) := lowHead :: (lbody0 ++ [(147, .inr (0, 8, nt))] ++ ctps k)
theorem ne134 {k : Nat} (hk : k ≤ 6) : ∀ q ∈ lowR k, q.1 ≠ 134 := by
  intro q hq
  rcases List.mem_cons.mp hq with rfl | hq
  · simp [lowHead]
  · simp only [List.mem_append] at hq
    rcases hq with (hq | hq) | hq
    · have := lbody0_in q hq
      omega
    · simp at hq
      rw [hq]
      simp
    · have := ctps_in k q hq
      omega
theorem tpf_up {k : Nat} : va_up (tpf k) k (some (135 + 2 * k)) = tpf (k + 1) := by
  funext j
  unfold va_up tpf
  by_cases h : j = k
  · rw [if_pos h, if_pos (by omega), h]
  · rw [if_neg h]
    by_cases h2 : j < k
    · rw [if_pos h2, if_pos (by omega)]
    · rw [if_neg h2, if_neg (by omega)]
set_option maxHeartbeats 4000000 in
theorem c_tape {K : KT} {d : Nat} {S : KS} {sz c s : Nat} {k i j : Nat} {wF w0 : Wd} {LF : List (Nat × Kd)} {x : Int32} (hk : k < 6) (B : CBU K cX11_init RX11 2 d S sz 1 147 146 0 c s wF LF ((134, .inr (4, 6, tpf k)) :: lowR k) (135 + 2 * k) i j (Wtps w0 k)) (hx : x.toNatClampNeg = k) (hx6 : x < 6) (hx0 : inb x 6 = true) (hd : Nat.blt 2 d = true) (h1 : i + 2 ≤ c) (h2 : j + 104 ≤ s)
    (kk : ∀ K' : KT, CBU K' cX11_init RX11 2 d S sz 1 147 146 0 c s wF LF ((134, .inr (4, 6, tpf (k + 1))) :: lowR (k + 1)) (135 + 2 * (k + 1)) (i + 2) (j + 104) (Wtps w0 (k + 1)) → XW K' 98 [some (.ref 0), some (.int (x + 1))] [] (Wtps w0 (k + 1))) : XW K 98 [some (.ref 0), some (.int x)] [] (Wtps w0 k) := by
  have k134 := B.2.2.2.1 _ List.mem_cons_self
  have k0 : KD K.ks 0 _ := B.2.2.2.1 lowHead (List.mem_cons_of_mem _ List.mem_cons_self)
  refine x_iload_n B.1 dX11_init_98 rfl rfl ?_
  refine x_bipush B.1 (v := 6) dX11_init_99 (by decide) ?_
  refine x_icmpge (α := Unit) (A := some ()) (B := none) (r := ()) B.1 dX11_init_101 (tgt := 123) rfl (if_pos hx6) (fun _ _ => ?_) (fun _ h => by cases h)
  refine x_aload_n B.1 dX11_init_104 rfl rfl ?_
  refine x_getR B.1 k0 5 (b := 134) rfl cl11 rfl wf_X11_46 dX11_init_105 ?_
  refine x_iload_n B.1 dX11_init_108 rfl rfl ?_
  refine c_obj (L' := ctp k) (w' := Wtps w0 (k + 1)) (c' := 1) (s' := 100) (lo' := 135 + 2 * k + 1) (hi' := 135 + 2 * k + 1) (nx := 135 + 2 * k) (ds2 := [(0, 0), (0, 0), (3, 0), (3, 0)]) B cl8 wcl_X11_44 wins_X8 wz_X8 (fun j hj => match j, hj with | 0, _ => rfl | 1, _ => rfl | 2, _ => rfl | 3, _ => rfl | m + 4, h => absurd h (by omega)) (by decide) (fun S1 _ h1 h2 h3 h4 => ?_) mi_X11_67 (List.mem_of_getElem? (i := 0) rfl) (fun q hq => by have := ctp_in q hq; omega) (by omega) (by omega) (by omega) (by omega) (by omega) (by omega) hd rfl (fun v a1 a2 => ?_) (fun v a1 a2 => noVs2i (by omega)) rfl (by omega) dX11_init_109 dX11_init_112 dX11_init_113 (fun K _ B => ?_)
  · have := kX8_init (l := K.l) (img := 201 + 100 * k) (by simp [zi]) h1 h2 h3 h4
    have e : 135 + 2 * k + 1 = 136 + 2 * k := by omega
    rw [e] at this ⊢
    rw [show Wtps w0 (k + 1) = Wtp k (zi (Wtps w0 k) (135 + 2 * k)) from rfl, Wtp, e]
    exact this
  · have h9 := noV1 (a := 0) (v := v) (by omega)
    simp [noV] at h9 ⊢
    exact h9
  refine c_ast (a := 134) (b := 135 + 2 * k) (n := 6) (t0 := 4) (f := tpf k) (st := []) (L := lowR k ++ ctp k) B (Or.inr ⟨rfl, rfl⟩) (List.mem_append_right _ (List.mem_of_getElem? (i := 0) rfl)) cl8 hx0 (by omega) ?_ dX11_init_116 (fun K B => ?_)
  · intro q hq
    rcases List.mem_append.mp hq with hq | hq
    · exact ne134 (Nat.le_of_lt hk) q hq
    · have := ctp_in q hq
      omega
  rw [hx, tpf_up] at B
  refine x_iinc B.1 dX11_init_117 (x := x) (v := 1) rfl rfl rfl rfl rfl ?_
  refine x_goto B.1 (tgt := 98) dX11_init_120 rfl ?_
  refine kk K (B.sub (fun q hq => ?_))
  rcases List.mem_cons.mp hq with rfl | hq
  · exact List.mem_cons_self
  · refine List.mem_cons_of_mem _ ?_
    rcases List.mem_cons.mp hq with rfl | hq
    · exact List.mem_append_left _ List.mem_cons_self
    · simp only [List.mem_append, lowR, List.mem_cons, ctps] at hq ⊢
      rcases hq with (hq | hq) | hq | hq
      · exact Or.inl (Or.inr (Or.inl (Or.inl hq)))
      · exact Or.inl (Or.inr (Or.inl (Or.inr hq)))
      · exact Or.inl (Or.inr (Or.inr hq))
      · exact Or.inr hq
def lowL : List (Nat × Kd) := (134, .inr (4, 6, fun j => some (135 + 2 * j))) :: lowR 6
set_option maxHeartbeats 16000000 in
theorem kX11_init {l : Launch} {S : KS} {w : Wd} (hX : XCs S) (hI : Inj S) (hv : KD S 0 (.inl (11, [(3, 0), (3, 0), (3, 0), (3, 0), (3, 0), (3, 0), (3, 0), (0, 0), (0, 0), (0, 0), (0, 0)]))) (hf : ∀ a, 1 ≤ a → a ≤ 147 → ¬ S.D a) (hc : Clo S w) : CK l yX11_init cX11_init 2 6 147 7499 S 0 1 147 w (Wlow w) lowL := by
  refine mk_entryC (own := RX11) rfl (by decide +kernel) rfl hI 1 rfl rfl (fun K sz h1 h2 h3 hR hc0 hs0 hcR hsR G => ?_)
  subst h1
  refine x_aload_n G dX11_init_0 rfl rfl ?_
  refine x_objI G wo_X11_1 wo_1 wo_2 rfl rfl dX11_init_1 ?_
  have B := c_start G h2 h3 hR hc0 hs0 hcR hsR hv hf hc
  clear G h2 h3 hR hc0 hs0 hcR hsR
  refine x_aload_n B.1 dX11_init_4 rfl rfl ?_
  refine c_obj (L' := cityL 0) (w' := Wcity 0 (zi _ 1)) (c' := 90) (s' := 4345) (lo' := 2) (hi' := 91) (nx := 1) (ds2 := [(3, 0), (3, 0), (3, 0), (3, 0), (3, 0), (0, 0), (0, 0), (0, 0), (0, 0), (0, 0), (0, 0), (0, 0), (0, 0)]) B cl0 wcl_X11_7 wins_X0 wz_X0 (fun j hj => match j, hj with | 0, _ => rfl | 1, _ => rfl | 2, _ => rfl | 3, _ => rfl | 4, _ => rfl | 5, _ => rfl | 6, _ => rfl | 7, _ => rfl | 8, _ => rfl | 9, _ => rfl | 10, _ => rfl | 11, _ => rfl | 12, _ => rfl | m + 13, h => absurd h (by omega)) (by decide) (fun S1 hx h1 h2 h3 h4 => kX0_init (z := 0) (fun A U H h => hX A U H (hx ▸ h)) h1 h2 h3 h4) mi_X11_9 (List.mem_of_getElem? (i := 0) rfl) cityL0_in (by omega) (by omega) (by omega) (by omega) (by omega) (by omega) rfl rfl (fun v a1 a2 => noV1n (by omega)) (fun v a1 a2 => noVs1 (by omega)) rfl (by omega) dX11_init_5 dX11_init_8 dX11_init_9 (fun K _ B => ?_)
  refine c_put (k := 0) (b := 1) (L := cityL 0) B (List.mem_of_getElem? (i := 0) rfl) cl11 (fun q hq => by have := lne_0 q hq; omega) rfl rfl wf_X11_10 (Or.inr ⟨rfl, rfl⟩) (fun _ => rfl) (fun _ => rfl) dX11_init_12 (fun K B => ?_)
  refine x_aload_n B.1 dX11_init_15 rfl rfl ?_
  refine c_obj (L' := lL1) (w' := WL1 (zi _ 92)) (c' := 7) (s' := 700) (lo' := 93) (hi' := 99) (nx := 92) (ds2 := [(3, 0), (3, 0), (3, 0), (3, 0), (3, 0), (3, 0), (3, 0)]) B cl1 wcl_X11_16 wins_X1 wz_X1 (fun j hj => match j, hj with | 0, _ => rfl | 1, _ => rfl | 2, _ => rfl | 3, _ => rfl | 4, _ => rfl | 5, _ => rfl | 6, _ => rfl | m + 7, h => absurd h (by omega)) (by decide) (fun S1 _ h1 h2 h3 h4 => kX1_init h1 h2 h3 h4) mi_X11_18 (List.mem_of_getElem? (i := 0) rfl) lL1_in (by omega) (by omega) (by omega) (by omega) (by omega) (by omega) rfl rfl (fun v a1 a2 => noV1n (by omega)) (fun v a1 a2 => noVs1 (by omega)) rfl (by omega) dX11_init_16 dX11_init_19 dX11_init_20 (fun K _ B => ?_)
  refine c_put (k := 1) (b := 92) (L := cityL 0 ++ lL1) B (List.mem_append_right _ (List.mem_of_getElem? (i := 0) rfl)) cl11 (fun q hq => by have := lne_1 q hq; omega) rfl rfl wf_X11_19 (Or.inr ⟨rfl, rfl⟩) (fun _ => rfl) (fun _ => rfl) dX11_init_23 (fun K B => ?_)
  refine x_aload_n B.1 dX11_init_26 rfl rfl ?_
  refine c_obj (L' := lL9) (w' := WL9 (zi _ 100)) (c' := 1) (s' := 60) (lo' := 101) (hi' := 101) (nx := 100) (ds2 := [(0, 0), (3, 0)]) B cl9 wcl_X11_23 wins_X9 wz_X9 (fun j hj => match j, hj with | 0, _ => rfl | 1, _ => rfl | m + 2, h => absurd h (by omega)) (by decide) (fun S1 _ h1 h2 h3 h4 => kX9_init h1 h2 h3 h4) mi_X11_25 (List.mem_of_getElem? (i := 0) rfl) lL9_in (by omega) (by omega) (by omega) (by omega) (by omega) (by omega) rfl rfl (fun v a1 a2 => noV1n (by omega)) (fun v a1 a2 => noVs1 (by omega)) rfl (by omega) dX11_init_27 dX11_init_30 dX11_init_31 (fun K _ B => ?_)
  refine c_put (k := 2) (b := 100) (L := cityL 0 ++ lL1 ++ lL9) B (List.mem_append_right _ (List.mem_of_getElem? (i := 0) rfl)) cl11 (fun q hq => by have := lne_2 q hq; omega) rfl rfl wf_X11_26 (Or.inr ⟨rfl, rfl⟩) (fun _ => rfl) (fun _ => rfl) dX11_init_34 (fun K B => ?_)
  refine x_aload_n B.1 dX11_init_37 rfl rfl ?_
  refine c_obj (L' := lL7) (w' := WL7 (zi _ 102)) (c' := 3) (s' := 138) (lo' := 103) (hi' := 105) (nx := 102) (ds2 := [(0, 0), (3, 0), (3, 0), (3, 0)]) B cl7 wcl_X11_30 wins_X7 wz_X7 (fun j hj => match j, hj with | 0, _ => rfl | 1, _ => rfl | 2, _ => rfl | 3, _ => rfl | m + 4, h => absurd h (by omega)) (by decide) (fun S1 _ h1 h2 h3 h4 => kX7_init h1 h2 h3 h4) mi_X11_32 (List.mem_of_getElem? (i := 0) rfl) lL7_in (by omega) (by omega) (by omega) (by omega) (by omega) (by omega) rfl rfl (fun v a1 a2 => noV1n (by omega)) (fun v a1 a2 => noVs1 (by omega)) rfl (by omega) dX11_init_38 dX11_init_41 dX11_init_42 (fun K _ B => ?_)
  refine c_put (k := 3) (b := 102) (L := cityL 0 ++ lL1 ++ lL9 ++ lL7) B (List.mem_append_right _ (List.mem_of_getElem? (i := 0) rfl)) cl11 (fun q hq => by have := lne_3 q hq; omega) rfl rfl wf_X11_33 (Or.inr ⟨rfl, rfl⟩) (fun _ => rfl) (fun _ => rfl) dX11_init_45 (fun K B => ?_)
  refine x_aload_n B.1 dX11_init_48 rfl rfl ?_
  refine c_obj (L' := lawsL) (w' := Wlaws (zi _ 106)) (c' := 27) (s' := 1580) (lo' := 107) (hi' := 133) (nx := 106) (ds2 := [(0, 0), (3, 0), (3, 0), (3, 0), (3, 0), (3, 0), (3, 0), (3, 0), (0, 0), (0, 0), (0, 0), (0, 0)]) B cl4 wcl_X11_37 wins_X4 wz_X4 (fun j hj => match j, hj with | 0, _ => rfl | 1, _ => rfl | 2, _ => rfl | 3, _ => rfl | 4, _ => rfl | 5, _ => rfl | 6, _ => rfl | 7, _ => rfl | 8, _ => rfl | 9, _ => rfl | 10, _ => rfl | 11, _ => rfl | m + 12, h => absurd h (by omega)) (by decide) (fun S1 hx h1 h2 h3 h4 => kX4_init (fun A U H h => hX A U H (hx ▸ h)) h1 h2 h3 h4) mi_X11_39 (List.mem_of_getElem? (i := 0) rfl) lawsL_in (by omega) (by omega) (by omega) (by omega) (by omega) (by omega) rfl rfl (fun v a1 a2 => noV1n (by omega)) (fun v a1 a2 => noVs1 (by omega)) rfl (by omega) dX11_init_49 dX11_init_52 dX11_init_53 (fun K _ B => ?_)
  refine c_put (k := 4) (b := 106) (L := cityL 0 ++ lL1 ++ lL9 ++ lL7 ++ lawsL) B (List.mem_append_right _ (List.mem_of_getElem? (i := 0) rfl)) cl11 (fun q hq => by have := lne_4 q hq; omega) rfl rfl wf_X11_40 (Or.inr ⟨rfl, rfl⟩) (fun _ => rfl) (fun _ => rfl) dX11_init_56 (fun K B => ?_)
  refine x_aload_n B.1 dX11_init_59 rfl rfl ?_
  refine x_bipush B.1 (v := 6) dX11_init_60 (by decide) ?_
  refine c_fieldQ (t0 := 4) (n := 6) (k := 5) (C0 := RX8) (L := cityL 0 ++ lL1 ++ lL9 ++ lL7 ++ lawsL) B hX (Or.inr ⟨rfl, rfl⟩) wcl_X11_44 cl11 (by decide) (by decide) (by decide) (by omega) (by omega) (noV1n (by omega)) (by omega) (by omega) (by omega) (fun q hq => by have := lne_4 q hq; omega) rfl rfl wf_X11_46 (Or.inr ⟨rfl, rfl⟩) (fun _ => rfl) (fun _ => rfl) dX11_init_62 dX11_init_65 (fun K B => ?_)
  have n147 : ¬ K.ks.D 147 := B.2.2.2.2.1 147 (by omega) (by omega)
  replace B := B.fh (fh2 := 146) (by omega)
  refine x_aload_n B.1 dX11_init_68 rfl rfl ?_
  refine x_bipush B.1 (v := 8) dX11_init_69 (by decide) ?_
  refine c_fieldA2 (v := 147) (at0 := .int) (ty := .int) (n := 8) (t0 := 0) (k := 6) (L := lbody) B n147 cl11 rfl (Or.inl ⟨rfl, rfl⟩) wa_int (by decide) (by decide) (by decide) (by omega) (by omega) (noV1n (by omega)) (by omega) (by omega) (by omega) (by omega) (fun q hq => by have := lbody_in q hq; omega) rfl rfl wf_X11_50 (Or.inr ⟨rfl, rfl⟩) (fun _ => rfl) (fun _ => rfl) dX11_init_71 dX11_init_73 (fun K B _ => ?_)
  refine x_aload_n B.1 dX11_init_76 rfl rfl ?_
  refine x_iconst B.1 (v := 0) dX11_init_77 (by decide) ?_
  refine c_fieldI (k := 7) B cl11 rfl rfl wf_X11_54 rfl rfl rfl dX11_init_78 (fun B => ?_)
  refine x_aload_n B.1 dX11_init_81 rfl rfl ?_
  refine x_iconst B.1 (v := 0) dX11_init_82 (by decide) ?_
  refine c_fieldI (k := 8) B cl11 rfl rfl wf_X11_58 rfl rfl rfl dX11_init_83 (fun B => ?_)
  refine x_aload_n B.1 dX11_init_86 rfl rfl ?_
  refine x_iconst B.1 (v := 0) dX11_init_87 (by decide) ?_
  refine c_fieldI (k := 9) B cl11 rfl rfl wf_X11_61 rfl rfl rfl dX11_init_88 (fun B => ?_)
  refine x_aload_n B.1 dX11_init_91 rfl rfl ?_
  refine x_iconst B.1 (v := 0) dX11_init_92 (by decide) ?_
  refine c_fieldI (k := 10) B cl11 rfl rfl wf_X11_64 rfl rfl rfl dX11_init_93 (fun B => ?_)
  replace B := B.sub (L' := (134, .inr (4, 6, tpf 0)) :: lowR 0) (fun q hq => by
    rcases List.mem_cons.mp hq with rfl | hq
    · exact List.mem_cons_of_mem _ (List.mem_append_left _ (List.mem_append_right _ (List.mem_cons_self)))
    · rcases List.mem_cons.mp hq with rfl | hq
      · exact List.mem_cons_self
      · rcases List.mem_append.mp hq with hq | hq
        · rcases List.mem_append.mp hq with hq | hq
          · exact List.mem_cons_of_mem _ (List.mem_append_left _ (List.mem_append_left _ hq))
          · exact List.mem_cons_of_mem _ (List.mem_append_right _ hq)
        · cases hq)
  refine x_iconst B.1 (v := 0) dX11_init_96 (by decide) ?_
  refine x_istore_n B.1 dX11_init_97 rfl rfl rfl rfl ?_
  refine c_tape (k := 0) (x := 0) (by omega) B (by decide) (by decide) (by decide) rfl (by omega) (by omega) (fun K B => ?_)
  refine c_tape (k := 1) (x := 1) (by omega) B (by decide) (by decide) (by decide) rfl (by omega) (by omega) (fun K B => ?_)
  refine c_tape (k := 2) (x := 2) (by omega) B (by decide) (by decide) (by decide) rfl (by omega) (by omega) (fun K B => ?_)
  refine c_tape (k := 3) (x := 3) (by omega) B (by decide) (by decide) (by decide) rfl (by omega) (by omega) (fun K B => ?_)
  refine c_tape (k := 4) (x := 4) (by omega) B (by decide) (by decide) (by decide) rfl (by omega) (by omega) (fun K B => ?_)
  refine c_tape (k := 5) (x := 5) (by omega) B (by decide) (by decide) (by decide) rfl (by omega) (by omega) (fun K B => ?_)
  refine x_iload_n B.1 dX11_init_98 rfl rfl ?_
  refine x_bipush B.1 (v := 6) dX11_init_99 (by decide) ?_
  refine x_icmpge (α := Unit) (A := none) (B := some ()) (r := ()) B.1 dX11_init_101 (tgt := 123) rfl rfl (fun _ h => by cases h) (fun _ _ => ?_)
  refine c_kind (f' := fun j => some (135 + 2 * j)) B (by omega) (fun q hq => if_pos hq) (by omega) (ne134 (by omega)) (fun K B => ?_)
  exact c_ret B (by omega) (by omega) dX11_init_123
theorem wcl_RL_8 : Cond.classLink RL 8 RX11 ∈ gtbl := gq (by decide +kernel) (by decide +kernel)
theorem wins_X11 : Cond.instantiable RX11 11 ∈ gtbl := gq (by decide +kernel) (by decide +kernel)
theorem wi_X11_init : Cond.instanceMethod yX11_init ∈ gtbl := gq (by decide +kernel) (by decide +kernel)
theorem wk_X11_init : Cond.code yX11_init cX11_init 2 none ∈ gtbl := gq (by decide +kernel) (by decide +kernel)
theorem wm_RL_32 : Cond.methodLink RL 32 yX11_init ∈ gtbl := gq (by decide +kernel) (by decide +kernel)
theorem wcl_RL_33 : Cond.classLink RL 33 RX12 ∈ gtbl := gq (by decide +kernel) (by decide +kernel)
theorem wins_X12 : Cond.instantiable RX12 33 ∈ gtbl := gq (by decide +kernel) (by decide +kernel)
theorem wi_X12_init : Cond.instanceMethod yX12_init ∈ gtbl := gq (by decide +kernel) (by decide +kernel)
theorem wk_X12_init : Cond.code yX12_init cX12_init 1 none ∈ gtbl := gq (by decide +kernel) (by decide +kernel)
theorem wm_RL_35 : Cond.methodLink RL 35 yX12_init ∈ gtbl := gq (by decide +kernel) (by decide +kernel)
theorem mp_RL_32 : MIP RL 32 yX11_init cX11_init 2 := ⟨⟨wm_RL_32, wi_X11_init, wz_X11, wk_X11_init⟩, ⟨by decide +kernel, by decide +kernel, by decide +kernel⟩, rfl⟩
theorem mp_RL_35 : MIP RL 35 yX12_init cX12_init 1 := ⟨⟨wm_RL_35, wi_X12_init, wz_X12, wk_X12_init⟩, ⟨by decide +kernel, by decide +kernel, by decide +kernel⟩, rfl⟩
theorem low_other : otherL.filter (fun q => Nat.blt q.1 148) = ([1, 93, 94, 95, 96, 97, 98, 99, 100, 101, 102, 103, 104, 105, 106, 107, 108, 109, 110, 111, 132, 133, 134, 112, 113, 114, 115, 116, 117, 118, 119, 120, 121, 122, 123, 124, 125, 126, 127, 128, 129, 130, 131, 0, 136, 137, 138, 139, 140, 141, 142, 143, 144, 145, 146, 147, 135] : List Nat).filterMap (fun i => lowL[i]?) := rfl
theorem low_in {q : Nat × Kd} (h : q ∈ otherL) (h2 : q.1 < 148) : q ∈ lowL := by
  have h3 : q ∈ otherL.filter (fun q => Nat.blt q.1 148) := List.mem_filter.mpr ⟨h, Nat.ble_eq_true_of_le h2⟩
  rw [low_other] at h3
  obtain ⟨i, -, hi⟩ := List.mem_filterMap.mp h3
  exact List.mem_of_getElem? hi
theorem low_city {q : Nat × Kd} (h : q ∈ cityL 0) : q ∈ lowL := by
  refine List.mem_cons_of_mem _ (List.mem_cons_of_mem _ (List.mem_append_left _ (List.mem_append_left _ ?_)))
  exact List.mem_append_left _ (List.mem_append_left _ (List.mem_append_left _ (List.mem_append_left _ h)))
theorem low_all : ∀ a, a < 148 → a ∈ lowL.map Prod.fst := by decide +kernel
theorem low_no2 : lowL.all (fun q => no2 q.2 || (Nat.ble 135 q.1 && Nat.ble q.1 145 && Nat.beq (q.1 % 2) 1)) = true := by decide +kernel
theorem ref_all : ∀ a, a < 169 → 148 ≤ a → a ∈ refL.map Prod.fst := by decide +kernel
theorem ref_no2 : refL.all (fun q => no2 q.2) = true := by decide +kernel
def w00 : Wd := (fun _ _ => 0, fun _ _ => 0)
theorem flag0 : ∀ d, d < 6 → (Wlow (zi w00 0)).1 (135 + 2 * d) 3 = 0 := by decide +kernel
def wRef : Wd := Wref (zi (Wlow (zi w00 0)) 148)
theorem wRef_low {a : Nat} (h : a < 148) : wRef.1 a = (Wlow (zi w00 0)).1 a := by
  have e : ∀ j, 148 ≤ j → ¬ a = j := fun j hj => by omega
  simp [wRef, Wref, zi, e 148 (by omega), e 149 (by omega), e 150 (by omega), e 151 (by omega), e 152 (by omega), e 153 (by omega), e 154 (by omega), e 155 (by omega), e 156 (by omega), e 157 (by omega), e 158 (by omega), e 159 (by omega), e 160 (by omega), e 161 (by omega), e 162 (by omega), e 163 (by omega), e 164 (by omega), e 165 (by omega), e 166 (by omega), e 167 (by omega), e 168 (by omega)]
theorem no2_n2 {k : Kd} (h : no2 k = true) : n2 k := (no2_of h).imp id (fun h => h.imp fun ci h => h.imp fun ds h => ⟨h.1, h.2.1⟩)
theorem Kn_c {K : KT} {S : KS} {c s : Nat} : (Kn K S c s).cells = c := rfl
theorem Kn_s {K : KT} {S : KS} {c s : Nat} : (Kn K S c s).slots = s := rfl
theorem Kn_R {K : KT} {S : KS} {c s : Nat} : (Kn K S c s).R = K.R := rfl
theorem beq_ne {a v : Nat} (h : ¬ a = v) : Nat.beq a v = false := by
  cases hb : Nat.beq a v
  · rfl
  · exact absurd (Nat.eq_of_beq_eq_true hb) h
theorem noV8 {v : Nat} (h : ¬ 170 = v) : noV v [some (.ref 170), none, none, none, none, none, none, none] = true := by
  simp [noV, beq_ne h]
theorem noV8b {v : Nat} (h : ¬ 170 = v) (h2 : ¬ 0 = v) : noV v [some (.ref 170), some (.ref 0), none, none, none, none, none, none] = true := by
  simp [noV, beq_ne h, beq_ne h2]
set_option maxHeartbeats 8000000 in
theorem law_begin {I : Nat → Wd → Prop} (hm : LMath I) (hup : ∀ {n w}, I n w → I (n + 1) w) {rS : Wd} (hrS : fX12_start wRef = some rS) (hI0 : I 0 (zi rS 169)) {b L : Nat} {xs : Nat → Int32} {K : KT} (G : GK K code RL 8 300) (hD : ∀ a, ¬ K.ks.D a) (hXG : ∀ A U H, K.ks.X A U H → XG K.ks A U H) (hX : XCs K.ks) (hc0 : K.cells = 0) (hs0 : K.slots = 0) (hst : K.l.stackTraces = false) (hb : K.ks.ad 170 = b) (hscr : va_X b L xs K.s K.H0) (hbl : b < K.H0.size) (hbA : ¬ K.A b) (hL : L ≤ 3072) (hE : LE K b) : XW K 0 [some (.ref 170), none, none, none, none, none, none, none] [] w00 := by
  have hcR : K.R.cells = 601024 := by rw [hE.1]; rfl
  have hsR : K.R.slots = 7293033 := by rw [hE.1]; rfl
  have hC0 : Clo K.ks w00 := fun a ha => absurd ha (hD a)
  refine x_newO G (v := 0) (ds := [(3, 0), (3, 0), (3, 0), (3, 0), (3, 0), (3, 0), (3, 0), (0, 0), (0, 0), (0, 0), (0, 0)]) cl11 wcl_RL_8 wins_X11 wz_X11 (fun j hj => match j, hj with | 0, _ => rfl | 1, _ => rfl | 2, _ => rfl | 3, _ => rfl | 4, _ => rfl | 5, _ => rfl | 6, _ => rfl | 7, _ => rfl | 8, _ => rfl | 9, _ => rfl | 10, _ => rfl | m + 11, h => absurd h (by omega)) (by decide) hC0 (hD 0) (by omega) (by omega) rfl rfl dL_law_0 (fun q1 hq1 G1 c1 => ?_)
  refine x_dup G1 dL_law_3 rfl ?_
  have hM1 := kX11_init (l := K.l) (S := KSx K.ks 0 q1 (.inl (11, [(3, 0), (3, 0), (3, 0), (3, 0), (3, 0), (3, 0), (3, 0), (0, 0), (0, 0), (0, 0), (0, 0)]))) (w := zi w00 0) hX G1.2.2.2.2.2.2.1 ⟨Or.inr rfl, rfl⟩ (fun a a1 a2 h => (show K.ks.D a ∨ a = 0 from h).elim (hD a) (by omega)) c1
  obtain ⟨cA, sA, hcA, hsA, hM1⟩ : ∃ cA sA, cA = 147 ∧ sA = 7499 ∧ CK K.l yX11_init cX11_init 2 6 cA sA (KSx K.ks 0 q1 (.inl (11, [(3, 0), (3, 0), (3, 0), (3, 0), (3, 0), (3, 0), (3, 0), (0, 0), (0, 0), (0, 0), (0, 0)]))) 0 1 147 (zi w00 0) (Wlow (zi w00 0)) lowL := ⟨_, _, rfl, rfl, hM1⟩
  refine x_ctorP G1 hM1 mp_RL_32 (Or.inr rfl) (by omega) rfl rfl rfl (by simp only [Kn_c, Kn_s, Kn_R]; omega) (by simp only [Kn_c, Kn_s, Kn_R]; omega) (fun v a1 a2 => noV8 (by omega)) (fun v a1 a2 => noVs1 (by omega)) dL_law_4 (fun S1 z1 hz1 E1 L1 G2 => ?_)
  have hnD : ∀ a, 148 ≤ a → ¬ S1.D a := fun a ha h => by
    obtain ⟨u1, -⟩ := E1.2.1 a (by omega) (by omega)
    exact (show K.ks.D a ∨ a = 0 from u1.mp h).elim (hD a) (by omega)
  have had : ∀ a, 148 ≤ a → S1.ad a = K.ks.ad a := fun a ha => (E1.2.2.1 a (by omega)).trans (if_neg (by omega) : (KSx K.ks 0 q1 (.inl (11, [(3, 0), (3, 0), (3, 0), (3, 0), (3, 0), (3, 0), (3, 0), (0, 0), (0, 0), (0, 0), (0, 0)]))).ad a = K.ks.ad a)
  refine x_astore_n G2 (lv' := [some (.ref 170), some (.ref 0), none, none, none, none, none, none]) dL_law_7 rfl rfl rfl rfl ?_
  have hX1 : S1.X = K.ks.X := E1.1.2.2
  refine x_newO G2 (v := 148) (ds := [(0, 0), (3, 0), (0, 0), (3, 0), (0, 0), (3, 0), (0, 0), (0, 0), (0, 0), (3, 0), (0, 0), (3, 0), (3, 0), (3, 0), (3, 0), (3, 0), (3, 0), (3, 0), (3, 0), (3, 0), (3, 0), (0, 0), (3, 0), (0, 0), (0, 0), (0, 0), (0, 0), (0, 0), (3, 0), (3, 0), (3, 0), (3, 0), (3, 0)]) cl12 wcl_RL_33 wins_X12 wz_X12 (fun j hj => match j, hj with | 0, _ => rfl | 1, _ => rfl | 2, _ => rfl | 3, _ => rfl | 4, _ => rfl | 5, _ => rfl | 6, _ => rfl | 7, _ => rfl | 8, _ => rfl | 9, _ => rfl | 10, _ => rfl | 11, _ => rfl | 12, _ => rfl | 13, _ => rfl | 14, _ => rfl | 15, _ => rfl | 16, _ => rfl | 17, _ => rfl | 18, _ => rfl | 19, _ => rfl | 20, _ => rfl | 21, _ => rfl | 22, _ => rfl | 23, _ => rfl | 24, _ => rfl | 25, _ => rfl | 26, _ => rfl | 27, _ => rfl | 28, _ => rfl | 29, _ => rfl | 30, _ => rfl | 31, _ => rfl | 32, _ => rfl | m + 33, h => absurd h (by omega)) (by decide) E1.2.2.2.2.2 (hnD 148 (by omega)) (by simp only [Kn_c, Kn_s, Kn_R]; omega) (by simp only [Kn_c, Kn_s, Kn_R]; omega) (noV8b (by omega) (by omega)) rfl dL_law_8 (fun q2 hq2 G3 c3 => ?_)
  refine x_dup G3 dL_law_11 rfl ?_
  have M0 : Main0 (KSx S1 148 q2 (.inl (12, [(0, 0), (3, 0), (0, 0), (3, 0), (0, 0), (3, 0), (0, 0), (0, 0), (0, 0), (3, 0), (0, 0), (3, 0), (3, 0), (3, 0), (3, 0), (3, 0), (3, 0), (3, 0), (3, 0), (3, 0), (3, 0), (0, 0), (3, 0), (0, 0), (0, 0), (0, 0), (0, 0), (0, 0), (3, 0), (3, 0), (3, 0), (3, 0), (3, 0)]))) := by
    refine ⟨⟨fun q hq h => (L1 q (low_in hq h)).x (hnD 148 (by omega)), fun A U H h => ?_⟩, fun q hq => (L1 q (low_city hq)).x (hnD 148 (by omega))⟩
    have h8 := hXG A U H (by rw [← hX1]; exact h)
    have e1 : (KSx S1 148 q2 (.inl (12, [(0, 0), (3, 0), (0, 0), (3, 0), (0, 0), (3, 0), (0, 0), (0, 0), (0, 0), (3, 0), (0, 0), (3, 0), (3, 0), (3, 0), (3, 0), (3, 0), (3, 0), (3, 0), (3, 0), (3, 0), (3, 0), (0, 0), (3, 0), (0, 0), (0, 0), (0, 0), (0, 0), (0, 0), (3, 0), (3, 0), (3, 0), (3, 0), (3, 0)]))).ad 9000 = K.ks.ad 9000 := had 9000 (by omega)
    have e2 : (KSx S1 148 q2 (.inl (12, [(0, 0), (3, 0), (0, 0), (3, 0), (0, 0), (3, 0), (0, 0), (0, 0), (0, 0), (3, 0), (0, 0), (3, 0), (3, 0), (3, 0), (3, 0), (3, 0), (3, 0), (3, 0), (3, 0), (3, 0), (3, 0), (0, 0), (3, 0), (0, 0), (0, 0), (0, 0), (0, 0), (0, 0), (3, 0), (3, 0), (3, 0), (3, 0), (3, 0)]))).ad 9001 = K.ks.ad 9001 := had 9001 (by omega)
    unfold XG at h8 ⊢
    rw [e1, e2]
    exact h8
  have hM2 := kX12_init (l := K.l) (S := KSx S1 148 q2 (.inl (12, [(0, 0), (3, 0), (0, 0), (3, 0), (0, 0), (3, 0), (0, 0), (0, 0), (0, 0), (3, 0), (0, 0), (3, 0), (3, 0), (3, 0), (3, 0), (3, 0), (3, 0), (3, 0), (3, 0), (3, 0), (3, 0), (0, 0), (3, 0), (0, 0), (0, 0), (0, 0), (0, 0), (0, 0), (3, 0), (3, 0), (3, 0), (3, 0), (3, 0)]))) (w := zi (Wlow (zi w00 0)) 148) M0 hrS G3.2.2.2.2.2.2.1 ⟨Or.inr rfl, rfl⟩ (fun a a1 a2 h => (show S1.D a ∨ a = 148 from h).elim (hnD a (by omega)) (by omega)) c3
  obtain ⟨cB, sB, hcB, hsB, hM2⟩ : ∃ cB sB, cB = 20 ∧ sB = 33139 ∧ CK K.l yX12_init cX12_init 1 2 cB sB (KSx S1 148 q2 (.inl (12, [(0, 0), (3, 0), (0, 0), (3, 0), (0, 0), (3, 0), (0, 0), (0, 0), (0, 0), (3, 0), (0, 0), (3, 0), (3, 0), (3, 0), (3, 0), (3, 0), (3, 0), (3, 0), (3, 0), (3, 0), (3, 0), (0, 0), (3, 0), (0, 0), (0, 0), (0, 0), (0, 0), (0, 0), (3, 0), (3, 0), (3, 0), (3, 0), (3, 0)]))) 148 149 168 (zi (Wlow (zi w00 0)) 148) rS refL := ⟨_, _, rfl, rfl, hM2⟩
  refine x_ctorP G3 hM2 mp_RL_35 (Or.inr rfl) (by omega) rfl rfl rfl (by simp only [Kn_c, Kn_s, Kn_R]; omega) (by simp only [Kn_c, Kn_s, Kn_R]; omega) (fun v a1 a2 => noV8b (by omega) (by omega)) (fun v a1 a2 => noVs1 (by omega)) dL_law_12 (fun S2 z2 hz2 E2 L2 G4 => ?_)
  refine x_astore_n G4 (lv' := [some (.ref 170), some (.ref 0), some (.ref 148), none, none, none, none, none]) dL_law_15 rfl rfl rfl rfl ?_
  refine x_iconst G4 (v := 1) dL_law_16 (by decide) ?_
  have hnD2 : ∀ a, 169 ≤ a → ¬ S2.D a := fun a ha h => by
    obtain ⟨u1, -⟩ := E2.2.1 a (by omega) (by omega)
    exact (show S1.D a ∨ a = 148 from u1.mp h).elim (hnD a (by omega)) (by omega)
  have had2 : ∀ a, 169 ≤ a → S2.ad a = K.ks.ad a := fun a ha => ((E2.2.2.1 a (by omega)).trans (if_neg (by omega) : (KSx S1 148 q2 (.inl (12, [(0, 0), (3, 0), (0, 0), (3, 0), (0, 0), (3, 0), (0, 0), (0, 0), (0, 0), (3, 0), (0, 0), (3, 0), (3, 0), (3, 0), (3, 0), (3, 0), (3, 0), (3, 0), (3, 0), (3, 0), (3, 0), (0, 0), (3, 0), (0, 0), (0, 0), (0, 0), (0, 0), (0, 0), (3, 0), (3, 0), (3, 0), (3, 0), (3, 0)]))).ad a = S1.ad a)).trans (had a (by omega))
  refine x_newA G4 (at0 := .long) (ty := .long) (t0 := 1) (n := 1) (v := 169) rfl (Or.inr (Or.inl ⟨rfl, rfl⟩)) wa_long (by decide) (by decide) (by decide) E2.2.2.2.2.2 (hnD2 169 (by omega)) (by simp only [Kn_c, Kn_s, Kn_R]; omega) (by simp only [Kn_c, Kn_s, Kn_R]; omega) rfl rfl dL_law_17 (fun q3 hq3 G5 c5 => ?_)
  refine x_astore_n G5 (lv' := [some (.ref 170), some (.ref 0), some (.ref 148), some (.ref 169), none, none, none, none]) dL_law_19 rfl rfl rfl rfl ?_
  refine x_iconst G5 (v := 0) dL_law_20 (by decide) ?_
  refine x_istore G5 (lv' := LV 0) dL_law_21 rfl rfl rfl ?_
  have old2 : ∀ q ∈ lowL, KD (KSx S2 169 q3 (.inr (1, 1, nt))) q.1 q.2 := fun q hq => by
    have hk := (L1 q hq).x (k' := .inl (12, [(0, 0), (3, 0), (0, 0), (3, 0), (0, 0), (3, 0), (0, 0), (0, 0), (0, 0), (3, 0), (0, 0), (3, 0), (3, 0), (3, 0), (3, 0), (3, 0), (3, 0), (3, 0), (3, 0), (3, 0), (3, 0), (0, 0), (3, 0), (0, 0), (0, 0), (0, 0), (0, 0), (0, 0), (3, 0), (3, 0), (3, 0), (3, 0), (3, 0)])) (q := q2) (hnD 148 (by omega))
    have hlt : q.1 < 148 := by
      rcases Nat.lt_or_ge q.1 148 with h | h
      · exact h
      · exact absurd (L1 q hq).1 (hnD _ h)
    obtain ⟨u1, u2⟩ := E2.2.1 q.1 (by omega) (by omega)
    exact KD.x ⟨u1.mpr hk.1, u2.trans hk.2⟩ (hnD2 169 (by omega))
  have new2 : ∀ q ∈ refL, KD (KSx S2 169 q3 (.inr (1, 1, nt))) q.1 q.2 := fun q hq => (L2 q hq).x (hnD2 169 (by omega))
  have hX2 : S2.X = K.ks.X := E2.1.2.2.trans hX1
  have M : Main (KSx S2 169 q3 (.inr (1, 1, nt))) := by
    refine ⟨⟨fun q hq => ?_, fun A U H h => ?_⟩, fun q hq => old2 q (low_city hq)⟩
    · by_cases h : q.1 < 148
      · exact old2 q (low_in hq h)
      · exact new2 q (refL_eq ▸ List.mem_filter.mpr ⟨hq, Nat.ble_eq_true_of_le (by omega)⟩)
    · have h8 := hXG A U H (by rw [← hX2]; exact h)
      have e1 : (KSx S2 169 q3 (.inr (1, 1, nt))).ad 9000 = K.ks.ad 9000 := had2 9000 (by omega)
      have e2 : (KSx S2 169 q3 (.inr (1, 1, nt))).ad 9001 = K.ks.ad 9001 := had2 9001 (by omega)
      unfold XG at h8 ⊢
      rw [e1, e2]
      exact h8
  have k169 : KD (KSx S2 169 q3 (.inr (1, 1, nt))) 169 (.inr (1, 1, nt)) := ⟨Or.inr rfl, rfl⟩
  have hsm : ∀ a, (KSx S2 169 q3 (.inr (1, 1, nt))).D a → a ≤ 169 := fun a ha => by
    rcases Nat.lt_or_ge a 170 with h | h
    · omega
    · exact absurd ((show S2.D a ∨ a = 169 from ha).elim id (by omega)) (hnD2 a (by omega))
  have hT : TPs (KSx S2 169 q3 (.inr (1, 1, nt))) := fun a ha => by
    have h9 := hsm a ha
    by_cases e1 : a < 148
    · obtain ⟨q, hq, rfl⟩ := List.mem_map.mp (low_all a e1)
      have hk := old2 q hq
      have h2 := List.all_eq_true.mp low_no2 q hq
      rw [Bool.or_eq_true] at h2
      rcases h2 with h2 | h2
      · exact Or.inl (by rw [hk.2]; exact no2_n2 h2)
      · rw [Bool.and_eq_true, Bool.and_eq_true] at h2
        have a1 := Nat.le_of_ble_eq_true h2.1.1
        have a2 := Nat.le_of_ble_eq_true h2.1.2
        have a3 := Nat.eq_of_beq_eq_true h2.2
        exact Or.inr ⟨(q.1 - 135) / 2, by omega, by omega⟩
    · by_cases e2 : a = 169
      · subst e2
        exact Or.inl (by rw [k169.2]; exact Or.inl ⟨_, rfl⟩)
      · obtain ⟨q, hq, rfl⟩ := List.mem_map.mp (ref_all a (by omega) (by omega))
        exact Or.inl (by rw [(new2 q hq).2]; exact no2_n2 (List.all_eq_true.mp ref_no2 q hq))
  have hfl : ∀ d, d < 6 → (zi rS 169).1 (135 + 2 * d) 3 = 0 := fun d hd => by
    have e1 : (zi rS 169).1 (135 + 2 * d) = rS.1 (135 + 2 * d) := if_neg (by omega)
    have e2 := (frfX12_start hrS (135 + 2 * d) (by simp; omega)).1
    rw [e1, e2, wRef_low (by omega)]
    exact flag0 d hd
  refine law_loop hm hup 513 0 _ (zi rS 169) (LV 0) rfl ⟨⟨G5, M, k169, hT, fun A U H h => hX A U H (by rw [← hX2]; exact h)⟩, ⟨fun T (hT2 : IsTape (KSx S2 169 q3 (.inr (1, 1, nt))) T) hn => ?_, fun d hd hn a a1 a2 h => by have := hsm a h; omega, c5⟩, ⟨by simp only [Kn_c]; omega, by simp only [Kn_s]; omega⟩, ⟨hst, (rfl : (KSx S2 169 q3 (.inr (1, 1, nt))).ad 170 = S2.ad 170).trans ((had2 170 (by omega)).trans hb), hscr, hbl, hbA, hL⟩, hE⟩ hI0 rfl rfl
  rcases hT T hT2.1.1 with (⟨x, e⟩ | ⟨ci, ds, e, h2⟩) | ⟨d, hd, rfl⟩
  · rw [hT2.1.2] at e
    cases e
  · rw [hT2.1.2] at e
    cases e
    exact absurd rfl (h2 _ (List.mem_of_getElem? (i := 3) rfl))
  · exact absurd (hfl d hd) hn
theorem aoA_moved {t : FieldType} {u U : State} (hvm : u.vm.Alike U.vm) (h : (Cond.arrayOver (.array t)).before #[] u = true) : (Cond.arrayOver (.array t)).before #[] U = true := by
  obtain ⟨comp, c, k, h1, h2, h3, h4, h5⟩ : ∃ comp c k, u.vm.findClass (FieldType.array t).toString = some comp ∧ (u.vm.classes.findIdx? fun (x : Class) => match x.kind with | .array component _ => component == comp | _ => false) = some c ∧ u.vm.classes[c]? = some k ∧ k.kind = .array comp (.array t) ∧ u.vm.findClass ("[" ++ (FieldType.array t).toString) = some c := by
    have h := h
    unfold Cond.before at h
    simp only [Cond.holds, Cond.value, beq_iff_eq] at h
    cases hc : u.vm.findClass (FieldType.array t).toString with
    | none => simp [hc] at h
    | some comp =>
      simp only [hc, Option.bind_some, Option.bind_eq_some_iff, Option.map_eq_some_iff] at h
      obtain ⟨c, hi, k, hk, hb⟩ := h
      obtain ⟨hlt, hp, -⟩ := Array.findIdx?_eq_some_iff_getElem.mp hi
      have hk2 : u.vm.classes[c] = k := by
        have := Array.getElem?_eq_getElem hlt
        rw [this] at hk
        exact Option.some.inj hk
      rw [hk2] at hp
      refine ⟨comp, c, k, rfl, hi, hk, ?_⟩
      split at hb
      · rename_i c9 ty9 heq
        rw [heq] at hp
        have hcomp : c9 = comp := by simpa using hp
        simp only [Bool.and_eq_true, decide_eq_true_eq] at hb
        exact ⟨by rw [heq, hcomp, hb.1], hb.2⟩
      · cases hb
  obtain ⟨k', hk', he⟩ := hvm.2.2 _ _ h3
  have hi : (U.vm.classes.findIdx? fun (x : Class) => match x.kind with | .array component _ => component == comp | _ => false) = some c := by
    refine (va_idx_bare U.vm comp).symm.trans ?_
    first | rw [hvm.bare_eq] | rw [← hvm.bare_eq]
    exact (va_idx_bare u.vm comp).trans h2
  have hkind : k'.kind = .array comp (.array t) := by rw [he]; exact h4
  have f1 : U.vm.findClass (FieldType.array t).toString = some comp := by rw [hvm.findClass]; exact h1
  have f2 : U.vm.findClass ("[" ++ (FieldType.array t).toString) = some c := by rw [hvm.findClass]; exact h5
  unfold Cond.before Cond.holds
  simp only [Cond.value]
  rw [f1, Option.bind_some]
  refine (congrArg (fun o : Option Nat => (o.bind (fun c => (U.vm.classes[c]?).map fun (k : Class) => match k.kind with | .array _ ty => decide (ty = FieldType.array t) && decide (U.vm.findClass ("[" ++ (FieldType.array t).toString) = some c) | _ => false) == some true)) hi).trans ?_
  simp [hk', hkind, f2]
def XGa (x y : Nat) (A : Nat → Prop) (U : State) (H : Heap) : Prop :=
  (va_Z "java/lang/String" "COMPACT_STRINGS" "Z" (.int 1) A U H ∧ vk_S 1 [12] [[104, 115, 112, 116, 100, 107, 111, 119, 102, 99, 109, 117]] (fun _ => x) (fun _ => y) A U H ∧ vk_R RX4 187 "hsptdkowfcmu" x U) ∧
  ((∀ q ∈ excT, ∃ sa, vk_R RX11 q.1 q.2 sa U) ∧ vx_Zq Bundle.tN "UNASSIGNED_STACK" Bundle.steD A U H ∧ vx_Zq Bundle.tN "SUPPRESSED_SENTINEL" Bundle.listD A U H) ∧
  ((∀ w ∈ excB RIAE, va_Nw w U) ∧ (∀ w ∈ excB RISE, va_Nw w U) ∧ va_Nc RISE RIAE U)
theorem excB_warm {cls : String} {s U : State} (hW : s.WarmedH U.vm) (h : ∀ w ∈ excB cls, va_Nw w s) : ∀ w ∈ excB cls, va_Nw w U := by
  intro w hw
  have h0 := h w hw
  simp only [excB, List.mem_cons, List.not_mem_nil, or_false] at hw
  rcases hw with rfl | rfl | rfl | rfl
  · exact va_Nw.warmD hW h0
  · exact va_Nw.warmD hW h0
  · exact va_Nw.warmD hW h0
  · exact va_Nw.warmC hW h0
theorem XGa_stb {x y : Nat} {A A' : Nat → Prop} {s U : State} {H H' : Heap} (h : XGa x y A s H ∧ XC s) (hW : s.WarmedH U.vm) (hA : ∀ q, A' q → A q) (hq : ∀ a : Nat, a < H.size → ¬ A a → H'[a]? = H[a]?) : XGa x y A' U H' ∧ XC U := by
  obtain ⟨⟨⟨a1, a2, a3⟩, ⟨b1, b2, b3⟩, c1, c2, c3⟩, d1, d2, d3⟩ := h
  have hv := hW.alike
  exact ⟨⟨⟨((a1.kept hq).narrow hA).moved hv, ((a2.kept hq).narrow hA).moved hv, a3.warm hW⟩, ⟨fun q hq => (b1 q hq).imp fun sa h => h.warm hW, ((b2.kept hq).narrow hA).moved hv, ((b3.kept hq).narrow hA).moved hv⟩, excB_warm hW c1, excB_warm hW c2, c3.moved hv⟩, d1.moved hv, d2.moved hv, aoA_moved hv d3⟩
theorem arr_of {args : Array Value} {s : State} {ty : FieldType} (h : (Cond.arrayClass ty).before args s = true) : ∃ cA, ArrOfT s cA ty ∧ s.vm.findClass ("[" ++ ty.toString) = some cA := by
  obtain ⟨c, k, comp, h1, h2, h3⟩ := Cond.arrayClass_spec h
  exact ⟨c, fun n z => ⟨fun k h => (by cases h), k, h2, comp, h3⟩, h1⟩
theorem arrO_of {s : State} {C : String} (h : va_AO C s) : ∃ cA, ArrOfT s cA (.object C) ∧ va_RA s cA (.object C) := by
  obtain ⟨comp, c, k, h1, h2, h3, h4, h5⟩ := Cond.arrayOver_spec h
  exact ⟨c, fun n z => ⟨fun k h => (by cases h), k, h3, comp, h4⟩, k, comp, h3, h4, h1, h5⟩
theorem arrA_of {s : State} {t : FieldType} (h : (Cond.arrayOver (.array t)).before #[] s = true) : ∃ cA, ArrOfT s cA (.array t) ∧ va_RA s cA (.array t) := by
  obtain ⟨comp, c, k, h1, h3, h4, h5⟩ := Cond.arrayOver_specA h
  exact ⟨c, fun n z => ⟨fun k h => (by cases h), k, h3, comp, h4⟩, h5⟩
theorem known_all {args : Array Value} {s : State} (hts : ∀ w ∈ lw_tbl, w.before args s = true) : ∃ (dC : Nat → ClassId) (dI : Nat → Nat → Nat), ∀ (k : Nat) (q : vw_C), vwCl[k]? = some q → u_Kn s q.1 q.2.1 q.2.2 (dC k) (dI k) := by
  have h : ∀ k : Nat, ∃ z : ClassId × (Nat → Nat), ∀ q, vwCl[k]? = some q → u_Kn s q.1 q.2.1 q.2.2 z.1 z.2 := by
    intro k
    have go : ∀ {C : String} {T : u_T} {N : Nat} {ty : Nat → FieldType} {ci : Nat}, CLS ci C T N ty → Cond.instantiable C N ∈ gtbl → ∃ z : ClassId × (Nat → Nat), ∀ q, vwCl[ci]? = some q → u_Kn s q.1 q.2.1 q.2.2 z.1 z.2 := fun {C T N ty ci} hC hi => by
      obtain ⟨c, i, hK⟩ := u_known (C := C) (T := T) (N := N) (n := N) hts (fun w hw => gt_tbl (hC.2.1 w hw)) (hts _ (gt_tbl hi))
      refine ⟨(c, i), fun q hq => ?_⟩
      rw [hC.1] at hq
      cases hq
      exact hK
    rcases Nat.lt_or_ge k 13 with h | h
    · have h9 : k = 0 ∨ k = 1 ∨ k = 2 ∨ k = 3 ∨ k = 4 ∨ k = 5 ∨ k = 6 ∨ k = 7 ∨ k = 8 ∨ k = 9 ∨ k = 10 ∨ k = 11 ∨ k = 12 := by omega
      rcases h9 with rfl | rfl | rfl | rfl | rfl | rfl | rfl | rfl | rfl | rfl | rfl | rfl | rfl
      · exact go cl0 wins_X0
      · exact go cl1 wins_X1
      · exact go cl2 wins_X2
      · exact go cl3 wins_X3
      · exact go cl4 wins_X4
      · exact go cl5 wins_X5
      · exact go cl6 wins_X6
      · exact go cl7 wins_X7
      · exact go cl8 wins_X8
      · exact go cl9 wins_X9
      · exact go cl10 wins_X10
      · exact go cl11 wins_X11
      · exact go cl12 wins_X12
    · refine ⟨(default, fun _ => 0), fun q hq => ?_⟩
      have : (vwCl : List vw_C).length = 13 := rfl
      rw [List.getElem?_eq_none (by omega)] at hq
      cases hq
  obtain ⟨f, hf⟩ := Classical.axiomOfChoice h
  exact ⟨fun k => (f k).1, fun k => (f k).2, hf⟩
theorem nest_good : ∀ q ∈ nestQ, Cond.methodLinkNest q.1 q.2.1 q.2.2.1 q.2.2.2 ∈ lw_tbl := by decide +kernel
theorem NK_of {args : Array Value} {s : State} (hts : ∀ w ∈ lw_tbl, w.before args s = true) : NK s := fun q hq => va_Nw.of rfl (hts _ (nest_good q hq))
set_option maxHeartbeats 8000000 in
theorem XGa_start {b L : Nat} {p : Program} {s : State} {m : MethodId} {meth : Method} {c : Code} {xs : Nat → Int32} (C0 : lw_At p s m meth c b L xs) : ∃ x y, XGa x y (fun q => s.heap.size ≤ q) s s.heap ∧ XC s := by
  obtain ⟨hx, hb, hret, hml, hown, hts, hscr, hbl, hlk, hgv⟩ := C0
  have hg := flat_of_before _ hgv
  have hA : ∀ a : Nat, a < s.heap.size → ¬ (fun q => s.heap.size ≤ q) a := fun a ha h => absurd h (Nat.not_le.mpr ha)
  have z1 := va_Zof (A := fun q => s.heap.size ≤ q) (hts (.laysStatic "java/lang/String" "COMPACT_STRINGS" "Z") (by decide +kernel)) (hts (.initialized "java/lang/String") (by decide +kernel)) (va_eqi (hg (.eq (.static "java/lang/String" "COMPACT_STRINGS" "Z") (.int 1)) (by decide +kernel))) hA
  obtain ⟨adK, adV, hS, hev⟩ := vk_Sof (args := #[Value.ref b]) (s := s) (N := 1) (tm := fun _ => .string RX4 187) (len := [12]) (byt := [[104, 115, 112, 116, 100, 107, 111, 119, 102, 99, 109, 117]]) (A := fun q => s.heap.size ≤ q)
    (fun i hi => by have : i = 0 := by omega
                    subst this
                    decide)
    (fun i hi => hg _ (by decide +kernel)) (fun i hi => hg _ (by decide +kernel)) (fun i hi => hg _ (by decide +kernel))
    (fun i hi => by have : i = 0 := by omega
                    subst this
                    exact hg _ (by decide +kernel))
    (fun i hi j hj => by
      have : i = 0 := by omega
      subst this
      have hj : j < 12 := hj
      have h9 : j = 0 ∨ j = 1 ∨ j = 2 ∨ j = 3 ∨ j = 4 ∨ j = 5 ∨ j = 6 ∨ j = 7 ∨ j = 8 ∨ j = 9 ∨ j = 10 ∨ j = 11 := by omega
      rcases h9 with rfl | rfl | rfl | rfl | rfl | rfl | rfl | rfl | rfl | rfl | rfl | rfl <;> exact hg _ (by decide +kernel))
    (fun i j hi hj hne => absurd (by omega) hne) hA
  have hS2 : vk_S 1 [12] [[104, 115, 112, 116, 100, 107, 111, 119, 102, 99, 109, 117]] (fun _ => adK 0) (fun _ => adV 0) (fun q => s.heap.size ≤ q) s s.heap := by
    refine ⟨fun i hi => ?_, fun i j hi hj _ => by omega⟩
    have : i = 0 := by omega
    subst this
    exact hS.1 0 (by omega)
  have hR : vk_R RX4 187 "hsptdkowfcmu" (adK 0) s := vk_R.of (hts _ (by decide +kernel)) (hev 0 (by omega))
  have hE : ∀ q ∈ excT, ∃ sa, vk_R RX11 q.1 q.2 sa s := by
    intro q hq
    have h1 : (Cond.stringRef RX11 q.1 q.2).before #[Value.ref b] s = true := hts _ ((by decide +kernel : ∀ q ∈ excT, Cond.stringRef RX11 q.1 q.2 ∈ lw_tbl) q hq)
    have h2 : (Cond.exactly (.string RX11 q.1) "java/lang/String").before #[Value.ref b] s = true := hg _ ((by decide +kernel : ∀ q ∈ excT, Cond.exactly (.string RX11 q.1) "java/lang/String" ∈ _) q hq)
    obtain ⟨a, c9, cA, kA, q1, -⟩ := Cond.exactly_spec (args := #[Value.ref b]) (first := s) (o := none) (s := s) (idx := []) h2
    exact ⟨a, vk_R.of h1 q1⟩
  have hU := vx_Zqof (C := Bundle.tN) (n := "UNASSIGNED_STACK") (d := Bundle.steD) (A := fun q => s.heap.size ≤ q) (hts _ (by decide +kernel)) (hts _ (by decide +kernel)) (hg _ (by decide +kernel)) hA
  have hV := vx_Zqof (C := Bundle.tN) (n := "SUPPRESSED_SENTINEL") (d := Bundle.listD) (A := fun q => s.heap.size ≤ q) (hts _ (by decide +kernel)) (hts _ (by decide +kernel)) (hg _ (by decide +kernel)) hA
  have hA1 : ∀ w ∈ excB RIAE, va_Nw w s := fun w hw => va_Nw.of (excA_t w hw) (hts _ ((by decide +kernel : ∀ w ∈ excB RIAE, w ∈ lw_tbl) w hw))
  have hA2 : ∀ w ∈ excB RISE, va_Nw w s := fun w hw => va_Nw.of (excS_t w hw) (hts _ ((by decide +kernel : ∀ w ∈ excB RISE, w ∈ lw_tbl) w hw))
  have hN : va_Nc RISE RIAE s := va_Nc.of (hg (.not (.castable RISE RIAE)) (by decide +kernel))
  exact ⟨adK 0, adV 0, ⟨⟨z1, hS2, hR⟩, ⟨hE, hU, hV⟩, hA1, hA2, hN⟩, va_AO.of (hts _ (by decide +kernel)), va_AO.of (hts _ (by decide +kernel)), hts (.arrayOver (.array .int)) (by decide +kernel)⟩
set_option maxHeartbeats 8000000 in
theorem law_whole {I : Nat → Wd → Prop} (hm : LMath I) (hup : ∀ {n w}, I n w → I (n + 1) w) {rS : Wd} (hrS : fX12_start wRef = some rS) (hI0 : I 0 (zi rS 169)) {p : Program} {e : Env} {s : State} {m : MethodId} {below : List Frame} {meth : Method} {c : Code} (l : Launch) (hflags : l.flags = flags0) {b L : Nat} {xs : Nat → Int32} (hL : L ≤ 3072) (C0 : lw_At p s m meth c b L xs) : W p l e room_1 s m #[Value.ref b] below meth c s.heap [] 0 0 (lw_Z below #[Value.ref b] s) (entryFrame m ([Value.ref b] : List Value).toArray 8) := by
  obtain ⟨x, y, hXG, hXC⟩ := XGa_start C0
  obtain ⟨hx, hb, hret, hml, hown, hts, hscr, hbl, hlk, hgv⟩ := C0
  obtain ⟨dC, dI, hKc⟩ := known_all hts
  obtain ⟨c0, a0, r0⟩ := arr_of (hts _ (gt_tbl wa_int))
  obtain ⟨c1, a1, r1⟩ := arr_of (hts _ (gt_tbl wa_long))
  obtain ⟨c2, a2, r2⟩ := arr_of (hts _ (gt_tbl wa_boolean))
  obtain ⟨c3, a3, r3⟩ := arrO_of hXC.1
  obtain ⟨c4, a4, r4⟩ := arrO_of hXC.2.1
  obtain ⟨c5, a5, r5⟩ := arrA_of hXC.2.2
  have hst : l.stackTraces = false := by
    show (!l.flags.contains Jvm.noTraceFlag) = false
    rw [hflags]
    decide +kernel
  let cA : Nat → ClassId := fun k => if k = 0 then c0 else if k = 1 then c1 else if k = 2 then c2 else if k = 3 then c3 else if k = 4 then c4 else c5
  let S : KS := (fun a => if a = 170 then b else if a = 9000 then x else y, (dC, dI), cA, fun _ => False, fun _ => .inr (0, 0, nt), fun A U H => XGa x y A U H ∧ XC U)
  let K : KT := ((p, l, e, room_1, s, m, #[Value.ref b], below), (meth, c, lw_Z below #[Value.ref b] s, 0, 0), S, (fun q => s.heap.size ≤ q), s.heap)
  have hK : va_K (dC, dI) vwCl (tysK cA) s := by
    refine ⟨hKc, fun k q hq => ?_⟩
    rcases k with _ | _ | _ | _ | _ | _ | k
    · cases hq; exact ⟨a0, r0⟩
    · cases hq; exact ⟨a1, r1⟩
    · cases hq; exact ⟨a2, r2⟩
    · cases hq; exact ⟨a3, r3⟩
    · cases hq; exact ⟨a4, r4⟩
    · cases hq; exact ⟨a5, r5⟩
    · simp [tysK] at hq
  have hI : Inj S := ⟨fun j k hj => hj.elim, fun A A' s U H H' h hW hA hq => XGa_stb h hW hA hq⟩
  have G : GK K code RL 8 300 := ⟨hx, hb, hml, hown, fun w hw => hts w (gt_tbl hw), ⟨hK, NK_of hts, ⟨hXG, hXC⟩, rfl⟩, hI, fun k hk => hk.elim, fun q hq => hq, hlk, Nat.le_of_ble_eq_true rfl, Nat.le_of_ble_eq_true rfl, Nat.zero_le _, Nat.zero_le _⟩
  have hl := lv_entry [Value.ref b] (n := 8) (Nat.le_of_ble_eq_true rfl)
  rw [lg_entry_eq]
  have W1 := law_begin hm hup hrS hI0 (K := K) (b := b) (L := L) (xs := xs) G (fun a h => h) (fun A U H h => h.1) (fun A U H h => h.2) rfl rfl hst rfl hscr hbl (Nat.not_le.mpr hbl) hL ⟨rfl, rfl, rfl, rfl, rfl, hret⟩
  refine W1 s.heap [] _ (fun k hk => hk.elim) va_S.rf ?_
  refine ⟨by rw [hl.1]; exact hml.symm, hl.2.1, fun i v hi => ?_⟩
  rcases i with _ | i
  · simp at hi
    subst hi
    exact hl.2.2 (0, .ref b) List.mem_cons_self
  · exfalso
    rcases i with _ | _ | _ | _ | _ | _ | _ | i <;> simp at hi
-- the first world
theorem city_of {w : Wd} {n : Nat} (hr : ∀ c j, c < 100 → j < 15 → w.1 (rowA j) c = S0 (15 * c + j)) (hh : ∀ c, c < 100 → w.1 20 c = 0 ∧ w.1 28 c = 0 ∧ w.1 29 c = 0) (hs : ∀ j, j < 18 ∧ j ≠ 14 ∧ j ≠ 17 → w.1 (scA j).1 (scA j).2 = 0) : YC w 0 S0 n := by
  refine ⟨fun k hk hv => ?_, fun m hm => ?_, Inv_S0⟩
  · by_cases d1 : k < 1500
    · obtain ⟨c, j, hc, hj, rfl⟩ : ∃ c j, c < 100 ∧ j < 15 ∧ k = 15 * c + j := ⟨k / 15, k % 15, by omega, by omega, by omega⟩
      unfold V
      rw [loc_row hc hj, Nat.zero_add]
      exact hr c j hc hj
    · by_cases d2 : k < 2500
      · obtain ⟨c, j, hc, hj, rfl⟩ : ∃ c j, c < 100 ∧ j < 10 ∧ k = 1500 + 10 * c + j := ⟨(k - 1500) / 10, (k - 1500) % 10, by omega, by omega, by omega⟩
        have hv2 := (val_hse hc hj).mp hv
        rw [S0_hi (by omega)] at hv2
        unfold V
        rw [loc_hse hc hj, Nat.zero_add, S0_hi (by omega)]
        obtain ⟨b1, b2, b3⟩ := hh c hc
        rcases hv2 with rfl | q | q | q
        · exact b1
        · have h9 : j = 8 ∨ j = 9 := by omega
          rcases h9 with rfl | rfl
          · exact b2
          · exact b3
        · exact absurd q.2 (by decide)
        · exact absurd q.2 (by decide)
      · by_cases d3 : k < 3300
        · unfold val at hv
          rw [if_neg d1, if_neg d2, if_pos d3, S0_hi (by omega)] at hv
          exact absurd hv (Nat.not_lt_zero _)
        · by_cases d4 : k < 4300
          · unfold val at hv
            rw [if_neg d1, if_neg d2, if_neg d3, if_pos d4, S0_hi (k := 4315) (by omega)] at hv
            exact absurd hv.1 (Nat.not_lt_zero _)
          · obtain ⟨j, rfl⟩ : ∃ j, k = 4300 + j := ⟨k - 4300, by omega⟩
            unfold val at hv
            rw [if_neg d1, if_neg d2, if_neg d3, if_neg d4] at hv
            unfold V
            rw [loc_sc (by omega), Nat.zero_add, S0_hi (by omega)]
            exact hs j (by omega)
  · rw [S0_hi (by omega), z_I] at hm
    omega
theorem lw_row : ∀ j, j < 15 → ∀ c, c < 100 → (Wlow (zi w00 0)).1 (rowA j) c = S0 (15 * c + j) := by decide +kernel
theorem lw_hse : ∀ c, c < 100 → (Wlow (zi w00 0)).1 20 c = 0 ∧ (Wlow (zi w00 0)).1 28 c = 0 ∧ (Wlow (zi w00 0)).1 29 c = 0 := by decide +kernel
theorem lw_sc : ∀ j, j < 18 → j ≠ 14 → j ≠ 17 → (Wlow (zi w00 0)).1 (scA j).1 (scA j).2 = 0 := by decide +kernel
theorem lw_tp : ∀ d, d < 6 → (Wlow (zi w00 0)).1 (135 + 2 * d) 0 = 0 ∧ (Wlow (zi w00 0)).1 (135 + 2 * d) 1 = 0 := by decide +kernel
theorem lw_tl : ∀ d, d < 6 → ∀ i, i < 100 → wRef.2 (136 + 2 * d) i = 0 := by decide +kernel
theorem lw_one : (Wlow (zi w00 0)).1 100 0 = 0 ∧ (Wlow (zi w00 0)).1 102 0 = 0 ∧ (Wlow (zi w00 0)).1 106 0 = 0 ∧ (Wlow (zi w00 0)).1 0 7 = 0 := by decide +kernel
theorem zi_at {w : Wd} {v b i : Nat} : (zi w v).1 b i = if b = v then 0 else w.1 b i := by
  unfold zi
  by_cases h : b = v
  · simp [h]
  · simp [h]
theorem zi_or {w : Wd} {v a i : Nat} (h : a = v ∨ w.1 a i = 0) : (zi w v).1 a i = 0 := by
  rw [zi_at]
  by_cases e : a = v
  · rw [if_pos e]
  · rw [if_neg e]
    exact h.resolve_left e
theorem wRef_hi {a : Nat} {i : Nat} (h : 148 ≤ a) (h2 : a < 169) : wRef.1 a i = 0 := by
  unfold wRef Wref
  refine zi_or ?_
  by_cases e168 : a = 168
  · exact Or.inl e168
  refine Or.inr ?_
  refine zi_or ?_
  by_cases e167 : a = 167
  · exact Or.inl e167
  refine Or.inr ?_
  refine zi_or ?_
  by_cases e166 : a = 166
  · exact Or.inl e166
  refine Or.inr ?_
  refine zi_or ?_
  by_cases e165 : a = 165
  · exact Or.inl e165
  refine Or.inr ?_
  refine zi_or ?_
  by_cases e164 : a = 164
  · exact Or.inl e164
  refine Or.inr ?_
  refine zi_or ?_
  by_cases e163 : a = 163
  · exact Or.inl e163
  refine Or.inr ?_
  refine zi_or ?_
  by_cases e162 : a = 162
  · exact Or.inl e162
  refine Or.inr ?_
  refine zi_or ?_
  by_cases e161 : a = 161
  · exact Or.inl e161
  refine Or.inr ?_
  refine zi_or ?_
  by_cases e160 : a = 160
  · exact Or.inl e160
  refine Or.inr ?_
  refine zi_or ?_
  by_cases e159 : a = 159
  · exact Or.inl e159
  refine Or.inr ?_
  refine zi_or ?_
  by_cases e158 : a = 158
  · exact Or.inl e158
  refine Or.inr ?_
  refine zi_or ?_
  by_cases e157 : a = 157
  · exact Or.inl e157
  refine Or.inr ?_
  refine zi_or ?_
  by_cases e156 : a = 156
  · exact Or.inl e156
  refine Or.inr ?_
  refine zi_or ?_
  by_cases e155 : a = 155
  · exact Or.inl e155
  refine Or.inr ?_
  refine zi_or ?_
  by_cases e154 : a = 154
  · exact Or.inl e154
  refine Or.inr ?_
  refine zi_or ?_
  by_cases e153 : a = 153
  · exact Or.inl e153
  refine Or.inr ?_
  refine zi_or ?_
  by_cases e152 : a = 152
  · exact Or.inl e152
  refine Or.inr ?_
  refine zi_or ?_
  by_cases e151 : a = 151
  · exact Or.inl e151
  refine Or.inr ?_
  refine zi_or ?_
  by_cases e150 : a = 150
  · exact Or.inl e150
  refine Or.inr ?_
  refine zi_or ?_
  by_cases e149 : a = 149
  · exact Or.inl e149
  refine Or.inr ?_
  exact zi_or (Or.inl (by omega))
theorem wRef_hl {i : Nat} : wRef.2 167 i = 0 := by
  unfold wRef Wref zi
  simp
theorem start_ref : ∃ rS, fX12_start wRef = some rS ∧ YY 0 (zi rS 169) (zi rS 169) := by
  unfold fX12_start
  obtain ⟨w1, a1, a2, a3, a4⟩ := start2_loop 4340 0 FU wRef (by omega) (by unfold FU; omega)
  obtain ⟨w2, b1, b2, b3, b4, b5⟩ := start24_loop 100 0 FU w1 (by omega) (by unfold FU; omega)
  rw [show iN 0 = 0 from rfl] at a1 b1
  rw [a1, b1]
  refine ⟨w2, rfl, ?_⟩
  have z1 : ∀ a, ¬ a = 169 → (zi w2 169).1 a = w2.1 a := fun a ha => if_neg ha
  have z2 : ∀ a, ¬ a = 169 → (zi w2 169).2 a = w2.2 a := fun a ha => if_neg ha
  have lo : ∀ a, a < 148 → (zi w2 169).1 a = (Wlow (zi w00 0)).1 a := fun a ha => by rw [z1 a (by omega), b2 a (by omega) (by omega), a2 a (by omega), wRef_low ha]
  have hi : ∀ a i, 150 ≤ a → a < 169 → (zi w2 169).1 a i = 0 := fun a i h1 h2 => by rw [z1 a (by omega), b2 a (by omega) (by omega), a2 a (by omega), wRef_hi (by omega) h2]
  have lg : ∀ a, ¬ a = 169 → (zi w2 169).2 a = wRef.2 a := fun a ha => by rw [z2 a ha, b3, a3]
  obtain ⟨y21, y4, y6, y2⟩ := b4
  have e21 : (zi w2 169).1 148 21 = 0 := by rw [z1 148 (by omega)]; exact y21
  have e4 : (zi w2 169).1 148 4 = 0 := by rw [z1 148 (by omega)]; exact y4
  have e6 : (zi w2 169).1 148 6 = 0 := by rw [z1 148 (by omega)]; exact y6
  have e2 : (zi w2 169).1 148 2 = 0 := by rw [z1 148 (by omega)]; exact y2
  obtain ⟨o1, o2, o3, o4⟩ := lw_one
  refine ⟨?_, fun d hd h6 => ?_, fun d hd => ⟨⟨?_, ?_, ?_, ?_⟩, fun i hi' => ?_, fun h1 => ?_⟩, ⟨?_, ?_, fun i hi' => ?_⟩, ⟨?_, Or.inl e6, fun i hi' => ?_, fun i c d hi' => ?_, fun i j hij hj => ?_⟩, ⟨?_, ?_, fun k hk => ?_⟩, ?_⟩
  · refine (city_of (w := zi w2 169) (fun c j hc hj => ?_) (fun c hc => ?_) (fun j hj => ?_)).congS (fun k hk => ?_)
    · have hr : rowA j < 148 := by
        have := (show ∀ j, j < 15 → rowA j < 148 by decide) j hj
        exact this
      rw [lo _ hr]
      exact lw_row j hj c hc
    · rw [lo 20 (by omega), lo 28 (by omega), lo 29 (by omega)]
      exact lw_hse c hc
    · have hr := (show ∀ j, j < 18 → j ≠ 14 → j ≠ 17 → (scA j).1 < 148 by decide) j hj.1 hj.2.1 hj.2.2
      rw [lo _ hr]
      exact lw_sc j hj.1 hj.2.1 hj.2.2
    · rw [z1 149 (by omega), b5]
      unfold S0
      by_cases d1 : k < 1500
      · rw [if_pos (show 15 * 0 ≤ k ∧ k < 1500 by omega), if_pos d1, a4, if_pos (show 0 ≤ k ∧ k < 4340 by omega)]
      · rw [if_neg (show ¬ (15 * 0 ≤ k ∧ k < 1500) by omega), if_neg d1, a4, if_pos (show 0 ≤ k ∧ k < 4340 by omega)]
  · rw [hi 165 d (by omega) (by omega)] at h6
    exact absurd h6 (by decide)
  · rw [lo _ (by omega), hi 165 d (by omega) (by omega)]
    exact (lw_tp d hd).1
  · rw [hi 165 d (by omega) (by omega)]
    exact ⟨by decide, by decide⟩
  · rw [lo _ (by omega), hi 166 d (by omega) (by omega)]
    exact (lw_tp d hd).2
  · rw [hi 166 d (by omega) (by omega)]
    exact ⟨by decide, by decide⟩
  · rw [lg _ (by omega), lg 167 (by omega), lw_tl d hd i hi', wRef_hl]
  · rw [hi 165 d (by omega) (by omega)] at h1
    exact absurd h1 (by decide)
  · rw [e4, lo 100 (by omega)]
    exact o1
  · rw [e4]
    exact ⟨by decide, by decide⟩
  · rw [e4, z_I] at hi'
    omega
  · rw [e6, lo 102 (by omega)]
    exact o2
  · rw [e6, z_I] at hi'
    omega
  · rw [e6, z_I] at hi'
    omega
  · rw [e6, z_I] at hj
    omega
  · rw [e21, lo 106 (by omega)]
    exact o3
  · rw [e21]
    exact ⟨by decide, by decide⟩
  · rw [e21, z_I] at hk
    omega
  · rw [e2, lo 0 (by omega)]
    exact o4
-- the claim
theorem whole_start {p : Program} {e : Env} {s : State} {m : MethodId} {below : List Frame} {meth : Method} {c : Code} (l : Launch) (hflags : l.flags = flags0) {b L : Nat} {xs : Nat → Int32} (hL : L ≤ 3072) (C0 : lw_At p s m meth c b L xs) : W p l e room_1 s m #[Value.ref b] below meth c s.heap [] 0 0 (lw_Z below #[Value.ref b] s) (entryFrame m ([Value.ref b] : List Value).toArray 8) := by
  obtain ⟨rS, h1, h2⟩ := start_ref
  exact law_whole (I := fun n w => YY n w w) LMath_YY (fun {n w} h => YY_up n w h) h1 h2 l hflags hL C0
set_option maxHeartbeats 4000000 in
theorem lw_walk (l : Launch) (hflags : l.flags = flags0) (b : Addr) (xs : List Int32) : MetFree l x (headSpec (Jvm.Cond.code x code maxLocals ret :: tables_1) room_1) (lw_P b xs) (fun _ _ _ _ _ => True) lw_Q := by
  refine MetFree.of_bodyS (code := code) (maxLocals := maxLocals) (ret := ret) (by decide) ?_ ?_
  · intro args s m h hn
    obtain ⟨meth, c, h1, h2, h3, h4, h5, h6, -, -⟩ := Cond.code_spec hn (atoms_spec (ws := Jvm.Cond.code x code maxLocals ret :: tables_1) h _ List.mem_cons_self)
    exact ⟨meth, c, h1, h2, h3, h4, h5, h6⟩
  · intro p e s m args below meth c s₁ B hml0 hP _
    obtain ⟨rfl, hx, hbd, hgv⟩ := hP
    obtain ⟨scr, harrAt, hlist, hof, hsmall⟩ := hx
    obtain ⟨hcb, hkn, -, -⟩ := State.arrayAt?_spec harrAt
    have hown : s.vm.findClass R_law = some m.cls := findClass_of_methodNamed B.named
    have hts0 : ∀ c ∈ (Jvm.Cond.code x code maxLocals ret :: tables_1), c.before #[Value.ref b] s = true := atoms_spec (ws := Jvm.Cond.code x code maxLocals ret :: tables_1) B.pre
    have hts : ∀ w ∈ lw_tbl, w.before #[Value.ref b] s = true := k2_hts_sels lw_privs (fun w hw => hts0 w (List.mem_cons_of_mem _ hw)) lw_privs_ok
    have hml : c.maxLocals = 8 := B.maxLocals_eq (hts0 _ List.mem_cons_self)
    have X₀ : Stand p l e room_1 s m #[Value.ref b] below meth c s₁ [] 0 0 := Stand.of_body B
    have hh0 : s₁.heap = s.heap := by rw [B.state]; rfl
    have hsz : scr.slots.size = xs.length := by rw [← Array.length_toList, hlist, List.length_map]
    have hval : ∀ j : Nat, j < xs.length → scr.slots[j]? = some (.int (xs.getD j 0)) := fun j hj => by
      rw [← Array.getElem?_toList, hlist]
      simp [hj]
    have hbl : b < s.heap.size := (Array.getElem?_eq_some_iff.mp hcb).1
    have hX : va_X b xs.length (fun j => xs.getD j 0) s s.heap := ⟨scr, hcb, hof, hkn, hsz, hval⟩
    have K : W p l e room_1 s m #[Value.ref b] below meth c s₁.heap [] 0 0 (lw_Z below #[Value.ref b] s) (entryFrame m ([Value.ref b] : List Value).toArray 8) := by
      rw [hh0]
      exact whole_start l hflags hbd ⟨B.exec, B.bytes, B.returns, hml, hown, hts, hX, hbl, B.notSynchronized, hgv⟩
    obtain ⟨t, a1, o, b1, b2, b3⟩ := K s₁ rfl X₀
    exact ⟨t, o, a1, b1, b2, b3⟩
theorem lw_pre_spec {args : Array Value} {s : State} (h : (Jvm.Cond.and given_1 narrow_1).before args s = true) (hr : rest_1_c.before args s = true) : ∃ (b : Addr) (xs : List Int32), lw_P b xs args s := by
  have hs := flat_of_before _ h
  have hq := flat_of_before _ hr
  have hc : (Cond.count 1).before args s = true := hs _ (by decide +kernel)
  have harr : (Cond.arrayOf (.arg 0) .int).before args s = true := hs _ (by decide +kernel)
  have hle : (Cond.le (.length (.arg 0)) (.int 3072)).before args s = true := hs _ (by decide +kernel)
  have hlen : (Cond.isInt (.length (.arg 0))).before args s = true := hq _ (by decide +kernel)
  have hall : (Cond.all (.arg 0) (.isInt (.elem (.arg 0) (.index 0)))).before args s = true := hq _ (by decide +kernel)
  obtain ⟨b, xs, hb, hx⟩ := State.ints_of_pre rfl harr hlen hall
  have hsm : xs.length < 2 ^ 31 := hx.choose_spec.2.2.2
  have hev : (Term.length (.arg 0)).eval args s none [] s = some (.int xs.length.toInt32) := hx.length_eval hb
  have hv := Cond.le_ints hev (show (Term.int 3072).eval args s none [] s = some (.int 3072) from rfl)
  have hd : xs.length.toInt32 ≤ 3072 := by
    simpa [Cond.before, Cond.holds, hv] using hle
  have hN : xs.length ≤ 3072 := (Int32.ofNat_le_ofNat hsm (by decide)).mp (show Int32.ofNat xs.length ≤ Int32.ofNat 3072 from hd)
  exact ⟨b, xs, Cond.one_arg hc (show args[0]? = some (.ref b) from hb), hx, hN, h⟩
theorem lw_comes (l : Launch) (hflags : l.flags = flags0) : Comes l x (Jvm.Cond.code x code maxLocals ret :: tables_1) room_1 (fun tb e args s => Calls_1 tb e args s ∧ rest_1 tb e args s ∧ Pre_1 tb e args s)
    (fun _ _ args s o t => lw_Q args s o t) := by
  intro p e ha hc hk s m args below hf hfit hheap happ hpre
  obtain ⟨b, xs, hP⟩ := lw_pre_spec hpre.2.2 hpre.2.1
  obtain ⟨k, o, h1, h2, h3, hQ⟩ := lw_walk l hflags b xs p e ha hc hk s m args below hf ((Spec.applies_iff_loose hf).mp happ).1 hP trivial
  exact ⟨k, o, h1, h2, h3, hQ⟩
theorem lw_frame {s t : State} {o : Outcome} {args : Array Value} (h : Framed s o t [] 601024 7293033) :
    Framed s o t (fieldLocs frame_1_writes args s ++ arrayLocs frame_1_arrays args s ++ staticLocs frame_1_statics s) 601024 7293033 := h
theorem lw_limb (L : Cond) (hL : ∀ (args : Array Value) (s t : State), L.after args s (.returned (some (.int 1))) t = true) :
    ArmFor flags0 classFile x code maxLocals ret World_1 tables_1 room_1 Calls_1 rest_1 Pre_1
      (fun tb e a s o t => postC L tb e a s o t ∧ Framed s o t (fieldLocs frame_1_writes a s ++ arrayLocs frame_1_arrays a s ++ staticLocs frame_1_statics s) 601024 7293033) := by
  intro l hflags _ _ p e ha hc hk s m args below hf hfit hheap happ hpre
  obtain ⟨k, o, h1, h2, h3, rfl, hF⟩ := lw_comes l hflags p e ha hc hk s m args below hf hfit hheap happ hpre
  exact ⟨k, _, h1, h2, h3, hL args s _, lw_frame hF⟩
theorem i_vc : Claimed_1_1 ∧ Claimed_1_2 := ⟨lw_limb limb_1_1 (fun args s t => by simp [limb_1_1, Cond.after, Cond.holds, Cond.value]), lw_limb limb_1_2 (fun args s t => Cond.after_iff.mpr (by
  first | (rw [show limb_1_2 = Cond.eq .result (.int 1) from rfl, Cond.eq_ints (x := 1) (y := 1) rfl rfl]; simp; done) | (simp [limb_1_2, Cond.value, Term.eval]; done)))⟩
