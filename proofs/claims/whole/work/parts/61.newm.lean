theorem vr_outer (c : ClassId) (N h0 : Nat) : ∀ i : Nat, Jvm.Free.Multi.outerC c N h0 i = arrV c N (fun j => va_rf (if j < i then some (h0 + 1 + j) else none))
  | 0 => by
    show ({ cls := c, slots := Array.replicate N .null, vm := .none } : Cell) = _
    rw [arrV_new]
    refine congrArg (arrV c N) (funext fun j => ?_)
    simp [va_rf]
  | i + 1 => by
    show (Jvm.Free.Multi.outerC c N h0 i).setSlot i (.ref (h0 + 1 + i)) = _
    rw [vr_outer c N h0 i, arrV_store]
    refine congrArg (arrV c N) (funext fun j => ?_)
    by_cases e : j = i
    · subst e
      simp [updV, va_rf]
    · by_cases h : j < i
      · simp [updV, e, h, Nat.lt_succ_of_lt h]
      · simp [updV, e, h, show ¬ j < i + 1 by omega]
def va_AI (U : State) : Prop := (Cond.arrayOver (.array .int)).before #[] U = true
def KSm (S : KS) (v r n k h : Nat) : KS := (fun a => if a = v then h else if r ≤ a ∧ a < r + n then h + 1 + (a - r) else S.ad a, S.G, S.cA, fun a => S.D a ∨ a = v ∨ (r ≤ a ∧ a < r + n), fun a => if a = v then .inr (5, n, fun j => some (r + j)) else if r ≤ a ∧ a < r + n then .inr (0, k, nt) else S.kd a, S.X)
def zm (w : Wd) (r n : Nat) : Wd := (fun b => if r ≤ b ∧ b < r + n then fun _ => 0 else w.1 b, w.2)
theorem cellOf_zm {ad : Nat → Nat} {cA : Nat → ClassId} {w : Wd} {a r n : Nat} (h : ¬ (r ≤ a ∧ a < r + n)) (k : Kd) : cellOf ad cA (zm w r n) a k = cellOf ad cA w a k := by
  have e : (zm w r n).1 a = w.1 a := if_neg h
  rcases k with ⟨ci, ds⟩ | ⟨n, m, f⟩
  · show (Sum.inr (ci, fvs ad _ a 0 ds) : va_E) = Sum.inr (ci, fvs ad w a 0 ds)
    rw [fvs_ext (w' := w) (a' := a) ds 0 (fun k d _ => by
      obtain ⟨n, t⟩ := d
      rcases n with _ | _ | _ | n <;> simp [fv, e])]
  · rcases n with _ | _ | _ | n <;> simp [cellOf, e] <;> rfl
theorem tgt_zm {w : Wd} {a r n : Nat} (h : ¬ (r ≤ a ∧ a < r + n)) {k : Kd} {t : Nat} (ht : tgt (zm w r n) a k t) : tgt w a k t := by
  have e : (zm w r n).1 a = w.1 a := if_neg h
  rcases k with ⟨ci, ds⟩ | ⟨n, m, f⟩
  · obtain ⟨j, d, h1, h2, h3⟩ := ht
    exact ⟨j, d, h1, h2, h3.imp id (fun z => ⟨z.1, fun e4 => z.2 (by rw [e]; exact e4)⟩)⟩
  · exact ht
section NEWM
variable {K : KT} {cc : ByteArray} {own : String} {nL d pc i : Nat} {lv : List (Option Value)} {st : List Value} {w : Wd}
theorem x_newM (G : GK K cc own nL d) {n k v r : Nat} {zn zk : Int32} (hX : XCs K.ks) (hcl : Cond.classLink own i ("[" ++ (FieldType.array FieldType.int).toString) ∈ gtbl) (harr : Cond.arrayClass FieldType.int ∈ gtbl) (h0n : ¬ zn < 0) (h0k : ¬ zk < 0) (hn : zn.toNatClampNeg = n) (hk : zk.toNatClampNeg = k) (hb1 : n * 4 ≤ 536870912) (hb2 : k * 4 ≤ 536870912) (hb3 : k ≤ 536870912) (hvr : ¬ (r ≤ v ∧ v < r + n)) (hc : Clo K.ks w) (hv : ¬ K.ks.D v) (hr : ∀ a, r ≤ a ∧ a < r + n → ¬ K.ks.D a) (h1 : K.cells + (1 + n) ≤ K.R.cells) (h2 : K.slots + (n + n * k) ≤ K.R.slots) (hlv : ∀ a, (a = v ∨ (r ≤ a ∧ a < r + n)) → noV a lv = true) (hst : ∀ a, (a = v ∨ (r ≤ a ∧ a < r + n)) → noVs a st = true) (hd : decode cc pc = .ok (.multianewarray i 2, 4)) (kk : ∀ h : Nat, K.H0.size ≤ h → GK (Kn K (KSm K.ks v r n k h) (K.cells + 1 + n) (K.slots + n + n * k)) cc own nL d → Clo (KSm K.ks v r n k h) (zm w r n) → XW (Kn K (KSm K.ks v r n k h) (K.cells + 1 + n) (K.slots + n + n * k)) (pc + 4) lv (.ref v :: st) (zm w r n)) : XW K pc lv (.int zk :: .int zn :: st) w := fun H locs ls hH hS hL => by
  subst hn
  subst hk
  have hK := G.2.2.2.2.2.1.1
  have hcy : K.s.vm.findClass (FieldType.array FieldType.int).toString = some (K.ks.cA 0) := (hK.2 0 _ rfl).2
  intro T hT Xs
  obtain ⟨vm₁, cA, comp, -, fA, fC, hO, -, X', step⟩ := Xs.multianewarray2F G.1 G.2.2.2.1 (G.2.2.2.2.1 _ hcl) ((hX _ _ _ G.2.2.2.2.2.1.2.2.1).2.2) (G.2.2.2.2.1 _ harr) (g := F0 K.m pc ls (.int zk :: .int zn :: st.map (cv K.ks.ad))) rfl (by rw [G.2.1]; exact hd) rfl h0n h0k hb1 hb2 hb3 rfl rfl h1 h2
  have ec : some (K.ks.cA 0) = some comp := hcy.symm.trans fC
  cases ec
  generalize hF : Jvm.Free.Multi.fill (T.setVm vm₁) cA (K.ks.cA 0) zn.toNatClampNeg zk.toNatClampNeg (defaultValue .int) zn.toNatClampNeg = F at X' step
  have hTh : (T.setVm vm₁).heap = H := hT
  obtain ⟨f1, f2, -, -⟩ := Jvm.Free.Multi.fill_facts (T.setVm vm₁) cA (K.ks.cA 0) zn.toNatClampNeg zk.toNatClampNeg (defaultValue .int) zn.toNatClampNeg
  rw [hF, hTh] at f1 f2
  have hold : ∀ x : Nat, x < H.size → F.heap[x]? = H[x]? := fun x hx => by
    have := Jvm.Free.Multi.fill_old (T.setVm vm₁) cA (K.ks.cA 0) zn.toNatClampNeg zk.toNatClampNeg (defaultValue .int) (a := x) (by rw [hTh]; exact hx) zn.toNatClampNeg
    rw [hF, hTh] at this
    exact this
  have hrow : ∀ j : Nat, j < zn.toNatClampNeg → F.heap[H.size + 1 + j]? = some (vp_cell (K.ks.cA 0) (zk.toNatClampNeg, .inl (fun _ => 0))) := fun j hj => by
    have := Jvm.Free.Multi.fill_inner (T.setVm vm₁) cA (K.ks.cA 0) zn.toNatClampNeg zk.toNatClampNeg (defaultValue .int) zn.toNatClampNeg j hj
    rw [hF, hTh] at this
    rw [this]
    show some ({ cls := K.ks.cA 0, slots := Array.replicate zk.toNatClampNeg (.int 0), vm := .none } : Cell) = _
    rw [arrV_new]
    rfl
  rw [vr_outer] at f2
  let v0 : Nat → Nat := (KSm K.ks v r zn.toNatClampNeg zk.toNatClampNeg H.size).ad
  have adv : (KSm K.ks v r zn.toNatClampNeg zk.toNatClampNeg H.size).ad v = H.size := if_pos rfl
  have adr : ∀ a, (r ≤ a ∧ a < r + zn.toNatClampNeg) → (KSm K.ks v r zn.toNatClampNeg zk.toNatClampNeg H.size).ad a = H.size + 1 + (a - r) := fun a ha => by
    have hne : a ≠ v := fun e => hvr (e ▸ ha)
    show (if a = v then _ else if r ≤ a ∧ a < r + zn.toNatClampNeg then _ else _) = _
    rw [if_neg hne, if_pos ha]
  have ado : ∀ a, ¬ (a = v ∨ (r ≤ a ∧ a < r + zn.toNatClampNeg)) → (KSm K.ks v r zn.toNatClampNeg zk.toNatClampNeg H.size).ad a = K.ks.ad a := fun a ha => by
    show (if a = v then _ else if r ≤ a ∧ a < r + zn.toNatClampNeg then _ else _) = _
    rw [if_neg (fun e => ha (Or.inl e)), if_neg (fun e => ha (Or.inr e))]
  have kdv : (KSm K.ks v r zn.toNatClampNeg zk.toNatClampNeg H.size).kd v = .inr (5, zn.toNatClampNeg, fun j => some (r + j)) := if_pos rfl
  have kdr : ∀ a, (r ≤ a ∧ a < r + zn.toNatClampNeg) → (KSm K.ks v r zn.toNatClampNeg zk.toNatClampNeg H.size).kd a = .inr (0, zk.toNatClampNeg, nt) := fun a ha => by
    have hne : a ≠ v := fun e => hvr (e ▸ ha)
    show (if a = v then _ else if r ≤ a ∧ a < r + zn.toNatClampNeg then _ else _) = _
    rw [if_neg hne, if_pos ha]
  have kdo : ∀ a, ¬ (a = v ∨ (r ≤ a ∧ a < r + zn.toNatClampNeg)) → (KSm K.ks v r zn.toNatClampNeg zk.toNatClampNeg H.size).kd a = K.ks.kd a := fun a ha => by
    show (if a = v then _ else if r ≤ a ∧ a < r + zn.toNatClampNeg then _ else _) = _
    rw [if_neg (fun e => ha (Or.inl e)), if_neg (fun e => ha (Or.inr e))]
  have hno : ∀ a, K.ks.D a → ¬ (a = v ∨ (r ≤ a ∧ a < r + zn.toNatClampNeg)) := fun a ha h => h.elim (fun e => hv (e ▸ ha)) (fun h => hr a h ha)
  have hlt : ∀ a, K.ks.D a → K.ks.ad a < H.size := fun a ha => va_at_lt (hH a ha)
  have hcA : cA = K.ks.cA 5 := by
    have h3 := (hK.2 5 (K.ks.cA 5, .array .int) rfl).2
    exact Option.some.inj (fA.symm.trans h3)
  have hDo : ∀ a, (KSm K.ks v r zn.toNatClampNeg zk.toNatClampNeg H.size).D a → ¬ (a = v ∨ (r ≤ a ∧ a < r + zn.toNatClampNeg)) → K.ks.D a := fun a ha hn => ha.resolve_right hn
  have hHn : HH (KSm K.ks v r zn.toNatClampNeg zk.toNatClampNeg H.size) (zm w r zn.toNatClampNeg) F.heap := by
    intro a ha
    by_cases e1 : a = v
    · subst e1
      rw [kdv, adv]
      show F.heap[H.size]? = some (arrV (K.ks.cA 5) zn.toNatClampNeg (fun j => va_rf (some ((KSm K.ks a r zn.toNatClampNeg zk.toNatClampNeg H.size).ad (r + j)))))
      rw [f2, hcA]
      refine congrArg some (arrV_congr fun j hj => ?_)
      rw [if_pos hj, adr (r + j) ⟨by omega, by omega⟩, show r + j - r = j by omega]
    by_cases e2 : r ≤ a ∧ a < r + zn.toNatClampNeg
    · rw [kdr a e2, adr a e2]
      show F.heap[_]? = some (vp_cell (K.ks.cA 0) (zk.toNatClampNeg, .inl ((zm w r zn.toNatClampNeg).1 a)))
      rw [hrow (a - r) (by omega)]
      have e3 : (zm w r zn.toNatClampNeg).1 a = fun _ => 0 := if_pos e2
      rw [e3]
    · have e3 : ¬ (a = v ∨ (r ≤ a ∧ a < r + zn.toNatClampNeg)) := fun h => h.elim e1 e2
      have hd := hDo a ha e3
      rw [kdo a e3, ado a e3]
      refine va_at_ad (ad := K.ks.ad) (fun t ht => ado t (hno t (hc a hd t (tgt_zm e2 ht)))) ?_
      show va_at K.ks.G vwCl (K.ks.ad a, cellOf K.ks.ad K.ks.cA (zm w r zn.toNatClampNeg) a (K.ks.kd a)) F.heap
      rw [cellOf_zm e2]
      exact (hH a hd).kept (hold _ (hlt a hd))
  have hCn : Clo (KSm K.ks v r zn.toNatClampNeg zk.toNatClampNeg H.size) (zm w r zn.toNatClampNeg) := by
    intro a ha t ht
    by_cases e1 : a = v
    · subst e1
      rw [kdv] at ht
      obtain ⟨-, j, hj, hjt⟩ := ht
      cases hjt
      exact Or.inr (Or.inr ⟨by omega, by omega⟩)
    by_cases e2 : r ≤ a ∧ a < r + zn.toNatClampNeg
    · rw [kdr a e2] at ht
      obtain ⟨h3, -⟩ := ht
      omega
    · have e3 : ¬ (a = v ∨ (r ≤ a ∧ a < r + zn.toNatClampNeg)) := fun h => h.elim e1 e2
      rw [kdo a e3] at ht
      exact Or.inl (hc a (hDo a ha e3) t (tgt_zm e2 ht))
  have hI0 := G.2.2.2.2.2.2.1
  have hIn : Inj (KSm K.ks v r zn.toNatClampNeg zk.toNatClampNeg H.size) := by
    refine ⟨fun a b ha hb e => ?_, hI0.2⟩
    by_cases a1 : a = v
    · by_cases b1 : b = v
      · rw [a1, b1]
      · by_cases b2 : r ≤ b ∧ b < r + zn.toNatClampNeg
        · rw [a1, adv, adr b b2] at e; omega
        · have b3 : ¬ (b = v ∨ (r ≤ b ∧ b < r + zn.toNatClampNeg)) := fun h => h.elim b1 b2
          rw [a1, adv, ado b b3] at e
          have := hlt b (hDo b hb b3)
          omega
    · by_cases a2 : r ≤ a ∧ a < r + zn.toNatClampNeg
      · by_cases b1 : b = v
        · rw [b1, adv, adr a a2] at e; omega
        · by_cases b2 : r ≤ b ∧ b < r + zn.toNatClampNeg
          · rw [adr a a2, adr b b2] at e; omega
          · have b3 : ¬ (b = v ∨ (r ≤ b ∧ b < r + zn.toNatClampNeg)) := fun h => h.elim b1 b2
            rw [adr a a2, ado b b3] at e
            have := hlt b (hDo b hb b3)
            omega
      · have a3 : ¬ (a = v ∨ (r ≤ a ∧ a < r + zn.toNatClampNeg)) := fun h => h.elim a1 a2
        have hla := hlt a (hDo a ha a3)
        by_cases b1 : b = v
        · rw [b1, adv, ado a a3] at e; omega
        · by_cases b2 : r ≤ b ∧ b < r + zn.toNatClampNeg
          · rw [adr b b2, ado a a3] at e; omega
          · have b3 : ¬ (b = v ∨ (r ≤ b ∧ b < r + zn.toNatClampNeg)) := fun h => h.elim b1 b2
            rw [ado a a3, ado b b3] at e
            exact hI0.1 a b (hDo a ha a3) (hDo b hb b3) e
  have hGn : GK (Kn K (KSm K.ks v r zn.toNatClampNeg zk.toNatClampNeg H.size) (K.cells + 1 + zn.toNatClampNeg) (K.slots + zn.toNatClampNeg + zn.toNatClampNeg * zk.toNatClampNeg)) cc own nL d := G.n rfl rfl rfl hIn (fun a ha => by
    by_cases a1 : a = v
    · rw [a1, adv]
      exact G.2.2.2.2.2.2.2.2.1 _ hS.1
    · by_cases a2 : r ≤ a ∧ a < r + zn.toNatClampNeg
      · rw [adr a a2]
        exact G.2.2.2.2.2.2.2.2.1 _ (Nat.le_trans hS.1 (by omega))
      · have a3 : ¬ (a = v ∨ (r ≤ a ∧ a < r + zn.toNatClampNeg)) := fun h => h.elim a1 a2
        rw [ado a a3]
        exact G.2.2.2.2.2.2.2.1 a (hDo a ha a3)) (by rw [Nat.add_assoc]; exact h1) (by rw [Nat.add_assoc]; exact h2)
  have hSn : va_S K.A K.H0 F.heap locs := ⟨by rw [f1]; have := hS.1; omega, fun x g1 g2 => (hold x (Nat.lt_of_lt_of_le g1 hS.1)).trans (hS.2.1 x g1 g2), hS.2.2⟩
  have hLn : LH (Kn K (KSm K.ks v r zn.toNatClampNeg zk.toNatClampNeg H.size) (K.cells + 1 + zn.toNatClampNeg) (K.slots + zn.toNatClampNeg + zn.toNatClampNeg * zk.toNatClampNeg)) ls lv := by
    refine ⟨hL.1, hL.2.1, fun i x hi => ?_⟩
    rw [hL.2.2 i x hi]
    show some (Slot.val (cv K.ks.ad x)) = some (Slot.val (cv (KSm K.ks v r zn.toNatClampNeg zk.toNatClampNeg H.size).ad x))
    cases x with
    | ref a => 
      have h9 : ¬ (a = v ∨ (r ≤ a ∧ a < r + zn.toNatClampNeg)) := fun h => noV_get (hlv a h) i a hi rfl
      show some (Slot.val (.ref (K.ks.ad a))) = some (Slot.val (.ref ((KSm K.ks v r zn.toNatClampNeg zk.toNatClampNeg H.size).ad a)))
      rw [ado a h9]
    | _ => rfl
  have hstk : (Value.ref v :: st).map (cv (KSm K.ks v r zn.toNatClampNeg zk.toNatClampNeg H.size).ad) = .ref H.size :: st.map (cv K.ks.ad) := by
    show Value.ref ((KSm K.ks v r zn.toNatClampNeg zk.toNatClampNeg H.size).ad v) :: _ = _
    rw [adv]
    congr 1
    refine List.map_congr_left fun x hx => ?_
    cases x with
    | ref a =>
      have h9 : ¬ (a = v ∨ (r ≤ a ∧ a < r + zn.toNatClampNeg)) := fun h => noVs_mem (hst a h) hx
      show Value.ref _ = Value.ref _
      rw [ado a h9]
    | _ => rfl
  have hW := kk H.size hS.1 hGn hCn F.heap locs ls hHn hSn hLn
  have e9 : ((Value.ref v :: st).map (cv (Kn K (KSm K.ks v r zn.toNatClampNeg zk.toNatClampNeg H.size) (K.cells + 1 + zn.toNatClampNeg) (K.slots + zn.toNatClampNeg + zn.toNatClampNeg * zk.toNatClampNeg)).ks.ad)) = .ref H.size :: st.map (cv K.ks.ad) := hstk
  rw [e9] at hW
  obtain ⟨t, a1, b1⟩ := hW F rfl X'
  refine ⟨t, step t ?_, b1⟩
  have e : T.heap.size = H.size := by rw [hT]
  rw [e]
  exact a1
end NEWM
