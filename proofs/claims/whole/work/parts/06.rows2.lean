-- more rows: what the written-out walks use
def FU : Nat := 10000000
def jrm (x y : Int32) : Int32 := x - x / y * y
def lrm (x y : Int64) : Int64 := x - x / y * y
abbrev nw {α : Type} (w : Wd) (k : Wd → α) : α := k w
theorem nwr {K : KT} {pc : Nat} {lv : List (Option Value)} {st : List Value} {α : Type} {e : Wd} {A : Wd → Option α} {r : α} (hf : nw e A = some r) (k : ∀ w : Wd, A w = some r → XW K pc lv st w) : XW K pc lv st e := k e hf
theorem bnd {α β : Type} {o : Option α} {g : α → Option β} {r : β} (h : o.bind g = some r) : ∃ v, o = some v ∧ g v = some r := by
  cases o with
  | none => cases h
  | some v => exact ⟨v, rfl, h⟩
theorem ite_or {α : Type} {c : Prop} [Decidable c] {A B : Option α} {r : α} (h : (if c then A else B) = some r) : (c ∧ A = some r) ∨ (¬ c ∧ B = some r) := by
  by_cases e : c
  · rw [if_pos e] at h; exact Or.inl ⟨e, h⟩
  · rw [if_neg e] at h; exact Or.inr ⟨e, h⟩
theorem nek {x k : Int32} {z : Int} (h : ¬ x = k) (hk : k.toInt = z) : x.toInt ≠ z := by
  intro e
  exact h (Int32.toInt_inj.mp (e.trans hk.symm))
theorem blt_k {a b dr : Nat} (h : a < b) : Nat.blt a (dr + b) = true := Nat.ble_eq_true_of_le (by omega)
theorem blt_o {a b dr : Nat} (h : a < b) : Nat.blt (dr + a) (dr + b) = true := Nat.ble_eq_true_of_le (by omega)
section ROWS4
variable {K : KT} {cc : ByteArray} {own : String} {nL d pc : Nat} {lv lv' : List (Option Value)} {st : List Value} {w w' : Wd} {α : Type} {r : α} {ci a k i n : Nat} {ds : List (Nat × Nat)} {C : String} {T : u_T} {N : Nat} {ty : Nat → FieldType} {t : Nat → Option Nat}
theorem x_irem' (G : GK K cc own nL d) {x y : Int32} (hd : decode cc pc = .ok (.irem, 1)) (hn : ¬ y = 0) (k : XW K (pc + 1) lv (.int (jrm x y) :: st) w) : XW K pc lv (.int y :: .int x :: st) w := x_irem G hd hn k
theorem x_lrem' (G : GK K cc own nL d) {x y : Int64} (hd : decode cc pc = .ok (.lrem, 1)) (hn : ¬ y = 0) (k : XW K (pc + 1) lv (.long (lrm x y) :: st) w) : XW K pc lv (.long y :: .long x :: st) w := x_lrem G hd hn k
theorem x_idivC (G : GK K cc own nL d) {x y : Int32} (hd : decode cc pc = .ok (.idiv, 1)) {A : Option α} (hf : (if y = 0 then none else A) = some r) (k : A = some r → XW K (pc + 1) lv (.int (x / y) :: st) w) : XW K pc lv (.int y :: .int x :: st) w := by
  by_cases c : y = 0
  · rw [if_pos c] at hf; cases hf
  · rw [if_neg c] at hf; exact x_idiv G hd c (k hf)
theorem x_iremC (G : GK K cc own nL d) {x y : Int32} (hd : decode cc pc = .ok (.irem, 1)) {A : Option α} (hf : (if y = 0 then none else A) = some r) (k : A = some r → XW K (pc + 1) lv (.int (jrm x y) :: st) w) : XW K pc lv (.int y :: .int x :: st) w := by
  by_cases c : y = 0
  · rw [if_pos c] at hf; cases hf
  · rw [if_neg c] at hf; exact x_irem G hd c (k hf)
theorem x_ldivC (G : GK K cc own nL d) {x y : Int64} (hd : decode cc pc = .ok (.ldiv, 1)) {A : Option α} (hf : (if y = 0 then none else A) = some r) (k : A = some r → XW K (pc + 1) lv (.long (x / y) :: st) w) : XW K pc lv (.long y :: .long x :: st) w := by
  by_cases c : y = 0
  · rw [if_pos c] at hf; cases hf
  · rw [if_neg c] at hf; exact x_ldiv G hd c (k hf)
theorem x_lremC (G : GK K cc own nL d) {x y : Int64} (hd : decode cc pc = .ok (.lrem, 1)) {A : Option α} (hf : (if y = 0 then none else A) = some r) (k : A = some r → XW K (pc + 1) lv (.long (lrm x y) :: st) w) : XW K pc lv (.long y :: .long x :: st) w := by
  by_cases c : y = 0
  · rw [if_pos c] at hf; cases hf
  · rw [if_neg c] at hf; exact x_lrem G hd c (k hf)
theorem x_iald0 (G : GK K cc own nL d) (hk : KD K.ks a (.inr (0, n, t))) (hd : decode cc pc = .ok (.iaload, 1)) {j : Int32} (h : inb j n = true) (kk : XW K (pc + 1) lv (.int (ri w a j) :: st) w) : XW K pc lv (.int j :: .ref a :: st) w := x_iald (r := ()) (A := some ()) G hk hd (by rw [if_pos h]) (fun _ _ => kk)
theorem x_zald0 (G : GK K cc own nL d) (hk : KD K.ks a (.inr (2, n, t))) (hd : decode cc pc = .ok (.baload, 1)) {j : Int32} (h : inb j n = true) (kk : XW K (pc + 1) lv (.int (ri w a j) :: st) w) : XW K pc lv (.int j :: .ref a :: st) w := x_zald (r := ()) (A := some ()) G hk hd (by rw [if_pos h]) (fun _ _ => kk)
theorem x_lald0 (G : GK K cc own nL d) (hk : KD K.ks a (.inr (1, n, t))) (hd : decode cc pc = .ok (.laload, 1)) {j : Int32} (h : inb j n = true) (kk : XW K (pc + 1) lv (.long (rl w a j) :: st) w) : XW K pc lv (.int j :: .ref a :: st) w := x_lald (r := ()) (A := some ()) G hk hd (by rw [if_pos h]) (fun _ _ => kk)
theorem x_aald0 (G : GK K cc own nL d) {kn : Nat} {tf : Nat → Nat} (hk : KD K.ks a (.inr (kn + 3, n, fun j => some (tf j)))) (hkn : kn < 3) (hd : decode cc pc = .ok (.aaload, 1)) {j : Int32} (h : inb j n = true) (kk : XW K (pc + 1) lv (.ref (tf j.toNatClampNeg) :: st) w) : XW K pc lv (.int j :: .ref a :: st) w := x_aald (r := ()) (A := some ()) G hk hkn hd (by rw [if_pos h]) (fun _ _ => kk)
theorem x_iast0 (G : GK K cc own nL d) (hk : KD K.ks a (.inr (0, n, t))) (hd : decode cc pc = .ok (.iastore, 1)) {j x : Int32} (h : inb j n = true) (kk : XW K (pc + 1) lv st (wi w a j x)) : XW K pc lv (.int x :: .int j :: .ref a :: st) w := x_iast (r := ()) (A := some ()) G hk hd (by rw [if_pos h]) (fun _ _ => kk)
theorem x_zast0 (G : GK K cc own nL d) (hk : KD K.ks a (.inr (2, n, t))) (hd : decode cc pc = .ok (.bastore, 1)) {j x : Int32} (h : inb j n = true) (kk : XW K (pc + 1) lv st (wi w a j (vp_nar .boolean x))) : XW K pc lv (.int x :: .int j :: .ref a :: st) w := x_zast (r := ()) (A := some ()) G hk hd (by rw [if_pos h]) (fun _ _ => kk)
theorem x_last0 (G : GK K cc own nL d) (hk : KD K.ks a (.inr (1, n, t))) (hd : decode cc pc = .ok (.lastore, 1)) {j : Int32} {x : Int64} (h : inb j n = true) (kk : XW K (pc + 1) lv st (wl w a j x)) : XW K pc lv (.long x :: .int j :: .ref a :: st) w := x_last (r := ()) (A := some ()) G hk hd (by rw [if_pos h]) (fun _ _ => kk)
theorem x_getNr (G : GK K cc own nL d) (hk : KD K.ks a (.inl (ci, ds))) (k : Nat) {b : Nat} (hdk : ds[k]? = some (2, b)) (hC : CLS ci C T N ty) (hkN : Nat.blt k N = true) (hq : Cond.fieldLink own i (T k).1 (T k).2.1 (T k).2.2.1 ∈ gtbl) (hd : decode cc pc = .ok (.getfield i, 3)) (h : ¬ w.1 a k = 0) (kk : XW K (pc + 3) lv (.ref b :: st) w) : XW K pc lv (.ref a :: st) w := x_getN (r := ()) (A := none) (B := some ()) G hk k hdk hC hkN hq hd (by rw [if_neg h]) (fun c _ => absurd c h) (fun _ _ => kk)
theorem x_alenJ (G : GK K cc own nL d) (hk : KD K.ks a (.inr (1, n, t))) (hd : decode cc pc = .ok (.arraylength, 1)) {v : Int32} (hv : Int32.ofNat n = v) (kk : XW K (pc + 1) lv (.int v :: st) w) : XW K pc lv (.ref a :: st) w := fun H locs ls hH hS hL => va_alen G.1 G.2.1 G.2.2.2.2.2.1.1 (hH.one hk) 0 1 rfl rfl hv hd (kk H locs ls hH hS hL)
theorem x_aloadN (G : GK K cc own nL d) {i : Nat} (hd : decode cc pc = .ok (.aload i, 2)) (hl : lv[i]? = some (some .null)) (k : XW K (pc + 2) lv (.null :: st) w) : XW K pc lv st w := fun H locs ls hH hS hL => lv_aloadN G.1 G.2.1 hd (hL.2.2 i _ hl) (k H locs ls hH hS hL)
theorem x_astoreN (G : GK K cc own nL d) {i : Nat} (hd : decode cc pc = .ok (.astore i, 2)) (hn : Nat.blt i nL = true) (hc : okst lv i = true) (he : lv.set i (some .null) = lv') (k : XW K (pc + 2) lv' st w) : XW K pc lv (.null :: st) w := fun H locs ls hH hS hL => lv_astoreN G.1 G.2.1 hd hL.has (by rw [G.2.2.1]; exact Nat.le_of_ble_eq_true hn) rfl (fun ls' h' => k H locs ls' hH hS (LH.set1 (v := .null) hc he h'))
theorem x_aload_nN (G : GK K cc own nL d) {k : Fin 4} {i : Nat} (hd : decode cc pc = .ok (.aload_n k, 1)) (hi : (k : Nat) = i) (hl : lv[i]? = some (some .null)) (k : XW K (pc + 1) lv (.null :: st) w) : XW K pc lv st w := fun H locs ls hH hS hL => lv_aload_nN G.1 G.2.1 hd hi (hL.2.2 i _ hl) (k H locs ls hH hS hL)
theorem x_astore_nN (G : GK K cc own nL d) {k : Fin 4} {i : Nat} (hd : decode cc pc = .ok (.astore_n k, 1)) (hi : (k : Nat) = i) (hn : Nat.blt i nL = true) (hc : okst lv i = true) (he : lv.set i (some .null) = lv') (k : XW K (pc + 1) lv' st w) : XW K pc lv (.null :: st) w := fun H locs ls hH hS hL => lv_astore_nN G.1 G.2.1 hd hi hL.has (by rw [G.2.2.1]; exact Nat.le_of_ble_eq_true hn) rfl (fun ls' h' => k H locs ls' hH hS (LH.set1 (v := .null) hc he h'))
-- leaves
theorem x_iretP (G : GK K cc own nL d) {x r : Int32} (hf : some x = some r) (hR : RI K .int r w) (hd : decode cc pc = .ok (.ireturn, 1)) : XW K pc lv [.int x] w := by
  cases hf
  exact x_iret G hR rfl hd
theorem x_iretW (G : GK K cc own nL d) {x : Int32} {r : Int32 × Wd} (hf : some (x, w) = some r) (hR : RI K .int r.1 r.2) (hd : decode cc pc = .ok (.ireturn, 1)) : XW K pc lv [.int x] w := by
  cases hf
  exact x_iret G hR rfl hd
theorem x_zretP (G : GK K cc own nL d) {x r : Bool} (hf : some x = some r) (hR : RI K .boolean (bI r) w) (hd : decode cc pc = .ok (.ireturn, 1)) : XW K pc lv [.int (bI x)] w := by
  cases hf
  exact x_iret G hR (by cases x <;> decide +kernel) hd
theorem x_zretW (G : GK K cc own nL d) {x : Bool} {r : Bool × Wd} (hf : some (x, w) = some r) (hR : RI K .boolean (bI r.1) r.2) (hd : decode cc pc = .ok (.ireturn, 1)) : XW K pc lv [.int (bI x)] w := by
  cases hf
  exact x_iret G hR (by cases x <;> decide +kernel) hd
theorem x_zretU (G : GK K cc own nL d) {x : Int32} {r : Bool} (hf : (if x = 0 then some false else if x = 1 then some true else none) = some r) (hR : RI K .boolean (bI r) w) (hd : decode cc pc = .ok (.ireturn, 1)) : XW K pc lv [.int x] w := by
  rcases ite_or hf with ⟨c, hf⟩ | ⟨c, hf⟩
  · subst c
    exact x_zretP (x := false) G hf hR hd
  · rcases ite_or hf with ⟨c, hf⟩ | ⟨c, hf⟩
    · subst c
      exact x_zretP (x := true) G hf hR hd
    · cases hf
theorem x_zretUW (G : GK K cc own nL d) {x : Int32} {r : Bool × Wd} (hf : (if x = 0 then some (false, w) else if x = 1 then some (true, w) else none) = some r) (hR : RI K .boolean (bI r.1) r.2) (hd : decode cc pc = .ok (.ireturn, 1)) : XW K pc lv [.int x] w := by
  rcases ite_or hf with ⟨c, hf⟩ | ⟨c, hf⟩
  · subst c
    exact x_zretW (x := false) G hf hR hd
  · rcases ite_or hf with ⟨c, hf⟩ | ⟨c, hf⟩
    · subst c
      exact x_zretW (x := true) G hf hR hd
    · cases hf
theorem x_lretP (G : GK K cc own nL d) {x r : Int64} (hf : some x = some r) (hR : RJ K .long r w) (hd : decode cc pc = .ok (.lreturn, 1)) : XW K pc lv [.long x] w := by
  cases hf
  exact x_lret G hR hd
theorem x_lretW (G : GK K cc own nL d) {x : Int64} {r : Int64 × Wd} (hf : some (x, w) = some r) (hR : RJ K .long r.1 r.2) (hd : decode cc pc = .ok (.lreturn, 1)) : XW K pc lv [.long x] w := by
  cases hf
  exact x_lret G hR hd
theorem x_vretW (G : GK K cc own nL d) {r : Wd} (hf : some w = some r) (hR : RV K r) (hd : decode cc pc = .ok (.return_, 1)) : XW K pc lv [] w := by
  cases hf
  exact x_vret G hR hd
theorem x_aretP (G : GK K cc own nL d) {rt : FieldType} {r0 r : Option Nat} (hf : some r0 = some r) (hR : RQ K rt r w) (hrt : (∃ n, rt = .object n) ∨ ∃ t, rt = .array t) (hd : decode cc pc = .ok (.areturn, 1)) : XW K pc lv [va_rf r0] w := by
  cases hf
  exact x_aret G hR hrt hd
-- switches
theorem x_swIn (G : GK K cc own nL d) {dflt lo hi : Int} {offs : Array Int} {len : Nat} {x : Int32} {off : Int} {tgt : Nat} {k : Int32} (hd : decode cc pc = .ok (.tableswitch dflt lo hi offs, len)) (hx : x = k) (h1 : ¬ k.toInt < lo) (h2 : ¬ hi < k.toInt) (ho : offs[(k.toInt - lo).toNat]? = some off) (ht : (pc : Int) + off = (tgt : Int)) (kk : XW K tgt lv st w) : XW K pc lv (.int x :: st) w := fun H locs ls hH hS hL => by
  subst hx
  exact lv_tableIn G.1 G.2.1 hd h1 h2 ho ht (kk H locs ls hH hS hL)
theorem x_swDef (G : GK K cc own nL d) {dflt lo hi : Int} {offs : Array Int} {len : Nat} {x : Int32} {tgt : Nat} (hd : decode cc pc = .ok (.tableswitch dflt lo hi offs, len)) (ht : (pc : Int) + dflt = (tgt : Int)) (ks : List Int) (hx : ∀ k ∈ ks, x.toInt ≠ k) (hall : ∀ i : Nat, i < (hi - lo + 1).toNat → (lo + (i : Int)) ∈ ks ∨ offs[i]? = some dflt) (kk : XW K tgt lv st w) : XW K pc lv (.int x :: st) w := fun H locs ls hH hS hL => by
  by_cases h : x.toInt < lo ∨ hi < x.toInt
  · exact lv_tableOut G.1 G.2.1 hd h ht (kk H locs ls hH hS hL)
  · have h1 : ¬ x.toInt < lo := fun q => h (Or.inl q)
    have h2 : ¬ hi < x.toInt := fun q => h (Or.inr q)
    have h3 : (x.toInt - lo).toNat < (hi - lo + 1).toNat := by omega
    have h4 : lo + ((x.toInt - lo).toNat : Int) = x.toInt := by omega
    rcases hall _ h3 with q | q
    · rw [h4] at q
      exact absurd rfl (hx _ q)
    · exact lv_tableIn G.1 G.2.1 hd h1 h2 q ht (kk H locs ls hH hS hL)
end ROWS4
-- rows that are filled, copied
def flI (w : Wd) (a n : Nat) (x : Int32) : Wd := (fun b => if b = a then (fun i => if i < n then x else w.1 a i) else w.1 b, w.2)
def flJ (w : Wd) (a n : Nat) (x : Int64) : Wd := (w.1, fun b => if b = a then (fun i => if i < n then x else w.2 a i) else w.2 b)
def cpok (sp dp n : Int32) (m0 m1 : Nat) : Bool := decide (¬ sp < 0 ∧ ¬ dp < 0 ∧ ¬ n < 0 ∧ sp.toNatClampNeg + n.toNatClampNeg ≤ m0 ∧ dp.toNatClampNeg + n.toNatClampNeg ≤ m1)
def cpI (w : Wd) (a : Nat) (sp : Int32) (b : Nat) (dp n : Int32) : Wd := (fun q => if q = b then va_cpy (w.1 a) (w.1 b) sp.toNatClampNeg dp.toNatClampNeg n.toNatClampNeg else w.1 q, w.2)
def cpJ (w : Wd) (a : Nat) (sp : Int32) (b : Nat) (dp n : Int32) : Wd := (w.1, fun q => if q = b then va_cpy (w.2 a) (w.2 b) sp.toNatClampNeg dp.toNatClampNeg n.toNatClampNeg else w.2 q)
theorem HH.ext {S : KS} {w w' : Wd} {H : Heap} (h : HH S w H) (e : w = w') : HH S w' H := e ▸ h
