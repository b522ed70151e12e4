-- cells that are made: the world grows
def Kn (K : KT) (S : KS) (c s : Nat) : KT := (K.1, (K.meth, K.c, K.Q, c, s), S, K.A, K.H0)
def KSx (S : KS) (v q : Nat) (k : Kd) : KS := (fun a => if a = v then q else S.ad a, S.G, S.cA, fun a => S.D a ∨ a = v, fun a => if a = v then k else S.kd a, S.X)
/-- another kind for a cell that is there -/
def KSk (S : KS) (v : Nat) (k : Kd) : KS := (S.ad, S.G, S.cA, S.D, fun a => if a = v then k else S.kd a, S.X)
/-- what a cell's references lead to -/
def tgt (w : Wd) (a : Nat) (k : Kd) (t : Nat) : Prop := match k with
  | .inl (_, ds) => ∃ (j : Nat) (d : Nat × Nat), ds[j]? = some d ∧ d.2 = t ∧ (d.1 = 1 ∨ (d.1 = 2 ∧ ¬ w.1 a j = 0))
  | .inr (n, m, f) => 3 ≤ n ∧ ∃ i, i < m ∧ f i = some t
def Clo (S : KS) (w : Wd) : Prop := ∀ a, S.D a → ∀ t, tgt w a (S.kd a) t → S.D t
theorem arrV_congr {c : ClassId} {N : Nat} {f g : Nat → Value} (h : ∀ j, j < N → f j = g j) : arrV c N f = arrV c N g := by
  have e : (Array.ofFn (n := N) fun j => f j.val) = Array.ofFn (n := N) fun j => g j.val := congrArg Array.ofFn (funext fun j => h j.val j.isLt)
  unfold arrV
  rw [e]
theorem va_at_ad {G : va_G} {cl : List vw_C} {x : Nat} {H : Heap} {ad ad' : Nat → Nat} {cA : Nat → ClassId} {w : Wd} {a : Nat} {k : Kd} (h : ∀ t, tgt w a k t → ad' t = ad t) (h0 : va_at G cl (x, cellOf ad cA w a k) H) : va_at G cl (x, cellOf ad' cA w a k) H := by
  rcases k with ⟨ci, ds⟩ | ⟨n, m, f⟩
  · have e : ∀ (ds2 : List (Nat × Nat)) (j : Nat), (∀ (i : Nat) (d : Nat × Nat), ds2[i]? = some d → fv ad' w a (j + i) d = fv ad w a (j + i) d) → fvs ad' w a j ds2 = fvs ad w a j ds2 := by
      intro ds2
      induction ds2 with
      | nil => intro j _; rfl
      | cons d ds2 ih =>
        intro j hj
        have h0 := hj 0 d rfl
        have h1 := ih (j + 1) (fun i d hd => by
          have := hj (i + 1) d hd
          rw [show j + (i + 1) = j + 1 + i by omega] at this
          exact this)
        show fv ad' w a j d :: fvs ad' w a (j + 1) ds2 = fv ad w a j d :: fvs ad w a (j + 1) ds2
        rw [h1, show fv ad' w a j d = fv ad w a j d from h0]
    have e2 : cellOf ad' cA w a (.inl (ci, ds)) = cellOf ad cA w a (.inl (ci, ds)) := by
      show (Sum.inr (ci, fvs ad' w a 0 ds) : va_E) = Sum.inr (ci, fvs ad w a 0 ds)
      rw [e ds 0 (fun i d hd => ?_)]
      rw [Nat.zero_add]
      obtain ⟨n, t⟩ := d
      rcases n with _ | _ | _ | n
      · rfl
      · exact congrArg Value.ref (h t ⟨i, _, hd, rfl, Or.inl rfl⟩)
      · show (if w.1 a i = 0 then Value.null else .ref (ad' t)) = if w.1 a i = 0 then .null else .ref (ad t)
        by_cases c : w.1 a i = 0
        · rw [if_pos c, if_pos c]
        · rw [if_neg c, if_neg c, h t ⟨i, _, hd, rfl, Or.inr ⟨rfl, c⟩⟩]
      · rfl
    rw [e2]
    exact h0
  · rcases n with _ | _ | _ | n
    · exact h0
    · exact h0
    · exact h0
    · have h1 : H[x]? = some (arrV (cA (n + 3)) m (fun j => va_rf ((f j).map ad))) := h0
      show H[x]? = some (arrV (cA (n + 3)) m (fun j => va_rf ((f j).map ad')))
      rw [h1]
      refine congrArg some (arrV_congr fun j hj => ?_)
      cases hf : f j with
      | none => rfl
      | some t => exact congrArg Value.ref (h t ⟨by omega, j, hj, hf⟩).symm
/-- zero in every place of a new cell -/
def zi (w : Wd) (v : Nat) : Wd := (fun b => if b = v then fun _ => 0 else w.1 b, fun b => if b = v then fun _ => 0 else w.2 b)
theorem cellOf_zi {ad : Nat → Nat} {cA : Nat → ClassId} {w : Wd} {a v : Nat} (h : a ≠ v) (k : Kd) : cellOf ad cA (zi w v) a k = cellOf ad cA w a k := by
  rcases k with ⟨ci, ds⟩ | ⟨n, m, f⟩
  · show (Sum.inr (ci, fvs ad (zi w v) a 0 ds) : va_E) = Sum.inr (ci, fvs ad w a 0 ds)
    rw [fvs_ext (w' := w) (a' := a) ds 0 (fun k d _ => by
      obtain ⟨n, t⟩ := d
      rcases n with _ | _ | _ | n <;> simp [fv, zi, h])]
  · rcases n with _ | _ | _ | n <;> simp [cellOf, zi, h]
theorem tgt_zi {w : Wd} {a v : Nat} (h : a ≠ v) {k : Kd} {t : Nat} (ht : tgt (zi w v) a k t) : tgt w a k t := by
  rcases k with ⟨ci, ds⟩ | ⟨n, m, f⟩
  · obtain ⟨j, d, h1, h2, h3⟩ := ht
    refine ⟨j, d, h1, h2, h3.imp id (fun z => ⟨z.1, fun e => z.2 ?_⟩)⟩
    simp [zi, h, e]
  · exact ht
/-- no reference that leads anywhere -/
def noT (k : Kd) : Prop := match k with
  | .inl (_, ds) => ∀ d ∈ ds, d.1 = 0 ∨ d.1 = 2 ∨ d.1 = 3
  | .inr (_, _, f) => ∀ i, f i = none
theorem noT_tgt {w : Wd} {v : Nat} {k : Kd} (h : noT k) (t : Nat) : ¬ tgt (zi w v) v k t := by
  rcases k with ⟨ci, ds⟩ | ⟨n, m, f⟩
  · rintro ⟨j, d, h1, h2, h3⟩
    have := h d (List.mem_of_getElem? h1)
    rcases h3 with h3 | ⟨h3, h4⟩
    · omega
    · exact h4 (by simp [zi])
  · rintro ⟨_, i, _, h1⟩
    rw [h i] at h1
    cases h1
theorem HH.born {S : KS} {w : Wd} {H H1 : Heap} {v q : Nat} {k : Kd} (h : HH S w H) (hc : Clo S w) (hv : ¬ S.D v) (hn : noT k) (o : ∀ x : Nat, x < H.size → H1[x]? = H[x]?) (he : va_at S.G vwCl (q, cellOf S.ad S.cA (zi w v) v k) H1) : HH (KSx S v q k) (zi w v) H1 ∧ Clo (KSx S v q k) (zi w v) := by
  refine ⟨fun a ha => ?_, fun a ha t ht => ?_⟩
  · by_cases e : a = v
    · subst e
      have e1 : (KSx S a q k).kd a = k := if_pos rfl
      have e2 : (KSx S a q k).ad a = q := if_pos rfl
      rw [e1, e2]
      show va_at S.G vwCl (q, cellOf (KSx S a q k).ad S.cA (zi w a) a k) H1
      exact va_at_ad (fun t ht => absurd ht (noT_tgt hn t)) he
    · have hd : S.D a := ha.resolve_right e
      have e1 : (KSx S v q k).kd a = S.kd a := if_neg e
      have e2 : (KSx S v q k).ad a = S.ad a := if_neg e
      rw [e1, e2]
      show va_at S.G vwCl (S.ad a, cellOf (KSx S v q k).ad S.cA (zi w v) a (S.kd a)) H1
      refine va_at_ad (ad := S.ad) (fun t ht => ?_) ?_
      · have h6 : S.D t := hc a hd t (tgt_zi e ht)
        exact if_neg (fun e4 => hv (by rw [← e4]; exact h6))
      · rw [cellOf_zi e]
        exact (h a hd).kept (o _ (va_at_lt (h a hd)))
  · by_cases e : a = v
    · subst e
      have e1 : (KSx S a q k).kd a = k := if_pos rfl
      rw [e1] at ht
      exact absurd ht (noT_tgt hn t)
    · have e1 : (KSx S v q k).kd a = S.kd a := if_neg e
      rw [e1] at ht
      exact Or.inl (hc a (ha.resolve_right e) t (tgt_zi e ht))
theorem Stb.x {S : KS} (h : Stb S) (v q : Nat) (k : Kd) : Stb (KSx S v q k) := h
theorem Stb.k {S : KS} (h : Stb S) (v : Nat) (k : Kd) : Stb (KSk S v k) := h
theorem Inj.x {S : KS} (h : Inj S) {v q : Nat} {k : Kd} (hq : ∀ a, S.D a → S.ad a ≠ q) : Inj (KSx S v q k) := by
  refine ⟨fun a b ha hb e => ?_, h.2⟩
  have ea : ∀ x, x ≠ v → (KSx S v q k).ad x = S.ad x := fun x hx => if_neg hx
  have ev : (KSx S v q k).ad v = q := if_pos rfl
  by_cases e1 : a = v
  · by_cases e2 : b = v
    · rw [e1, e2]
    · rw [e1, ev, ea b e2] at e
      exact absurd e.symm (hq b (hb.resolve_right e2))
  · by_cases e2 : b = v
    · rw [e2, ev, ea a e1] at e
      exact absurd e (hq a (ha.resolve_right e1))
    · rw [ea a e1, ea b e2] at e
      exact h.1 a b (ha.resolve_right e1) (hb.resolve_right e2) e
theorem GK.n {K : KT} {cc : ByteArray} {own : String} {nL d : Nat} (G : GK K cc own nL d) {S : KS} {c s : Nat} (e1 : S.G = K.ks.G) (e2 : S.cA = K.ks.cA) (e3 : S.X = K.ks.X) (hI : Inj S) (hA : ∀ k, S.D k → K.A (S.ad k)) (hc : c ≤ K.R.cells) (hs : s ≤ K.R.slots) : GK (Kn K S c s) cc own nL d := by
  obtain ⟨g1, g2, g3, g4, g5, ⟨k1, k2, k3, k4⟩, -, -, g9, g10, g11, g12, -, -⟩ := G
  refine ⟨g1, g2, g3, g4, g5, ⟨?_, k2, ?_, k4⟩, hI, hA, g9, g10, g11, g12, hc, hs⟩
  · show va_K S.G vwCl (tysK S.cA) K.s
    rw [e1, e2]
    exact k1
  · show S.X K.A K.s K.H0
    rw [e3]
    exact k3
/-- addresses that the locals and the stack name -/
def noV (v : Nat) : List (Option Value) → Bool
  | [] => true
  | some (.ref a) :: r => (!Nat.beq a v) && noV v r
  | _ :: r => noV v r
def noVs (v : Nat) : List Value → Bool
  | [] => true
  | .ref a :: r => (!Nat.beq a v) && noVs v r
  | _ :: r => noVs v r
theorem noV_get {v : Nat} : ∀ {lv : List (Option Value)}, noV v lv = true → ∀ (i a : Nat), lv[i]? = some (some (.ref a)) → a ≠ v
  | [], _, _, _, h => by simp at h
  | none :: r, hn, i, a, h => by
    rcases i with _ | i
    · simp at h
    · exact noV_get (lv := r) hn i a h
  | some (.ref b) :: r, hn, i, a, h => by
    have h2 : (!Nat.beq b v) = true ∧ noV v r = true := by simpa [noV] using hn
    rcases i with _ | i
    · simp at h
      subst h
      intro e
      subst e
      simp [Nat.beq_refl] at h2
    · exact noV_get h2.2 i a h
  | some .null :: r, hn, i, a, h => by
    rcases i with _ | i
    · simp at h
    · exact noV_get (lv := r) hn i a h
  | some (.int x) :: r, hn, i, a, h => by
    rcases i with _ | i
    · simp at h
    · exact noV_get (lv := r) hn i a h
  | some (.long x) :: r, hn, i, a, h => by
    rcases i with _ | i
    · simp at h
    · exact noV_get (lv := r) hn i a h
  | some (.float x) :: r, hn, i, a, h => by
    rcases i with _ | i
    · simp at h
    · exact noV_get (lv := r) hn i a h
  | some (.double x) :: r, hn, i, a, h => by
    rcases i with _ | i
    · simp at h
    · exact noV_get (lv := r) hn i a h
  | some (.retAddr x) :: r, hn, i, a, h => by
    rcases i with _ | i
    · simp at h
    · exact noV_get (lv := r) hn i a h
theorem noVs_map {v : Nat} {ad ad' : Nat → Nat} (he : ∀ a, a ≠ v → ad' a = ad a) : ∀ {st : List Value}, noVs v st = true → st.map (cv ad') = st.map (cv ad)
  | [], _ => rfl
  | .ref b :: r, hn => by
    have h2 : (!Nat.beq b v) = true ∧ noVs v r = true := by simpa [noVs] using hn
    have hb : b ≠ v := by
      intro e
      subst e
      simp [Nat.beq_refl] at h2
    show Value.ref (ad' b) :: r.map (cv ad') = Value.ref (ad b) :: r.map (cv ad)
    rw [he b hb, noVs_map he h2.2]
  | .null :: r, hn => congrArg (Value.null :: ·) (noVs_map (st := r) he hn)
  | .int x :: r, hn => congrArg (Value.int x :: ·) (noVs_map (st := r) he hn)
  | .long x :: r, hn => congrArg (Value.long x :: ·) (noVs_map (st := r) he hn)
  | .float x :: r, hn => congrArg (Value.float x :: ·) (noVs_map (st := r) he hn)
  | .double x :: r, hn => congrArg (Value.double x :: ·) (noVs_map (st := r) he hn)
  | .retAddr x :: r, hn => congrArg (Value.retAddr x :: ·) (noVs_map (st := r) he hn)
theorem LH.n {K : KT} {S : KS} {c s v : Nat} {ls : Array Slot} {lv : List (Option Value)} (h : LH K ls lv) (he : ∀ a, a ≠ v → S.ad a = K.ks.ad a) (hn : noV v lv = true) : LH (Kn K S c s) ls lv := by
  refine ⟨h.1, h.2.1, fun i x hi => ?_⟩
  rw [h.2.2 i x hi]
  show some (Slot.val (cv K.ks.ad x)) = some (Slot.val (cv S.ad x))
  cases x with
  | ref a => show some (Slot.val (.ref (K.ks.ad a))) = some (Slot.val (.ref (S.ad a))); rw [he a (noV_get hn i a hi)]
  | _ => rfl
def dfl : List (Nat × Nat) → List Value
  | [] => []
  | d :: r => (if d.1 = 0 then .int 0 else .null) :: dfl r
theorem fvs_zi {ad : Nat → Nat} {w : Wd} {v : Nat} : ∀ (ds : List (Nat × Nat)) (j : Nat), (∀ d ∈ ds, d.1 = 0 ∨ d.1 = 2 ∨ d.1 = 3) → fvs ad (zi w v) v j ds = dfl ds
  | [], _, _ => rfl
  | d :: r, j, h => by
    show fv ad (zi w v) v j d :: fvs ad (zi w v) v (j + 1) r = _ :: dfl r
    rw [fvs_zi r (j + 1) (fun x hx => h x (List.mem_cons_of_mem _ hx))]
    congr 1
    obtain ⟨n, t⟩ := d
    have := h (n, t) List.mem_cons_self
    rcases n with _ | _ | _ | n
    · simp [fv, zi]
    · simp at this
    · simp [fv, zi]
    · simp [fv]
/-- the world of K has grown by v; q is the new cell -/
theorem g_born {K : KT} {cc : ByteArray} {own : String} {nL d : Nat} (G : GK K cc own nL d) {w : Wd} {H H1 : Heap} {locs : List Loc} {v : Nat} {k : Kd} {c s : Nat} (hH : HH K.ks w H) (hS : va_S K.A K.H0 H locs) (hc : Clo K.ks w) (hv : ¬ K.ks.D v) (hn : noT k) (z1 : H1.size = H.size + 1) (o1 : ∀ x : Nat, x < H.size → H1[x]? = H[x]?) (he : va_at K.ks.G vwCl (H.size, cellOf K.ks.ad K.ks.cA (zi w v) v k) H1) (h1 : K.cells + c ≤ K.R.cells) (h2 : K.slots + s ≤ K.R.slots) :
    GK (Kn K (KSx K.ks v H.size k) (K.cells + c) (K.slots + s)) cc own nL d ∧ HH (KSx K.ks v H.size k) (zi w v) H1 ∧ Clo (KSx K.ks v H.size k) (zi w v) ∧ va_S K.A K.H0 H1 locs := by
  obtain ⟨a1, a2⟩ := hH.born hc hv hn o1 he
  refine ⟨G.n rfl rfl rfl (G.2.2.2.2.2.2.1.x (fun a ha e => ?_)) (fun a ha => ?_) h1 h2, a1, a2, ⟨Nat.le_trans hS.1 (by omega), fun x g1 g2 => (o1 x (Nat.lt_of_lt_of_le g1 hS.1)).trans (hS.2.1 x g1 g2), hS.2.2⟩⟩
  · have := va_at_lt (hH a ha)
    simp only at this
    omega
  · by_cases e : a = v
    · subst e
      have e2 : (KSx K.ks a H.size k).ad a = H.size := if_pos rfl
      rw [e2]
      exact G.2.2.2.2.2.2.2.2.1 _ hS.1
    · have e2 : (KSx K.ks v H.size k).ad a = K.ks.ad a := if_neg e
      rw [e2]
      exact G.2.2.2.2.2.2.2.1 a (ha.resolve_right e)
section NEW
variable {K : KT} {cc : ByteArray} {own : String} {nL d pc i : Nat} {lv : List (Option Value)} {st : List Value} {w : Wd}
/-- what follows a cell's making: for every address that it may have got -/
def XN (K : KT) (cc : ByteArray) (own : String) (nL d : Nat) (v : Nat) (k : Kd) (s : Nat) (pc : Nat) (lv : List (Option Value)) (st : List Value) (w : Wd) : Prop :=
  ∀ q : Nat, K.H0.size ≤ q → GK (Kn K (KSx K.ks v q k) (K.cells + 1) (K.slots + s)) cc own nL d → Clo (KSx K.ks v q k) (zi w v) → XW (Kn K (KSx K.ks v q k) (K.cells + 1) (K.slots + s)) pc lv (.ref v :: st) (zi w v)
theorem x_newO (G : GK K cc own nL d) {ci : Nat} {C : String} {T : u_T} {N : Nat} {ty : Nat → FieldType} {ds : List (Nat × Nat)} {v : Nat} (hC : CLS ci C T N ty) (hcl : Cond.classLink own i C ∈ gtbl) (hinst : Cond.instantiable C N ∈ gtbl) (hini : Cond.initialized C ∈ gtbl) (hds : ∀ j, j < N → defaultValue (ty j) = vp_V (dfl ds) j) (hn : ∀ d ∈ ds, d.1 = 0 ∨ d.1 = 2 ∨ d.1 = 3) (hc : Clo K.ks w) (hv : ¬ K.ks.D v) (h1 : K.cells + 1 ≤ K.R.cells) (h2 : K.slots + N ≤ K.R.slots) (hlv : noV v lv = true) (hst : noVs v st = true) (hd : decode cc pc = .ok (.new i, 3)) (kk : XN K cc own nL d v (.inl (ci, ds)) N (pc + 3) lv st w) : XW K pc lv st w := fun H locs ls hH hS hL => by
  have hKn := G.2.2.2.2.2.1.1.1 ci _ hC.1
  refine W.newcK G.1 G.2.1 G.2.2.2.1 (G.2.2.2.2.1 _ hcl) (G.2.2.2.2.1 _ hinst) (G.2.2.2.2.1 _ hini) rfl hd h1 h2 hKn.2.1 rfl fun H1 kC hkC e1 z1 o1 => ?_
  have he : va_at K.ks.G vwCl (H.size, cellOf K.ks.ad K.ks.cA (zi w v) v (.inl (ci, ds))) H1 := by
    refine ⟨_, hC.1, (u_born ty (fun w hw => G.2.2.2.2.1 w (hC.2.1 w hw)) (fun w hw => hw) hKn hkC e1 hC.2.2.1).to (fun j hj => ?_)⟩
    rw [hds j hj]
    show _ = vp_V (fvs K.ks.ad (zi w v) v 0 ds) j
    rw [fvs_zi ds 0 hn]
  obtain ⟨a1, a2, a3, a4⟩ := g_born G (k := .inl (ci, ds)) hH hS hc hv hn z1 o1 he h1 h2
  have := kk H.size hS.1 a1 a3 H1 locs ls a2 a4 (hL.n (fun a ha => if_neg ha) hlv)
  have e5 : (Value.ref v :: st).map (cv (Kn K (KSx K.ks v H.size (.inl (ci, ds))) (K.cells + 1) (K.slots + N)).ks.ad) = .ref H.size :: st.map (cv K.ks.ad) := by
    show Value.ref (if v = v then H.size else K.ks.ad v) :: st.map (cv (KSx K.ks v H.size (.inl (ci, ds))).ad) = _
    rw [if_pos rfl, noVs_map (v := v) (ad := K.ks.ad) (ad' := (KSx K.ks v H.size (.inl (ci, ds))).ad) (fun a ha => if_neg ha) hst]
  rw [e5] at this
  exact this
/-- newarray: 0 int, 1 long, 2 boolean -/
theorem x_newA (G : GK K cc own nL d) {at0 : ArrayType} {t0 n : Nat} {ty : FieldType} {z : Int32} {v : Nat} (hat : newarray.typeOf at0 = ty) (ht : (t0 = 0 ∧ ty = .int) ∨ (t0 = 1 ∧ ty = .long) ∨ (t0 = 2 ∧ ty = .boolean)) (harr : Cond.arrayClass ty ∈ gtbl) (hz : ¬ z < 0) (hzn : z.toNatClampNeg = n) (hb : n * componentBytes ty ≤ 536870912) (hc : Clo K.ks w) (hv : ¬ K.ks.D v) (h1 : K.cells + 1 ≤ K.R.cells) (h2 : K.slots + n ≤ K.R.slots) (hlv : noV v lv = true) (hst : noVs v st = true) (hd : decode cc pc = .ok (.newarray at0, 2)) (kk : XN K cc own nL d v (.inr (t0, n, nt)) n (pc + 2) lv st w) : XW K pc lv (.int z :: st) w := fun H locs ls hH hS hL => by
  subst hat
  refine va_newaK G.1 G.2.1 (G.2.2.2.2.1 _ harr) rfl hd rfl hz hzn hb h1 h2 rfl fun H1 cA e1 z1 o1 hAr hNm => ?_
  have hcA : cA = K.ks.cA t0 := by
    have h3 := (G.2.2.2.2.2.1.1.2 t0 (K.ks.cA t0, newarray.typeOf at0) (by
      rcases ht with ⟨rfl, e⟩ | ⟨rfl, e⟩ | ⟨rfl, e⟩ <;> rw [e] <;> rfl)).2
    rcases ht with ⟨rfl, e⟩ | ⟨rfl, e⟩ | ⟨rfl, e⟩ <;> rw [e] at h3 hNm <;> exact Option.some.inj (hNm.symm.trans h3)
  have he : va_at K.ks.G vwCl (H.size, cellOf K.ks.ad K.ks.cA (zi w v) v (.inr (t0, n, nt))) H1 := by
    rcases ht with ⟨rfl, e⟩ | ⟨rfl, e⟩ | ⟨rfl, e⟩ <;> rw [e, hcA] at e1 <;> refine e1.trans ?_ <;> simp [cellOf, vp_cell, zi, defaultValue] <;> rfl
  obtain ⟨a1, a2, a3, a4⟩ := g_born G (k := .inr (t0, n, nt)) hH hS hc hv (fun _ => rfl) z1 o1 he h1 h2
  have := kk H.size hS.1 a1 a3 H1 locs ls a2 a4 (hL.n (fun a ha => if_neg ha) hlv)
  have e5 : (Value.ref v :: st).map (cv (Kn K (KSx K.ks v H.size (.inr (t0, n, nt))) (K.cells + 1) (K.slots + n)).ks.ad) = .ref H.size :: st.map (cv K.ks.ad) := by
    show Value.ref (if v = v then H.size else K.ks.ad v) :: st.map (cv (KSx K.ks v H.size (.inr (t0, n, nt))).ad) = _
    rw [if_pos rfl, noVs_map (v := v) (ad := K.ks.ad) (ad' := (KSx K.ks v H.size (.inr (t0, n, nt))).ad) (fun a ha => if_neg ha) hst]
  rw [e5] at this
  exact this
end NEW
theorem HH.putk {S : KS} {w : Wd} {H H1 : Heap} (h : HH S w H) (hj : Inj S) {a : Nat} {k k' : Kd} (hk : KD S a k) (oq : ∀ q : Nat, q ≠ S.ad a → H1[q]? = H[q]?) (he : va_at S.G vwCl (S.ad a, cellOf S.ad S.cA w a k') H1) : HH (KSk S a k') w H1 := by
  intro b hb
  have hb : S.D b := hb
  by_cases e : b = a
  · subst e
    have e1 : (KSk S b k').kd b = k' := if_pos rfl
    rw [e1]
    exact he
  · have e1 : (KSk S a k').kd b = S.kd b := if_neg e
    rw [e1]
    exact (h b hb).kept (oq _ (fun z => e (hj.1 b a hb hk.1 z)))
theorem Clo.k {S : KS} {w : Wd} (h : Clo S w) {a : Nat} {k' : Kd} (hk : ∀ t, tgt w a k' t → S.D t) : Clo (KSk S a k') w := by
  intro b hb t ht
  by_cases e : b = a
  · subst e
    have e1 : (KSk S b k').kd b = k' := if_pos rfl
    rw [e1] at ht
    exact hk t ht
  · have e1 : (KSk S a k').kd b = S.kd b := if_neg e
    rw [e1] at ht
    exact h b hb t ht
theorem tgt_set {w : Wd} {a ci k b : Nat} {ds : List (Nat × Nat)} {t : Nat} (h : tgt w a (.inl (ci, ds.set k (1, b))) t) : t = b ∨ tgt w a (.inl (ci, ds)) t := by
  obtain ⟨j, d, h1, h2, h3⟩ := h
  rw [List.getElem?_set] at h1
  by_cases e : k = j
  · rw [if_pos e] at h1
    split at h1
    · cases h1
      exact Or.inl h2.symm
    · cases h1
  · rw [if_neg e] at h1
    exact Or.inr ⟨j, d, h1, h2, h3⟩
theorem fvs_set {ad : Nat → Nat} {w : Wd} {a b : Nat} : ∀ (ds : List (Nat × Nat)) (j k : Nat), fvs ad w a j (ds.set k (1, b)) = (fvs ad w a j ds).set k (.ref (ad b))
  | [], _, _ => rfl
  | d :: r, j, 0 => rfl
  | d :: r, j, k + 1 => by
    show fv ad w a j d :: fvs ad w a (j + 1) (r.set k (1, b)) = fv ad w a j d :: (fvs ad w a (j + 1) r).set k (.ref (ad b))
    rw [fvs_set r (j + 1) k]
theorem kn_self (K : KT) : Kn K K.ks K.cells K.slots = K := rfl
section PUTR
variable {K : KT} {cc : ByteArray} {own : String} {nL d pc i : Nat} {lv : List (Option Value)} {st : List Value} {w : Wd}
theorem x_putR (G : GK K cc own nL d) {a b ci : Nat} {C : String} {T : u_T} {N : Nat} {ty : Nat → FieldType} {ds : List (Nat × Nat)} (hk : KD K.ks a (.inl (ci, ds))) (hb : K.ks.D b) (k : Nat) (hkl : Nat.blt k ds.length = true) (hC : CLS ci C T N ty) (hkN : Nat.blt k N = true) (hq : Cond.fieldLink own i (T k).1 (T k).2.1 (T k).2.2.1 ∈ gtbl) (hfin : (T k).2.2.2 = false ∨ ((T k).2.2.2 = true ∧ K.meth.name = "<init>" ∧ (T k).1 = own)) (hn : ∀ q, narrow (ty k) (.ref q) = .ref q) (hfit : ∀ q, fits (ty k) (.ref q) = true) (hc : Clo K.ks w) (hd : decode cc pc = .ok (.putfield i, 3)) (kk : GK (Kn K (KSk K.ks a (.inl (ci, ds.set k (1, b)))) K.cells K.slots) cc own nL d → Clo (KSk K.ks a (.inl (ci, ds.set k (1, b)))) w → XW (Kn K (KSk K.ks a (.inl (ci, ds.set k (1, b)))) K.cells K.slots) (pc + 3) lv st w) : XW K pc lv (.ref b :: .ref a :: st) w := fun H locs ls hH hS hL => by
  have hkN : k < N := Nat.le_of_ble_eq_true hkN
  have hkl : k < ds.length := Nat.le_of_ble_eq_true hkl
  have hK : va_K K.ks.G vwCl (tysK K.ks.cA) K.s := G.2.2.2.2.2.1.1
  have hap := va_apart (own := own) G.2.2.2.2.1 hC.2.1 ty hC.2.2.1 hC.2.2.2 hK hC.1
  have hP := hH.one hk
  obtain ⟨r, h1, cell, q1, q2, q3, q4⟩ := hP 0 _ rfl
  have hr : r = (C, T, N) := Option.some.inj (h1.symm.trans hC.1)
  subst hr
  obtain ⟨hSl, hfc, kC, hkC, hkind⟩ := hK.1 ci _ hC.1
  obtain ⟨cf, kf, fi, f, hi, hsl⟩ := hSl k hkN
  have key : ∀ (H' : Heap), (H'[K.ks.ad a]? = some (cell.setSlot (K.ks.G.2 ci k) (.ref (K.ks.ad b)))) → H'.size = H.size → (∀ q, q ≠ K.ks.ad a → H'[q]? = H[q]?) → W K.p K.l K.e K.R K.s K.m K.args K.below K.meth K.c H' (locs ++ [⟨K.ks.ad a, K.ks.G.2 ci k⟩]) K.cells K.slots K.Q (F0 K.m (pc + 3) ls (st.map (cv K.ks.ad))) := fun H' e1 e2 e3 => by
    have hHn : HH (KSk K.ks a (.inl (ci, ds.set k (1, b)))) w H' := by
      refine hH.putk G.2.2.2.2.2.2.1 hk e3 ⟨_, hC.1, t_OB.to (V := updV (vp_V (fvs K.ks.ad w a 0 ds)) k (.ref (K.ks.ad b))) ⟨_, e1, q2, q3, t_set q4 hap hkN (.ref (K.ks.ad b))⟩ (fun j _ => ?_)⟩
      show _ = vp_V (fvs K.ks.ad w a 0 (ds.set k (1, b))) j
      rw [fvs_set]
      exact vp_updV_set (by rw [fvs_len]; exact hkl) _ j
    have hCn : Clo (KSk K.ks a (.inl (ci, ds.set k (1, b)))) w := hc.k (fun t ht => (tgt_set ht).elim (fun e => e ▸ hb) (fun h => hc a hk.1 t (by rw [hk.2]; exact h)))
    exact kk (G.n rfl rfl rfl G.2.2.2.2.2.2.1 G.2.2.2.2.2.2.2.1 G.2.2.2.2.2.2.2.2.2.2.2.2.1 G.2.2.2.2.2.2.2.2.2.2.2.2.2) hCn H' _ ls hHn (hS.put e2 e3 (G.2.2.2.2.2.2.2.1 a hk.1)) hL
  rcases hfin with hfin | ⟨hfin, hin2, hdecl⟩
  · have hlay := G.2.2.2.2.1 _ (hC.2.1 _ (u_in_lay hkN))
    unfold u_lay at hlay
    rw [if_neg (by rw [hfin]; decide)] at hlay
    have hst := (u_facts hfc hkC (u_lays G.2.2.2.2.1 hC.2.1 hkN) hi).1
    have h6 := u_store hfc hkC hkind hlay hi (hC.2.2.1 k hkN) (hn (K.ks.ad b)) (hfit (K.ks.ad b))
    refine W.putK G.1 G.2.1 (f := f) ⟨G.2.2.2.1, G.2.2.2.2.1 _ hq, ⟨_, _, _, hi⟩, hst⟩ (by rw [q2]; exact h6) q1 q3 (by rw [hsl]; exact k2_hasslot (q4 k hkN)) rfl rfl hd fun H' e1 e2 e3 => ?_
    rw [hsl] at e1 ⊢
    exact key H' e1 e2 e3
  · have hlay := G.2.2.2.2.1 _ (hC.2.1 _ (u_in_lay hkN))
    unfold u_lay at hlay
    rw [if_pos hfin] at hlay
    have hst := (u_facts hfc hkC (u_lays G.2.2.2.2.1 hC.2.1 hkN) hi).1
    have hcf : K.m.cls = cf := by
      obtain ⟨_, _, c', _, _, _, -, -, hf', -, -, -, hown2, -⟩ := Cond.laysFinal_spec hlay
      have e1 : c' = cf := by have := hi.symm.trans hf'; simp at this; exact this.1.symm
      rw [hdecl] at hown2
      rw [← e1]; exact Option.some.inj (G.2.2.2.1.symm.trans hown2)
    have h6 := u_fits hfc hkC hkind (Or.inr hlay) hi (hC.2.2.1 k hkN) (hn (K.ks.ad b)) (hfit (K.ks.ad b))
    refine W.putFinK G.1 G.2.1 G.2.2.2.1 (G.2.2.2.2.1 _ hq) hi hst hcf hin2 (by rw [q2]; exact h6) q1 q3 (by rw [hsl]; exact k2_hasslot (q4 k hkN)) rfl rfl hd fun H' e1 e2 e3 => ?_
    rw [hsl] at e1 ⊢
    exact key H' e1 e2 e3
theorem x_objI (G : GK K cc own nL d) {a : Nat} (hl : Cond.methodLink own i Lib.objectInit ∈ gtbl) (hi : Cond.instanceMethod Lib.objectInit ∈ gtbl) (hc : Cond.code Lib.objectInit ⟨#[0xb1]⟩ 1 none ∈ gtbl) (hdd : Nat.blt 0 d = true) (h8 : Nat.ble (st.map fun v => v.category).sum 8 = true) (hd : decode cc pc = .ok (.invokespecial i, 3)) (kk : XW K (pc + 3) lv st w) : XW K pc lv (.ref a :: st) w := fun H locs ls hH hS hL => by
  have hdd : 0 < d := Nat.le_of_ble_eq_true hdd
  have h8' : ((st.map (cv K.ks.ad)).map fun v => v.category).sum ≤ 8 := by rw [cv_cats]; exact Nat.le_of_ble_eq_true h8
  obtain ⟨r1, r2, -⟩ := G.2.2.2.2.2.2.2.2.2.2
  exact W.objInit G.1 G.2.1 G.2.2.2.1 (G.2.2.2.2.1 _ hl) (G.2.2.2.2.1 _ hi) (G.2.2.2.2.1 _ hc) rfl (hL.1) rfl hd (by omega) (by show 2 * 0 + _ + 12 ≤ _; omega) (kk H locs ls hH hS hL)
/-- what the tables say of the arrays of references -/
def XC (U : State) : Prop := va_AO "LowFall$Line" U ∧ va_AO "LowFall$Tape" U ∧ (Cond.arrayOver (.array .int)).before #[] U = true
def XCs (S : KS) : Prop := ∀ A U H, S.X A U H → XC U
theorem x_newQ (G : GK K cc own nL d) {C : String} {t0 n : Nat} {z : Int32} {v : Nat} (ht : (t0 = 3 ∧ C = "LowFall$Line") ∨ (t0 = 4 ∧ C = "LowFall$Tape")) (hX : XCs K.ks) (hcl : Cond.classLink own i C ∈ gtbl) (hz : ¬ z < 0) (hzn : z.toNatClampNeg = n) (hb : n * 4 ≤ 536870912) (hc : Clo K.ks w) (hv : ¬ K.ks.D v) (h1 : K.cells + 1 ≤ K.R.cells) (h2 : K.slots + n ≤ K.R.slots) (hlv : noV v lv = true) (hst : noVs v st = true) (hd : decode cc pc = .ok (.anewarray i, 3)) (kk : XN K cc own nL d v (.inr (t0, n, nt)) n (pc + 3) lv st w) : XW K pc lv (.int z :: st) w := fun H locs ls hH hS hL => by
  subst hzn
  have hx := hX _ _ _ G.2.2.2.2.2.1.2.2.1
  have hao : va_AO C K.s := by
    rcases ht with ⟨_, rfl⟩ | ⟨_, rfl⟩
    · exact hx.1
    · exact hx.2.1
  refine W.anew G.1 G.2.1 G.2.2.2.1 (G.2.2.2.2.1 _ hcl) (va_AO.use hao) rfl hd rfl hz hb h1 h2 fun cA kA comp f1 f2 f3 f4 => ?_
  generalize hH1 : H.push ({ cls := cA, slots := Array.replicate z.toNatClampNeg .null, vm := .none } : Cell) = H1
  have z1 : H1.size = H.size + 1 := by rw [← hH1, Array.size_push]
  have e1 : H1[H.size]? = some (arrV cA z.toNatClampNeg (fun _ => .null)) := by rw [← hH1, Array.getElem?_push_size, ← arrV_new]
  have o1 : ∀ q : Nat, q < H.size → H1[q]? = H[q]? := fun q hq => by rw [← hH1, Array.getElem?_push, if_neg (Nat.ne_of_lt hq)]
  have hcA : cA = K.ks.cA t0 := by
    have h3 := (G.2.2.2.2.2.1.1.2 t0 (K.ks.cA t0, .object C) (by
      rcases ht with ⟨rfl, e⟩ | ⟨rfl, e⟩ <;> rw [e] <;> rfl)).2
    obtain ⟨kA', comp', -, -, -, h4⟩ := h3
    exact Option.some.inj (f1.symm.trans h4)
  have he : va_at K.ks.G vwCl (H.size, cellOf K.ks.ad K.ks.cA (zi w v) v (.inr (t0, z.toNatClampNeg, nt))) H1 := by
    rcases ht with ⟨rfl, e⟩ | ⟨rfl, e⟩ <;> rw [hcA] at e1 <;> exact e1
  obtain ⟨a1, a2, a3, a4⟩ := g_born G (k := .inr (t0, z.toNatClampNeg, nt)) hH hS hc hv (fun _ => rfl) z1 o1 he h1 h2
  have := kk H.size hS.1 a1 a3 H1 locs ls a2 a4 (hL.n (fun a ha => if_neg ha) hlv)
  have e5 : (Value.ref v :: st).map (cv (Kn K (KSx K.ks v H.size (.inr (t0, z.toNatClampNeg, nt))) (K.cells + 1) (K.slots + z.toNatClampNeg)).ks.ad) = .ref H.size :: st.map (cv K.ks.ad) := by
    show Value.ref (if v = v then H.size else K.ks.ad v) :: st.map (cv (KSx K.ks v H.size (.inr (t0, z.toNatClampNeg, nt))).ad) = _
    rw [if_pos rfl, noVs_map (v := v) (ad := K.ks.ad) (ad' := (KSx K.ks v H.size (.inr (t0, z.toNatClampNeg, nt))).ad) (fun a ha => if_neg ha) hst]
  rw [e5] at this
  exact this
end PUTR
section ASTR
variable {K : KT} {cc : ByteArray} {own : String} {nL d pc i : Nat} {lv : List (Option Value)} {st : List Value} {w : Wd}
theorem x_astR (G : GK K cc own nL d) {a b n t0 cb : Nat} {f : Nat → Option Nat} {C : String} {T : u_T} {N : Nat} {ty : Nat → FieldType} {dsb : List (Nat × Nat)} {j : Int32} (ht : (t0 = 3 ∧ C = "LowFall$Line") ∨ (t0 = 4 ∧ C = "LowFall$Tape")) (hk : KD K.ks a (.inr (t0, n, f))) (hb : KD K.ks b (.inl (cb, dsb))) (hC : CLS cb C T N ty) (hj : inb j n = true) (hc : Clo K.ks w) (hd : decode cc pc = .ok (.aastore, 1)) (kk : GK (Kn K (KSk K.ks a (.inr (t0, n, va_up f j.toNatClampNeg (some b)))) K.cells K.slots) cc own nL d → Clo (KSk K.ks a (.inr (t0, n, va_up f j.toNatClampNeg (some b)))) w → XW (Kn K (KSk K.ks a (.inr (t0, n, va_up f j.toNatClampNeg (some b)))) K.cells K.slots) (pc + 1) lv st w) : XW K pc lv (.ref b :: .int j :: .ref a :: st) w := fun H locs ls hH hS hL => by
  have hin := inb_vp hj
  have hlt : j.toNatClampNeg < n := Nat.not_le.mp fun q => hin (Or.inr q)
  have h0 : ¬ j < 0 := fun q => hin (Or.inl q)
  have hK := G.2.2.2.2.2.1.1
  have hPb := hH.one hb
  obtain ⟨r', hr', cellV, g1, g2, g3, -⟩ := hPb 0 _ rfl
  have hcls := (hK.1 cb _ hC.1).2
  have h3t : 3 ≤ t0 := by rcases ht with ⟨rfl, _⟩ | ⟨rfl, _⟩ <;> omega
  have hcell : cellOf K.ks.ad K.ks.cA w a (.inr (t0, n, f)) = .inl (K.ks.cA t0, n, .inr (.inr (.inr (.inr (fun i => (f i).map K.ks.ad))))) := by
    rcases ht with ⟨rfl, _⟩ | ⟨rfl, _⟩ <;> rfl
  have hPa := hH.one hk 0 _ rfl
  rw [hcell] at hPa
  obtain ⟨kA, comp, k1, k2, k3, -⟩ := (hK.2 t0 (K.ks.cA t0, .object C) (by
      rcases ht with ⟨rfl, e⟩ | ⟨rfl, e⟩ <;> rw [e] <;> rfl)).2
  have hcomp : comp = K.ks.G.1 cb := Option.some.inj (k3.symm.trans hcls.1)
  subst hcomp
  obtain ⟨kC, hkC, -⟩ := hcls.2
  refine W.aast G.1 G.2.1 hPa (fun q h => by cases h) (fun h => by cases h) k1 k2 rfl hkC ⟨h0, by show _ < (arrV _ _ _).slots.size; rw [arrV_size]; exact hlt⟩ g1 (fun q h => by rw [g3] at h; cases h) (by rw [g2]; exact hkC) (by rw [g2]; exact va_assign hcls) rfl rfl hd fun H1 e z oq => ?_
  have he : va_at K.ks.G vwCl (K.ks.ad a, cellOf K.ks.ad K.ks.cA w a (.inr (t0, n, va_up f j.toNatClampNeg (some b)))) H1 := by
    have hcell2 : cellOf K.ks.ad K.ks.cA w a (.inr (t0, n, va_up f j.toNatClampNeg (some b))) = .inl (K.ks.cA t0, n, .inr (.inr (.inr (.inr (fun i => (va_up f j.toNatClampNeg (some b) i).map K.ks.ad))))) := by
      rcases ht with ⟨rfl, _⟩ | ⟨rfl, _⟩ <;> rfl
    rw [hcell2]
    show H1[K.ks.ad a]? = some (vp_cell _ _)
    rw [e]
    rw [vp_cell_q, vp_cell_q, arrV_store]
    congr 2
    funext q
    by_cases hq : q = j.toNatClampNeg
    · subst hq
      simp [updV, va_up, va_rf]
    · simp [updV, va_up, hq]
  have hHn := hH.putk G.2.2.2.2.2.2.1 hk oq he
  have hCn : Clo (KSk K.ks a (.inr (t0, n, va_up f j.toNatClampNeg (some b)))) w := hc.k (fun t ht2 => by
    obtain ⟨h3, q, hqm, hq⟩ := ht2
    by_cases e2 : q = j.toNatClampNeg
    · subst e2
      simp [va_up] at hq
      exact hq ▸ hb.1
    · simp [va_up, e2] at hq
      exact hc a hk.1 t (by rw [hk.2]; exact ⟨h3, q, hqm, hq⟩))
  exact kk (G.n rfl rfl rfl G.2.2.2.2.2.2.1 G.2.2.2.2.2.2.2.1 G.2.2.2.2.2.2.2.2.2.2.2.2.1 G.2.2.2.2.2.2.2.2.2.2.2.2.2) hCn H1 _ ls hHn (hS.put z oq (G.2.2.2.2.2.2.2.1 a hk.1)) hL
end ASTR
theorem noVs_mem {v : Nat} : ∀ {st : List Value}, noVs v st = true → ¬ Value.ref v ∈ st
  | [], _, h => by cases h
  | x :: r, hn, h => by
    rcases List.mem_cons.mp h with e | h2
    · subst e
      simp [noVs, Nat.beq_refl] at hn
    · refine noVs_mem (st := r) ?_ h2
      cases x with
      | ref b => exact (by simpa [noVs] using hn : (!Nat.beq b v) = true ∧ noVs v r = true).2
      | _ => exact hn
-- constructors: contracts, calls, start, return
def rmC (d c s : Nat) : Room := { frames := d, cells := c, slots := s, locals := 60 * d }
def EX (S S' : KS) (w' : Wd) (sz lo hi v0 : Nat) : Prop :=
  (S'.G = S.G ∧ S'.cA = S.cA ∧ S'.X = S.X) ∧ (∀ a, ¬ (lo ≤ a ∧ a ≤ hi) → a ≠ v0 → (S'.D a ↔ S.D a) ∧ S'.kd a = S.kd a) ∧ (∀ a, ¬ (lo ≤ a ∧ a ≤ hi) → S'.ad a = S.ad a) ∧ (∀ a, lo ≤ a → a ≤ hi → S'.D a → sz ≤ S'.ad a) ∧ Inj S' ∧ Clo S' w'
def CK (l : Launch) (y : MethodName) (b : ByteArray) (n : Nat) (d c s : Nat) (S : KS) (v0 lo hi : Nat) (w w' : Wd) (L : List (Nat × Kd)) : Prop := ∀ sz : Nat, Met l y (wsM y b n none) (rmC d c s) (va_Pc [.ref (S.ad v0)] (fun U => U.heap.size = sz ∧ HH S w U.heap ∧ KK S (AA S sz) U U.heap)) (va_Qv (fun S' : KS => EX S S' w' sz lo hi v0 ∧ ∀ q ∈ L, KD S' q.1 q.2) (fun S' t => HH S' w' t.heap) (AA S sz)) c s (AA S sz)
def RC (K : KT) (S : KS) (sz v0 lo hi c s : Nat) (w' : Wd) (L : List (Nat × Kd)) : Prop := K.meth.sig.returnType = none ∧ K.Q = MQ K.below (va_Qv (fun S' : KS => EX S S' w' sz lo hi v0 ∧ ∀ q ∈ L, KD S' q.1 q.2) (fun S' t => HH S' w' t.heap) K.A) K.args K.s c s K.A ∧ K.H0 = K.s.heap ∧ K.meth.name = "<init>"
section CTOR
variable {K : KT} {cc : ByteArray} {own : String} {nL d pc i : Nat} {lv : List (Option Value)} {st : List Value} {w w' : Wd} {y : MethodName} {b : ByteArray} {n d' c s : Nat} {host : String} {a lo hi : Nat} {L : List (Nat × Kd)}
theorem x_cret (G : GK K cc own nL d) {S : KS} {sz v0 : Nat} (hR : RC K S sz v0 lo hi c s w L) (hc : K.cells ≤ c) (hs : K.slots ≤ s) (hE : EX S K.ks w sz lo hi v0) (hL9 : ∀ q ∈ L, KD K.ks q.1 q.2) (hd : decode cc pc = .ok (.return_, 1)) : XW K pc lv [] w := fun H locs ls hH hS hL => by
  obtain ⟨h1, h2, h3, -⟩ := hR
  have hlk : K.meth.locks = false := G.2.2.2.2.2.2.2.2.2.1
  rw [h2]
  refine W.widen (k := c) (n := s) hc hs ?_
  exact W.vret G.1 G.2.1 h1 (fun t ht hW => ⟨⟨K.ks, rfl, ⟨hE, hL9⟩, by show HH K.ks w t.heap; rw [ht]; exact hH⟩, va_S.F (by rw [← h3]; exact hS) ht⟩) hS.2.2 hd (hlocks := hlk)
theorem x_ck_post (G : GK K cc own nL d) {S' : KS} {sz : Nat} (hz : K.H0.size ≤ sz) (hv : K.ks.D a) (hab : ¬ (lo ≤ a ∧ a ≤ hi)) (hE : EX K.ks S' w' sz lo hi a) (h1 : K.cells + c ≤ K.R.cells) (h2 : K.slots + s ≤ K.R.slots) : GK (Kn K S' (K.cells + c) (K.slots + s)) cc own nL d := by
  obtain ⟨⟨e1, e2, e3⟩, e4, e5, e6, e7, e8⟩ := hE
  refine G.n e1 e2 e3 e7 (fun k hk => ?_) h1 h2
  by_cases hb : lo ≤ k ∧ k ≤ hi
  · exact G.2.2.2.2.2.2.2.2.1 _ (Nat.le_trans hz (e6 k hb.1 hb.2 hk))
  · rw [e5 k hb]
    by_cases h9 : k = a
    · rw [h9]
      exact G.2.2.2.2.2.2.2.1 a hv
    · exact G.2.2.2.2.2.2.2.1 k ((e4 k hb h9).1.mp hk)
end CTOR
/-- the words of a constructor's call: of the nest, or plain -/
def MIN (own : String) (i : Nat) (y : MethodName) (host : String) (b : ByteArray) (n : Nat) : Prop :=
  ((own, i, y, host) ∈ nestQ ∧ Cond.instanceMethod y ∈ gtbl ∧ Cond.initialized y.cls ∈ gtbl ∧ Cond.code y b n none ∈ gtbl) ∧ (y.cls ≠ "java/lang/invoke/MethodHandle" ∧ y.cls ≠ "java/lang/invoke/VarHandle" ∧ (parseMethodDescriptor y.desc).map (fun d => d.parameters.length) = some 0) ∧ y.name = "<init>"
def MIP (own : String) (i : Nat) (y : MethodName) (b : ByteArray) (n : Nat) : Prop :=
  (Cond.methodLink own i y ∈ gtbl ∧ Cond.instanceMethod y ∈ gtbl ∧ Cond.initialized y.cls ∈ gtbl ∧ Cond.code y b n none ∈ gtbl) ∧ (y.cls ≠ "java/lang/invoke/MethodHandle" ∧ y.cls ≠ "java/lang/invoke/VarHandle" ∧ (parseMethodDescriptor y.desc).map (fun d => d.parameters.length) = some 0) ∧ y.name = "<init>"
section CTOC
variable {K : KT} {cc : ByteArray} {own : String} {nL d pc i : Nat} {lv : List (Option Value)} {st : List Value} {w w' : Wd} {y : MethodName} {b : ByteArray} {n d' c s : Nat} {host : String} {a lo hi : Nat} {L : List (Nat × Kd)}
theorem x_ck_fin (G : GK K cc own nL d) {H : Heap} {locs : List Loc} {ls : Array Slot} (hS : va_S K.A K.H0 H locs) (hL : LH K ls lv) (hv : K.ks.D a) (hab : ¬ (lo ≤ a ∧ a ≤ hi)) (h1 : K.cells + c ≤ K.R.cells) (h2 : K.slots + s ≤ K.R.slots) (hlv : ∀ v, lo ≤ v → v ≤ hi → noV v lv = true) (hst : ∀ v, lo ≤ v → v ≤ hi → noVs v st = true) (kk : ∀ S' : KS, EX K.ks S' w' H.size lo hi a → (∀ q ∈ L, KD S' q.1 q.2) → GK (Kn K S' (K.cells + c) (K.slots + s)) cc own nL d → XW (Kn K S' (K.cells + c) (K.slots + s)) (pc + 3) lv st w') {S' : KS} (hE : EX K.ks S' w' H.size lo hi a) (hQ : ∀ q ∈ L, KD S' q.1 q.2) {H1 : Heap} {locs1 : List Loc} (hH1 : HH S' w' H1) (hS1 : va_S K.A K.H0 H1 locs1) : W K.p K.l K.e K.R K.s K.m K.args K.below K.meth K.c H1 locs1 (K.cells + c) (K.slots + s) K.Q (F0 K.m (pc + 3) ls (st.map (cv K.ks.ad))) := by
  have hG := x_ck_post (sz := H.size) G hS.1 hv hab hE h1 h2
  have had := hE.2.2.1
  have hLn : LH (Kn K S' (K.cells + c) (K.slots + s)) ls lv := by
    refine ⟨hL.1, hL.2.1, fun i x hi => ?_⟩
    rw [hL.2.2 i x hi]
    show some (Slot.val (cv K.ks.ad x)) = some (Slot.val (cv S'.ad x))
    cases x with
    | ref v =>
      show some (Slot.val (.ref (K.ks.ad v))) = some (Slot.val (.ref (S'.ad v)))
      rw [had v (fun h => noV_get (hlv v h.1 h.2) i v hi rfl)]
    | _ => rfl
  have hstk : st.map (cv S'.ad) = st.map (cv K.ks.ad) := by
    refine List.map_congr_left fun x hx => ?_
    cases x with
    | ref v =>
      show Value.ref _ = Value.ref _
      rw [had v (fun h => noVs_mem (hst v h.1 h.2) hx)]
    | _ => rfl
  have := kk S' hE hQ hG H1 locs1 ls hH1 hS1 hLn
  have e9 : st.map (cv (Kn K S' (K.cells + c) (K.slots + s)).ks.ad) = st.map (cv K.ks.ad) := hstk
  rw [e9] at this
  exact this
theorem x_ctorN (G : GK K cc own nL d) (hM : CK K.l y b n d' c s K.ks a lo hi w w' L) (hm : MIN own i y host b n) (hv : K.ks.D a) (hab : ¬ (lo ≤ a ∧ a ≤ hi)) (hdd : Nat.blt d' d = true) (hn : Nat.ble n 41 = true) (h8 : Nat.ble (st.map fun v => v.category).sum 8 = true) (h1 : K.cells + c ≤ K.R.cells) (h2 : K.slots + s ≤ K.R.slots) (hlv : ∀ v, lo ≤ v → v ≤ hi → noV v lv = true) (hst : ∀ v, lo ≤ v → v ≤ hi → noVs v st = true) (hd : decode cc pc = .ok (.invokespecial i, 3)) (kk : ∀ (S' : KS) (z : Nat), K.H0.size ≤ z → EX K.ks S' w' z lo hi a → (∀ q ∈ L, KD S' q.1 q.2) → GK (Kn K S' (K.cells + c) (K.slots + s)) cc own nL d → XW (Kn K S' (K.cells + c) (K.slots + s)) (pc + 3) lv st w') : XW K pc lv (.ref a :: st) w := fun H locs ls hH hS hL => by
  have hA := g_inA G hS
  have h8' : (st.map fun v => v.category).sum ≤ 8 := Nat.le_of_ble_eq_true h8
  obtain ⟨⟨m1, m2, m3, m5⟩, h, hnm⟩ := hm
  have hn : n ≤ 41 := Nat.le_of_ble_eq_true hn
  have hd9 : d' < d := Nat.le_of_ble_eq_true hdd
  obtain ⟨r1, r2, -⟩ := G.2.2.2.2.2.2.2.2.2.2
  have cw : va_CN K.R K.s K.args own i y host b n none (wsM y b n none) (rmC d' c s) c s 0 := va_cnB 0 G.2.2.2.2.1 (good_gtbl (fun _ h => h) m5) rfl rfl rfl (G.2.2.2.2.2.1.2.1 _ m1) (G.2.2.2.2.1 _ m3) h ⟨by show d' + 1 ≤ _; omega, by show 8 + (n + 11) + 60 * d' ≤ _; omega⟩
  refine va_callv (va_runIN (As := []) (rest := st.map (cv K.ks.ad)) (b := K.ks.ad a) (g_fix G) (hM H.size) ⟨cw, hnm, G.2.2.2.2.1 _ m2⟩ ⟨pc_blind (av := [.ref (K.ks.ad a)]) G.2.2.2.2.2.2.1, g_pre G hS hH [.ref a]⟩ rfl rfl (hL.1.trans G.2.2.1) rfl (lv_room (by rw [cv_cats]; exact h8')) hd ⟨h1, h2⟩) hS hA.1 hA.2 (fun u t H1 locs1 ht hvm hp hB hz hk1 hS1 => ?_)
  exact x_ck_fin G hS hL hv hab h1 h2 hlv hst (fun S' e1 e2 e3 => kk S' H.size hS.1 e1 e2 e3) hp.1 hp.2 (by rw [← ht]; exact hB) hS1
end CTOC
section CTOP
variable {K : KT} {cc : ByteArray} {own : String} {nL d pc i : Nat} {lv : List (Option Value)} {st : List Value} {w w' : Wd} {y : MethodName} {b : ByteArray} {n d' c s : Nat} {host : String} {a lo hi : Nat} {L : List (Nat × Kd)}
theorem x_ctorP (G : GK K cc own nL d) (hM : CK K.l y b n d' c s K.ks a lo hi w w' L) (hm : MIP own i y b n) (hv : K.ks.D a) (hab : ¬ (lo ≤ a ∧ a ≤ hi)) (hdd : Nat.blt d' d = true) (hn : Nat.ble n 41 = true) (h8 : Nat.ble (st.map fun v => v.category).sum 8 = true) (h1 : K.cells + c ≤ K.R.cells) (h2 : K.slots + s ≤ K.R.slots) (hlv : ∀ v, lo ≤ v → v ≤ hi → noV v lv = true) (hst : ∀ v, lo ≤ v → v ≤ hi → noVs v st = true) (hd : decode cc pc = .ok (.invokespecial i, 3)) (kk : ∀ (S' : KS) (z : Nat), K.H0.size ≤ z → EX K.ks S' w' z lo hi a → (∀ q ∈ L, KD S' q.1 q.2) → GK (Kn K S' (K.cells + c) (K.slots + s)) cc own nL d → XW (Kn K S' (K.cells + c) (K.slots + s)) (pc + 3) lv st w') : XW K pc lv (.ref a :: st) w := fun H locs ls hH hS hL => by
  have hA := g_inA G hS
  have h8' : (st.map fun v => v.category).sum ≤ 8 := Nat.le_of_ble_eq_true h8
  obtain ⟨⟨m1, m2, m3, m5⟩, ⟨q1, q2, q3⟩, hnm⟩ := hm
  have hn : n ≤ 41 := Nat.le_of_ble_eq_true hn
  have hd9 : d' < d := Nat.le_of_ble_eq_true hdd
  obtain ⟨r1, r2, -⟩ := G.2.2.2.2.2.2.2.2.2.2
  have cw := cwI (R := K.R) (rm := rmC d' c s) (mc := c) (ms := s) (bytes := b) (maxL := n) (own := own) (index := i) (y := y) (ws := wsM y b n none) 0 G.2.2.2.2.1 (good_gtbl (fun _ h => h) m5) rfl rfl rfl (G.2.2.2.2.1 _ m3) (G.2.2.2.2.1 _ m1) (G.2.2.2.2.1 _ m2) hnm ⟨q1, q2, q3⟩ ⟨by show d' + 1 ≤ _; omega, by show 8 + (n + 11) + 60 * d' ≤ _; omega⟩
  refine va_callv (va_runI (As := []) (rest := st.map (cv K.ks.ad)) (b := K.ks.ad a) (g_fix G) (hM H.size) cw ⟨pc_blind (av := [.ref (K.ks.ad a)]) G.2.2.2.2.2.2.1, g_pre G hS hH [.ref a]⟩ rfl rfl (hL.1.trans G.2.2.1) rfl (lv_room (by rw [cv_cats]; exact h8')) hd ⟨h1, h2⟩) hS hA.1 hA.2 (fun u t H1 locs1 ht hvm hp hB hz hk1 hS1 => ?_)
  exact x_ck_fin G hS hL hv hab h1 h2 hlv hst (fun S' e1 e2 e3 => kk S' H.size hS.1 e1 e2 e3) hp.1 hp.2 (by rw [← ht]; exact hB) hS1
end CTOP
theorem mk_entryC {l : Launch} {y : MethodName} {b : ByteArray} {n d c s : Nat} {S : KS} {v0 lo hi : Nat} {w w' : Wd} {L : List (Nat × Kd)} {own : String} {lv : List (Option Value)} (hown : y.cls = own) (hy : plainName y.cls = true) (hyn : y.name = "<init>") (hI : Inj S) (m : Nat) (hlv : some (.ref v0) :: List.replicate m none = lv) (hsl : Nat.ble 1 n = true)
    (body : ∀ (K : KT) (sz : Nat), K.l = l → K.ks = S → K.H0.size = sz → RC K S sz v0 lo hi c s w' L → K.cells = 0 → K.slots = 0 → c ≤ K.R.cells → s ≤ K.R.slots → GK K b own n d → XW K 0 lv [] w) :
    CK l y b n d c s S v0 lo hi w w' L := by
  intro sz
  refine Met.ofW (cc := b) (maxL := n) (ret := none) hy rfl ?_
  intro p e s9 m' args below meth c9 s₁ B hml hv
  obtain ⟨rfl, hsz, hH, hK⟩ := hv
  have hts := atoms_spec (ws := wsM y b n none) B.pre
  have hown' : s9.vm.findClass own = some m'.cls := hown ▸ findClass_of_methodNamed B.named
  have hsl' : (lg_sl [Value.ref (S.ad v0)]).length ≤ n := Nat.le_of_ble_eq_true hsl
  have hl := lv_entry [Value.ref (S.ad v0)] hsl'
  rw [lg_entry_eq]
  let K : KT := ((p, l, e, (headSpec (wsM y b n none) (rmC d c s)).room, s9, m', [Value.ref (S.ad v0)].toArray, below), (meth, c9, MQ below (va_Qv (fun S' : KS => EX S S' w' sz lo hi v0 ∧ ∀ q ∈ L, KD S' q.1 q.2) (fun S' t => HH S' w' t.heap) (AA S sz)) [Value.ref (S.ad v0)].toArray s9 c s (AA S sz), 0, 0), S, AA S sz, s9.heap)
  have G : GK K b own n d := ⟨B.exec, B.bytes, hml, hown', fun w hw => hts w (List.mem_cons_of_mem _ hw), hK, hI, fun k hk => Or.inl ⟨k, hk, rfl⟩, fun q hq => Or.inr (by rw [← hsz]; exact hq), B.notSynchronized, Nat.le_refl d, Nat.le_refl (60 * d), Nat.zero_le c, Nat.zero_le s⟩
  refine body K sz rfl rfl hsz ⟨B.returns, rfl, rfl, (name_of_methodNamed B.named B.method).1.trans hyn⟩ rfl rfl (Nat.le_refl c) (Nat.le_refl s) G s9.heap [] _ hH va_S.rf ?_
  refine ⟨by rw [hl.1]; exact hml.symm, hl.2.1, fun i v hi => hl.2.2 (i, cv S.ad v) ?_⟩
  rw [← hlv] at hi
  have := entL_args S.ad [.ref v0] 0 i v (pad_get (l := [some (.ref v0)]) hi)
  rwa [Nat.zero_add] at this
-- a constructor's walk: what is carried along, and its rows
def CBU (K : KT) (cc : ByteArray) (own : String) (nL d : Nat) (S : KS) (sz lo hi fh v0 c s : Nat) (wF : Wd) (LF : List (Nat × Kd)) (L : List (Nat × Kd)) (nx i j : Nat) (w : Wd) : Prop :=
  GK K cc own nL d ∧ Clo K.ks w ∧ EX S K.ks w sz lo hi v0 ∧ (∀ q ∈ L, KD K.ks q.1 q.2) ∧ (∀ a, nx ≤ a → a ≤ fh → ¬ K.ks.D a) ∧ RC K S sz v0 lo hi c s wF LF ∧ (K.cells = i ∧ K.slots = j ∧ c ≤ K.R.cells ∧ s ≤ K.R.slots ∧ sz = K.H0.size)
theorem KD.x {S : KS} {v q : Nat} {k k' : Kd} {a : Nat} (h : KD S a k) (hv : ¬ S.D v) : KD (KSx S v q k') a k := by
  have hne : a ≠ v := fun e => hv (e ▸ h.1)
  exact ⟨Or.inl h.1, (if_neg hne : (KSx S v q k').kd a = S.kd a).trans h.2⟩
theorem EX.xx {S T : KS} {w w' : Wd} {sz lo hi v0 v q : Nat} {k : Kd} (h : EX S T w sz lo hi v0) (hv : lo ≤ v ∧ v ≤ hi) (hq : sz ≤ q) (hI : Inj (KSx T v q k)) (hC : Clo (KSx T v q k) w') : EX S (KSx T v q k) w' sz lo hi v0 := by
  obtain ⟨h1, h2, h3, h4, -, -⟩ := h
  refine ⟨h1, fun a ha h0 => ?_, fun a ha => ?_, fun a a1 a2 hd => ?_, hI, hC⟩
  · have hne : a ≠ v := fun e => ha (e ▸ hv)
    obtain ⟨e1, e2⟩ := h2 a ha h0
    exact ⟨⟨fun h => e1.mp (h.resolve_right hne), fun h => Or.inl (e1.mpr h)⟩, (if_neg hne : (KSx T v q k).kd a = T.kd a).trans e2⟩
  · have hne : a ≠ v := fun e => ha (e ▸ hv)
    exact (if_neg hne : (KSx T v q k).ad a = T.ad a).trans (h3 a ha)
  · by_cases e : a = v
    · have : (KSx T v q k).ad a = q := if_pos e
      rw [this]
      exact hq
    · have : (KSx T v q k).ad a = T.ad a := if_neg e
      rw [this]
      exact h4 a a1 a2 (hd.resolve_right e)
theorem EX.kk {S T : KS} {w w' : Wd} {sz lo hi v0 v : Nat} {k : Kd} (h : EX S T w sz lo hi v0) (hv : v = v0 ∨ (lo ≤ v ∧ v ≤ hi)) (hI : Inj (KSk T v k)) (hC : Clo (KSk T v k) w') : EX S (KSk T v k) w' sz lo hi v0 := by
  obtain ⟨h1, h2, h3, h4, -, -⟩ := h
  refine ⟨h1, fun a ha h0 => ?_, h3, h4, hI, hC⟩
  have hne : a ≠ v := fun e => hv.elim (fun e2 => h0 (e.trans e2)) (fun h => ha (e ▸ h))
  obtain ⟨e1, e2⟩ := h2 a ha h0
  exact ⟨e1, (if_neg hne : (KSk T v k).kd a = T.kd a).trans e2⟩
theorem KD.kk {S : KS} {v : Nat} {k k' : Kd} {a : Nat} (h : KD S a k) (hv : a ≠ v) : KD (KSk S v k') a k := ⟨h.1, (if_neg hv : (KSk S v k').kd a = S.kd a).trans h.2⟩
theorem KD.kv {S : KS} {v : Nat} {k' : Kd} (h : S.D v) : KD (KSk S v k') v k' := ⟨h, if_pos rfl⟩
section CWALK
variable {K : KT} {cc : ByteArray} {own : String} {nL d pc : Nat} {S : KS} {sz lo hi fh v0 c s : Nat} {wF w : Wd} {LF L : List (Nat × Kd)} {nx i j ci : Nat} {ds : List (Nat × Nat)} {lv : List (Option Value)}
theorem c_fieldA (B : CBU K cc own nL d S sz lo hi fh v0 c s wF LF ((v0, .inl (ci, ds)) :: L) nx i j w) {at0 : ArrayType} {t0 n k ix : Nat} {ty : FieldType} {z : Int32} {C : String} {T : u_T} {N : Nat} {tyC : Nat → FieldType} (hC : CLS ci C T N tyC) (hat : newarray.typeOf at0 = ty) (ht : (t0 = 0 ∧ ty = .int) ∨ (t0 = 1 ∧ ty = .long) ∨ (t0 = 2 ∧ ty = .boolean)) (harr : Cond.arrayClass ty ∈ gtbl) (hz : ¬ z < 0) (hzn : z.toNatClampNeg = n) (hb : n * componentBytes ty ≤ 536870912) (h1 : i + 1 ≤ c) (h2 : j + n ≤ s) (hlv : noV nx lv = true) (h0 : v0 < lo ∨ hi < v0) (hx1 : lo ≤ nx) (hx2 : nx ≤ fh ∧ fh ≤ hi) (hne : ∀ q ∈ L, q.1 ≠ v0) (hkl : Nat.blt k ds.length = true) (hkN : Nat.blt k N = true) (hq : Cond.fieldLink own ix (T k).1 (T k).2.1 (T k).2.2.1 ∈ gtbl) (hfin : (T k).2.2.2 = false ∨ ((T k).2.2.2 = true ∧ (T k).1 = own)) (hn : ∀ q, narrow (tyC k) (.ref q) = .ref q) (hfit : ∀ q, fits (tyC k) (.ref q) = true) (d1 : decode cc pc = .ok (.newarray at0, 2)) (d2 : decode cc (pc + 2) = .ok (.putfield ix, 3))
    (kk : ∀ K' : KT, CBU K' cc own nL d S sz lo hi fh v0 c s wF LF ((v0, .inl (ci, ds.set k (1, nx))) :: (L ++ [(nx, .inr (t0, n, nt))])) (nx + 1) (i + 1) (j + n) (zi w nx) → XW K' (pc + 5) lv [] (zi w nx)) : XW K pc lv [.int z, .ref v0] w := by
  obtain ⟨G, hc, hE, hK, hF, hR, e1, e2, e3, e4, e5⟩ := B
  have hv0 := hK (v0, .inl (ci, ds)) List.mem_cons_self
  have hnv : ¬ K.ks.D nx := hF nx (Nat.le_refl _) hx2.1
  have hne0 : nx ≠ v0 := by omega
  have hst : noVs nx [Value.ref v0] = true := by
    have : Nat.beq v0 nx = false := by
      cases hb9 : Nat.beq v0 nx
      · rfl
      · exact absurd (Nat.eq_of_beq_eq_true hb9).symm hne0
    simp [noVs, this]
  refine x_newA G (v := nx) hat ht harr hz hzn hb hc hnv (by omega) (by omega) hlv hst d1 (fun q hq9 G1 c1 => ?_)
  have hE1 := hE.xx (k := .inr (t0, n, nt)) ⟨hx1, by omega⟩ (by rw [e5]; exact hq9) G1.2.2.2.2.2.2.1 c1
  have hk0 : KD (KSx K.ks nx q (.inr (t0, n, nt))) v0 (.inl (ci, ds)) := hv0.x hnv
  refine x_putR G1 (a := v0) (b := nx) hk0 (Or.inr rfl) k hkl hC hkN hq (hfin.imp id (fun h => ⟨h.1, hR.2.2.2, h.2⟩)) hn hfit c1 d2 (fun G2 c2 => ?_)
  refine kk _ ⟨G2, c2, hE1.kk (Or.inl rfl) G2.2.2.2.2.2.2.1 c2, fun q9 hq8 => ?_, fun a a1 a2 h => ?_, hR, ?_, ?_, e3, e4, e5⟩
  · rcases List.mem_cons.mp hq8 with rfl | hq8
    · exact KD.kv hk0.1
    rcases List.mem_append.mp hq8 with hq8 | hq8
    · exact ((hK q9 (List.mem_cons_of_mem _ hq8)).x hnv).kk (hne q9 hq8)
    · rcases List.mem_cons.mp hq8 with rfl | hq8
      · exact KD.kk ⟨Or.inr rfl, if_pos rfl⟩ hne0
      · cases hq8
  · rcases (show K.ks.D a ∨ a = nx from h) with h | h
    · exact hF a (by omega) a2 h
    · omega
  · show K.cells + 1 = i + 1
    rw [e1]
  · show K.slots + n = j + n
    rw [e2]
end CWALK
theorem tgt_si {w : Wd} {a b k : Nat} {x : Int32} {kd : Kd} {t : Nat} (h : b ≠ a) (ht : tgt (si w a k x) b kd t) : tgt w b kd t := by
  have e : (si w a k x).1 b = w.1 b := if_neg h
  rcases kd with ⟨ci, ds⟩ | ⟨n, m, f⟩
  · obtain ⟨j, d, h1, h2, h3⟩ := ht
    exact ⟨j, d, h1, h2, h3.imp id (fun z => ⟨z.1, fun e4 => z.2 (by rw [e]; exact e4)⟩)⟩
  · exact ht
theorem tgt_si2 {w : Wd} {a k ci : Nat} {x : Int32} {ds : List (Nat × Nat)} {t : Nat} (h : ds[k]? = some (0, 0)) (ht : tgt (si w a k x) a (.inl (ci, ds)) t) : tgt w a (.inl (ci, ds)) t := by
  obtain ⟨j, d, h1, h2, h3⟩ := ht
  refine ⟨j, d, h1, h2, h3.imp id (fun z => ⟨z.1, fun e4 => z.2 ?_⟩)⟩
  have hj : j ≠ k := by
    intro e
    subst e
    rw [h] at h1
    cases h1
    exact absurd z.1 (by decide)
  have e5 : (si w a k x).1 a = upd (w.1 a) k x := if_pos rfl
  rw [e5]
  show (if j = k then x else w.1 a j) = 0
  rw [if_neg hj]
  exact e4
theorem Clo.si {S : KS} {w : Wd} (hc : Clo S w) {a k ci : Nat} {x : Int32} {ds : List (Nat × Nat)} (hk : KD S a (.inl (ci, ds))) (h : ds[k]? = some (0, 0)) : Clo S (si w a k x) := by
  intro b hb t ht
  by_cases e : b = a
  · subst e
    rw [hk.2] at ht
    exact hc b hb t (by rw [hk.2]; exact tgt_si2 h ht)
  · exact hc b hb t (tgt_si e ht)
section CWALI
variable {K : KT} {cc : ByteArray} {own : String} {nL d pc : Nat} {S : KS} {sz lo hi fh v0 c s : Nat} {wF w : Wd} {LF L : List (Nat × Kd)} {nx i j ci : Nat} {ds : List (Nat × Nat)} {lv : List (Option Value)}
theorem c_fieldI (B : CBU K cc own nL d S sz lo hi fh v0 c s wF LF ((v0, .inl (ci, ds)) :: L) nx i j w) {k ix : Nat} {x : Int32} {C : String} {T : u_T} {N : Nat} {tyC : Nat → FieldType} (hC : CLS ci C T N tyC) (hdk : ds[k]? = some (0, 0)) (hkN : Nat.blt k N = true) (hq : Cond.fieldLink own ix (T k).1 (T k).2.1 (T k).2.2.1 ∈ gtbl) (hfin : (T k).2.2.2 = false) (hn : narrow (tyC k) (.int x) = .int x) (hfit : fits (tyC k) (.int x) = true) (d1 : decode cc pc = .ok (.putfield ix, 3))
    (kk : CBU K cc own nL d S sz lo hi fh v0 c s wF LF ((v0, .inl (ci, ds)) :: L) nx i j (si w v0 k x) → XW K (pc + 3) lv [] (si w v0 k x)) : XW K pc lv [.int x, .ref v0] w := by
  obtain ⟨G, hc, hE, hK, hF, hR, e⟩ := B
  have hv0 := hK (v0, .inl (ci, ds)) List.mem_cons_self
  have hc2 := hc.si (x := x) hv0 hdk
  exact x_putI G hv0 k hdk hC hkN hq hfin hn hfit d1 (kk ⟨G, hc2, ⟨hE.1, hE.2.1, hE.2.2.1, hE.2.2.2.1, hE.2.2.2.2.1, hc2⟩, hK, hF, hR, e⟩)
/-- the start: the object stands, its fields are blank -/
theorem c_start {K : KT} {S : KS} (G : GK K cc own nL d) (hks : K.ks = S) (hsz : K.H0.size = sz) (hR : RC K S sz v0 lo hi c s wF LF) (hc0 : K.cells = 0) (hs0 : K.slots = 0) (hcR : c ≤ K.R.cells) (hsR : s ≤ K.R.slots) (hv : KD S v0 (.inl (ci, ds))) (hf : ∀ a, lo ≤ a → a ≤ hi → ¬ S.D a) (hc : Clo S w) : CBU K cc own nL d S sz lo hi hi v0 c s wF LF [(v0, .inl (ci, ds))] lo 0 0 w := by
  subst hks
  refine ⟨G, hc, ⟨⟨rfl, rfl, rfl⟩, fun a _ _ => ⟨Iff.rfl, rfl⟩, fun a _ => rfl, fun a a1 a2 h => absurd h (hf a a1 a2), G.2.2.2.2.2.2.1, hc⟩, fun q hq => ?_, hf, hR, hc0, hs0, hcR, hsR, hsz.symm⟩
  rcases List.mem_cons.mp hq with rfl | hq
  · exact hv
  · cases hq
theorem c_ret (B : CBU K cc own nL d S sz lo hi fh v0 c s w LF LF nx i j w) (h1 : i ≤ c) (h2 : j ≤ s) (hd : decode cc pc = .ok (.return_, 1)) : XW K pc lv [] w := by
  obtain ⟨G, hc, hE, hK, hF, hR, e1, e2, -⟩ := B
  exact x_cret G hR (by omega) (by omega) hE hK hd
end CWALI
