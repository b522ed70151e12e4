-- frames: what a method leaves as it was (printed)
def SameX (l : List (Nat × Nat)) (w w' : Wd) : Prop := ∀ a, (∀ q ∈ l, ¬ (q.1 ≤ a ∧ a ≤ q.2)) → w'.1 a = w.1 a ∧ w'.2 a = w.2 a
theorem SameX.refl (l : List (Nat × Nat)) (w : Wd) : SameX l w w := fun _ _ => ⟨rfl, rfl⟩
theorem SameX.trans {l : List (Nat × Nat)} {a b c : Wd} (h : SameX l a b) (h2 : SameX l b c) : SameX l a c := fun q hq => ⟨(h2 q hq).1.trans (h q hq).1, (h2 q hq).2.trans (h q hq).2⟩
theorem SameX.mono {l m : List (Nat × Nat)} {a b : Wd} (hs : ∀ q ∈ l, q ∈ m) (h : SameX l a b) : SameX m a b := fun q hq => h q (fun p hp => hq p (hs p hp))
theorem SameX.tr {l m : List (Nat × Nat)} {a b c : Wd} (hs : ∀ q ∈ l, q ∈ m) (h : SameX m a b) (h2 : SameX l b c) : SameX m a c := h.trans (h2.mono hs)
theorem itn {α : Type} {c : Prop} [Decidable c] {A : Option α} {r : α} (h : (if c then A else none) = some r) : c ∧ A = some r := by
  rcases ite_or h with ⟨h1, h2⟩ | ⟨_, h2⟩
  · exact ⟨h1, h2⟩
  · cases h2
theorem itz {α : Type} {c : Prop} [Decidable c] {A : Option α} {r : α} (h : (if c then none else A) = some r) : ¬ c ∧ A = some r := by
  rcases ite_or h with ⟨_, h2⟩ | ⟨h1, h2⟩
  · cases h2
  · exact ⟨h1, h2⟩
theorem nwx {α : Type} {e : Wd} {A : Wd → Option α} {r : α} (h : nw e A = some r) : ∃ w, w = e ∧ A w = some r := ⟨e, rfl, h⟩
theorem SameX.of {l : List (Nat × Nat)} {w0 w w' : Wd} {lo hi a : Nat} (h : SameX l w0 w) (hm : (lo, hi) ∈ l) (hb : lo ≤ a ∧ a ≤ hi) (e : ∀ b, b ≠ a → w'.1 b = w.1 b ∧ w'.2 b = w.2 b) : SameX l w0 w' := fun b hb2 => by
  have hne : b ≠ a := fun q => hb2 _ hm (by rw [q]; exact hb)
  exact ⟨(e b hne).1.trans (h b hb2).1, (e b hne).2.trans (h b hb2).2⟩
theorem SameX.tr2 {l : List (Nat × Nat)} {w0 w w' : Wd} {lo hi lo2 hi2 : Nat} (h : SameX l w0 w) (h2 : SameX [(lo2, hi2)] w w') (hm : (lo, hi) ∈ l) (hb : lo ≤ lo2 ∧ hi2 ≤ hi) : SameX l w0 w' := fun b hb2 => by
  have hne := hb2 _ hm
  have h3 := h2 b (fun p hp => by
    simp at hp
    subst hp
    simp only at hne ⊢
    omega)
  exact ⟨h3.1.trans (h b hb2).1, h3.2.trans (h b hb2).2⟩
theorem rowB {what : Int32} {w : Wd} {qa : Nat} (h : fX2_rowToSet what w = some (some qa)) : 3 ≤ qa ∧ qa ≤ 8 := by
  unfold fX2_rowToSet at h
  rcases ite_or h with ⟨_, h⟩ | ⟨_, h⟩
  · cases h; omega
  rcases ite_or h with ⟨_, h⟩ | ⟨_, h⟩
  · cases h; omega
  rcases ite_or h with ⟨_, h⟩ | ⟨_, h⟩
  · cases h; omega
  rcases ite_or h with ⟨_, h⟩ | ⟨_, h⟩
  · cases h; omega
  rcases ite_or h with ⟨_, h⟩ | ⟨_, h⟩
  · cases h; omega
  rcases ite_or h with ⟨_, h⟩ | ⟨_, h⟩
  · cases h; omega
  cases h
theorem SameX.cpr {l : List (Nat × Nat)} {w0 w w' : Wd} {lo hi b : Nat} (h : SameX l w0 w) (h2 : SameX [(b, b)] w w') (hm : (lo, hi) ∈ l) (hb : lo ≤ b ∧ b ≤ hi) : SameX l w0 w' := h.of hm hb (fun q hne => h2 q (fun p hp => by
  simp at hp
  subst hp
  simp
  omega))
theorem SameX.w_si {l : List (Nat × Nat)} {w0 w w' : Wd} {lo hi a i : Nat} {x : Int32} (h : SameX l w0 w) (e : w' = si w a i x) (hm : (lo, hi) ∈ l) (hb : lo ≤ a ∧ a ≤ hi) : SameX l w0 w' := h.of hm hb (fun b hne => by rw [e]; simp [si, hne])
theorem SameX.w_wi {l : List (Nat × Nat)} {w0 w w' : Wd} {lo hi a : Nat} {i x : Int32} (h : SameX l w0 w) (e : w' = wi w a i x) (hm : (lo, hi) ∈ l) (hb : lo ≤ a ∧ a ≤ hi) : SameX l w0 w' := h.w_si e hm hb
theorem SameX.w_wl {l : List (Nat × Nat)} {w0 w w' : Wd} {lo hi a : Nat} {i : Int32} {x : Int64} (h : SameX l w0 w) (e : w' = wl w a i x) (hm : (lo, hi) ∈ l) (hb : lo ≤ a ∧ a ≤ hi) : SameX l w0 w' := h.of hm hb (fun b hne => by rw [e]; simp [wl, sl, hne])
theorem SameX.w_flI {l : List (Nat × Nat)} {w0 w w' : Wd} {lo hi a n : Nat} {x : Int32} (h : SameX l w0 w) (e : w' = flI w a n x) (hm : (lo, hi) ∈ l) (hb : lo ≤ a ∧ a ≤ hi) : SameX l w0 w' := h.of hm hb (fun b hne => by rw [e]; simp [flI, hne])
theorem SameX.w_flJ {l : List (Nat × Nat)} {w0 w w' : Wd} {lo hi a n : Nat} {x : Int64} (h : SameX l w0 w) (e : w' = flJ w a n x) (hm : (lo, hi) ∈ l) (hb : lo ≤ a ∧ a ≤ hi) : SameX l w0 w' := h.of hm hb (fun b hne => by rw [e]; simp [flJ, hne])
theorem SameX.w_cpI {l : List (Nat × Nat)} {w0 w w' : Wd} {lo hi a b : Nat} {sp dp n : Int32} (h : SameX l w0 w) (e : w' = cpI w a sp b dp n) (hm : (lo, hi) ∈ l) (hb : lo ≤ b ∧ b ≤ hi) : SameX l w0 w' := h.of hm hb (fun q hne => by rw [e]; simp [cpI, hne])
theorem SameX.w_cpJ {l : List (Nat × Nat)} {w0 w w' : Wd} {lo hi a b : Nat} {sp dp n : Int32} (h : SameX l w0 w) (e : w' = cpJ w a sp b dp n) (hm : (lo, hi) ∈ l) (hb : lo ≤ b ∧ b ≤ hi) : SameX l w0 w' := h.of hm hb (fun q hne => by rw [e]; simp [cpJ, hne])
theorem frfX4_draftStep {v1 : Int32} {w : Wd} {r : Wd} (hf : fX4_draftStep v1 w = some r) : SameX [(106, 133)] w r := by
  unfold fX4_draftStep at hf
  have ch : SameX [(106, 133)] w w := SameX.refl _ _
  rcases ite_or hf with ⟨_, hf⟩ | ⟨_, hf⟩
  · obtain ⟨hb_2, hf⟩ := itn hf
    obtain ⟨w_3, ew_3, hf⟩ := nwx hf
    have ch := SameX.w_wi (lo := 106) (hi := 133) ch ew_3 (by simp) (by omega)
    obtain ⟨w_4, ew_4, hf⟩ := nwx hf
    have ch := SameX.w_si (lo := 106) (hi := 133) ch ew_4 (by simp) (by omega)
    obtain rfl := Option.some.inj hf
    exact ch
  · obtain rfl := Option.some.inj hf
    exact ch

theorem frfX4_readAnds_5 {r : Wd} (c_readTest : Int32 →  Wd → Option Wd) (hc_readTest : ∀ (v1 : Int32) (w : Wd) (r : Wd), c_readTest v1 w = some r → SameX [(106, 133)] w r) : ∀ (n : Nat) (v1 : Int32) (w : Wd), fX4_readAnds_5 c_readTest n v1 w = some r → SameX [(106, 133)] w r := by
  intro n
  induction n with
  | zero =>
    intro v1 w hf
    unfold fX4_readAnds_5 at hf
    cases hf
  | succ n ih =>
    intro v1 w hf
    unfold fX4_readAnds_5 at hf
    have ch : SameX [(106, 133)] w w := SameX.refl _ _
    rcases ite_or hf with ⟨_, hf⟩ | ⟨_, hf⟩
    · rcases ite_or hf with ⟨_, hf⟩ | ⟨_, hf⟩
      · obtain ⟨v_3, hv_3, hf⟩ := bnd hf
        rcases ite_or hf with ⟨_, hf⟩ | ⟨_, hf⟩
        · obtain ⟨w_5, ew_5, hf⟩ := nwx hf
          have ch := SameX.w_si (lo := 106) (hi := 133) ch ew_5 (by simp) (by omega)
          obtain ⟨v_6, hv_6, hf⟩ := bnd hf
          have ch := SameX.tr (by simp) ch (hc_readTest _ _ _ hv_6)
          obtain ⟨v_7, hv_7, hf⟩ := bnd hf
          have ch := SameX.tr (by simp) ch (frfX4_draftStep hv_7)
          exact ch.trans (ih _ _ hf)
        · obtain rfl := Option.some.inj hf
          exact ch
      · obtain rfl := Option.some.inj hf
        exact ch
    · obtain rfl := Option.some.inj hf
      exact ch

theorem frfX4_readAnds {v1 : Int32} {w : Wd} {r : Wd} (c_readTest : Int32 →  Wd → Option Wd) (hc_readTest : ∀ (v1 : Int32) (w : Wd) (r : Wd), c_readTest v1 w = some r → SameX [(106, 133)] w r) (hf : fX4_readAnds c_readTest v1 w = some r) : SameX [(106, 133)] w r := by
  unfold fX4_readAnds at hf
  have ch : SameX [(106, 133)] w w := SameX.refl _ _
  obtain ⟨v_1, hv_1, hf⟩ := bnd hf
  have ch := SameX.tr (by simp) ch (hc_readTest _ _ _ hv_1)
  exact ch.trans (frfX4_readAnds_5 c_readTest hc_readTest FU _ _ hf)

theorem frfX4_readOrs_5 {r : Wd} (c_readTest : Int32 →  Wd → Option Wd) (hc_readTest : ∀ (v1 : Int32) (w : Wd) (r : Wd), c_readTest v1 w = some r → SameX [(106, 133)] w r) : ∀ (n : Nat) (v1 : Int32) (w : Wd), fX4_readOrs_5 c_readTest n v1 w = some r → SameX [(106, 133)] w r := by
  intro n
  induction n with
  | zero =>
    intro v1 w hf
    unfold fX4_readOrs_5 at hf
    cases hf
  | succ n ih =>
    intro v1 w hf
    unfold fX4_readOrs_5 at hf
    have ch : SameX [(106, 133)] w w := SameX.refl _ _
    rcases ite_or hf with ⟨_, hf⟩ | ⟨_, hf⟩
    · rcases ite_or hf with ⟨_, hf⟩ | ⟨_, hf⟩
      · obtain ⟨v_3, hv_3, hf⟩ := bnd hf
        rcases ite_or hf with ⟨_, hf⟩ | ⟨_, hf⟩
        · obtain ⟨w_5, ew_5, hf⟩ := nwx hf
          have ch := SameX.w_si (lo := 106) (hi := 133) ch ew_5 (by simp) (by omega)
          obtain ⟨v_6, hv_6, hf⟩ := bnd hf
          have ch := SameX.tr (by simp) ch (frfX4_readAnds c_readTest hc_readTest hv_6)
          obtain ⟨v_7, hv_7, hf⟩ := bnd hf
          have ch := SameX.tr (by simp) ch (frfX4_draftStep hv_7)
          exact ch.trans (ih _ _ hf)
        · obtain rfl := Option.some.inj hf
          exact ch
      · obtain rfl := Option.some.inj hf
        exact ch
    · obtain rfl := Option.some.inj hf
      exact ch

theorem frfX4_readOrs {v1 : Int32} {w : Wd} {r : Wd} (c_readTest : Int32 →  Wd → Option Wd) (hc_readTest : ∀ (v1 : Int32) (w : Wd) (r : Wd), c_readTest v1 w = some r → SameX [(106, 133)] w r) (hf : fX4_readOrs c_readTest v1 w = some r) : SameX [(106, 133)] w r := by
  unfold fX4_readOrs at hf
  have ch : SameX [(106, 133)] w w := SameX.refl _ _
  obtain ⟨v_1, hv_1, hf⟩ := bnd hf
  have ch := SameX.tr (by simp) ch (frfX4_readAnds c_readTest hc_readTest hv_1)
  exact ch.trans (frfX4_readOrs_5 c_readTest hc_readTest FU _ _ hf)

theorem frfX4_fail {w : Wd} {r : Wd} (hf : fX4_fail w = some r) : SameX [(106, 133)] w r := by
  unfold fX4_fail at hf
  have ch : SameX [(106, 133)] w w := SameX.refl _ _
  rcases ite_or hf with ⟨_, hf⟩ | ⟨_, hf⟩
  · obtain ⟨w_2, ew_2, hf⟩ := nwx hf
    have ch := SameX.w_si (lo := 106) (hi := 133) ch ew_2 (by simp) (by omega)
    obtain rfl := Option.some.inj hf
    exact ch
  · obtain rfl := Option.some.inj hf
    exact ch

theorem frfX4_readUnit_68 {v2 : Int32} {w : Wd} {r : Wd} (hf : fX4_readUnit_68 v2 w = some r) : SameX [(106, 133)] w r := by
  unfold fX4_readUnit_68 at hf
  have ch : SameX [(106, 133)] w w := SameX.refl _ _
  obtain ⟨v_1, hv_1, hf⟩ := bnd hf
  have ch := SameX.tr (by simp) ch (frfX4_draftStep hv_1)
  obtain rfl := Option.some.inj hf
  exact ch

theorem frfX4_readUnit_20 {r : Wd} : ∀ (n : Nat) (v2 : Int32) (v3 : Int32) (w : Wd), fX4_readUnit_20 n v2 v3 w = some r → SameX [(106, 133)] w r := by
  intro n
  induction n with
  | zero =>
    intro v2 v3 w hf
    unfold fX4_readUnit_20 at hf
    cases hf
  | succ n ih =>
    intro v2 v3 w hf
    unfold fX4_readUnit_20 at hf
    have ch : SameX [(106, 133)] w w := SameX.refl _ _
    rcases ite_or hf with ⟨_, hf⟩ | ⟨_, hf⟩
    · obtain ⟨v_2, hv_2, hf⟩ := bnd hf
      obtain ⟨v_3, hv_3, hf⟩ := bnd hf
      rcases ite_or hf with ⟨_, hf⟩ | ⟨_, hf⟩
      · obtain ⟨v_5, hv_5, hf⟩ := bnd hf
        obtain ⟨w_6, ew_6, hf⟩ := nwx hf
        have ch := SameX.w_si (lo := 106) (hi := 133) ch ew_6 (by simp) (by omega)
        exact ch.trans (ih _ _ _ hf)
      · exact ch.trans (frfX4_readUnit_68 hf)
    · exact ch.trans (frfX4_readUnit_68 hf)

theorem frfX4_readUnit_119 {w : Wd} {r : Wd} (hf : fX4_readUnit_119 w = some r) : SameX [(106, 133)] w r := by
  unfold fX4_readUnit_119 at hf
  have ch : SameX [(106, 133)] w w := SameX.refl _ _
  obtain ⟨v_1, hv_1, hf⟩ := bnd hf
  have ch := SameX.tr (by simp) ch (frfX4_fail hv_1)
  obtain rfl := Option.some.inj hf
  exact ch

theorem frfX4_readUnit {w : Wd} {r : Wd} (hf : fX4_readUnit w = some r) : SameX [(106, 133)] w r := by
  unfold fX4_readUnit at hf
  have ch : SameX [(106, 133)] w w := SameX.refl _ _
  obtain ⟨v_1, hv_1, hf⟩ := bnd hf
  obtain ⟨v_2, hv_2, hf⟩ := bnd hf
  rcases ite_or hf with ⟨_, hf⟩ | ⟨_, hf⟩
  · exact ch.trans (frfX4_readUnit_20 FU _ _ _ hf)
  · obtain ⟨v_4, hv_4, hf⟩ := bnd hf
    rcases ite_or hf with ⟨_, hf⟩ | ⟨_, hf⟩
    · rcases ite_or hf with ⟨_, hf⟩ | ⟨_, hf⟩
      · exact ch.trans (frfX4_readUnit_119 hf)
      · obtain ⟨w_7, ew_7, hf⟩ := nwx hf
        have ch := SameX.w_si (lo := 106) (hi := 133) ch ew_7 (by simp) (by omega)
        obtain ⟨v_8, hv_8, hf⟩ := bnd hf
        have ch := SameX.tr (by simp) ch (frfX4_draftStep hv_8)
        obtain rfl := Option.some.inj hf
        exact ch
    · exact ch.trans (frfX4_readUnit_119 hf)

theorem frfX4_readSum_45 {v1 : Int32} {w : Wd} {r : Wd} (k9 : Int32 → Wd → Option Wd) (hk9 : ∀ (v1 : Int32) (w : Wd), k9 v1 w = some r → SameX [(106, 133)] w r) (hf : fX4_readSum_45 k9 v1 w = some r) : SameX [(106, 133)] w r := by
  unfold fX4_readSum_45 at hf
  have ch : SameX [(106, 133)] w w := SameX.refl _ _
  obtain ⟨w_1, ew_1, hf⟩ := nwx hf
  have ch := SameX.w_si (lo := 106) (hi := 133) ch ew_1 (by simp) (by omega)
  obtain ⟨v_2, hv_2, hf⟩ := bnd hf
  have ch := SameX.tr (by simp) ch (frfX4_readUnit hv_2)
  obtain ⟨v_3, hv_3, hf⟩ := bnd hf
  have ch := SameX.tr (by simp) ch (frfX4_draftStep hv_3)
  obtain ⟨v_4, hv_4, hf⟩ := bnd hf
  exact ch.trans (hk9 _ _ hf)

theorem frfX4_readSum_9 {r : Wd} : ∀ (n : Nat) (v1 : Int32) (w : Wd), fX4_readSum_9 n v1 w = some r → SameX [(106, 133)] w r := by
  intro n
  induction n with
  | zero =>
    intro v1 w hf
    unfold fX4_readSum_9 at hf
    cases hf
  | succ n ih =>
    intro v1 w hf
    unfold fX4_readSum_9 at hf
    have ch : SameX [(106, 133)] w w := SameX.refl _ _
    rcases ite_or hf with ⟨_, hf⟩ | ⟨_, hf⟩
    · rcases ite_or hf with ⟨_, hf⟩ | ⟨_, hf⟩
      · rcases ite_or hf with ⟨_, hf⟩ | ⟨_, hf⟩
        · exact ch.trans (frfX4_readSum_45 (fX4_readSum_9 n) ih hf)
        · rcases ite_or hf with ⟨_, hf⟩ | ⟨_, hf⟩
          · exact ch.trans (frfX4_readSum_45 (fX4_readSum_9 n) ih hf)
          · rcases ite_or hf with ⟨_, hf⟩ | ⟨_, hf⟩
            · exact ch.trans (frfX4_readSum_45 (fX4_readSum_9 n) ih hf)
            · obtain rfl := Option.some.inj hf
              exact ch
      · obtain rfl := Option.some.inj hf
        exact ch
    · obtain rfl := Option.some.inj hf
      exact ch

theorem frfX4_readSum {w : Wd} {r : Wd} (hf : fX4_readSum w = some r) : SameX [(106, 133)] w r := by
  unfold fX4_readSum at hf
  have ch : SameX [(106, 133)] w w := SameX.refl _ _
  obtain ⟨v_1, hv_1, hf⟩ := bnd hf
  have ch := SameX.tr (by simp) ch (frfX4_readUnit hv_1)
  obtain ⟨v_2, hv_2, hf⟩ := bnd hf
  exact ch.trans (frfX4_readSum_9 FU _ _ hf)

theorem frfX4_readTest_77 {v1 : Int32} {v2 : Int32} {w : Wd} {r : Wd} (c_readOrs : Int32 →  Wd → Option Wd) (hc_readOrs : ∀ (v1 : Int32) (w : Wd) (r : Wd), c_readOrs v1 w = some r → SameX [(106, 133)] w r) (c_readTest : Int32 →  Wd → Option Wd) (hc_readTest : ∀ (v1 : Int32) (w : Wd) (r : Wd), c_readTest v1 w = some r → SameX [(106, 133)] w r) (hf : fX4_readTest_77 c_readOrs c_readTest v1 v2 w = some r) : SameX [(106, 133)] w r := by
  unfold fX4_readTest_77 at hf
  have ch : SameX [(106, 133)] w w := SameX.refl _ _
  rcases ite_or hf with ⟨_, hf⟩ | ⟨_, hf⟩
  · rcases ite_or hf with ⟨_, hf⟩ | ⟨_, hf⟩
    · obtain ⟨w_3, ew_3, hf⟩ := nwx hf
      have ch := SameX.w_si (lo := 106) (hi := 133) ch ew_3 (by simp) (by omega)
      obtain ⟨v_4, hv_4, hf⟩ := bnd hf
      have ch := SameX.tr (by simp) ch (hc_readTest _ _ _ hv_4)
      obtain ⟨v_5, hv_5, hf⟩ := bnd hf
      have ch := SameX.tr (by simp) ch (frfX4_draftStep hv_5)
      obtain rfl := Option.some.inj hf
      exact ch
    · obtain ⟨w_6, ew_6, hf⟩ := nwx hf
      have ch := SameX.w_si (lo := 106) (hi := 133) ch ew_6 (by simp) (by omega)
      obtain ⟨v_7, hv_7, hf⟩ := bnd hf
      have ch := SameX.tr (by simp) ch (hc_readOrs _ _ _ hv_7)
      obtain ⟨v_8, hv_8, hf⟩ := bnd hf
      rcases ite_or hf with ⟨_, hf⟩ | ⟨_, hf⟩
      · obtain ⟨w_10, ew_10, hf⟩ := nwx hf
        have ch := SameX.w_si (lo := 106) (hi := 133) ch ew_10 (by simp) (by omega)
        obtain rfl := Option.some.inj hf
        exact ch
      · obtain ⟨v_11, hv_11, hf⟩ := bnd hf
        have ch := SameX.tr (by simp) ch (frfX4_fail hv_11)
        obtain rfl := Option.some.inj hf
        exact ch
  · obtain ⟨v_12, hv_12, hf⟩ := bnd hf
    have ch := SameX.tr (by simp) ch (frfX4_fail hv_12)
    obtain rfl := Option.some.inj hf
    exact ch

theorem frfX4_readTest_44 {v3 : Int32} {w : Wd} {r : Wd} (c_readOrs : Int32 →  Wd → Option Wd) (hc_readOrs : ∀ (v1 : Int32) (w : Wd) (r : Wd), c_readOrs v1 w = some r → SameX [(106, 133)] w r) (c_readTest : Int32 →  Wd → Option Wd) (hc_readTest : ∀ (v1 : Int32) (w : Wd) (r : Wd), c_readTest v1 w = some r → SameX [(106, 133)] w r) (hf : fX4_readTest_44 c_readOrs c_readTest v3 w = some r) : SameX [(106, 133)] w r := by
  unfold fX4_readTest_44 at hf
  have ch : SameX [(106, 133)] w w := SameX.refl _ _
  obtain ⟨w_1, ew_1, hf⟩ := nwx hf
  have ch := SameX.w_si (lo := 106) (hi := 133) ch ew_1 (by simp) (by omega)
  obtain ⟨v_2, hv_2, hf⟩ := bnd hf
  have ch := SameX.tr (by simp) ch (frfX4_readSum hv_2)
  obtain ⟨v_3, hv_3, hf⟩ := bnd hf
  have ch := SameX.tr (by simp) ch (frfX4_draftStep hv_3)
  obtain rfl := Option.some.inj hf
  exact ch

theorem frfX4_readTest {v1 : Int32} {w : Wd} {r : Wd} (c_readOrs : Int32 →  Wd → Option Wd) (hc_readOrs : ∀ (v1 : Int32) (w : Wd) (r : Wd), c_readOrs v1 w = some r → SameX [(106, 133)] w r) (c_readTest : Int32 →  Wd → Option Wd) (hc_readTest : ∀ (v1 : Int32) (w : Wd) (r : Wd), c_readTest v1 w = some r → SameX [(106, 133)] w r) (hf : fX4_readTest c_readOrs c_readTest v1 w = some r) : SameX [(106, 133)] w r := by
  unfold fX4_readTest at hf
  have ch : SameX [(106, 133)] w w := SameX.refl _ _
  obtain ⟨v_1, hv_1, hf⟩ := bnd hf
  rcases ite_or hf with ⟨_, hf⟩ | ⟨_, hf⟩
  · exact ch.trans (frfX4_readTest_77 c_readOrs hc_readOrs c_readTest hc_readTest hf)
  · rcases ite_or hf with ⟨_, hf⟩ | ⟨_, hf⟩
    · exact ch.trans (frfX4_readTest_77 c_readOrs hc_readOrs c_readTest hc_readTest hf)
    · obtain ⟨v_4, hv_4, hf⟩ := bnd hf
      have ch := SameX.tr (by simp) ch (frfX4_readSum hv_4)
      obtain ⟨v_5, hv_5, hf⟩ := bnd hf
      rcases ite_or hf with ⟨_, hf⟩ | ⟨_, hf⟩
      · exact ch.trans (frfX4_readTest_44 c_readOrs hc_readOrs c_readTest hc_readTest hf)
      · rcases ite_or hf with ⟨_, hf⟩ | ⟨_, hf⟩
        · exact ch.trans (frfX4_readTest_44 c_readOrs hc_readOrs c_readTest hc_readTest hf)
        · rcases ite_or hf with ⟨_, hf⟩ | ⟨_, hf⟩
          · exact ch.trans (frfX4_readTest_44 c_readOrs hc_readOrs c_readTest hc_readTest hf)
          · obtain ⟨v_9, hv_9, hf⟩ := bnd hf
            have ch := SameX.tr (by simp) ch (frfX4_fail hv_9)
            obtain rfl := Option.some.inj hf
            exact ch

theorem frkRT : ∀ (n : Nat) (v : Int32) (w r : Wd), kRT n v w = some r → SameX [(106, 133)] w r
  | 0, v, w, r, h => by cases h
  | n + 1, v, w, r, h => frfX4_readTest (fX4_readOrs (kRT n)) (fun v w r h => frfX4_readOrs (kRT n) (frkRT n) h) (kRT n) (frkRT n) h
theorem frkRO {v : Int32} {w r : Wd} (h : kRO v w = some r) : SameX [(106, 133)] w r := frfX4_readOrs (kRT 6) (frkRT 6) h

theorem frfX12_sign {v1 : Int32} {w : Wd} {r : Bool × Wd} (hf : fX12_sign v1 w = some r) : SameX [(148, 168)] w r.2 := by
  unfold fX12_sign at hf
  have ch : SameX [(148, 168)] w w := SameX.refl _ _
  rcases ite_or hf with ⟨_, hf⟩ | ⟨_, hf⟩
  · obtain ⟨v_2, hv_2, hf⟩ := bnd hf
    rcases ite_or hf with ⟨_, hf⟩ | ⟨_, hf⟩
    · obtain ⟨w_4, ew_4, hf⟩ := nwx hf
      have ch := SameX.w_si (lo := 148) (hi := 168) ch ew_4 (by simp) (by omega)
      obtain rfl := Option.some.inj hf
      exact ch
    · obtain rfl := Option.some.inj hf
      exact ch
  · obtain rfl := Option.some.inj hf
    exact ch

theorem frfX12_ands_5 {r : Bool × Wd} (c_test :  Wd → Option (Bool × Wd)) (hc_test : ∀ (w : Wd) (r : Bool × Wd), c_test w = some r → SameX [(148, 168)] w r.2) : ∀ (n : Nat) (v1 : Int32) (w : Wd), fX12_ands_5 c_test n v1 w = some r → SameX [(148, 168)] w r.2 := by
  intro n
  induction n with
  | zero =>
    intro v1 w hf
    unfold fX12_ands_5 at hf
    cases hf
  | succ n ih =>
    intro v1 w hf
    unfold fX12_ands_5 at hf
    have ch : SameX [(148, 168)] w w := SameX.refl _ _
    obtain ⟨v_1, hv_1, hf⟩ := bnd hf
    have ch := SameX.tr (by simp) ch (frfX12_sign hv_1)
    rcases ite_or hf with ⟨_, hf⟩ | ⟨_, hf⟩
    · obtain ⟨v_3, hv_3, hf⟩ := bnd hf
      have ch := SameX.tr (by simp) ch (hc_test _ _ hv_3)
      rcases ite_or hf with ⟨_, hf⟩ | ⟨_, hf⟩
      · exact ch.trans (ih _ _ hf)
      · rcases ite_or hf with ⟨_, hf⟩ | ⟨_, hf⟩
        · exact ch.trans (ih _ _ hf)
        · exact ch.trans (ih _ _ hf)
    · rcases ite_or hf with ⟨_, hf⟩ | ⟨_, hf⟩
      · obtain rfl := Option.some.inj hf; exact ch
      rcases ite_or hf with ⟨_, hf⟩ | ⟨_, hf⟩
      · obtain rfl := Option.some.inj hf; exact ch
      cases hf

theorem frfX12_ands {w : Wd} {r : Bool × Wd} (c_test :  Wd → Option (Bool × Wd)) (hc_test : ∀ (w : Wd) (r : Bool × Wd), c_test w = some r → SameX [(148, 168)] w r.2) (hf : fX12_ands c_test w = some r) : SameX [(148, 168)] w r.2 := by
  unfold fX12_ands at hf
  have ch : SameX [(148, 168)] w w := SameX.refl _ _
  obtain ⟨v_1, hv_1, hf⟩ := bnd hf
  have ch := SameX.tr (by simp) ch (hc_test _ _ hv_1)
  exact ch.trans (frfX12_ands_5 c_test hc_test FU _ _ hf)

theorem frfX12_ors_5 {r : Bool × Wd} (c_test :  Wd → Option (Bool × Wd)) (hc_test : ∀ (w : Wd) (r : Bool × Wd), c_test w = some r → SameX [(148, 168)] w r.2) : ∀ (n : Nat) (v1 : Int32) (w : Wd), fX12_ors_5 c_test n v1 w = some r → SameX [(148, 168)] w r.2 := by
  intro n
  induction n with
  | zero =>
    intro v1 w hf
    unfold fX12_ors_5 at hf
    cases hf
  | succ n ih =>
    intro v1 w hf
    unfold fX12_ors_5 at hf
    have ch : SameX [(148, 168)] w w := SameX.refl _ _
    obtain ⟨v_1, hv_1, hf⟩ := bnd hf
    have ch := SameX.tr (by simp) ch (frfX12_sign hv_1)
    rcases ite_or hf with ⟨_, hf⟩ | ⟨_, hf⟩
    · obtain ⟨v_3, hv_3, hf⟩ := bnd hf
      have ch := SameX.tr (by simp) ch (frfX12_ands c_test hc_test hv_3)
      rcases ite_or hf with ⟨_, hf⟩ | ⟨_, hf⟩
      · rcases ite_or hf with ⟨_, hf⟩ | ⟨_, hf⟩
        · exact ch.trans (ih _ _ hf)
        · exact ch.trans (ih _ _ hf)
      · exact ch.trans (ih _ _ hf)
    · rcases ite_or hf with ⟨_, hf⟩ | ⟨_, hf⟩
      · obtain rfl := Option.some.inj hf; exact ch
      rcases ite_or hf with ⟨_, hf⟩ | ⟨_, hf⟩
      · obtain rfl := Option.some.inj hf; exact ch
      cases hf

theorem frfX12_ors {w : Wd} {r : Bool × Wd} (c_test :  Wd → Option (Bool × Wd)) (hc_test : ∀ (w : Wd) (r : Bool × Wd), c_test w = some r → SameX [(148, 168)] w r.2) (hf : fX12_ors c_test w = some r) : SameX [(148, 168)] w r.2 := by
  unfold fX12_ors at hf
  have ch : SameX [(148, 168)] w w := SameX.refl _ _
  obtain ⟨v_1, hv_1, hf⟩ := bnd hf
  have ch := SameX.tr (by simp) ch (frfX12_ands c_test hc_test hv_1)
  exact ch.trans (frfX12_ors_5 c_test hc_test FU _ _ hf)

theorem frfX12_opens_13 {w : Wd} {r : Wd} (hf : fX12_opens_13 w = some r) : SameX [(148, 168)] w r := by
  unfold fX12_opens_13 at hf
  have ch : SameX [(148, 168)] w w := SameX.refl _ _
  rcases ite_or hf with ⟨_, hf⟩ | ⟨_, hf⟩
  · obtain ⟨w_2, ew_2, hf⟩ := nwx hf
    have ch := SameX.w_si (lo := 148) (hi := 168) ch ew_2 (by simp) (by omega)
    obtain ⟨w_3, ew_3, hf⟩ := nwx hf
    have ch := SameX.w_si (lo := 148) (hi := 168) ch ew_3 (by simp) (by omega)
    obtain rfl := Option.some.inj hf
    exact ch
  · obtain rfl := Option.some.inj hf
    exact ch

theorem frfX12_opens {w : Wd} {r : Wd} (hf : fX12_opens w = some r) : SameX [(148, 168)] w r := by
  unfold fX12_opens at hf
  have ch : SameX [(148, 168)] w w := SameX.refl _ _
  rcases ite_or hf with ⟨_, hf⟩ | ⟨_, hf⟩
  · obtain ⟨w_2, ew_2, hf⟩ := nwx hf
    have ch := SameX.w_si (lo := 148) (hi := 168) ch ew_2 (by simp) (by omega)
    exact ch.trans (frfX12_opens_13 hf)
  · exact ch.trans (frfX12_opens_13 hf)

theorem frfX12_unit_59 {r : Int32 × Wd} : ∀ (n : Nat) (v1 : Int32) (v2 : Int32) (w : Wd), fX12_unit_59 n v1 v2 w = some r → SameX [(148, 168)] w r.2 := by
  intro n
  induction n with
  | zero =>
    intro v1 v2 w hf
    unfold fX12_unit_59 at hf
    cases hf
  | succ n ih =>
    intro v1 v2 w hf
    unfold fX12_unit_59 at hf
    have ch : SameX [(148, 168)] w w := SameX.refl _ _
    rcases ite_or hf with ⟨_, hf⟩ | ⟨_, hf⟩
    · obtain ⟨v_2, hv_2, hf⟩ := bnd hf
      obtain ⟨v_3, hv_3, hf⟩ := bnd hf
      rcases ite_or hf with ⟨_, hf⟩ | ⟨_, hf⟩
      · obtain ⟨v_5, hv_5, hf⟩ := bnd hf
        obtain ⟨w_6, ew_6, hf⟩ := nwx hf
        have ch := SameX.w_si (lo := 148) (hi := 168) ch ew_6 (by simp) (by omega)
        exact ch.trans (ih _ _ _ hf)
      · obtain rfl := Option.some.inj hf
        exact ch
    · obtain rfl := Option.some.inj hf
      exact ch

theorem frfX12_unit {w : Wd} {r : Int32 × Wd} (hf : fX12_unit w = some r) : SameX [(148, 168)] w r.2 := by
  unfold fX12_unit at hf
  have ch : SameX [(148, 168)] w w := SameX.refl _ _
  obtain ⟨v_1, hv_1, hf⟩ := bnd hf
  obtain ⟨v_2, hv_2, hf⟩ := bnd hf
  rcases ite_or hf with ⟨_, hf⟩ | ⟨_, hf⟩
  · obtain ⟨v_4, hv_4, hf⟩ := bnd hf
    obtain ⟨w_5, ew_5, hf⟩ := nwx hf
    have ch := SameX.w_si (lo := 148) (hi := 168) ch ew_5 (by simp) (by omega)
    obtain ⟨v_6, hv_6, hf⟩ := bnd hf
    obtain rfl := Option.some.inj hf
    exact ch
  · obtain ⟨v_7, hv_7, hf⟩ := bnd hf
    obtain ⟨v_8, hv_8, hf⟩ := bnd hf
    rcases ite_or hf with ⟨_, hf⟩ | ⟨_, hf⟩
    · exact ch.trans (frfX12_unit_59 FU _ _ _ hf)
    · obtain ⟨w_10, ew_10, hf⟩ := nwx hf
      have ch := SameX.w_si (lo := 148) (hi := 168) ch ew_10 (by simp) (by omega)
      obtain rfl := Option.some.inj hf
      exact ch

theorem frfX12_sum_103 {s0 : Int64} {w : Wd} {r : Int32 × Wd} (k16 : Int32 → Wd → Option (Int32 × Wd)) (hk16 : ∀ (v1 : Int32) (w : Wd), k16 v1 w = some r → SameX [(148, 168)] w r.2) (hf : fX12_sum_103 k16 s0 w = some r) : SameX [(148, 168)] w r.2 := by
  unfold fX12_sum_103 at hf
  have ch : SameX [(148, 168)] w w := SameX.refl _ _
  rcases ite_or hf with ⟨_, hf⟩ | ⟨_, hf⟩
  · exact ch.trans (hk16 _ _ hf)
  · rcases ite_or hf with ⟨_, hf⟩ | ⟨_, hf⟩
    · exact ch.trans (hk16 _ _ hf)
    · exact ch.trans (hk16 _ _ hf)

theorem frfX12_sum_50 {v1 : Int32} {w : Wd} {r : Int32 × Wd} (k16 : Int32 → Wd → Option (Int32 × Wd)) (hk16 : ∀ (v1 : Int32) (w : Wd), k16 v1 w = some r → SameX [(148, 168)] w r.2) (hf : fX12_sum_50 k16 v1 w = some r) : SameX [(148, 168)] w r.2 := by
  unfold fX12_sum_50 at hf
  have ch : SameX [(148, 168)] w w := SameX.refl _ _
  obtain ⟨v_1, hv_1, hf⟩ := bnd hf
  obtain ⟨w_2, ew_2, hf⟩ := nwx hf
  have ch := SameX.w_si (lo := 148) (hi := 168) ch ew_2 (by simp) (by omega)
  obtain ⟨v_3, hv_3, hf⟩ := bnd hf
  have ch := SameX.tr (by simp) ch (frfX12_unit hv_3)
  rcases ite_or hf with ⟨_, hf⟩ | ⟨_, hf⟩
  · exact ch.trans (frfX12_sum_103 k16 hk16 hf)
  · rcases ite_or hf with ⟨_, hf⟩ | ⟨_, hf⟩
    · exact ch.trans (frfX12_sum_103 k16 hk16 hf)
    · exact ch.trans (frfX12_sum_103 k16 hk16 hf)

theorem frfX12_sum_16 {r : Int32 × Wd} : ∀ (n : Nat) (v1 : Int32) (w : Wd), fX12_sum_16 n v1 w = some r → SameX [(148, 168)] w r.2 := by
  intro n
  induction n with
  | zero =>
    intro v1 w hf
    unfold fX12_sum_16 at hf
    cases hf
  | succ n ih =>
    intro v1 w hf
    unfold fX12_sum_16 at hf
    have ch : SameX [(148, 168)] w w := SameX.refl _ _
    rcases ite_or hf with ⟨_, hf⟩ | ⟨_, hf⟩
    · obtain ⟨v_2, hv_2, hf⟩ := bnd hf
      rcases ite_or hf with ⟨_, hf⟩ | ⟨_, hf⟩
      · exact ch.trans (frfX12_sum_50 (fX12_sum_16 n) ih hf)
      · obtain ⟨v_4, hv_4, hf⟩ := bnd hf
        rcases ite_or hf with ⟨_, hf⟩ | ⟨_, hf⟩
        · exact ch.trans (frfX12_sum_50 (fX12_sum_16 n) ih hf)
        · obtain ⟨v_6, hv_6, hf⟩ := bnd hf
          rcases ite_or hf with ⟨_, hf⟩ | ⟨_, hf⟩
          · exact ch.trans (frfX12_sum_50 (fX12_sum_16 n) ih hf)
          · obtain rfl := Option.some.inj hf
            exact ch
    · obtain rfl := Option.some.inj hf
      exact ch

theorem frfX12_sum {w : Wd} {r : Int32 × Wd} (hf : fX12_sum w = some r) : SameX [(148, 168)] w r.2 := by
  unfold fX12_sum at hf
  have ch : SameX [(148, 168)] w w := SameX.refl _ _
  rcases ite_or hf with ⟨_, hf⟩ | ⟨_, hf⟩
  · obtain ⟨v_2, hv_2, hf⟩ := bnd hf
    have ch := SameX.tr (by simp) ch (frfX12_unit hv_2)
    exact ch.trans (frfX12_sum_16 FU _ _ hf)
  · exact ch.trans (frfX12_sum_16 FU _ _ hf)

theorem frfX12_test_32 {s0 : Int32} {w : Wd} {r : Bool × Wd} (c_ors :  Wd → Option (Bool × Wd)) (hc_ors : ∀ (w : Wd) (r : Bool × Wd), c_ors w = some r → SameX [(148, 168)] w r.2) (c_test :  Wd → Option (Bool × Wd)) (hc_test : ∀ (w : Wd) (r : Bool × Wd), c_test w = some r → SameX [(148, 168)] w r.2) (hf : fX12_test_32 c_ors c_test s0 w = some r) : SameX [(148, 168)] w r.2 := by
  unfold fX12_test_32 at hf
  have ch : SameX [(148, 168)] w w := SameX.refl _ _
  obtain ⟨w_1, ew_1, hf⟩ := nwx hf
  have ch := SameX.w_si (lo := 148) (hi := 168) ch ew_1 (by simp) (by omega)
  rcases ite_or hf with ⟨_, hf⟩ | ⟨_, hf⟩
  · obtain rfl := Option.some.inj hf
    exact ch
  · obtain rfl := Option.some.inj hf
    exact ch

theorem frfX12_test_31 {w : Wd} {r : Bool × Wd} (c_ors :  Wd → Option (Bool × Wd)) (hc_ors : ∀ (w : Wd) (r : Bool × Wd), c_ors w = some r → SameX [(148, 168)] w r.2) (c_test :  Wd → Option (Bool × Wd)) (hc_test : ∀ (w : Wd) (r : Bool × Wd), c_test w = some r → SameX [(148, 168)] w r.2) (hf : fX12_test_31 c_ors c_test w = some r) : SameX [(148, 168)] w r.2 := by
  unfold fX12_test_31 at hf
  have ch : SameX [(148, 168)] w w := SameX.refl _ _
  exact ch.trans (frfX12_test_32 c_ors hc_ors c_test hc_test hf)

theorem frfX12_test_100 {v1 : Int32} {w : Wd} {r : Bool × Wd} (c_ors :  Wd → Option (Bool × Wd)) (hc_ors : ∀ (w : Wd) (r : Bool × Wd), c_ors w = some r → SameX [(148, 168)] w r.2) (c_test :  Wd → Option (Bool × Wd)) (hc_test : ∀ (w : Wd) (r : Bool × Wd), c_test w = some r → SameX [(148, 168)] w r.2) (hf : fX12_test_100 c_ors c_test v1 w = some r) : SameX [(148, 168)] w r.2 := by
  unfold fX12_test_100 at hf
  have ch : SameX [(148, 168)] w w := SameX.refl _ _
  obtain ⟨w_1, ew_1, hf⟩ := nwx hf
  have ch := SameX.w_si (lo := 148) (hi := 168) ch ew_1 (by simp) (by omega)
  rcases ite_or hf with ⟨_, hf⟩ | ⟨_, hf⟩
  · obtain rfl := Option.some.inj hf; exact ch
  rcases ite_or hf with ⟨_, hf⟩ | ⟨_, hf⟩
  · obtain rfl := Option.some.inj hf; exact ch
  cases hf

theorem frfX12_test_85 {s0 : Int32} {w : Wd} {r : Bool × Wd} (c_ors :  Wd → Option (Bool × Wd)) (hc_ors : ∀ (w : Wd) (r : Bool × Wd), c_ors w = some r → SameX [(148, 168)] w r.2) (c_test :  Wd → Option (Bool × Wd)) (hc_test : ∀ (w : Wd) (r : Bool × Wd), c_test w = some r → SameX [(148, 168)] w r.2) (hf : fX12_test_85 c_ors c_test s0 w = some r) : SameX [(148, 168)] w r.2 := by
  unfold fX12_test_85 at hf
  have ch : SameX [(148, 168)] w w := SameX.refl _ _
  obtain ⟨v_1, hv_1, hf⟩ := bnd hf
  have ch := SameX.tr (by simp) ch (frfX12_sign hv_1)
  rcases ite_or hf with ⟨_, hf⟩ | ⟨_, hf⟩
  · exact ch.trans (frfX12_test_100 c_ors hc_ors c_test hc_test hf)
  · obtain ⟨w_3, ew_3, hf⟩ := nwx hf
    have ch := SameX.w_si (lo := 148) (hi := 168) ch ew_3 (by simp) (by omega)
    exact ch.trans (frfX12_test_100 c_ors hc_ors c_test hc_test hf)

theorem frfX12_test_84 {w : Wd} {r : Bool × Wd} (c_ors :  Wd → Option (Bool × Wd)) (hc_ors : ∀ (w : Wd) (r : Bool × Wd), c_ors w = some r → SameX [(148, 168)] w r.2) (c_test :  Wd → Option (Bool × Wd)) (hc_test : ∀ (w : Wd) (r : Bool × Wd), c_test w = some r → SameX [(148, 168)] w r.2) (hf : fX12_test_84 c_ors c_test w = some r) : SameX [(148, 168)] w r.2 := by
  unfold fX12_test_84 at hf
  have ch : SameX [(148, 168)] w w := SameX.refl _ _
  exact ch.trans (frfX12_test_85 c_ors hc_ors c_test hc_test hf)

theorem frfX12_test_154 {v1 : Int32} {v2 : Int32} {w : Wd} {r : Bool × Wd} (c_ors :  Wd → Option (Bool × Wd)) (hc_ors : ∀ (w : Wd) (r : Bool × Wd), c_ors w = some r → SameX [(148, 168)] w r.2) (c_test :  Wd → Option (Bool × Wd)) (hc_test : ∀ (w : Wd) (r : Bool × Wd), c_test w = some r → SameX [(148, 168)] w r.2) (hf : fX12_test_154 c_ors c_test v1 v2 w = some r) : SameX [(148, 168)] w r.2 := by
  unfold fX12_test_154 at hf
  have ch : SameX [(148, 168)] w w := SameX.refl _ _
  obtain ⟨w_1, ew_1, hf⟩ := nwx hf
  have ch := SameX.w_si (lo := 148) (hi := 168) ch ew_1 (by simp) (by omega)
  obtain ⟨v_2, hv_2, hf⟩ := bnd hf
  have ch := SameX.tr (by simp) ch (frfX12_sum hv_2)
  rcases ite_or hf with ⟨_, hf⟩ | ⟨_, hf⟩
  · rcases ite_or hf with ⟨_, hf⟩ | ⟨_, hf⟩
    · obtain rfl := Option.some.inj hf
      exact ch
    · obtain rfl := Option.some.inj hf
      exact ch
  · rcases ite_or hf with ⟨_, hf⟩ | ⟨_, hf⟩
    · rcases ite_or hf with ⟨_, hf⟩ | ⟨_, hf⟩
      · obtain rfl := Option.some.inj hf
        exact ch
      · obtain rfl := Option.some.inj hf
        exact ch
    · rcases ite_or hf with ⟨_, hf⟩ | ⟨_, hf⟩
      · obtain rfl := Option.some.inj hf
        exact ch
      · obtain rfl := Option.some.inj hf
        exact ch

theorem frfX12_test_147 {w : Wd} {r : Bool × Wd} (c_ors :  Wd → Option (Bool × Wd)) (hc_ors : ∀ (w : Wd) (r : Bool × Wd), c_ors w = some r → SameX [(148, 168)] w r.2) (c_test :  Wd → Option (Bool × Wd)) (hc_test : ∀ (w : Wd) (r : Bool × Wd), c_test w = some r → SameX [(148, 168)] w r.2) (hf : fX12_test_147 c_ors c_test w = some r) : SameX [(148, 168)] w r.2 := by
  unfold fX12_test_147 at hf
  have ch : SameX [(148, 168)] w w := SameX.refl _ _
  obtain ⟨w_1, ew_1, hf⟩ := nwx hf
  have ch := SameX.w_si (lo := 148) (hi := 168) ch ew_1 (by simp) (by omega)
  obtain rfl := Option.some.inj hf
  exact ch

theorem frfX12_test {w : Wd} {r : Bool × Wd} (c_ors :  Wd → Option (Bool × Wd)) (hc_ors : ∀ (w : Wd) (r : Bool × Wd), c_ors w = some r → SameX [(148, 168)] w r.2) (c_test :  Wd → Option (Bool × Wd)) (hc_test : ∀ (w : Wd) (r : Bool × Wd), c_test w = some r → SameX [(148, 168)] w r.2) (hf : fX12_test c_ors c_test w = some r) : SameX [(148, 168)] w r.2 := by
  unfold fX12_test at hf
  have ch : SameX [(148, 168)] w w := SameX.refl _ _
  obtain ⟨v_1, hv_1, hf⟩ := bnd hf
  rcases ite_or hf with ⟨_, hf⟩ | ⟨_, hf⟩
  · obtain ⟨v_3, hv_3, hf⟩ := bnd hf
    have ch := SameX.tr (by simp) ch (frfX12_opens hv_3)
    rcases ite_or hf with ⟨_, hf⟩ | ⟨_, hf⟩
    · obtain ⟨v_5, hv_5, hf⟩ := bnd hf
      have ch := SameX.tr (by simp) ch (hc_test _ _ hv_5)
      rcases ite_or hf with ⟨_, hf⟩ | ⟨_, hf⟩
      · exact ch.trans (frfX12_test_32 c_ors hc_ors c_test hc_test hf)
      · exact ch.trans (frfX12_test_31 c_ors hc_ors c_test hc_test hf)
    · exact ch.trans (frfX12_test_31 c_ors hc_ors c_test hc_test hf)
  · obtain ⟨v_7, hv_7, hf⟩ := bnd hf
    rcases ite_or hf with ⟨_, hf⟩ | ⟨_, hf⟩
    · obtain ⟨v_9, hv_9, hf⟩ := bnd hf
      have ch := SameX.tr (by simp) ch (frfX12_opens hv_9)
      rcases ite_or hf with ⟨_, hf⟩ | ⟨_, hf⟩
      · obtain ⟨v_11, hv_11, hf⟩ := bnd hf
        have ch := SameX.tr (by simp) ch (hc_ors _ _ hv_11)
        rcases ite_or hf with ⟨_, hf⟩ | ⟨_, hf⟩
        · exact ch.trans (frfX12_test_85 c_ors hc_ors c_test hc_test hf)
        · exact ch.trans (frfX12_test_84 c_ors hc_ors c_test hc_test hf)
      · exact ch.trans (frfX12_test_84 c_ors hc_ors c_test hc_test hf)
    · obtain ⟨v_13, hv_13, hf⟩ := bnd hf
      have ch := SameX.tr (by simp) ch (frfX12_sum hv_13)
      obtain ⟨v_14, hv_14, hf⟩ := bnd hf
      rcases ite_or hf with ⟨_, hf⟩ | ⟨_, hf⟩
      · rcases ite_or hf with ⟨_, hf⟩ | ⟨_, hf⟩
        · exact ch.trans (frfX12_test_154 c_ors hc_ors c_test hc_test hf)
        · rcases ite_or hf with ⟨_, hf⟩ | ⟨_, hf⟩
          · exact ch.trans (frfX12_test_154 c_ors hc_ors c_test hc_test hf)
          · rcases ite_or hf with ⟨_, hf⟩ | ⟨_, hf⟩
            · exact ch.trans (frfX12_test_154 c_ors hc_ors c_test hc_test hf)
            · exact ch.trans (frfX12_test_147 c_ors hc_ors c_test hc_test hf)
      · exact ch.trans (frfX12_test_147 c_ors hc_ors c_test hc_test hf)

theorem frkMT : ∀ (n : Nat) (w : Wd) (r : Bool × Wd), kMT n w = some r → SameX [(148, 168)] w r.2
  | 0, w, r, h => by cases h
  | n + 1, w, r, h => frfX12_test (fX12_ors (kMT n)) (fun w r h => frfX12_ors (kMT n) (frkMT n) h) (kMT n) (frkMT n) h
theorem frkMO {w : Wd} {r : Bool × Wd} (h : kMO w = some r) : SameX [(148, 168)] w r.2 := frfX12_ors (kMT 6) (frkMT 6) h

theorem frfX2_restart {z : Nat} {w : Wd} {r : Wd} (hf : fX2_restart z w = some r) : SameX [(z + 1, z + 91)] w r := by
  unfold fX2_restart at hf
  have ch : SameX [(z + 1, z + 91)] w w := SameX.refl _ _
  obtain ⟨w_1, ew_1, hf⟩ := nwx hf
  have ch := SameX.w_flI (lo := z + 1) (hi := z + 91) ch ew_1 (by simp) (by omega)
  obtain ⟨w_2, ew_2, hf⟩ := nwx hf
  have ch := SameX.w_flI (lo := z + 1) (hi := z + 91) ch ew_2 (by simp) (by omega)
  obtain ⟨w_3, ew_3, hf⟩ := nwx hf
  have ch := SameX.w_flI (lo := z + 1) (hi := z + 91) ch ew_3 (by simp) (by omega)
  obtain ⟨w_4, ew_4, hf⟩ := nwx hf
  have ch := SameX.w_flI (lo := z + 1) (hi := z + 91) ch ew_4 (by simp) (by omega)
  obtain ⟨w_5, ew_5, hf⟩ := nwx hf
  have ch := SameX.w_flI (lo := z + 1) (hi := z + 91) ch ew_5 (by simp) (by omega)
  obtain ⟨w_6, ew_6, hf⟩ := nwx hf
  have ch := SameX.w_flI (lo := z + 1) (hi := z + 91) ch ew_6 (by simp) (by omega)
  obtain ⟨w_7, ew_7, hf⟩ := nwx hf
  have ch := SameX.w_flI (lo := z + 1) (hi := z + 91) ch ew_7 (by simp) (by omega)
  obtain ⟨w_8, ew_8, hf⟩ := nwx hf
  have ch := SameX.w_flI (lo := z + 1) (hi := z + 91) ch ew_8 (by simp) (by omega)
  obtain ⟨w_9, ew_9, hf⟩ := nwx hf
  have ch := SameX.w_flI (lo := z + 1) (hi := z + 91) ch ew_9 (by simp) (by omega)
  obtain ⟨w_10, ew_10, hf⟩ := nwx hf
  have ch := SameX.w_flI (lo := z + 1) (hi := z + 91) ch ew_10 (by simp) (by omega)
  obtain ⟨w_11, ew_11, hf⟩ := nwx hf
  have ch := SameX.w_flI (lo := z + 1) (hi := z + 91) ch ew_11 (by simp) (by omega)
  obtain rfl := Option.some.inj hf
  exact ch

theorem frfX11_copyRow {v0 : Nat} {n0 : Nat} {v1 : Nat} {n1 : Nat} {w : Wd} {r : Wd} (hf : fX11_copyRow v0 n0 v1 n1 w = some r) : SameX [(v1, v1)] w r := by
  unfold fX11_copyRow at hf
  have ch : SameX [(v1, v1)] w w := SameX.refl _ _
  obtain ⟨_, hf⟩ := itn hf
  obtain ⟨w_1, ew_1, hf⟩ := nwx hf
  have ch := SameX.w_cpI (lo := v1) (hi := v1) ch ew_1 (by simp) (by omega)
  obtain rfl := Option.some.inj hf
  exact ch

theorem frfX2_become {z : Nat} {y : Nat} {w : Wd} {r : Wd} (hf : fX2_become z y w = some r) : SameX [(z + 1, z + 91)] w r := by
  unfold fX2_become at hf
  have ch : SameX [(z + 1, z + 91)] w w := SameX.refl _ _
  obtain ⟨v_1, hv_1, hf⟩ := bnd hf
  have ch := SameX.cpr (lo := z + 1) (hi := z + 91) ch (frfX11_copyRow hv_1) (by simp) (by omega)
  obtain ⟨v_2, hv_2, hf⟩ := bnd hf
  have ch := SameX.cpr (lo := z + 1) (hi := z + 91) ch (frfX11_copyRow hv_2) (by simp) (by omega)
  obtain ⟨v_3, hv_3, hf⟩ := bnd hf
  have ch := SameX.cpr (lo := z + 1) (hi := z + 91) ch (frfX11_copyRow hv_3) (by simp) (by omega)
  obtain ⟨v_4, hv_4, hf⟩ := bnd hf
  have ch := SameX.cpr (lo := z + 1) (hi := z + 91) ch (frfX11_copyRow hv_4) (by simp) (by omega)
  obtain ⟨v_5, hv_5, hf⟩ := bnd hf
  have ch := SameX.cpr (lo := z + 1) (hi := z + 91) ch (frfX11_copyRow hv_5) (by simp) (by omega)
  obtain ⟨v_6, hv_6, hf⟩ := bnd hf
  have ch := SameX.cpr (lo := z + 1) (hi := z + 91) ch (frfX11_copyRow hv_6) (by simp) (by omega)
  obtain ⟨v_7, hv_7, hf⟩ := bnd hf
  have ch := SameX.cpr (lo := z + 1) (hi := z + 91) ch (frfX11_copyRow hv_7) (by simp) (by omega)
  obtain ⟨v_8, hv_8, hf⟩ := bnd hf
  have ch := SameX.cpr (lo := z + 1) (hi := z + 91) ch (frfX11_copyRow hv_8) (by simp) (by omega)
  obtain ⟨v_9, hv_9, hf⟩ := bnd hf
  have ch := SameX.cpr (lo := z + 1) (hi := z + 91) ch (frfX11_copyRow hv_9) (by simp) (by omega)
  obtain ⟨v_10, hv_10, hf⟩ := bnd hf
  have ch := SameX.cpr (lo := z + 1) (hi := z + 91) ch (frfX11_copyRow hv_10) (by simp) (by omega)
  obtain ⟨v_11, hv_11, hf⟩ := bnd hf
  have ch := SameX.cpr (lo := z + 1) (hi := z + 91) ch (frfX11_copyRow hv_11) (by simp) (by omega)
  obtain rfl := Option.some.inj hf
  exact ch

theorem frfX3_become {z : Nat} {y : Nat} {w : Wd} {r : Wd} (hf : fX3_become z y w = some r) : SameX [(z + 1, z + 91)] w r := by
  unfold fX3_become at hf
  have ch : SameX [(z + 1, z + 91)] w w := SameX.refl _ _
  obtain ⟨v_1, hv_1, hf⟩ := bnd hf
  have ch := SameX.cpr (lo := z + 1) (hi := z + 91) ch (frfX11_copyRow hv_1) (by simp) (by omega)
  obtain ⟨v_2, hv_2, hf⟩ := bnd hf
  have ch := SameX.cpr (lo := z + 1) (hi := z + 91) ch (frfX11_copyRow hv_2) (by simp) (by omega)
  obtain ⟨v_3, hv_3, hf⟩ := bnd hf
  have ch := SameX.cpr (lo := z + 1) (hi := z + 91) ch (frfX11_copyRow hv_3) (by simp) (by omega)
  obtain ⟨v_4, hv_4, hf⟩ := bnd hf
  have ch := SameX.cpr (lo := z + 1) (hi := z + 91) ch (frfX11_copyRow hv_4) (by simp) (by omega)
  obtain ⟨v_5, hv_5, hf⟩ := bnd hf
  have ch := SameX.cpr (lo := z + 1) (hi := z + 91) ch (frfX11_copyRow hv_5) (by simp) (by omega)
  obtain ⟨v_6, hv_6, hf⟩ := bnd hf
  have ch := SameX.cpr (lo := z + 1) (hi := z + 91) ch (frfX11_copyRow hv_6) (by simp) (by omega)
  obtain ⟨v_7, hv_7, hf⟩ := bnd hf
  have ch := SameX.cpr (lo := z + 1) (hi := z + 91) ch (frfX11_copyRow hv_7) (by simp) (by omega)
  obtain ⟨v_8, hv_8, hf⟩ := bnd hf
  have ch := SameX.cpr (lo := z + 1) (hi := z + 91) ch (frfX11_copyRow hv_8) (by simp) (by omega)
  obtain ⟨v_9, hv_9, hf⟩ := bnd hf
  have ch := SameX.cpr (lo := z + 1) (hi := z + 91) ch (frfX11_copyRow hv_9) (by simp) (by omega)
  obtain ⟨v_10, hv_10, hf⟩ := bnd hf
  have ch := SameX.cpr (lo := z + 1) (hi := z + 91) ch (frfX11_copyRow hv_10) (by simp) (by omega)
  obtain rfl := Option.some.inj hf
  exact ch

theorem frfX5_become {v0 : Nat} {v1 : Nat} {w : Wd} {r : Wd} (hf : fX5_become v0 v1 w = some r) : SameX [(v0, v0 + 6)] w r := by
  unfold fX5_become at hf
  have ch : SameX [(v0, v0 + 6)] w w := SameX.refl _ _
  obtain ⟨w_1, ew_1, hf⟩ := nwx hf
  have ch := SameX.w_si (lo := v0) (hi := v0 + 6) ch ew_1 (by simp) (by omega)
  obtain ⟨w_2, ew_2, hf⟩ := nwx hf
  have ch := SameX.w_si (lo := v0) (hi := v0 + 6) ch ew_2 (by simp) (by omega)
  obtain ⟨w_3, ew_3, hf⟩ := nwx hf
  have ch := SameX.w_si (lo := v0) (hi := v0 + 6) ch ew_3 (by simp) (by omega)
  obtain ⟨w_4, ew_4, hf⟩ := nwx hf
  have ch := SameX.w_si (lo := v0) (hi := v0 + 6) ch ew_4 (by simp) (by omega)
  obtain ⟨w_5, ew_5, hf⟩ := nwx hf
  have ch := SameX.w_si (lo := v0) (hi := v0 + 6) ch ew_5 (by simp) (by omega)
  obtain ⟨v_6, hv_6, hf⟩ := bnd hf
  have ch := SameX.cpr (lo := v0) (hi := v0 + 6) ch (frfX11_copyRow hv_6) (by simp) (by omega)
  obtain ⟨v_7, hv_7, hf⟩ := bnd hf
  have ch := SameX.cpr (lo := v0) (hi := v0 + 6) ch (frfX11_copyRow hv_7) (by simp) (by omega)
  obtain ⟨v_8, hv_8, hf⟩ := bnd hf
  have ch := SameX.cpr (lo := v0) (hi := v0 + 6) ch (frfX11_copyRow hv_8) (by simp) (by omega)
  obtain ⟨v_9, hv_9, hf⟩ := bnd hf
  have ch := SameX.cpr (lo := v0) (hi := v0 + 6) ch (frfX11_copyRow hv_9) (by simp) (by omega)
  obtain ⟨v_10, hv_10, hf⟩ := bnd hf
  have ch := SameX.cpr (lo := v0) (hi := v0 + 6) ch (frfX11_copyRow hv_10) (by simp) (by omega)
  obtain ⟨v_11, hv_11, hf⟩ := bnd hf
  have ch := SameX.cpr (lo := v0) (hi := v0 + 6) ch (frfX11_copyRow hv_11) (by simp) (by omega)
  obtain rfl := Option.some.inj hf
  exact ch

theorem frfX6_become {z : Nat} {y : Nat} {w : Wd} {r : Wd} (hf : fX6_become z y w = some r) : SameX [(z + 1, z + 91)] w r := by
  unfold fX6_become at hf
  have ch : SameX [(z + 1, z + 91)] w w := SameX.refl _ _
  obtain ⟨w_1, ew_1, hf⟩ := nwx hf
  have ch := SameX.w_si (lo := z + 1) (hi := z + 91) ch ew_1 (by simp) (by omega)
  obtain ⟨v_2, hv_2, hf⟩ := bnd hf
  have ch := SameX.cpr (lo := z + 1) (hi := z + 91) ch (frfX11_copyRow hv_2) (by simp) (by omega)
  obtain ⟨v_3, hv_3, hf⟩ := bnd hf
  have ch := SameX.cpr (lo := z + 1) (hi := z + 91) ch (frfX11_copyRow hv_3) (by simp) (by omega)
  obtain ⟨v_4, hv_4, hf⟩ := bnd hf
  have ch := SameX.cpr (lo := z + 1) (hi := z + 91) ch (frfX11_copyRow hv_4) (by simp) (by omega)
  obtain ⟨v_5, hv_5, hf⟩ := bnd hf
  have ch := SameX.cpr (lo := z + 1) (hi := z + 91) ch (frfX11_copyRow hv_5) (by simp) (by omega)
  obtain rfl := Option.some.inj hf
  exact ch

theorem frfX10_become {z : Nat} {y : Nat} {w : Wd} {r : Wd} (hf : fX10_become z y w = some r) : SameX [(z + 1, z + 91)] w r := by
  unfold fX10_become at hf
  have ch : SameX [(z + 1, z + 91)] w w := SameX.refl _ _
  obtain ⟨v_1, hv_1, hf⟩ := bnd hf
  have ch := SameX.cpr (lo := z + 1) (hi := z + 91) ch (frfX11_copyRow hv_1) (by simp) (by omega)
  obtain ⟨v_2, hv_2, hf⟩ := bnd hf
  have ch := SameX.cpr (lo := z + 1) (hi := z + 91) ch (frfX11_copyRow hv_2) (by simp) (by omega)
  obtain ⟨v_3, hv_3, hf⟩ := bnd hf
  have ch := SameX.cpr (lo := z + 1) (hi := z + 91) ch (frfX11_copyRow hv_3) (by simp) (by omega)
  obtain ⟨v_4, hv_4, hf⟩ := bnd hf
  have ch := SameX.cpr (lo := z + 1) (hi := z + 91) ch (frfX11_copyRow hv_4) (by simp) (by omega)
  obtain ⟨w_5, ew_5, hf⟩ := nwx hf
  have ch := SameX.w_si (lo := z + 1) (hi := z + 91) ch ew_5 (by simp) (by omega)
  obtain ⟨w_6, ew_6, hf⟩ := nwx hf
  have ch := SameX.w_si (lo := z + 1) (hi := z + 91) ch ew_6 (by simp) (by omega)
  obtain ⟨w_7, ew_7, hf⟩ := nwx hf
  have ch := SameX.w_si (lo := z + 1) (hi := z + 91) ch ew_7 (by simp) (by omega)
  obtain ⟨w_8, ew_8, hf⟩ := nwx hf
  have ch := SameX.w_si (lo := z + 1) (hi := z + 91) ch ew_8 (by simp) (by omega)
  obtain ⟨w_9, ew_9, hf⟩ := nwx hf
  have ch := SameX.w_si (lo := z + 1) (hi := z + 91) ch ew_9 (by simp) (by omega)
  obtain ⟨w_10, ew_10, hf⟩ := nwx hf
  have ch := SameX.w_si (lo := z + 1) (hi := z + 91) ch ew_10 (by simp) (by omega)
  obtain ⟨w_11, ew_11, hf⟩ := nwx hf
  have ch := SameX.w_si (lo := z + 1) (hi := z + 91) ch ew_11 (by simp) (by omega)
  obtain rfl := Option.some.inj hf
  exact ch

theorem frfX0_become_54 {z : Nat} {y : Nat} {r : Wd} : ∀ (n : Nat) (v2 : Int32) (w : Wd), fX0_become_54 z y n v2 w = some r → SameX [(z + 1, z + 91)] w r := by
  intro n
  induction n with
  | zero =>
    intro v2 w hf
    unfold fX0_become_54 at hf
    cases hf
  | succ n ih =>
    intro v2 w hf
    unfold fX0_become_54 at hf
    have ch : SameX [(z + 1, z + 91)] w w := SameX.refl _ _
    rcases ite_or hf with ⟨_, hf⟩ | ⟨_, hf⟩
    · obtain ⟨hb_2, hf⟩ := itn hf
      have lhb_2 := inb_lt hb_2
      obtain ⟨v_3, hv_3, hf⟩ := bnd hf
      have ch := SameX.tr2 (lo := z + 1) (hi := z + 91) ch (frfX5_become hv_3) (by simp) (by omega)
      exact ch.trans (ih _ _ hf)
    · obtain ⟨w_4, ew_4, hf⟩ := nwx hf
      have ch := SameX.w_si (lo := z + 1) (hi := z + 91) ch ew_4 (by simp) (by omega)
      obtain ⟨w_5, ew_5, hf⟩ := nwx hf
      have ch := SameX.w_si (lo := z + 1) (hi := z + 91) ch ew_5 (by simp) (by omega)
      obtain ⟨w_6, ew_6, hf⟩ := nwx hf
      have ch := SameX.w_si (lo := z + 1) (hi := z + 91) ch ew_6 (by simp) (by omega)
      obtain ⟨w_7, ew_7, hf⟩ := nwx hf
      have ch := SameX.w_si (lo := z + 1) (hi := z + 91) ch ew_7 (by simp) (by omega)
      obtain ⟨w_8, ew_8, hf⟩ := nwx hf
      have ch := SameX.w_si (lo := z + 1) (hi := z + 91) ch ew_8 (by simp) (by omega)
      obtain ⟨w_9, ew_9, hf⟩ := nwx hf
      have ch := SameX.w_si (lo := z + 1) (hi := z + 91) ch ew_9 (by simp) (by omega)
      obtain ⟨w_10, ew_10, hf⟩ := nwx hf
      have ch := SameX.w_si (lo := z + 1) (hi := z + 91) ch ew_10 (by simp) (by omega)
      obtain rfl := Option.some.inj hf
      exact ch

theorem frfX0_become {z : Nat} {y : Nat} {w : Wd} {r : Wd} (hf : fX0_become z y w = some r) : SameX [(z + 1, z + 91)] w r := by
  unfold fX0_become at hf
  have ch : SameX [(z + 1, z + 91)] w w := SameX.refl _ _
  obtain ⟨v_1, hv_1, hf⟩ := bnd hf
  have ch := SameX.tr (by simp) ch (frfX2_become hv_1)
  obtain ⟨v_2, hv_2, hf⟩ := bnd hf
  have ch := SameX.tr (by simp) ch (frfX10_become hv_2)
  obtain ⟨v_3, hv_3, hf⟩ := bnd hf
  have ch := SameX.tr (by simp) ch (frfX3_become hv_3)
  obtain ⟨v_4, hv_4, hf⟩ := bnd hf
  have ch := SameX.tr (by simp) ch (frfX6_become hv_4)
  obtain ⟨w_5, ew_5, hf⟩ := nwx hf
  have ch := SameX.w_si (lo := z + 1) (hi := z + 91) ch ew_5 (by simp) (by omega)
  exact ch.trans (frfX0_become_54 FU _ _ hf)

theorem frfX4_allow_99 {v2 : Int32} {v5 : Int32} {v6 : Int32} {v7 : Int32} {s1 : Int32} {s2 : Int64} {w : Wd} {r : Bool × Wd} (k33 : Int32 → Int32 → Int32 → Int32 → Wd → Option (Bool × Wd)) (hk33 : ∀ (v2 : Int32) (v5 : Int32) (v6 : Int32) (v7 : Int32) (w : Wd), k33 v2 v5 v6 v7 w = some r → SameX [(106, 133)] w r.2) (hf : fX4_allow_99 k33 v2 v5 v6 v7 s1 s2 w = some r) : SameX [(106, 133)] w r.2 := by
  unfold fX4_allow_99 at hf
  have ch : SameX [(106, 133)] w w := SameX.refl _ _
  obtain ⟨hb_1, hf⟩ := itn hf
  obtain ⟨w_2, ew_2, hf⟩ := nwx hf
  have ch := SameX.w_wl (lo := 106) (hi := 133) ch ew_2 (by simp) (by omega)
  exact ch.trans (hk33 _ _ _ _ _ hf)

theorem frfX4_allow_33 {r : Bool × Wd} : ∀ (n : Nat) (v2 : Int32) (v5 : Int32) (v6 : Int32) (v7 : Int32) (w : Wd), fX4_allow_33 n v2 v5 v6 v7 w = some r → SameX [(106, 133)] w r.2 := by
  intro n
  induction n with
  | zero =>
    intro v2 v5 v6 v7 w hf
    unfold fX4_allow_33 at hf
    cases hf
  | succ n ih =>
    intro v2 v5 v6 v7 w hf
    unfold fX4_allow_33 at hf
    have ch : SameX [(106, 133)] w w := SameX.refl _ _
    obtain ⟨hb_1, hf⟩ := itn hf
    rcases ite_or hf with ⟨_, hf⟩ | ⟨_, hf⟩
    · obtain ⟨hb_3, hf⟩ := itn hf
      rcases ite_or hf with ⟨_, hf⟩ | ⟨_, hf⟩
      · rcases ite_or hf with ⟨_, hf⟩ | ⟨_, hf⟩
        · exact ch.trans (frfX4_allow_99 (fX4_allow_33 n) ih hf)
        · obtain ⟨v_6, hv_6, hf⟩ := bnd hf
          exact ch.trans (frfX4_allow_99 (fX4_allow_33 n) ih hf)
      · rcases ite_or hf with ⟨_, hf⟩ | ⟨_, hf⟩
        · rcases ite_or hf with ⟨_, hf⟩ | ⟨_, hf⟩
          · obtain ⟨hb_9, hf⟩ := itn hf
            obtain ⟨w_10, ew_10, hf⟩ := nwx hf
            have ch := SameX.w_wl (lo := 106) (hi := 133) ch ew_10 (by simp) (by omega)
            exact ch.trans (ih _ _ _ _ _ hf)
          · exact ch.trans (ih _ _ _ _ _ hf)
        · rcases ite_or hf with ⟨_, hf⟩ | ⟨_, hf⟩
          · obtain ⟨hb_12, hf⟩ := itn hf
            obtain ⟨hb_13, hf⟩ := itn hf
            obtain ⟨v_14, hv_14, hf⟩ := bnd hf
            obtain ⟨w_15, ew_15, hf⟩ := nwx hf
            have ch := SameX.w_wl (lo := 106) (hi := 133) ch ew_15 (by simp) (by omega)
            exact ch.trans (ih _ _ _ _ _ hf)
          · exact ch.trans (ih _ _ _ _ _ hf)
    · rcases ite_or hf with ⟨_, hf⟩ | ⟨_, hf⟩
      · obtain rfl := Option.some.inj hf
        exact ch
      · obtain rfl := Option.some.inj hf
        exact ch

theorem frfX4_allow {v1 : Int32} {v2 : Int32} {w : Wd} {r : Bool × Wd} (hf : fX4_allow v1 v2 w = some r) : SameX [(106, 133)] w r.2 := by
  unfold fX4_allow at hf
  have ch : SameX [(106, 133)] w w := SameX.refl _ _
  obtain ⟨v_1, hv_1, hf⟩ := bnd hf
  obtain ⟨v_2, hv_2, hf⟩ := bnd hf
  rcases ite_or hf with ⟨_, hf⟩ | ⟨_, hf⟩
  · rcases ite_or hf with ⟨_, hf⟩ | ⟨_, hf⟩
    · obtain rfl := Option.some.inj hf
      exact ch
    · obtain rfl := Option.some.inj hf
      exact ch
  · exact ch.trans (frfX4_allow_33 FU _ _ _ _ _ hf)

theorem frfX0_pullWalls_89 {v1 : Int32} {v5 : Int32} {v6 : Int32} {v7 : Int32} {s0 : Int32} {s1 : Int32} {w : Wd} {r : Wd} (k18 : Int32 → Int32 → Int32 → Wd → Option Wd) (hk18 : ∀ (v1 : Int32) (v5 : Int32) (v6 : Int32) (w : Wd), k18 v1 v5 v6 w = some r → SameX [(1, 91), (106, 133)] w r) (hf : fX0_pullWalls_89 k18 v1 v5 v6 v7 s0 s1 w = some r) : SameX [(1, 91), (106, 133)] w r := by
  unfold fX0_pullWalls_89 at hf
  have ch : SameX [(1, 91), (106, 133)] w w := SameX.refl _ _
  obtain ⟨_, hf⟩ := itz hf
  obtain ⟨hb_1, hf⟩ := itn hf
  rcases ite_or hf with ⟨_, hf⟩ | ⟨_, hf⟩
  · obtain ⟨w_3, ew_3, hf⟩ := nwx hf
    have ch := SameX.w_wi (lo := 1) (hi := 91) ch ew_3 (by simp) (by omega)
    obtain ⟨v_4, hv_4, hf⟩ := bnd hf
    have ch := SameX.tr (by simp) ch (frfX4_allow hv_4)
    rcases ite_or hf with ⟨_, hf⟩ | ⟨_, hf⟩
    · obtain ⟨w_6, ew_6, hf⟩ := nwx hf
      have ch := SameX.w_si (lo := 1) (hi := 91) ch ew_6 (by simp) (by omega)
      exact ch.trans (hk18 _ _ _ _ hf)
    · obtain ⟨w_7, ew_7, hf⟩ := nwx hf
      have ch := SameX.w_si (lo := 1) (hi := 91) ch ew_7 (by simp) (by omega)
      exact ch.trans (hk18 _ _ _ _ hf)
  · exact ch.trans (hk18 _ _ _ _ hf)

theorem frfX0_pullWalls_39 {v1 : Int32} {v5 : Int32} {v6 : Int32} {s0 : Int32} {w : Wd} {r : Wd} (k18 : Int32 → Int32 → Int32 → Wd → Option Wd) (hk18 : ∀ (v1 : Int32) (v5 : Int32) (v6 : Int32) (w : Wd), k18 v1 v5 v6 w = some r → SameX [(1, 91), (106, 133)] w r) (hf : fX0_pullWalls_39 k18 v1 v5 v6 s0 w = some r) : SameX [(1, 91), (106, 133)] w r := by
  unfold fX0_pullWalls_39 at hf
  have ch : SameX [(1, 91), (106, 133)] w w := SameX.refl _ _
  rcases ite_or hf with ⟨_, hf⟩ | ⟨_, hf⟩
  · exact ch.trans (hk18 _ _ _ _ hf)
  · obtain ⟨hb_2, hf⟩ := itn hf
    rcases ite_or hf with ⟨_, hf⟩ | ⟨_, hf⟩
    · exact ch.trans (hk18 _ _ _ _ hf)
    · rcases ite_or hf with ⟨_, hf⟩ | ⟨_, hf⟩
      · exact ch.trans (hk18 _ _ _ _ hf)
      · rcases ite_or hf with ⟨_, hf⟩ | ⟨_, hf⟩
        · exact ch.trans (frfX0_pullWalls_89 k18 hk18 hf)
        · exact ch.trans (frfX0_pullWalls_89 k18 hk18 hf)

theorem frfX0_pullWalls_18 {r : Wd} : ∀ (n : Nat) (v1 : Int32) (v5 : Int32) (v6 : Int32) (w : Wd), fX0_pullWalls_18 n v1 v5 v6 w = some r → SameX [(1, 91), (106, 133)] w r := by
  intro n
  induction n with
  | zero =>
    intro v1 v5 v6 w hf
    unfold fX0_pullWalls_18 at hf
    cases hf
  | succ n ih =>
    intro v1 v5 v6 w hf
    unfold fX0_pullWalls_18 at hf
    have ch : SameX [(1, 91), (106, 133)] w w := SameX.refl _ _
    rcases ite_or hf with ⟨_, hf⟩ | ⟨_, hf⟩
    · rcases ite_or hf with ⟨_, hf⟩ | ⟨_, hf⟩
      · exact ch.trans (frfX0_pullWalls_39 (fX0_pullWalls_18 n) ih hf)
      · obtain ⟨v_3, hv_3, hf⟩ := bnd hf
        exact ch.trans (frfX0_pullWalls_39 (fX0_pullWalls_18 n) ih hf)
    · obtain rfl := Option.some.inj hf
      exact ch

theorem frfX0_pullWalls {v1 : Int32} {v2 : Int32} {w : Wd} {r : Wd} (hf : fX0_pullWalls v1 v2 w = some r) : SameX [(1, 91), (106, 133)] w r := by
  unfold fX0_pullWalls at hf
  have ch : SameX [(1, 91), (106, 133)] w w := SameX.refl _ _
  obtain ⟨hb_1, hf⟩ := itn hf
  exact ch.trans (frfX0_pullWalls_18 FU _ _ _ _ hf)

theorem frfX0_doDaysWork_246 {v3 : Int32} {v4 : Nat} {s0 : Nat} {s1 : Int32} {s2 : Int32} {w : Wd} {r : Wd} (k15 : Int32 → Wd → Option Wd) (hk15 : ∀ (v3 : Int32) (w : Wd), k15 v3 w = some r → SameX [(1, 91), (106, 133)] w r) (bv4 : 36 ≤ v4 ∧ v4 ≤ 85) (bs0 : 1 ≤ s0 ∧ s0 ≤ 91) (hf : fX0_doDaysWork_246 k15 v3 v4 s0 s1 s2 w = some r) : SameX [(1, 91), (106, 133)] w r := by
  unfold fX0_doDaysWork_246 at hf
  have ch : SameX [(1, 91), (106, 133)] w w := SameX.refl _ _
  obtain ⟨hb_1, hf⟩ := itn hf
  obtain ⟨w_2, ew_2, hf⟩ := nwx hf
  have ch := SameX.w_wi (lo := 1) (hi := 91) ch ew_2 (by simp) (by omega)
  obtain ⟨w_3, ew_3, hf⟩ := nwx hf
  have ch := SameX.w_si (lo := 1) (hi := 91) ch ew_3 (by simp) (by omega)
  exact ch.trans (hk15 _ _ hf)

theorem frfX0_doDaysWork_15 {r : Wd} : ∀ (n : Nat) (v3 : Int32) (w : Wd), fX0_doDaysWork_15 n v3 w = some r → SameX [(1, 91), (106, 133)] w r := by
  intro n
  induction n with
  | zero =>
    intro v3 w hf
    unfold fX0_doDaysWork_15 at hf
    cases hf
  | succ n ih =>
    intro v3 w hf
    unfold fX0_doDaysWork_15 at hf
    have ch : SameX [(1, 91), (106, 133)] w w := SameX.refl _ _
    rcases ite_or hf with ⟨_, hf⟩ | ⟨_, hf⟩
    · obtain ⟨hb_2, hf⟩ := itn hf
      have lhb_2 := inb_lt hb_2
      obtain ⟨v_3, hv_3, hf⟩ := bnd hf
      rcases ite_or hf with ⟨_, hf⟩ | ⟨_, hf⟩
      · exact ch.trans (ih _ _ hf)
      · rcases ite_or hf with ⟨_, hf⟩ | ⟨_, hf⟩
        · exact ch.trans (ih _ _ hf)
        · obtain ⟨hb_6, hf⟩ := itn hf
          obtain ⟨v_7, hv_7, hf⟩ := bnd hf
          obtain ⟨v_8, hv_8, hf⟩ := bnd hf
          have ch := SameX.tr (by simp) ch (frfX4_allow hv_8)
          rcases ite_or hf with ⟨_, hf⟩ | ⟨_, hf⟩
          · rcases ite_or hf with ⟨_, hf⟩ | ⟨_, hf⟩
            · obtain ⟨w_11, ew_11, hf⟩ := nwx hf
              have ch := SameX.w_wi (lo := 1) (hi := 91) ch ew_11 (by simp) (by omega)
              rcases ite_or hf with ⟨_, hf⟩ | ⟨_, hf⟩
              · exact ch.trans (ih _ _ hf)
              · obtain ⟨v_13, hv_13, hf⟩ := bnd hf
                obtain ⟨v_14, hv_14, hf⟩ := bnd hf
                have ch := SameX.tr (by simp) ch (frfX0_pullWalls hv_14)
                exact ch.trans (ih _ _ hf)
            · rcases ite_or hf with ⟨_, hf⟩ | ⟨_, hf⟩
              · obtain ⟨w_16, ew_16, hf⟩ := nwx hf
                have ch := SameX.w_si (lo := 1) (hi := 91) ch ew_16 (by simp) (by omega)
                exact ch.trans (ih _ _ hf)
              · obtain ⟨w_17, ew_17, hf⟩ := nwx hf
                have ch := SameX.w_si (lo := 1) (hi := 91) ch ew_17 (by simp) (by omega)
                obtain ⟨v_18, hv_18, hf⟩ := bnd hf
                obtain ⟨w_19, ew_19, hf⟩ := nwx hf
                have ch := SameX.w_wi (lo := 1) (hi := 91) ch ew_19 (by simp) (by omega)
                obtain ⟨v_20, hv_20, hf⟩ := bnd hf
                rcases ite_or hf with ⟨_, hf⟩ | ⟨_, hf⟩
                · exact ch.trans (frfX0_doDaysWork_246 (fX0_doDaysWork_15 n) ih (by omega) (by omega) hf)
                · exact ch.trans (frfX0_doDaysWork_246 (fX0_doDaysWork_15 n) ih (by omega) (by omega) hf)
          · obtain ⟨w_22, ew_22, hf⟩ := nwx hf
            have ch := SameX.w_si (lo := 1) (hi := 91) ch ew_22 (by simp) (by omega)
            exact ch.trans (ih _ _ hf)
    · obtain rfl := Option.some.inj hf
      exact ch

theorem frfX0_doDaysWork {w : Wd} {r : Wd} (hf : fX0_doDaysWork w = some r) : SameX [(1, 91), (106, 133)] w r := by
  unfold fX0_doDaysWork at hf
  have ch : SameX [(1, 91), (106, 133)] w w := SameX.refl _ _
  obtain ⟨w_1, ew_1, hf⟩ := nwx hf
  have ch := SameX.w_si (lo := 1) (hi := 91) ch ew_1 (by simp) (by omega)
  exact ch.trans (frfX0_doDaysWork_15 FU _ _ hf)

theorem frfX3_restart {w : Wd} {r : Wd} (hf : fX3_restart w = some r) : SameX [(1, 91)] w r := by
  unfold fX3_restart at hf
  have ch : SameX [(1, 91)] w w := SameX.refl _ _
  obtain ⟨w_1, ew_1, hf⟩ := nwx hf
  have ch := SameX.w_flI (lo := 1) (hi := 91) ch ew_1 (by simp) (by omega)
  obtain ⟨w_2, ew_2, hf⟩ := nwx hf
  have ch := SameX.w_flI (lo := 1) (hi := 91) ch ew_2 (by simp) (by omega)
  obtain ⟨w_3, ew_3, hf⟩ := nwx hf
  have ch := SameX.w_flI (lo := 1) (hi := 91) ch ew_3 (by simp) (by omega)
  obtain rfl := Option.some.inj hf
  exact ch

theorem frfX10_restart {w : Wd} {r : Wd} (hf : fX10_restart w = some r) : SameX [(1, 91)] w r := by
  unfold fX10_restart at hf
  have ch : SameX [(1, 91)] w w := SameX.refl _ _
  obtain ⟨w_1, ew_1, hf⟩ := nwx hf
  have ch := SameX.w_flI (lo := 1) (hi := 91) ch ew_1 (by simp) (by omega)
  obtain ⟨w_2, ew_2, hf⟩ := nwx hf
  have ch := SameX.w_flI (lo := 1) (hi := 91) ch ew_2 (by simp) (by omega)
  obtain ⟨w_3, ew_3, hf⟩ := nwx hf
  have ch := SameX.w_flI (lo := 1) (hi := 91) ch ew_3 (by simp) (by omega)
  obtain ⟨w_4, ew_4, hf⟩ := nwx hf
  have ch := SameX.w_flI (lo := 1) (hi := 91) ch ew_4 (by simp) (by omega)
  obtain ⟨w_5, ew_5, hf⟩ := nwx hf
  have ch := SameX.w_si (lo := 1) (hi := 91) ch ew_5 (by simp) (by omega)
  obtain ⟨w_6, ew_6, hf⟩ := nwx hf
  have ch := SameX.w_si (lo := 1) (hi := 91) ch ew_6 (by simp) (by omega)
  obtain ⟨w_7, ew_7, hf⟩ := nwx hf
  have ch := SameX.w_si (lo := 1) (hi := 91) ch ew_7 (by simp) (by omega)
  obtain ⟨w_8, ew_8, hf⟩ := nwx hf
  have ch := SameX.w_si (lo := 1) (hi := 91) ch ew_8 (by simp) (by omega)
  obtain ⟨w_9, ew_9, hf⟩ := nwx hf
  have ch := SameX.w_si (lo := 1) (hi := 91) ch ew_9 (by simp) (by omega)
  obtain ⟨w_10, ew_10, hf⟩ := nwx hf
  have ch := SameX.w_si (lo := 1) (hi := 91) ch ew_10 (by simp) (by omega)
  obtain ⟨w_11, ew_11, hf⟩ := nwx hf
  have ch := SameX.w_si (lo := 1) (hi := 91) ch ew_11 (by simp) (by omega)
  obtain rfl := Option.some.inj hf
  exact ch

theorem frfX0_restart {w : Wd} {r : Wd} (hf : fX0_restart w = some r) : SameX [(1, 91)] w r := by
  unfold fX0_restart at hf
  have ch : SameX [(1, 91)] w w := SameX.refl _ _
  obtain ⟨v_1, hv_1, hf⟩ := bnd hf
  have ch := SameX.tr (by simp) ch (frfX2_restart hv_1)
  obtain ⟨v_2, hv_2, hf⟩ := bnd hf
  have ch := SameX.tr (by simp) ch (frfX10_restart hv_2)
  obtain ⟨v_3, hv_3, hf⟩ := bnd hf
  have ch := SameX.tr (by simp) ch (frfX3_restart hv_3)
  obtain ⟨w_4, ew_4, hf⟩ := nwx hf
  have ch := SameX.w_si (lo := 1) (hi := 91) ch ew_4 (by simp) (by omega)
  obtain ⟨w_5, ew_5, hf⟩ := nwx hf
  have ch := SameX.w_si (lo := 1) (hi := 91) ch ew_5 (by simp) (by omega)
  obtain ⟨w_6, ew_6, hf⟩ := nwx hf
  have ch := SameX.w_si (lo := 1) (hi := 91) ch ew_6 (by simp) (by omega)
  obtain ⟨w_7, ew_7, hf⟩ := nwx hf
  have ch := SameX.w_si (lo := 1) (hi := 91) ch ew_7 (by simp) (by omega)
  obtain ⟨w_8, ew_8, hf⟩ := nwx hf
  have ch := SameX.w_si (lo := 1) (hi := 91) ch ew_8 (by simp) (by omega)
  obtain ⟨w_9, ew_9, hf⟩ := nwx hf
  have ch := SameX.w_si (lo := 1) (hi := 91) ch ew_9 (by simp) (by omega)
  obtain ⟨w_10, ew_10, hf⟩ := nwx hf
  have ch := SameX.w_si (lo := 1) (hi := 91) ch ew_10 (by simp) (by omega)
  obtain ⟨w_11, ew_11, hf⟩ := nwx hf
  have ch := SameX.w_si (lo := 1) (hi := 91) ch ew_11 (by simp) (by omega)
  obtain ⟨w_12, ew_12, hf⟩ := nwx hf
  have ch := SameX.w_si (lo := 1) (hi := 91) ch ew_12 (by simp) (by omega)
  obtain rfl := Option.some.inj hf
  exact ch

theorem frfX1_cellsCutOff_41 {v3 : Int32} {s1 : Int32} {s2 : Int32} {w : Wd} {r : Int32 × Wd} (k7 : Int32 → Wd → Option (Int32 × Wd)) (hk7 : ∀ (v3 : Int32) (w : Wd), k7 v3 w = some r → SameX [(92, 99)] w r.2) (hf : fX1_cellsCutOff_41 k7 v3 s1 s2 w = some r) : SameX [(92, 99)] w r.2 := by
  unfold fX1_cellsCutOff_41 at hf
  have ch : SameX [(92, 99)] w w := SameX.refl _ _
  obtain ⟨hb_1, hf⟩ := itn hf
  obtain ⟨w_2, ew_2, hf⟩ := nwx hf
  have ch := SameX.w_wi (lo := 92) (hi := 99) ch ew_2 (by simp) (by omega)
  exact ch.trans (hk7 _ _ hf)

theorem frfX1_cellsCutOff_97 {r : Int32 × Wd} (k88 : Int32 → Int32 → Wd → Option (Int32 × Wd)) (hk88 : ∀ (v3 : Int32) (v4 : Int32) (w : Wd), k88 v3 v4 w = some r → SameX [(92, 99)] w r.2) : ∀ (n : Nat) (v3 : Int32) (v4 : Int32) (v5 : Int32) (w : Wd), fX1_cellsCutOff_97 k88 n v3 v4 v5 w = some r → SameX [(92, 99)] w r.2 := by
  intro n
  induction n with
  | zero =>
    intro v3 v4 v5 w hf
    unfold fX1_cellsCutOff_97 at hf
    cases hf
  | succ n ih =>
    intro v3 v4 v5 w hf
    unfold fX1_cellsCutOff_97 at hf
    have ch : SameX [(92, 99)] w w := SameX.refl _ _
    rcases ite_or hf with ⟨_, hf⟩ | ⟨_, hf⟩
    · obtain ⟨hb_2, hf⟩ := itn hf
      obtain ⟨v_3, hv_3, hf⟩ := bnd hf
      rcases ite_or hf with ⟨_, hf⟩ | ⟨_, hf⟩
      · exact ch.trans (ih _ _ _ _ hf)
      · obtain ⟨hb_5, hf⟩ := itn hf
        rcases ite_or hf with ⟨_, hf⟩ | ⟨_, hf⟩
        · rcases ite_or hf with ⟨_, hf⟩ | ⟨_, hf⟩
          · obtain ⟨w_8, ew_8, hf⟩ := nwx hf
            have ch := SameX.w_wi (lo := 92) (hi := 99) ch ew_8 (by simp) (by omega)
            obtain ⟨hb_9, hf⟩ := itn hf
            obtain ⟨w_10, ew_10, hf⟩ := nwx hf
            have ch := SameX.w_wi (lo := 92) (hi := 99) ch ew_10 (by simp) (by omega)
            exact ch.trans (ih _ _ _ _ hf)
          · exact ch.trans (ih _ _ _ _ hf)
        · exact ch.trans (ih _ _ _ _ hf)
    · exact ch.trans (hk88 _ _ _ hf)

theorem frfX1_cellsCutOff_179 {r : Int32 × Wd} : ∀ (n : Nat) (v4 : Int32) (v5 : Int32) (w : Wd), fX1_cellsCutOff_179 n v4 v5 w = some r → SameX [(92, 99)] w r.2 := by
  intro n
  induction n with
  | zero =>
    intro v4 v5 w hf
    unfold fX1_cellsCutOff_179 at hf
    cases hf
  | succ n ih =>
    intro v4 v5 w hf
    unfold fX1_cellsCutOff_179 at hf
    have ch : SameX [(92, 99)] w w := SameX.refl _ _
    rcases ite_or hf with ⟨_, hf⟩ | ⟨_, hf⟩
    · obtain ⟨hb_2, hf⟩ := itn hf
      rcases ite_or hf with ⟨_, hf⟩ | ⟨_, hf⟩
      · rcases ite_or hf with ⟨_, hf⟩ | ⟨_, hf⟩
        · rcases ite_or hf with ⟨_, hf⟩ | ⟨_, hf⟩
          · exact ch.trans (ih _ _ _ hf)
          · exact ch.trans (ih _ _ _ hf)
        · exact ch.trans (ih _ _ _ hf)
      · exact ch.trans (ih _ _ _ hf)
    · obtain rfl := Option.some.inj hf
      exact ch

theorem frfX1_cellsCutOff_88 {r : Int32 × Wd} : ∀ (n : Nat) (v3 : Int32) (v4 : Int32) (w : Wd), fX1_cellsCutOff_88 n v3 v4 w = some r → SameX [(92, 99)] w r.2 := by
  intro n
  induction n with
  | zero =>
    intro v3 v4 w hf
    unfold fX1_cellsCutOff_88 at hf
    cases hf
  | succ n ih =>
    intro v3 v4 w hf
    unfold fX1_cellsCutOff_88 at hf
    have ch : SameX [(92, 99)] w w := SameX.refl _ _
    rcases ite_or hf with ⟨_, hf⟩ | ⟨_, hf⟩
    · exact ch.trans (frfX1_cellsCutOff_97 (fX1_cellsCutOff_88 n) ih FU _ _ _ _ hf)
    · exact ch.trans (frfX1_cellsCutOff_179 FU _ _ _ hf)

theorem frfX1_cellsCutOff_7 {r : Int32 × Wd} : ∀ (n : Nat) (v3 : Int32) (w : Wd), fX1_cellsCutOff_7 n v3 w = some r → SameX [(92, 99)] w r.2 := by
  intro n
  induction n with
  | zero =>
    intro v3 w hf
    unfold fX1_cellsCutOff_7 at hf
    cases hf
  | succ n ih =>
    intro v3 w hf
    unfold fX1_cellsCutOff_7 at hf
    have ch : SameX [(92, 99)] w w := SameX.refl _ _
    rcases ite_or hf with ⟨_, hf⟩ | ⟨_, hf⟩
    · obtain ⟨hb_2, hf⟩ := itn hf
      rcases ite_or hf with ⟨_, hf⟩ | ⟨_, hf⟩
      · exact ch.trans (frfX1_cellsCutOff_41 (fX1_cellsCutOff_7 n) ih hf)
      · obtain ⟨v_4, hv_4, hf⟩ := bnd hf
        rcases ite_or hf with ⟨_, hf⟩ | ⟨_, hf⟩
        · exact ch.trans (frfX1_cellsCutOff_41 (fX1_cellsCutOff_7 n) ih hf)
        · exact ch.trans (frfX1_cellsCutOff_41 (fX1_cellsCutOff_7 n) ih hf)
    · obtain ⟨hb_6, hf⟩ := itn hf
      rcases ite_or hf with ⟨_, hf⟩ | ⟨_, hf⟩
      · obtain ⟨w_8, ew_8, hf⟩ := nwx hf
        have ch := SameX.w_wi (lo := 92) (hi := 99) ch ew_8 (by simp) (by omega)
        obtain ⟨w_9, ew_9, hf⟩ := nwx hf
        have ch := SameX.w_wi (lo := 92) (hi := 99) ch ew_9 (by simp) (by omega)
        exact ch.trans (frfX1_cellsCutOff_88 FU _ _ _ hf)
      · exact ch.trans (frfX1_cellsCutOff_88 FU _ _ _ hf)

theorem frfX1_cellsCutOff {w : Wd} {r : Int32 × Wd} (hf : fX1_cellsCutOff w = some r) : SameX [(92, 99)] w r.2 := by
  unfold fX1_cellsCutOff at hf
  have ch : SameX [(92, 99)] w w := SameX.refl _ _
  exact ch.trans (frfX1_cellsCutOff_7 FU _ _ hf)

theorem frfX1_drink_54 {v3 : Int32} {v4 : Int32} {s1 : Int32} {s2 : Int32} {w : Wd} {r : Wd} (k10 : Int32 → Int32 → Wd → Option Wd) (hk10 : ∀ (v3 : Int32) (v4 : Int32) (w : Wd), k10 v3 v4 w = some r → SameX [(1, 91), (92, 99)] w r) (hf : fX1_drink_54 k10 v3 v4 s1 s2 w = some r) : SameX [(1, 91), (92, 99)] w r := by
  unfold fX1_drink_54 at hf
  have ch : SameX [(1, 91), (92, 99)] w w := SameX.refl _ _
  obtain ⟨hb_1, hf⟩ := itn hf
  obtain ⟨w_2, ew_2, hf⟩ := nwx hf
  have ch := SameX.w_wi (lo := 92) (hi := 99) ch ew_2 (by simp) (by omega)
  obtain ⟨hb_3, hf⟩ := itn hf
  obtain ⟨w_4, ew_4, hf⟩ := nwx hf
  have ch := SameX.w_wi (lo := 92) (hi := 99) ch ew_4 (by simp) (by omega)
  exact ch.trans (hk10 _ _ _ hf)

theorem frfX1_drink_111 {r : Wd} (k80 : Int32 → Int32 → Wd → Option Wd) (hk80 : ∀ (v3 : Int32) (v4 : Int32) (w : Wd), k80 v3 v4 w = some r → SameX [(1, 91), (92, 99)] w r) : ∀ (n : Nat) (v3 : Int32) (v4 : Int32) (v5 : Int32) (v6 : Int32) (w : Wd), fX1_drink_111 k80 n v3 v4 v5 v6 w = some r → SameX [(1, 91), (92, 99)] w r := by
  intro n
  induction n with
  | zero =>
    intro v3 v4 v5 v6 w hf
    unfold fX1_drink_111 at hf
    cases hf
  | succ n ih =>
    intro v3 v4 v5 v6 w hf
    unfold fX1_drink_111 at hf
    have ch : SameX [(1, 91), (92, 99)] w w := SameX.refl _ _
    rcases ite_or hf with ⟨_, hf⟩ | ⟨_, hf⟩
    · obtain ⟨hb_2, hf⟩ := itn hf
      obtain ⟨v_3, hv_3, hf⟩ := bnd hf
      obtain ⟨v_4, hv_4, hf⟩ := bnd hf
      rcases ite_or hf with ⟨_, hf⟩ | ⟨_, hf⟩
      · exact ch.trans (ih _ _ _ _ _ hf)
      · exact ch.trans (ih _ _ _ _ _ hf)
    · obtain ⟨hb_6, hf⟩ := itn hf
      rcases ite_or hf with ⟨_, hf⟩ | ⟨_, hf⟩
      · obtain ⟨hb_8, hf⟩ := itn hf
        obtain ⟨w_9, ew_9, hf⟩ := nwx hf
        have ch := SameX.w_wi (lo := 1) (hi := 91) ch ew_9 (by simp) (by omega)
        exact ch.trans (hk80 _ _ _ hf)
      · exact ch.trans (hk80 _ _ _ hf)

theorem frfX1_drink_80 {r : Wd} : ∀ (n : Nat) (v3 : Int32) (v4 : Int32) (w : Wd), fX1_drink_80 n v3 v4 w = some r → SameX [(1, 91), (92, 99)] w r := by
  intro n
  induction n with
  | zero =>
    intro v3 v4 w hf
    unfold fX1_drink_80 at hf
    cases hf
  | succ n ih =>
    intro v3 v4 w hf
    unfold fX1_drink_80 at hf
    have ch : SameX [(1, 91), (92, 99)] w w := SameX.refl _ _
    rcases ite_or hf with ⟨_, hf⟩ | ⟨_, hf⟩
    · obtain ⟨hb_2, hf⟩ := itn hf
      rcases ite_or hf with ⟨_, hf⟩ | ⟨_, hf⟩
      · exact ch.trans (ih _ _ _ hf)
      · exact ch.trans (frfX1_drink_111 (fX1_drink_80 n) ih FU _ _ _ _ _ hf)
    · obtain rfl := Option.some.inj hf
      exact ch

theorem frfX1_drink_10 {r : Wd} : ∀ (n : Nat) (v3 : Int32) (v4 : Int32) (w : Wd), fX1_drink_10 n v3 v4 w = some r → SameX [(1, 91), (92, 99)] w r := by
  intro n
  induction n with
  | zero =>
    intro v3 v4 w hf
    unfold fX1_drink_10 at hf
    cases hf
  | succ n ih =>
    intro v3 v4 w hf
    unfold fX1_drink_10 at hf
    have ch : SameX [(1, 91), (92, 99)] w w := SameX.refl _ _
    rcases ite_or hf with ⟨_, hf⟩ | ⟨_, hf⟩
    · obtain ⟨hb_2, hf⟩ := itn hf
      rcases ite_or hf with ⟨_, hf⟩ | ⟨_, hf⟩
      · exact ch.trans (ih _ _ _ hf)
      · obtain ⟨v_4, hv_4, hf⟩ := bnd hf
        rcases ite_or hf with ⟨_, hf⟩ | ⟨_, hf⟩
        · exact ch.trans (frfX1_drink_54 (fX1_drink_10 n) ih hf)
        · exact ch.trans (frfX1_drink_54 (fX1_drink_10 n) ih hf)
    · rcases ite_or hf with ⟨_, hf⟩ | ⟨_, hf⟩
      · obtain rfl := Option.some.inj hf
        exact ch
      · exact ch.trans (frfX1_drink_80 FU _ _ _ hf)

theorem frfX1_drink {w : Wd} {r : Wd} (hf : fX1_drink w = some r) : SameX [(1, 91), (92, 99)] w r := by
  unfold fX1_drink at hf
  have ch : SameX [(1, 91), (92, 99)] w w := SameX.refl _ _
  exact ch.trans (frfX1_drink_10 FU _ _ _ hf)

theorem frfX1_fillCellars_95 {v2 : Int32} {v5 : Int32} {v6 : Int32} {w : Wd} {r : Wd} (k2 : Int32 → Wd → Option Wd) (hk2 : ∀ (v2 : Int32) (w : Wd), k2 v2 w = some r → SameX [(1, 91)] w r) (hf : fX1_fillCellars_95 k2 v2 v5 v6 w = some r) : SameX [(1, 91)] w r := by
  unfold fX1_fillCellars_95 at hf
  have ch : SameX [(1, 91)] w w := SameX.refl _ _
  obtain ⟨hb_1, hf⟩ := itn hf
  obtain ⟨w_2, ew_2, hf⟩ := nwx hf
  have ch := SameX.w_wi (lo := 1) (hi := 91) ch ew_2 (by simp) (by omega)
  obtain ⟨w_3, ew_3, hf⟩ := nwx hf
  have ch := SameX.w_wi (lo := 1) (hi := 91) ch ew_3 (by simp) (by omega)
  obtain ⟨w_4, ew_4, hf⟩ := nwx hf
  have ch := SameX.w_wi (lo := 1) (hi := 91) ch ew_4 (by simp) (by omega)
  obtain ⟨w_5, ew_5, hf⟩ := nwx hf
  have ch := SameX.w_wi (lo := 1) (hi := 91) ch ew_5 (by simp) (by omega)
  exact ch.trans (hk2 _ _ hf)

theorem frfX1_fillCellars_2 {r : Wd} : ∀ (n : Nat) (v2 : Int32) (w : Wd), fX1_fillCellars_2 n v2 w = some r → SameX [(1, 91)] w r := by
  intro n
  induction n with
  | zero =>
    intro v2 w hf
    unfold fX1_fillCellars_2 at hf
    cases hf
  | succ n ih =>
    intro v2 w hf
    unfold fX1_fillCellars_2 at hf
    have ch : SameX [(1, 91)] w w := SameX.refl _ _
    rcases ite_or hf with ⟨_, hf⟩ | ⟨_, hf⟩
    · obtain ⟨v_2, hv_2, hf⟩ := bnd hf
      obtain ⟨hb_3, hf⟩ := itn hf
      rcases ite_or hf with ⟨_, hf⟩ | ⟨_, hf⟩
      · exact ch.trans (frfX1_fillCellars_95 (fX1_fillCellars_2 n) ih hf)
      · exact ch.trans (frfX1_fillCellars_95 (fX1_fillCellars_2 n) ih hf)
    · obtain rfl := Option.some.inj hf
      exact ch

theorem frfX1_fillCellars {w : Wd} {r : Wd} (hf : fX1_fillCellars w = some r) : SameX [(1, 91)] w r := by
  unfold fX1_fillCellars at hf
  have ch : SameX [(1, 91)] w w := SameX.refl _ _
  exact ch.trans (frfX1_fillCellars_2 FU _ _ hf)

theorem frfX1_fillTank {v3 : Int32} {w : Wd} {r : Wd} (hf : fX1_fillTank v3 w = some r) : SameX [(1, 91)] w r := by
  unfold fX1_fillTank at hf
  have ch : SameX [(1, 91)] w w := SameX.refl _ _
  obtain ⟨hb_1, hf⟩ := itn hf
  obtain ⟨w_2, ew_2, hf⟩ := nwx hf
  have ch := SameX.w_wi (lo := 1) (hi := 91) ch ew_2 (by simp) (by omega)
  obtain ⟨w_3, ew_3, hf⟩ := nwx hf
  have ch := SameX.w_wi (lo := 1) (hi := 91) ch ew_3 (by simp) (by omega)
  obtain ⟨w_4, ew_4, hf⟩ := nwx hf
  have ch := SameX.w_wi (lo := 1) (hi := 91) ch ew_4 (by simp) (by omega)
  obtain ⟨w_5, ew_5, hf⟩ := nwx hf
  have ch := SameX.w_wi (lo := 1) (hi := 91) ch ew_5 (by simp) (by omega)
  obtain rfl := Option.some.inj hf
  exact ch

theorem frfX1_leadLine_122 {v2 : Nat} {v3 : Int32} {v4 : Int32} {v5 : Int32} {s1 : Int32} {s2 : Int32} {w : Wd} {r : Wd} (k2 : Nat → Int32 → Wd → Option Wd) (hk2 : ∀ (v2 : Nat) (v3 : Int32) (w : Wd), 36 ≤ v2 ∧ v2 ≤ 85 → k2 v2 v3 w = some r → SameX [(92, 99)] w r) (bv2 : 36 ≤ v2 ∧ v2 ≤ 85) (hf : fX1_leadLine_122 k2 v2 v3 v4 v5 s1 s2 w = some r) : SameX [(92, 99)] w r := by
  unfold fX1_leadLine_122 at hf
  have ch : SameX [(92, 99)] w w := SameX.refl _ _
  obtain ⟨hb_1, hf⟩ := itn hf
  obtain ⟨w_2, ew_2, hf⟩ := nwx hf
  have ch := SameX.w_wi (lo := 92) (hi := 99) ch ew_2 (by simp) (by omega)
  obtain ⟨hb_3, hf⟩ := itn hf
  obtain ⟨w_4, ew_4, hf⟩ := nwx hf
  have ch := SameX.w_wi (lo := 92) (hi := 99) ch ew_4 (by simp) (by omega)
  exact ch.trans (hk2 _ _ _ (by omega) hf)

theorem frfX1_leadLine_87 {v2 : Nat} {v3 : Int32} {v4 : Int32} {v5 : Int32} {v6 : Int32} {s1 : Int32} {s2 : Int32} {w : Wd} {r : Wd} (k2 : Nat → Int32 → Wd → Option Wd) (hk2 : ∀ (v2 : Nat) (v3 : Int32) (w : Wd), 36 ≤ v2 ∧ v2 ≤ 85 → k2 v2 v3 w = some r → SameX [(92, 99)] w r) (bv2 : 36 ≤ v2 ∧ v2 ≤ 85) (hf : fX1_leadLine_87 k2 v2 v3 v4 v5 v6 s1 s2 w = some r) : SameX [(92, 99)] w r := by
  unfold fX1_leadLine_87 at hf
  have ch : SameX [(92, 99)] w w := SameX.refl _ _
  obtain ⟨hb_1, hf⟩ := itn hf
  obtain ⟨w_2, ew_2, hf⟩ := nwx hf
  have ch := SameX.w_wi (lo := 92) (hi := 99) ch ew_2 (by simp) (by omega)
  rcases ite_or hf with ⟨_, hf⟩ | ⟨_, hf⟩
  · exact ch.trans (frfX1_leadLine_122 k2 hk2 (by omega) hf)
  · exact ch.trans (frfX1_leadLine_122 k2 hk2 (by omega) hf)

theorem frfX1_leadLine_56 {v2 : Nat} {v3 : Int32} {v4 : Int32} {v5 : Int32} {s0 : Int32} {w : Wd} {r : Wd} (k2 : Nat → Int32 → Wd → Option Wd) (hk2 : ∀ (v2 : Nat) (v3 : Int32) (w : Wd), 36 ≤ v2 ∧ v2 ≤ 85 → k2 v2 v3 w = some r → SameX [(92, 99)] w r) (bv2 : 36 ≤ v2 ∧ v2 ≤ 85) (hf : fX1_leadLine_56 k2 v2 v3 v4 v5 s0 w = some r) : SameX [(92, 99)] w r := by
  unfold fX1_leadLine_56 at hf
  have ch : SameX [(92, 99)] w w := SameX.refl _ _
  rcases ite_or hf with ⟨_, hf⟩ | ⟨_, hf⟩
  · obtain ⟨hb_2, hf⟩ := itn hf
    exact ch.trans (frfX1_leadLine_87 k2 hk2 (by omega) hf)
  · obtain ⟨hb_3, hf⟩ := itn hf
    exact ch.trans (frfX1_leadLine_87 k2 hk2 (by omega) hf)

theorem frfX1_leadLine_2 {r : Wd} : ∀ (n : Nat) (v2 : Nat) (v3 : Int32) (w : Wd), 36 ≤ v2 ∧ v2 ≤ 85 → fX1_leadLine_2 n v2 v3 w = some r → SameX [(92, 99)] w r := by
  intro n
  induction n with
  | zero =>
    intro v2 v3 w bv2 hf
    unfold fX1_leadLine_2 at hf
    cases hf
  | succ n ih =>
    intro v2 v3 w bv2 hf
    unfold fX1_leadLine_2 at hf
    have ch : SameX [(92, 99)] w w := SameX.refl _ _
    rcases ite_or hf with ⟨_, hf⟩ | ⟨_, hf⟩
    · rcases ite_or hf with ⟨_, hf⟩ | ⟨_, hf⟩
      · obtain ⟨hb_3, hf⟩ := itn hf
        obtain ⟨hb_4, hf⟩ := itn hf
        rcases ite_or hf with ⟨_, hf⟩ | ⟨_, hf⟩
        · rcases ite_or hf with ⟨_, hf⟩ | ⟨_, hf⟩
          · exact ch.trans (frfX1_leadLine_56 (fX1_leadLine_2 n) ih (by omega) hf)
          · exact ch.trans (frfX1_leadLine_56 (fX1_leadLine_2 n) ih (by omega) hf)
        · exact ch.trans (frfX1_leadLine_56 (fX1_leadLine_2 n) ih (by omega) hf)
      · obtain rfl := Option.some.inj hf
        exact ch
    · obtain rfl := Option.some.inj hf
      exact ch

theorem frfX1_leadLine {v2 : Nat} {w : Wd} {r : Wd} (bv2 : 36 ≤ v2 ∧ v2 ≤ 85) (hf : fX1_leadLine v2 w = some r) : SameX [(92, 99)] w r := by
  unfold fX1_leadLine at hf
  have ch : SameX [(92, 99)] w w := SameX.refl _ _
  exact ch.trans (frfX1_leadLine_2 FU _ _ _ (by omega) hf)

theorem frfX1_lead_82 {r : Wd} : ∀ (n : Nat) (v2 : Int32) (v4 : Int32) (w : Wd), fX1_lead_82 n v2 v4 w = some r → SameX [(92, 99)] w r := by
  intro n
  induction n with
  | zero =>
    intro v2 v4 w hf
    unfold fX1_lead_82 at hf
    cases hf
  | succ n ih =>
    intro v2 v4 w hf
    unfold fX1_lead_82 at hf
    have ch : SameX [(92, 99)] w w := SameX.refl _ _
    rcases ite_or hf with ⟨_, hf⟩ | ⟨_, hf⟩
    · obtain rfl := Option.some.inj hf
      exact ch
    · rcases ite_or hf with ⟨_, hf⟩ | ⟨_, hf⟩
      · obtain ⟨hb_3, hf⟩ := itn hf
        have lhb_3 := inb_lt hb_3
        obtain ⟨v_4, hv_4, hf⟩ := bnd hf
        have ch := SameX.tr (by simp) ch (frfX1_leadLine (by omega) hv_4)
        exact ch.trans (ih _ _ _ hf)
      · exact ch.trans (ih _ _ _ hf)

theorem frfX1_lead_8 {r : Wd} : ∀ (n : Nat) (v2 : Int32) (v4 : Int32) (w : Wd), fX1_lead_8 n v2 v4 w = some r → SameX [(92, 99)] w r := by
  intro n
  induction n with
  | zero =>
    intro v2 v4 w hf
    unfold fX1_lead_8 at hf
    cases hf
  | succ n ih =>
    intro v2 v4 w hf
    unfold fX1_lead_8 at hf
    have ch : SameX [(92, 99)] w w := SameX.refl _ _
    rcases ite_or hf with ⟨_, hf⟩ | ⟨_, hf⟩
    · obtain ⟨hb_2, hf⟩ := itn hf
      obtain ⟨w_3, ew_3, hf⟩ := nwx hf
      have ch := SameX.w_wi (lo := 92) (hi := 99) ch ew_3 (by simp) (by omega)
      obtain ⟨w_4, ew_4, hf⟩ := nwx hf
      have ch := SameX.w_wi (lo := 92) (hi := 99) ch ew_4 (by simp) (by omega)
      obtain ⟨w_5, ew_5, hf⟩ := nwx hf
      have ch := SameX.w_wi (lo := 92) (hi := 99) ch ew_5 (by simp) (by omega)
      exact ch.trans (ih _ _ _ hf)
    · exact ch.trans (frfX1_lead_82 FU _ _ _ hf)

theorem frfX1_lead {v2 : Int32} {w : Wd} {r : Wd} (hf : fX1_lead v2 w = some r) : SameX [(92, 99)] w r := by
  unfold fX1_lead at hf
  have ch : SameX [(92, 99)] w w := SameX.refl _ _
  exact ch.trans (frfX1_lead_8 FU _ _ _ hf)

theorem frfX10_arrive {v2 : Int32} {v3 : Int32} {v4 : Int32} {w : Wd} {r : Wd} (hf : fX10_arrive v2 v3 v4 w = some r) : SameX [(1, 91)] w r := by
  unfold fX10_arrive at hf
  have ch : SameX [(1, 91)] w w := SameX.refl _ _
  obtain ⟨hb_1, hf⟩ := itn hf
  rcases ite_or hf with ⟨_, hf⟩ | ⟨_, hf⟩
  · obtain ⟨w_3, ew_3, hf⟩ := nwx hf
    have ch := SameX.w_si (lo := 1) (hi := 91) ch ew_3 (by simp) (by omega)
    obtain ⟨w_4, ew_4, hf⟩ := nwx hf
    have ch := SameX.w_si (lo := 1) (hi := 91) ch ew_4 (by simp) (by omega)
    obtain rfl := Option.some.inj hf
    exact ch
  · obtain ⟨w_5, ew_5, hf⟩ := nwx hf
    have ch := SameX.w_wi (lo := 1) (hi := 91) ch ew_5 (by simp) (by omega)
    obtain ⟨w_6, ew_6, hf⟩ := nwx hf
    have ch := SameX.w_wi (lo := 1) (hi := 91) ch ew_6 (by simp) (by omega)
    obtain rfl := Option.some.inj hf
    exact ch

theorem frfX1_letOn_151 {r : Wd} : ∀ (n : Nat) (v3 : Int32) (w : Wd), fX1_letOn_151 n v3 w = some r → SameX [(1, 91), (92, 99)] w r := by
  intro n
  induction n with
  | zero =>
    intro v3 w hf
    unfold fX1_letOn_151 at hf
    cases hf
  | succ n ih =>
    intro v3 w hf
    unfold fX1_letOn_151 at hf
    have ch : SameX [(1, 91), (92, 99)] w w := SameX.refl _ _
    rcases ite_or hf with ⟨_, hf⟩ | ⟨_, hf⟩
    · obtain ⟨hb_2, hf⟩ := itn hf
      obtain ⟨v_3, hv_3, hf⟩ := bnd hf
      have ch := SameX.tr (by simp) ch (frfX10_arrive hv_3)
      exact ch.trans (ih _ _ hf)
    · obtain rfl := Option.some.inj hf
      exact ch

theorem frfX1_letOn_23 {r : Wd} : ∀ (n : Nat) (v3 : Int32) (w : Wd), fX1_letOn_23 n v3 w = some r → SameX [(1, 91), (92, 99)] w r := by
  intro n
  induction n with
  | zero =>
    intro v3 w hf
    unfold fX1_letOn_23 at hf
    cases hf
  | succ n ih =>
    intro v3 w hf
    unfold fX1_letOn_23 at hf
    have ch : SameX [(1, 91), (92, 99)] w w := SameX.refl _ _
    rcases ite_or hf with ⟨_, hf⟩ | ⟨_, hf⟩
    · obtain ⟨hb_2, hf⟩ := itn hf
      rcases ite_or hf with ⟨_, hf⟩ | ⟨_, hf⟩
      · obtain ⟨v_4, hv_4, hf⟩ := bnd hf
        rcases ite_or hf with ⟨_, hf⟩ | ⟨_, hf⟩
        · obtain ⟨w_6, ew_6, hf⟩ := nwx hf
          have ch := SameX.w_wi (lo := 1) (hi := 91) ch ew_6 (by simp) (by omega)
          obtain ⟨w_7, ew_7, hf⟩ := nwx hf
          have ch := SameX.w_wi (lo := 1) (hi := 91) ch ew_7 (by simp) (by omega)
          obtain ⟨hb_8, hf⟩ := itn hf
          obtain ⟨w_9, ew_9, hf⟩ := nwx hf
          have ch := SameX.w_wi (lo := 92) (hi := 99) ch ew_9 (by simp) (by omega)
          obtain ⟨w_10, ew_10, hf⟩ := nwx hf
          have ch := SameX.w_wi (lo := 92) (hi := 99) ch ew_10 (by simp) (by omega)
          exact ch.trans (ih _ _ hf)
        · exact ch.trans (ih _ _ hf)
      · exact ch.trans (ih _ _ hf)
    · exact ch.trans (frfX1_letOn_151 FU _ _ hf)

theorem frfX1_letOn {w : Wd} {r : Wd} (hf : fX1_letOn w = some r) : SameX [(1, 91), (92, 99)] w r := by
  unfold fX1_letOn at hf
  have ch : SameX [(1, 91), (92, 99)] w w := SameX.refl _ _
  obtain ⟨w_1, ew_1, hf⟩ := nwx hf
  have ch := SameX.w_flI (lo := 92) (hi := 99) ch ew_1 (by simp) (by omega)
  obtain ⟨w_2, ew_2, hf⟩ := nwx hf
  have ch := SameX.w_flI (lo := 92) (hi := 99) ch ew_2 (by simp) (by omega)
  exact ch.trans (frfX1_letOn_23 FU _ _ hf)

theorem frfX1_liftWater_13 {r : Wd} : ∀ (n : Nat) (v4 : Int32) (w : Wd), fX1_liftWater_13 n v4 w = some r → SameX [(1, 91)] w r := by
  intro n
  induction n with
  | zero =>
    intro v4 w hf
    unfold fX1_liftWater_13 at hf
    cases hf
  | succ n ih =>
    intro v4 w hf
    unfold fX1_liftWater_13 at hf
    have ch : SameX [(1, 91)] w w := SameX.refl _ _
    rcases ite_or hf with ⟨_, hf⟩ | ⟨_, hf⟩
    · obtain ⟨hb_2, hf⟩ := itn hf
      rcases ite_or hf with ⟨_, hf⟩ | ⟨_, hf⟩
      · rcases ite_or hf with ⟨_, hf⟩ | ⟨_, hf⟩
        · exact ch.trans (ih _ _ hf)
        · obtain ⟨v_5, hv_5, hf⟩ := bnd hf
          rcases ite_or hf with ⟨_, hf⟩ | ⟨_, hf⟩
          · obtain ⟨w_7, ew_7, hf⟩ := nwx hf
            have ch := SameX.w_wi (lo := 1) (hi := 91) ch ew_7 (by simp) (by omega)
            obtain ⟨w_8, ew_8, hf⟩ := nwx hf
            have ch := SameX.w_wi (lo := 1) (hi := 91) ch ew_8 (by simp) (by omega)
            obtain ⟨v_9, hv_9, hf⟩ := bnd hf
            have ch := SameX.tr (by simp) ch (frfX10_arrive hv_9)
            obtain ⟨w_10, ew_10, hf⟩ := nwx hf
            have ch := SameX.w_wi (lo := 1) (hi := 91) ch ew_10 (by simp) (by omega)
            exact ch.trans (ih _ _ hf)
          · exact ch.trans (ih _ _ hf)
      · exact ch.trans (ih _ _ hf)
    · obtain rfl := Option.some.inj hf
      exact ch

theorem frfX1_liftWater {w : Wd} {r : Wd} (hf : fX1_liftWater w = some r) : SameX [(1, 91)] w r := by
  unfold fX1_liftWater at hf
  have ch : SameX [(1, 91)] w w := SameX.refl _ _
  exact ch.trans (frfX1_liftWater_13 FU _ _ hf)

theorem frfX1_makeWater_7 {r : Wd} : ∀ (n : Nat) (v3 : Int32) (w : Wd), fX1_makeWater_7 n v3 w = some r → SameX [(1, 91)] w r := by
  intro n
  induction n with
  | zero =>
    intro v3 w hf
    unfold fX1_makeWater_7 at hf
    cases hf
  | succ n ih =>
    intro v3 w hf
    unfold fX1_makeWater_7 at hf
    have ch : SameX [(1, 91)] w w := SameX.refl _ _
    rcases ite_or hf with ⟨_, hf⟩ | ⟨_, hf⟩
    · obtain ⟨hb_2, hf⟩ := itn hf
      rcases ite_or hf with ⟨_, hf⟩ | ⟨_, hf⟩
      · exact ch.trans (ih _ _ hf)
      · obtain ⟨w_4, ew_4, hf⟩ := nwx hf
        have ch := SameX.w_wi (lo := 1) (hi := 91) ch ew_4 (by simp) (by omega)
        obtain ⟨w_5, ew_5, hf⟩ := nwx hf
        have ch := SameX.w_wi (lo := 1) (hi := 91) ch ew_5 (by simp) (by omega)
        obtain ⟨w_6, ew_6, hf⟩ := nwx hf
        have ch := SameX.w_si (lo := 1) (hi := 91) ch ew_6 (by simp) (by omega)
        obtain ⟨w_7, ew_7, hf⟩ := nwx hf
        have ch := SameX.w_si (lo := 1) (hi := 91) ch ew_7 (by simp) (by omega)
        exact ch.trans (ih _ _ hf)
    · obtain rfl := Option.some.inj hf
      exact ch

theorem frfX1_makeWater {w : Wd} {r : Wd} (hf : fX1_makeWater w = some r) : SameX [(1, 91)] w r := by
  unfold fX1_makeWater at hf
  have ch : SameX [(1, 91)] w w := SameX.refl _ _
  exact ch.trans (frfX1_makeWater_7 FU _ _ hf)

theorem frfX1_openGates_19 {r : Wd} : ∀ (n : Nat) (v5 : Int32) (v6 : Int32) (w : Wd), fX1_openGates_19 n v5 v6 w = some r → SameX [(1, 91), (106, 133)] w r := by
  intro n
  induction n with
  | zero =>
    intro v5 v6 w hf
    unfold fX1_openGates_19 at hf
    cases hf
  | succ n ih =>
    intro v5 v6 w hf
    unfold fX1_openGates_19 at hf
    have ch : SameX [(1, 91), (106, 133)] w w := SameX.refl _ _
    rcases ite_or hf with ⟨_, hf⟩ | ⟨_, hf⟩
    · obtain ⟨hb_2, hf⟩ := itn hf
      rcases ite_or hf with ⟨_, hf⟩ | ⟨_, hf⟩
      · obtain ⟨v_4, hv_4, hf⟩ := bnd hf
        have ch := SameX.tr (by simp) ch (frfX1_fillTank hv_4)
        rcases ite_or hf with ⟨_, hf⟩ | ⟨_, hf⟩
        · obtain ⟨v_6, hv_6, hf⟩ := bnd hf
          have ch := SameX.tr (by simp) ch (frfX4_allow hv_6)
          rcases ite_or hf with ⟨_, hf⟩ | ⟨_, hf⟩
          · obtain ⟨w_8, ew_8, hf⟩ := nwx hf
            have ch := SameX.w_wi (lo := 1) (hi := 91) ch ew_8 (by simp) (by omega)
            obtain ⟨w_9, ew_9, hf⟩ := nwx hf
            have ch := SameX.w_wi (lo := 1) (hi := 91) ch ew_9 (by simp) (by omega)
            obtain ⟨w_10, ew_10, hf⟩ := nwx hf
            have ch := SameX.w_si (lo := 1) (hi := 91) ch ew_10 (by simp) (by omega)
            obtain ⟨v_11, hv_11, hf⟩ := bnd hf
            rcases ite_or hf with ⟨_, hf⟩ | ⟨_, hf⟩
            · obtain ⟨w_13, ew_13, hf⟩ := nwx hf
              have ch := SameX.w_si (lo := 1) (hi := 91) ch ew_13 (by simp) (by omega)
              exact ch.trans (ih _ _ _ hf)
            · obtain ⟨w_14, ew_14, hf⟩ := nwx hf
              have ch := SameX.w_si (lo := 1) (hi := 91) ch ew_14 (by simp) (by omega)
              exact ch.trans (ih _ _ _ hf)
          · exact ch.trans (ih _ _ _ hf)
        · exact ch.trans (ih _ _ _ hf)
      · exact ch.trans (ih _ _ _ hf)
    · obtain rfl := Option.some.inj hf
      exact ch

theorem frfX1_openGates {w : Wd} {r : Wd} (hf : fX1_openGates w = some r) : SameX [(1, 91), (106, 133)] w r := by
  unfold fX1_openGates at hf
  have ch : SameX [(1, 91), (106, 133)] w w := SameX.refl _ _
  obtain ⟨v_1, hv_1, hf⟩ := bnd hf
  exact ch.trans (frfX1_openGates_19 FU _ _ _ hf)

theorem frfX1_passHour {w : Wd} {r : Wd} (hf : fX1_passHour w = some r) : SameX [(1, 91), (106, 133), (92, 99)] w r := by
  unfold fX1_passHour at hf
  have ch : SameX [(1, 91), (106, 133), (92, 99)] w w := SameX.refl _ _
  obtain ⟨v_1, hv_1, hf⟩ := bnd hf
  have ch := SameX.tr (by simp) ch (frfX1_makeWater hv_1)
  obtain ⟨v_2, hv_2, hf⟩ := bnd hf
  have ch := SameX.tr (by simp) ch (frfX1_letOn hv_2)
  obtain ⟨v_3, hv_3, hf⟩ := bnd hf
  have ch := SameX.tr (by simp) ch (frfX1_liftWater hv_3)
  obtain ⟨v_4, hv_4, hf⟩ := bnd hf
  have ch := SameX.tr (by simp) ch (frfX1_openGates hv_4)
  obtain ⟨v_5, hv_5, hf⟩ := bnd hf
  have ch := SameX.tr (by simp) ch (frfX1_fillCellars hv_5)
  obtain rfl := Option.some.inj hf
  exact ch

theorem frfX1_traceIsFouled_108 {v3 : Int32} {v4 : Int32} {v5 : Int32} {s0 : Int32} {w : Wd} {r : Bool × Wd} (k8 : Int32 → Int32 → Int32 → Wd → Option (Bool × Wd)) (hk8 : ∀ (v3 : Int32) (v4 : Int32) (v5 : Int32) (w : Wd), k8 v3 v4 v5 w = some r → SameX [(92, 99)] w r.2) (hf : fX1_traceIsFouled_108 k8 v3 v4 v5 s0 w = some r) : SameX [(92, 99)] w r.2 := by
  unfold fX1_traceIsFouled_108 at hf
  have ch : SameX [(92, 99)] w w := SameX.refl _ _
  obtain ⟨hb_1, hf⟩ := itn hf
  rcases ite_or hf with ⟨_, hf⟩ | ⟨_, hf⟩
  · exact ch.trans (hk8 _ _ _ _ hf)
  · obtain ⟨v_3, hv_3, hf⟩ := bnd hf
    rcases ite_or hf with ⟨_, hf⟩ | ⟨_, hf⟩
    · exact ch.trans (hk8 _ _ _ _ hf)
    · exact ch.trans (hk8 _ _ _ _ hf)

theorem frfX1_traceIsFouled_154 {r : Bool × Wd} : ∀ (n : Nat) (v4 : Int32) (v6 : Int32) (w : Wd), fX1_traceIsFouled_154 n v4 v6 w = some r → SameX [(92, 99)] w r.2 := by
  intro n
  induction n with
  | zero =>
    intro v4 v6 w hf
    unfold fX1_traceIsFouled_154 at hf
    cases hf
  | succ n ih =>
    intro v4 v6 w hf
    unfold fX1_traceIsFouled_154 at hf
    have ch : SameX [(92, 99)] w w := SameX.refl _ _
    rcases ite_or hf with ⟨_, hf⟩ | ⟨_, hf⟩
    · obtain ⟨hb_2, hf⟩ := itn hf
      obtain ⟨hb_3, hf⟩ := itn hf
      obtain ⟨w_4, ew_4, hf⟩ := nwx hf
      have ch := SameX.w_wi (lo := 92) (hi := 99) ch ew_4 (by simp) (by omega)
      exact ch.trans (ih _ _ _ hf)
    · obtain rfl := Option.some.inj hf
      exact ch

theorem frfX1_traceIsFouled_143 {v4 : Int32} {v5 : Int32} {w : Wd} {r : Bool × Wd} (hf : fX1_traceIsFouled_143 v4 v5 w = some r) : SameX [(92, 99)] w r.2 := by
  unfold fX1_traceIsFouled_143 at hf
  have ch : SameX [(92, 99)] w w := SameX.refl _ _
  rcases ite_or hf with ⟨_, hf⟩ | ⟨_, hf⟩
  · exact ch.trans (frfX1_traceIsFouled_154 FU _ _ _ hf)
  · obtain rfl := Option.some.inj hf
    exact ch

theorem frfX1_traceIsFouled_8 {r : Bool × Wd} : ∀ (n : Nat) (v3 : Int32) (v4 : Int32) (v5 : Int32) (w : Wd), fX1_traceIsFouled_8 n v3 v4 v5 w = some r → SameX [(92, 99)] w r.2 := by
  intro n
  induction n with
  | zero =>
    intro v3 v4 v5 w hf
    unfold fX1_traceIsFouled_8 at hf
    cases hf
  | succ n ih =>
    intro v3 v4 v5 w hf
    unfold fX1_traceIsFouled_8 at hf
    have ch : SameX [(92, 99)] w w := SameX.refl _ _
    rcases ite_or hf with ⟨_, hf⟩ | ⟨_, hf⟩
    · rcases ite_or hf with ⟨_, hf⟩ | ⟨_, hf⟩
      · obtain ⟨hb_3, hf⟩ := itn hf
        rcases ite_or hf with ⟨_, hf⟩ | ⟨_, hf⟩
        · rcases ite_or hf with ⟨_, hf⟩ | ⟨_, hf⟩
          · exact ch.trans (ih _ _ _ _ hf)
          · obtain ⟨w_6, ew_6, hf⟩ := nwx hf
            have ch := SameX.w_wi (lo := 92) (hi := 99) ch ew_6 (by simp) (by omega)
            obtain ⟨hb_7, hf⟩ := itn hf
            obtain ⟨w_8, ew_8, hf⟩ := nwx hf
            have ch := SameX.w_wi (lo := 92) (hi := 99) ch ew_8 (by simp) (by omega)
            rcases ite_or hf with ⟨_, hf⟩ | ⟨_, hf⟩
            · exact ch.trans (frfX1_traceIsFouled_108 (fX1_traceIsFouled_8 n) ih hf)
            · exact ch.trans (frfX1_traceIsFouled_108 (fX1_traceIsFouled_8 n) ih hf)
        · exact ch.trans (ih _ _ _ _ hf)
      · exact ch.trans (frfX1_traceIsFouled_143 hf)
    · exact ch.trans (frfX1_traceIsFouled_143 hf)

theorem frfX1_traceIsFouled {v2 : Int32} {w : Wd} {r : Bool × Wd} (hf : fX1_traceIsFouled v2 w = some r) : SameX [(92, 99)] w r.2 := by
  unfold fX1_traceIsFouled at hf
  have ch : SameX [(92, 99)] w w := SameX.refl _ _
  exact ch.trans (frfX1_traceIsFouled_8 FU _ _ _ _ hf)

theorem frfX1_peopleFouled_19 {r : Int32 × Wd} : ∀ (n : Nat) (v3 : Int32) (v4 : Int32) (w : Wd), fX1_peopleFouled_19 n v3 v4 w = some r → SameX [(92, 99)] w r.2 := by
  intro n
  induction n with
  | zero =>
    intro v3 v4 w hf
    unfold fX1_peopleFouled_19 at hf
    cases hf
  | succ n ih =>
    intro v3 v4 w hf
    unfold fX1_peopleFouled_19 at hf
    have ch : SameX [(92, 99)] w w := SameX.refl _ _
    rcases ite_or hf with ⟨_, hf⟩ | ⟨_, hf⟩
    · obtain ⟨hb_2, hf⟩ := itn hf
      rcases ite_or hf with ⟨_, hf⟩ | ⟨_, hf⟩
      · exact ch.trans (ih _ _ _ hf)
      · rcases ite_or hf with ⟨_, hf⟩ | ⟨_, hf⟩
        · exact ch.trans (ih _ _ _ hf)
        · obtain ⟨v_5, hv_5, hf⟩ := bnd hf
          have ch := SameX.tr (by simp) ch (frfX1_traceIsFouled hv_5)
          rcases ite_or hf with ⟨_, hf⟩ | ⟨_, hf⟩
          · exact ch.trans (ih _ _ _ hf)
          · exact ch.trans (ih _ _ _ hf)
    · obtain rfl := Option.some.inj hf
      exact ch

theorem frfX1_peopleFouled {v2 : Int32} {w : Wd} {r : Int32 × Wd} (hf : fX1_peopleFouled v2 w = some r) : SameX [(92, 99)] w r.2 := by
  unfold fX1_peopleFouled at hf
  have ch : SameX [(92, 99)] w w := SameX.refl _ _
  obtain ⟨v_1, hv_1, hf⟩ := bnd hf
  have ch := SameX.tr (by simp) ch (frfX1_lead hv_1)
  obtain ⟨w_2, ew_2, hf⟩ := nwx hf
  have ch := SameX.w_flI (lo := 92) (hi := 99) ch ew_2 (by simp) (by omega)
  exact ch.trans (frfX1_peopleFouled_19 FU _ _ _ hf)

theorem frfX4_enact {v1 : Int32} {v2 : Int32} {w : Wd} {r : Int32 × Wd} (hf : fX4_enact v1 v2 w = some r) : SameX [(106, 133)] w r.2 := by
  unfold fX4_enact at hf
  have ch : SameX [(106, 133)] w w := SameX.refl _ _
  rcases ite_or hf with ⟨_, hf⟩ | ⟨_, hf⟩
  · obtain ⟨hb_2, hf⟩ := itn hf
    obtain ⟨w_3, ew_3, hf⟩ := nwx hf
    have ch := SameX.w_wi (lo := 106) (hi := 133) ch ew_3 (by simp) (by omega)
    obtain ⟨hb_4, hf⟩ := itn hf
    obtain ⟨w_5, ew_5, hf⟩ := nwx hf
    have ch := SameX.w_wi (lo := 106) (hi := 133) ch ew_5 (by simp) (by omega)
    obtain ⟨hb_6, hf⟩ := itn hf
    obtain ⟨w_7, ew_7, hf⟩ := nwx hf
    have ch := SameX.w_wi (lo := 106) (hi := 133) ch ew_7 (by simp) (by omega)
    obtain ⟨hb_8, hf⟩ := itn hf
    have lhb_8 := inb_lt hb_8
    obtain ⟨_, hf⟩ := itn hf
    obtain ⟨w_9, ew_9, hf⟩ := nwx hf
    have ch := SameX.w_cpI (lo := 106) (hi := 133) ch ew_9 (by simp) (by omega)
    obtain ⟨w_10, ew_10, hf⟩ := nwx hf
    have ch := SameX.w_si (lo := 106) (hi := 133) ch ew_10 (by simp) (by omega)
    obtain rfl := Option.some.inj hf
    exact ch
  · obtain rfl := Option.some.inj hf
    exact ch

theorem frfX4_firstFault_77 {w : Wd} {r : Int32 × Wd} (hf : fX4_firstFault_77 w = some r) : SameX [(106, 133)] w r.2 := by
  unfold fX4_firstFault_77 at hf
  have ch : SameX [(106, 133)] w w := SameX.refl _ _
  obtain rfl := Option.some.inj hf
  exact ch

theorem frfX4_firstFault_15 {r : Int32 × Wd} : ∀ (n : Nat) (v1 : Nat) (v2 : Int32) (w : Wd), 135 ≤ v1 ∧ v1 ≤ 145 → fX4_firstFault_15 n v1 v2 w = some r → SameX [(106, 133)] w r.2 := by
  intro n
  induction n with
  | zero =>
    intro v1 v2 w bv1 hf
    unfold fX4_firstFault_15 at hf
    cases hf
  | succ n ih =>
    intro v1 v2 w bv1 hf
    unfold fX4_firstFault_15 at hf
    have ch : SameX [(106, 133)] w w := SameX.refl _ _
    rcases ite_or hf with ⟨_, hf⟩ | ⟨_, hf⟩
    · obtain ⟨hb_2, hf⟩ := itn hf
      obtain ⟨w_3, ew_3, hf⟩ := nwx hf
      have ch := SameX.w_wi (lo := 106) (hi := 133) ch ew_3 (by simp) (by omega)
      exact ch.trans (ih _ _ _ (by omega) hf)
    · obtain ⟨w_4, ew_4, hf⟩ := nwx hf
      have ch := SameX.w_si (lo := 106) (hi := 133) ch ew_4 (by simp) (by omega)
      obtain ⟨w_5, ew_5, hf⟩ := nwx hf
      have ch := SameX.w_si (lo := 106) (hi := 133) ch ew_5 (by simp) (by omega)
      obtain ⟨w_6, ew_6, hf⟩ := nwx hf
      have ch := SameX.w_si (lo := 106) (hi := 133) ch ew_6 (by simp) (by omega)
      obtain ⟨v_7, hv_7, hf⟩ := bnd hf
      have ch := SameX.tr (by simp) ch (frkRO hv_7)
      rcases ite_or hf with ⟨_, hf⟩ | ⟨_, hf⟩
      · obtain ⟨v_9, hv_9, hf⟩ := bnd hf
        have ch := SameX.tr (by simp) ch (frfX4_fail hv_9)
        exact ch.trans (frfX4_firstFault_77 hf)
      · exact ch.trans (frfX4_firstFault_77 hf)

theorem frfX4_firstFault {v1 : Nat} {w : Wd} {r : Int32 × Wd} (bv1 : 135 ≤ v1 ∧ v1 ≤ 145) (hf : fX4_firstFault v1 w = some r) : SameX [(106, 133)] w r.2 := by
  unfold fX4_firstFault at hf
  have ch : SameX [(106, 133)] w w := SameX.refl _ _
  obtain ⟨w_1, ew_1, hf⟩ := nwx hf
  have ch := SameX.w_si (lo := 106) (hi := 133) ch ew_1 (by simp) (by omega)
  exact ch.trans (frfX4_firstFault_15 FU _ _ _ (by omega) hf)

theorem frfX5_start {v0 : Nat} {v2 : Int32} {v3 : Int32} {w : Wd} {r : Wd} (bv0 : 36 ≤ v0 ∧ v0 ≤ 85) (hf : fX5_start v0 v2 v3 w = some r) : SameX [(1, 91)] w r := by
  unfold fX5_start at hf
  have ch : SameX [(1, 91)] w w := SameX.refl _ _
  obtain ⟨w_1, ew_1, hf⟩ := nwx hf
  have ch := SameX.w_si (lo := 1) (hi := 91) ch ew_1 (by simp) (by omega)
  obtain ⟨w_2, ew_2, hf⟩ := nwx hf
  have ch := SameX.w_si (lo := 1) (hi := 91) ch ew_2 (by simp) (by omega)
  obtain ⟨w_3, ew_3, hf⟩ := nwx hf
  have ch := SameX.w_si (lo := 1) (hi := 91) ch ew_3 (by simp) (by omega)
  obtain ⟨w_4, ew_4, hf⟩ := nwx hf
  have ch := SameX.w_si (lo := 1) (hi := 91) ch ew_4 (by simp) (by omega)
  obtain ⟨w_5, ew_5, hf⟩ := nwx hf
  have ch := SameX.w_si (lo := 1) (hi := 91) ch ew_5 (by simp) (by omega)
  obtain ⟨v_6, hv_6, hf⟩ := bnd hf
  have ch := SameX.cpr (lo := 1) (hi := 91) ch (frfX11_copyRow hv_6) (by simp) (by omega)
  obtain ⟨v_7, hv_7, hf⟩ := bnd hf
  have ch := SameX.cpr (lo := 1) (hi := 91) ch (frfX11_copyRow hv_7) (by simp) (by omega)
  obtain ⟨w_8, ew_8, hf⟩ := nwx hf
  have ch := SameX.w_flI (lo := 1) (hi := 91) ch ew_8 (by simp) (by omega)
  obtain ⟨w_9, ew_9, hf⟩ := nwx hf
  have ch := SameX.w_flI (lo := 1) (hi := 91) ch ew_9 (by simp) (by omega)
  obtain ⟨w_10, ew_10, hf⟩ := nwx hf
  have ch := SameX.w_flI (lo := 1) (hi := 91) ch ew_10 (by simp) (by omega)
  obtain ⟨w_11, ew_11, hf⟩ := nwx hf
  have ch := SameX.w_flI (lo := 1) (hi := 91) ch ew_11 (by simp) (by omega)
  obtain rfl := Option.some.inj hf
  exact ch

theorem frfX6_note {v1 : Int32} {v2 : Int32} {v3 : Int32} {v4 : Int32} {w : Wd} {r : Wd} (hf : fX6_note v1 v2 v3 v4 w = some r) : SameX [(1, 91)] w r := by
  unfold fX6_note at hf
  have ch : SameX [(1, 91)] w w := SameX.refl _ _
  rcases ite_or hf with ⟨_, hf⟩ | ⟨_, hf⟩
  · obtain ⟨hb_2, hf⟩ := itn hf
    obtain ⟨w_3, ew_3, hf⟩ := nwx hf
    have ch := SameX.w_wi (lo := 1) (hi := 91) ch ew_3 (by simp) (by omega)
    obtain ⟨hb_4, hf⟩ := itn hf
    obtain ⟨w_5, ew_5, hf⟩ := nwx hf
    have ch := SameX.w_wi (lo := 1) (hi := 91) ch ew_5 (by simp) (by omega)
    obtain ⟨hb_6, hf⟩ := itn hf
    obtain ⟨w_7, ew_7, hf⟩ := nwx hf
    have ch := SameX.w_wi (lo := 1) (hi := 91) ch ew_7 (by simp) (by omega)
    obtain ⟨hb_8, hf⟩ := itn hf
    obtain ⟨w_9, ew_9, hf⟩ := nwx hf
    have ch := SameX.w_wi (lo := 1) (hi := 91) ch ew_9 (by simp) (by omega)
    obtain ⟨w_10, ew_10, hf⟩ := nwx hf
    have ch := SameX.w_si (lo := 1) (hi := 91) ch ew_10 (by simp) (by omega)
    obtain rfl := Option.some.inj hf
    exact ch
  · obtain rfl := Option.some.inj hf
    exact ch

theorem frfX7_follow_17 {r : Wd} : ∀ (n : Nat) (v2 : Int32) (v3 : Int32) (v4 : Int32) (v5 : Int32) (v6 : Int32) (w : Wd), fX7_follow_17 n v2 v3 v4 v5 v6 w = some r → SameX [(102, 105)] w r := by
  intro n
  induction n with
  | zero =>
    intro v2 v3 v4 v5 v6 w hf
    unfold fX7_follow_17 at hf
    cases hf
  | succ n ih =>
    intro v2 v3 v4 v5 v6 w hf
    unfold fX7_follow_17 at hf
    have ch : SameX [(102, 105)] w w := SameX.refl _ _
    rcases ite_or hf with ⟨_, hf⟩ | ⟨_, hf⟩
    · rcases ite_or hf with ⟨_, hf⟩ | ⟨_, hf⟩
      · obtain ⟨hb_3, hf⟩ := itn hf
        obtain ⟨w_4, ew_4, hf⟩ := nwx hf
        have ch := SameX.w_wi (lo := 102) (hi := 105) ch ew_4 (by simp) (by omega)
        obtain ⟨w_5, ew_5, hf⟩ := nwx hf
        have ch := SameX.w_wi (lo := 102) (hi := 105) ch ew_5 (by simp) (by omega)
        obtain ⟨v_6, hv_6, hf⟩ := bnd hf
        exact ch.trans (ih _ _ _ _ _ _ hf)
      · obtain rfl := Option.some.inj hf
        exact ch
    · obtain rfl := Option.some.inj hf
      exact ch

theorem frfX7_follow {v1 : Int32} {v2 : Int32} {v3 : Int32} {v4 : Int32} {w : Wd} {r : Wd} (hf : fX7_follow v1 v2 v3 v4 w = some r) : SameX [(102, 105)] w r := by
  unfold fX7_follow at hf
  have ch : SameX [(102, 105)] w w := SameX.refl _ _
  obtain ⟨v_1, hv_1, hf⟩ := bnd hf
  obtain ⟨w_2, ew_2, hf⟩ := nwx hf
  have ch := SameX.w_si (lo := 102) (hi := 105) ch ew_2 (by simp) (by omega)
  exact ch.trans (frfX7_follow_17 FU _ _ _ _ _ _ hf)

theorem frfX7_leastDig_214 {v2 : Int32} {v3 : Int32} {v4 : Int32} {v5 : Int32} {v6 : Int32} {v7 : Int32} {v8 : Int32} {v9 : Int32} {v10 : Int32} {v11 : Int32} {v12 : Int32} {v13 : Int32} {w : Wd} {r : Int32 × Wd} (k73 : Int32 → Int32 → Int32 → Int32 → Int32 → Int32 → Int32 → Int32 → Int32 → Wd → Option (Int32 × Wd)) (hk73 : ∀ (v2 : Int32) (v3 : Int32) (v4 : Int32) (v5 : Int32) (v6 : Int32) (v7 : Int32) (v8 : Int32) (v9 : Int32) (v10 : Int32) (w : Wd), k73 v2 v3 v4 v5 v6 v7 v8 v9 v10 w = some r → SameX [(102, 105)] w r.2) (k82 : Int32 → Int32 → Int32 → Int32 → Int32 → Int32 → Int32 → Int32 → Int32 → Int32 → Wd → Option (Int32 × Wd)) (hk82 : ∀ (v2 : Int32) (v3 : Int32) (v4 : Int32) (v5 : Int32) (v6 : Int32) (v7 : Int32) (v8 : Int32) (v9 : Int32) (v10 : Int32) (v11 : Int32) (w : Wd), k82 v2 v3 v4 v5 v6 v7 v8 v9 v10 v11 w = some r → SameX [(102, 105)] w r.2) (hf : fX7_leastDig_214 k73 k82 v2 v3 v4 v5 v6 v7 v8 v9 v10 v11 v12 v13 w = some r) : SameX [(102, 105)] w r.2 := by
  unfold fX7_leastDig_214 at hf
  have ch : SameX [(102, 105)] w w := SameX.refl _ _
  rcases ite_or hf with ⟨_, hf⟩ | ⟨_, hf⟩
  · obtain ⟨v_2, hv_2, hf⟩ := bnd hf
    obtain ⟨hb_3, hf⟩ := itn hf
    obtain ⟨w_4, ew_4, hf⟩ := nwx hf
    have ch := SameX.w_wi (lo := 102) (hi := 105) ch ew_4 (by simp) (by omega)
    exact ch.trans (hk82 _ _ _ _ _ _ _ _ _ _ _ hf)
  · exact ch.trans (hk82 _ _ _ _ _ _ _ _ _ _ _ hf)

theorem frfX7_leastDig_179 {v2 : Int32} {v3 : Int32} {v4 : Int32} {v5 : Int32} {v6 : Int32} {v7 : Int32} {v8 : Int32} {v9 : Int32} {v10 : Int32} {v11 : Int32} {v12 : Int32} {v13 : Int32} {w : Wd} {r : Int32 × Wd} (k73 : Int32 → Int32 → Int32 → Int32 → Int32 → Int32 → Int32 → Int32 → Int32 → Wd → Option (Int32 × Wd)) (hk73 : ∀ (v2 : Int32) (v3 : Int32) (v4 : Int32) (v5 : Int32) (v6 : Int32) (v7 : Int32) (v8 : Int32) (v9 : Int32) (v10 : Int32) (w : Wd), k73 v2 v3 v4 v5 v6 v7 v8 v9 v10 w = some r → SameX [(102, 105)] w r.2) (k82 : Int32 → Int32 → Int32 → Int32 → Int32 → Int32 → Int32 → Int32 → Int32 → Int32 → Wd → Option (Int32 × Wd)) (hk82 : ∀ (v2 : Int32) (v3 : Int32) (v4 : Int32) (v5 : Int32) (v6 : Int32) (v7 : Int32) (v8 : Int32) (v9 : Int32) (v10 : Int32) (v11 : Int32) (w : Wd), k82 v2 v3 v4 v5 v6 v7 v8 v9 v10 v11 w = some r → SameX [(102, 105)] w r.2) (hf : fX7_leastDig_179 k73 k82 v2 v3 v4 v5 v6 v7 v8 v9 v10 v11 v12 v13 w = some r) : SameX [(102, 105)] w r.2 := by
  unfold fX7_leastDig_179 at hf
  have ch : SameX [(102, 105)] w w := SameX.refl _ _
  rcases ite_or hf with ⟨_, hf⟩ | ⟨_, hf⟩
  · obtain ⟨v_2, hv_2, hf⟩ := bnd hf
    rcases ite_or hf with ⟨_, hf⟩ | ⟨_, hf⟩
    · obtain ⟨hb_4, hf⟩ := itn hf
      exact ch.trans (frfX7_leastDig_214 k73 hk73 k82 hk82 hf)
    · exact ch.trans (frfX7_leastDig_214 k73 hk73 k82 hk82 hf)
  · exact ch.trans (frfX7_leastDig_214 k73 hk73 k82 hk82 hf)

theorem frfX7_leastDig_142 {v2 : Int32} {v3 : Int32} {v4 : Int32} {v5 : Int32} {v6 : Int32} {v7 : Int32} {v8 : Int32} {v9 : Int32} {v10 : Int32} {v11 : Int32} {v12 : Int32} {s0 : Int32} {w : Wd} {r : Int32 × Wd} (k73 : Int32 → Int32 → Int32 → Int32 → Int32 → Int32 → Int32 → Int32 → Int32 → Wd → Option (Int32 × Wd)) (hk73 : ∀ (v2 : Int32) (v3 : Int32) (v4 : Int32) (v5 : Int32) (v6 : Int32) (v7 : Int32) (v8 : Int32) (v9 : Int32) (v10 : Int32) (w : Wd), k73 v2 v3 v4 v5 v6 v7 v8 v9 v10 w = some r → SameX [(102, 105)] w r.2) (k82 : Int32 → Int32 → Int32 → Int32 → Int32 → Int32 → Int32 → Int32 → Int32 → Int32 → Wd → Option (Int32 × Wd)) (hk82 : ∀ (v2 : Int32) (v3 : Int32) (v4 : Int32) (v5 : Int32) (v6 : Int32) (v7 : Int32) (v8 : Int32) (v9 : Int32) (v10 : Int32) (v11 : Int32) (w : Wd), k82 v2 v3 v4 v5 v6 v7 v8 v9 v10 v11 w = some r → SameX [(102, 105)] w r.2) (hf : fX7_leastDig_142 k73 k82 v2 v3 v4 v5 v6 v7 v8 v9 v10 v11 v12 s0 w = some r) : SameX [(102, 105)] w r.2 := by
  unfold fX7_leastDig_142 at hf
  have ch : SameX [(102, 105)] w w := SameX.refl _ _
  rcases ite_or hf with ⟨_, hf⟩ | ⟨_, hf⟩
  · obtain ⟨v_2, hv_2, hf⟩ := bnd hf
    rcases ite_or hf with ⟨_, hf⟩ | ⟨_, hf⟩
    · obtain ⟨hb_4, hf⟩ := itn hf
      exact ch.trans (frfX7_leastDig_179 k73 hk73 k82 hk82 hf)
    · exact ch.trans (frfX7_leastDig_179 k73 hk73 k82 hk82 hf)
  · exact ch.trans (frfX7_leastDig_179 k73 hk73 k82 hk82 hf)

theorem frfX7_leastDig_130 {v2 : Int32} {v3 : Int32} {v4 : Int32} {v5 : Int32} {v6 : Int32} {v7 : Int32} {v8 : Int32} {v9 : Int32} {v10 : Int32} {v11 : Int32} {v12 : Int32} {w : Wd} {r : Int32 × Wd} (k73 : Int32 → Int32 → Int32 → Int32 → Int32 → Int32 → Int32 → Int32 → Int32 → Wd → Option (Int32 × Wd)) (hk73 : ∀ (v2 : Int32) (v3 : Int32) (v4 : Int32) (v5 : Int32) (v6 : Int32) (v7 : Int32) (v8 : Int32) (v9 : Int32) (v10 : Int32) (w : Wd), k73 v2 v3 v4 v5 v6 v7 v8 v9 v10 w = some r → SameX [(102, 105)] w r.2) (k82 : Int32 → Int32 → Int32 → Int32 → Int32 → Int32 → Int32 → Int32 → Int32 → Int32 → Wd → Option (Int32 × Wd)) (hk82 : ∀ (v2 : Int32) (v3 : Int32) (v4 : Int32) (v5 : Int32) (v6 : Int32) (v7 : Int32) (v8 : Int32) (v9 : Int32) (v10 : Int32) (v11 : Int32) (w : Wd), k82 v2 v3 v4 v5 v6 v7 v8 v9 v10 v11 w = some r → SameX [(102, 105)] w r.2) (hf : fX7_leastDig_130 k73 k82 v2 v3 v4 v5 v6 v7 v8 v9 v10 v11 v12 w = some r) : SameX [(102, 105)] w r.2 := by
  unfold fX7_leastDig_130 at hf
  have ch : SameX [(102, 105)] w w := SameX.refl _ _
  rcases ite_or hf with ⟨_, hf⟩ | ⟨_, hf⟩
  · exact ch.trans (frfX7_leastDig_142 k73 hk73 k82 hk82 hf)
  · exact ch.trans (frfX7_leastDig_142 k73 hk73 k82 hk82 hf)

theorem frfX7_leastDig_82 {r : Int32 × Wd} (k73 : Int32 → Int32 → Int32 → Int32 → Int32 → Int32 → Int32 → Int32 → Int32 → Wd → Option (Int32 × Wd)) (hk73 : ∀ (v2 : Int32) (v3 : Int32) (v4 : Int32) (v5 : Int32) (v6 : Int32) (v7 : Int32) (v8 : Int32) (v9 : Int32) (v10 : Int32) (w : Wd), k73 v2 v3 v4 v5 v6 v7 v8 v9 v10 w = some r → SameX [(102, 105)] w r.2) : ∀ (n : Nat) (v2 : Int32) (v3 : Int32) (v4 : Int32) (v5 : Int32) (v6 : Int32) (v7 : Int32) (v8 : Int32) (v9 : Int32) (v10 : Int32) (v11 : Int32) (w : Wd), fX7_leastDig_82 k73 n v2 v3 v4 v5 v6 v7 v8 v9 v10 v11 w = some r → SameX [(102, 105)] w r.2 := by
  intro n
  induction n with
  | zero =>
    intro v2 v3 v4 v5 v6 v7 v8 v9 v10 v11 w hf
    unfold fX7_leastDig_82 at hf
    cases hf
  | succ n ih =>
    intro v2 v3 v4 v5 v6 v7 v8 v9 v10 v11 w hf
    unfold fX7_leastDig_82 at hf
    have ch : SameX [(102, 105)] w w := SameX.refl _ _
    rcases ite_or hf with ⟨_, hf⟩ | ⟨_, hf⟩
    · exact ch.trans (hk73 _ _ _ _ _ _ _ _ _ _ hf)
    · obtain ⟨v_2, hv_2, hf⟩ := bnd hf
      rcases ite_or hf with ⟨_, hf⟩ | ⟨_, hf⟩
      · rcases ite_or hf with ⟨_, hf⟩ | ⟨_, hf⟩
        · exact ch.trans (frfX7_leastDig_130 k73 hk73 (fX7_leastDig_82 k73 n) ih hf)
        · obtain ⟨hb_5, hf⟩ := itn hf
          rcases ite_or hf with ⟨_, hf⟩ | ⟨_, hf⟩
          · exact ch.trans (ih _ _ _ _ _ _ _ _ _ _ _ hf)
          · exact ch.trans (frfX7_leastDig_130 k73 hk73 (fX7_leastDig_82 k73 n) ih hf)
      · exact ch.trans (ih _ _ _ _ _ _ _ _ _ _ _ hf)

theorem frfX7_leastDig_73 {r : Int32 × Wd} : ∀ (n : Nat) (v2 : Int32) (v3 : Int32) (v4 : Int32) (v5 : Int32) (v6 : Int32) (v7 : Int32) (v8 : Int32) (v9 : Int32) (v10 : Int32) (w : Wd), fX7_leastDig_73 n v2 v3 v4 v5 v6 v7 v8 v9 v10 w = some r → SameX [(102, 105)] w r.2 := by
  intro n
  induction n with
  | zero =>
    intro v2 v3 v4 v5 v6 v7 v8 v9 v10 w hf
    unfold fX7_leastDig_73 at hf
    cases hf
  | succ n ih =>
    intro v2 v3 v4 v5 v6 v7 v8 v9 v10 w hf
    unfold fX7_leastDig_73 at hf
    have ch : SameX [(102, 105)] w w := SameX.refl _ _
    rcases ite_or hf with ⟨_, hf⟩ | ⟨_, hf⟩
    · obtain ⟨hb_2, hf⟩ := itn hf
      obtain rfl := Option.some.inj hf
      exact ch
    · exact ch.trans (frfX7_leastDig_82 (fX7_leastDig_73 n) ih FU _ _ _ _ _ _ _ _ _ _ _ hf)

theorem frfX7_leastDig_58 {v2 : Int32} {v3 : Int32} {v4 : Int32} {v5 : Int32} {v6 : Int32} {v7 : Int32} {v8 : Int32} {s0 : Int32} {w : Wd} {r : Int32 × Wd} (hf : fX7_leastDig_58 v2 v3 v4 v5 v6 v7 v8 s0 w = some r) : SameX [(102, 105)] w r.2 := by
  unfold fX7_leastDig_58 at hf
  have ch : SameX [(102, 105)] w w := SameX.refl _ _
  obtain ⟨w_1, ew_1, hf⟩ := nwx hf
  have ch := SameX.w_flI (lo := 102) (hi := 105) ch ew_1 (by simp) (by omega)
  exact ch.trans (frfX7_leastDig_73 FU _ _ _ _ _ _ _ _ _ _ hf)

theorem frfX7_leastDig_44 {v2 : Int32} {v3 : Int32} {v4 : Int32} {v5 : Int32} {v6 : Int32} {v7 : Int32} {s0 : Int32} {w : Wd} {r : Int32 × Wd} (hf : fX7_leastDig_44 v2 v3 v4 v5 v6 v7 s0 w = some r) : SameX [(102, 105)] w r.2 := by
  unfold fX7_leastDig_44 at hf
  have ch : SameX [(102, 105)] w w := SameX.refl _ _
  rcases ite_or hf with ⟨_, hf⟩ | ⟨_, hf⟩
  · exact ch.trans (frfX7_leastDig_58 hf)
  · exact ch.trans (frfX7_leastDig_58 hf)

theorem frfX7_leastDig {v2 : Int32} {v3 : Int32} {v4 : Int32} {v5 : Int32} {w : Wd} {r : Int32 × Wd} (hf : fX7_leastDig v2 v3 v4 v5 w = some r) : SameX [(102, 105)] w r.2 := by
  unfold fX7_leastDig at hf
  have ch : SameX [(102, 105)] w w := SameX.refl _ _
  rcases ite_or hf with ⟨_, hf⟩ | ⟨_, hf⟩
  · exact ch.trans (frfX7_leastDig_44 hf)
  · exact ch.trans (frfX7_leastDig_44 hf)

theorem frfX9_learn_15 {r : Wd} : ∀ (n : Nat) (v1 : Nat) (v2 : Int32) (w : Wd), 135 ≤ v1 ∧ v1 ≤ 145 → fX9_learn_15 n v1 v2 w = some r → SameX [(100, 101)] w r := by
  intro n
  induction n with
  | zero =>
    intro v1 v2 w bv1 hf
    unfold fX9_learn_15 at hf
    cases hf
  | succ n ih =>
    intro v1 v2 w bv1 hf
    unfold fX9_learn_15 at hf
    have ch : SameX [(100, 101)] w w := SameX.refl _ _
    rcases ite_or hf with ⟨_, hf⟩ | ⟨_, hf⟩
    · obtain ⟨hb_2, hf⟩ := itn hf
      obtain ⟨hb_3, hf⟩ := itn hf
      obtain ⟨w_4, ew_4, hf⟩ := nwx hf
      have ch := SameX.w_wi (lo := 100) (hi := 101) ch ew_4 (by simp) (by omega)
      exact ch.trans (ih _ _ _ (by omega) hf)
    · obtain rfl := Option.some.inj hf
      exact ch

theorem frfX9_learn {v1 : Nat} {w : Wd} {r : Wd} (bv1 : 135 ≤ v1 ∧ v1 ≤ 145) (hf : fX9_learn v1 w = some r) : SameX [(100, 101)] w r := by
  unfold fX9_learn at hf
  have ch : SameX [(100, 101)] w w := SameX.refl _ _
  obtain ⟨w_1, ew_1, hf⟩ := nwx hf
  have ch := SameX.w_si (lo := 100) (hi := 101) ch ew_1 (by simp) (by omega)
  exact ch.trans (frfX9_learn_15 FU _ _ _ (by omega) hf)

theorem frfX11_refuse {v1 : Int32} {w : Wd} {r : Int32 × Wd} (hf : fX11_refuse v1 w = some r) : SameX [(0, 0)] w r.2 := by
  unfold fX11_refuse at hf
  have ch : SameX [(0, 0)] w w := SameX.refl _ _
  obtain ⟨w_1, ew_1, hf⟩ := nwx hf
  have ch := SameX.w_si (lo := 0) (hi := 0) ch ew_1 (by simp) (by omega)
  obtain rfl := Option.some.inj hf
  exact ch

theorem frfX11_back_46 {w : Wd} {r : Int32 × Wd} (hf : fX11_back_46 w = some r) : SameX [(0, 0), (1, 91)] w r.2 := by
  unfold fX11_back_46 at hf
  have ch : SameX [(0, 0), (1, 91)] w w := SameX.refl _ _
  obtain ⟨v_1, hv_1, hf⟩ := bnd hf
  have ch := SameX.tr (by simp) ch (frfX11_refuse hv_1)
  obtain rfl := Option.some.inj hf
  exact ch

theorem frfX11_back {v1 : Int32} {w : Wd} {r : Int32 × Wd} (hf : fX11_back v1 w = some r) : SameX [(0, 0), (1, 91)] w r.2 := by
  unfold fX11_back at hf
  have ch : SameX [(0, 0), (1, 91)] w w := SameX.refl _ _
  obtain ⟨v_1, hv_1, hf⟩ := bnd hf
  rcases ite_or hf with ⟨_, hf⟩ | ⟨_, hf⟩
  · obtain ⟨hb_3, hf⟩ := itn hf
    have lhb_3 := inb_lt hb_3
    rcases ite_or hf with ⟨_, hf⟩ | ⟨_, hf⟩
    · obtain ⟨v_5, hv_5, hf⟩ := bnd hf
      have ch := SameX.tr (by simp) ch (frfX11_refuse hv_5)
      obtain rfl := Option.some.inj hf
      exact ch
    · rcases ite_or hf with ⟨_, hf⟩ | ⟨_, hf⟩
      · rcases ite_or hf with ⟨_, hf⟩ | ⟨_, hf⟩
        · exact ch.trans (frfX11_back_46 hf)
        · obtain ⟨v_8, hv_8, hf⟩ := bnd hf
          have ch := SameX.tr (by simp) ch (frfX0_become hv_8)
          obtain rfl := Option.some.inj hf
          exact ch
      · exact ch.trans (frfX11_back_46 hf)
  · obtain rfl := Option.some.inj hf
    exact ch

theorem frfX11_bad_46 {v2 : Int32} {v4 : Nat} {s0 : Int32} {w : Wd} {r : Int32 × Wd} (bv4 : 36 ≤ v4 ∧ v4 ≤ 85) (hf : fX11_bad_46 v2 v4 s0 w = some r) : SameX [(1, 91)] w r.2 := by
  unfold fX11_bad_46 at hf
  have ch : SameX [(1, 91)] w w := SameX.refl _ _
  obtain ⟨hb_1, hf⟩ := itn hf
  rcases ite_or hf with ⟨_, hf⟩ | ⟨_, hf⟩
  · obtain rfl := Option.some.inj hf
    exact ch
  · obtain ⟨w_3, ew_3, hf⟩ := nwx hf
    have ch := SameX.w_wi (lo := 1) (hi := 91) ch ew_3 (by simp) (by omega)
    obtain rfl := Option.some.inj hf
    exact ch

theorem frfX11_bad {v1 : Int32} {v2 : Int32} {v3 : Int32} {w : Wd} {r : Int32 × Wd} (hf : fX11_bad v1 v2 v3 w = some r) : SameX [(1, 91)] w r.2 := by
  unfold fX11_bad at hf
  have ch : SameX [(1, 91)] w w := SameX.refl _ _
  obtain ⟨v_1, hv_1, hf⟩ := bnd hf
  rcases ite_or hf with ⟨_, hf⟩ | ⟨_, hf⟩
  · obtain ⟨hb_3, hf⟩ := itn hf
    have lhb_3 := inb_lt hb_3
    obtain ⟨hb_4, hf⟩ := itn hf
    rcases ite_or hf with ⟨_, hf⟩ | ⟨_, hf⟩
    · obtain rfl := Option.some.inj hf
      exact ch
    · rcases ite_or hf with ⟨_, hf⟩ | ⟨_, hf⟩
      · exact ch.trans (frfX11_bad_46 (by omega) hf)
      · exact ch.trans (frfX11_bad_46 (by omega) hf)
  · obtain rfl := Option.some.inj hf
    exact ch

theorem frfX11_begin {w : Wd} {r : Int32 × Wd} (hf : fX11_begin w = some r) : SameX [(0, 0), (1, 91), (100, 101), (102, 105), (106, 133)] w r.2 := by
  unfold fX11_begin at hf
  have ch : SameX [(0, 0), (1, 91), (100, 101), (102, 105), (106, 133)] w w := SameX.refl _ _
  obtain ⟨v_1, hv_1, hf⟩ := bnd hf
  have ch := SameX.tr (by simp) ch (frfX0_restart hv_1)
  obtain ⟨w_2, ew_2, hf⟩ := nwx hf
  have ch := SameX.w_si (lo := 100) (hi := 101) ch ew_2 (by simp) (by omega)
  obtain ⟨w_3, ew_3, hf⟩ := nwx hf
  have ch := SameX.w_si (lo := 102) (hi := 105) ch ew_3 (by simp) (by omega)
  obtain ⟨w_4, ew_4, hf⟩ := nwx hf
  have ch := SameX.w_si (lo := 106) (hi := 133) ch ew_4 (by simp) (by omega)
  obtain ⟨w_5, ew_5, hf⟩ := nwx hf
  have ch := SameX.w_si (lo := 0) (hi := 0) ch ew_5 (by simp) (by omega)
  obtain rfl := Option.some.inj hf
  exact ch

theorem frfX11_findBest_173 {v1 : Int32} {v2 : Int32} {v3 : Int32} {v4 : Int32} {w : Wd} {r : Wd} (k69 : Int32 → Int32 → Wd → Option Wd) (hk69 : ∀ (v1 : Int32) (v2 : Int32) (w : Wd), k69 v1 v2 w = some r → SameX [(0, 0), (147, 147), (92, 99)] w r) (hf : fX11_findBest_173 k69 v1 v2 v3 v4 w = some r) : SameX [(0, 0), (147, 147), (92, 99)] w r := by
  unfold fX11_findBest_173 at hf
  have ch : SameX [(0, 0), (147, 147), (92, 99)] w w := SameX.refl _ _
  obtain ⟨w_1, ew_1, hf⟩ := nwx hf
  have ch := SameX.w_si (lo := 0) (hi := 0) ch ew_1 (by simp) (by omega)
  obtain ⟨w_2, ew_2, hf⟩ := nwx hf
  have ch := SameX.w_si (lo := 0) (hi := 0) ch ew_2 (by simp) (by omega)
  obtain ⟨w_3, ew_3, hf⟩ := nwx hf
  have ch := SameX.w_si (lo := 0) (hi := 0) ch ew_3 (by simp) (by omega)
  exact ch.trans (hk69 _ _ _ hf)

theorem frfX11_findBest_87 {r : Wd} (k69 : Int32 → Int32 → Wd → Option Wd) (hk69 : ∀ (v1 : Int32) (v2 : Int32) (w : Wd), k69 v1 v2 w = some r → SameX [(0, 0), (147, 147), (92, 99)] w r) : ∀ (n : Nat) (v1 : Int32) (v2 : Int32) (v3 : Int32) (v4 : Int32) (w : Wd), fX11_findBest_87 k69 n v1 v2 v3 v4 w = some r → SameX [(0, 0), (147, 147), (92, 99)] w r := by
  intro n
  induction n with
  | zero =>
    intro v1 v2 v3 v4 w hf
    unfold fX11_findBest_87 at hf
    cases hf
  | succ n ih =>
    intro v1 v2 v3 v4 w hf
    unfold fX11_findBest_87 at hf
    have ch : SameX [(0, 0), (147, 147), (92, 99)] w w := SameX.refl _ _
    rcases ite_or hf with ⟨_, hf⟩ | ⟨_, hf⟩
    · rcases ite_or hf with ⟨_, hf⟩ | ⟨_, hf⟩
      · obtain ⟨hb_3, hf⟩ := itn hf
        exact ch.trans (ih _ _ _ _ _ hf)
      · exact ch.trans (ih _ _ _ _ _ hf)
    · rcases ite_or hf with ⟨_, hf⟩ | ⟨_, hf⟩
      · exact ch.trans (hk69 _ _ _ hf)
      · obtain ⟨v_5, hv_5, hf⟩ := bnd hf
        have ch := SameX.tr (by simp) ch (frfX1_peopleFouled hv_5)
        rcases ite_or hf with ⟨_, hf⟩ | ⟨_, hf⟩
        · exact ch.trans (frfX11_findBest_173 k69 hk69 hf)
        · rcases ite_or hf with ⟨_, hf⟩ | ⟨_, hf⟩
          · rcases ite_or hf with ⟨_, hf⟩ | ⟨_, hf⟩
            · exact ch.trans (frfX11_findBest_173 k69 hk69 hf)
            · exact ch.trans (hk69 _ _ _ hf)
          · exact ch.trans (hk69 _ _ _ hf)

theorem frfX11_findBest_69 {r : Wd} : ∀ (n : Nat) (v1 : Int32) (v2 : Int32) (w : Wd), fX11_findBest_69 n v1 v2 w = some r → SameX [(0, 0), (147, 147), (92, 99)] w r := by
  intro n
  induction n with
  | zero =>
    intro v1 v2 w hf
    unfold fX11_findBest_69 at hf
    cases hf
  | succ n ih =>
    intro v1 v2 w hf
    unfold fX11_findBest_69 at hf
    have ch : SameX [(0, 0), (147, 147), (92, 99)] w w := SameX.refl _ _
    rcases ite_or hf with ⟨_, hf⟩ | ⟨_, hf⟩
    · exact ch.trans (frfX11_findBest_87 (fX11_findBest_69 n) ih FU _ _ _ _ _ hf)
    · obtain rfl := Option.some.inj hf
      exact ch

theorem frfX11_findBest_2 {r : Wd} : ∀ (n : Nat) (v1 : Int32) (v2 : Int32) (w : Wd), fX11_findBest_2 n v1 v2 w = some r → SameX [(0, 0), (147, 147), (92, 99)] w r := by
  intro n
  induction n with
  | zero =>
    intro v1 v2 w hf
    unfold fX11_findBest_2 at hf
    cases hf
  | succ n ih =>
    intro v1 v2 w hf
    unfold fX11_findBest_2 at hf
    have ch : SameX [(0, 0), (147, 147), (92, 99)] w w := SameX.refl _ _
    rcases ite_or hf with ⟨_, hf⟩ | ⟨_, hf⟩
    · obtain ⟨hb_2, hf⟩ := itn hf
      have lhb_2 := inb_lt hb_2
      obtain ⟨v_3, hv_3, hf⟩ := bnd hf
      obtain ⟨w_4, ew_4, hf⟩ := nwx hf
      have ch := SameX.w_wi (lo := 147) (hi := 147) ch ew_4 (by simp) (by omega)
      exact ch.trans (ih _ _ _ hf)
    · obtain ⟨w_5, ew_5, hf⟩ := nwx hf
      have ch := SameX.w_si (lo := 0) (hi := 0) ch ew_5 (by simp) (by omega)
      obtain ⟨w_6, ew_6, hf⟩ := nwx hf
      have ch := SameX.w_si (lo := 0) (hi := 0) ch ew_6 (by simp) (by omega)
      obtain ⟨v_7, hv_7, hf⟩ := bnd hf
      have ch := SameX.tr (by simp) ch (frfX1_peopleFouled hv_7)
      obtain ⟨w_8, ew_8, hf⟩ := nwx hf
      have ch := SameX.w_si (lo := 0) (hi := 0) ch ew_8 (by simp) (by omega)
      exact ch.trans (frfX11_findBest_69 FU _ _ _ hf)

theorem frfX11_findBest {v1 : Int32} {w : Wd} {r : Wd} (hf : fX11_findBest v1 w = some r) : SameX [(0, 0), (147, 147), (92, 99)] w r := by
  unfold fX11_findBest at hf
  have ch : SameX [(0, 0), (147, 147), (92, 99)] w w := SameX.refl _ _
  exact ch.trans (frfX11_findBest_2 FU _ _ _ hf)

theorem frfX11_best {v1 : Int32} {v2 : Int32} {w : Wd} {r : Int32 × Wd} (hf : fX11_best v1 v2 w = some r) : SameX [(0, 0), (147, 147), (92, 99)] w r.2 := by
  unfold fX11_best at hf
  have ch : SameX [(0, 0), (147, 147), (92, 99)] w w := SameX.refl _ _
  obtain ⟨v_1, hv_1, hf⟩ := bnd hf
  rcases ite_or hf with ⟨_, hf⟩ | ⟨_, hf⟩
  · obtain ⟨v_3, hv_3, hf⟩ := bnd hf
    rcases ite_or hf with ⟨_, hf⟩ | ⟨_, hf⟩
    · obtain ⟨v_5, hv_5, hf⟩ := bnd hf
      have ch := SameX.tr (by simp) ch (frfX11_findBest hv_5)
      rcases ite_or hf with ⟨_, hf⟩ | ⟨_, hf⟩
      · obtain rfl := Option.some.inj hf
        exact ch
      · rcases ite_or hf with ⟨_, hf⟩ | ⟨_, hf⟩
        · obtain rfl := Option.some.inj hf
          exact ch
        · obtain rfl := Option.some.inj hf
          exact ch
    · obtain rfl := Option.some.inj hf
      exact ch
  · obtain rfl := Option.some.inj hf
    exact ch

theorem frfX11_bridge {v1 : Int32} {w : Wd} {r : Int32 × Wd} (hf : fX11_bridge v1 w = some r) : SameX [(1, 91)] w r.2 := by
  unfold fX11_bridge at hf
  have ch : SameX [(1, 91)] w w := SameX.refl _ _
  obtain ⟨v_1, hv_1, hf⟩ := bnd hf
  rcases ite_or hf with ⟨_, hf⟩ | ⟨_, hf⟩
  · obtain ⟨w_3, ew_3, hf⟩ := nwx hf
    have ch := SameX.w_si (lo := 1) (hi := 91) ch ew_3 (by simp) (by omega)
    obtain rfl := Option.some.inj hf
    exact ch
  · obtain rfl := Option.some.inj hf
    exact ch

theorem frfX11_clear {v1 : Int32} {w : Wd} {r : Int32 × Wd} (hf : fX11_clear v1 w = some r) : SameX [(135, 146)] w r.2 := by
  unfold fX11_clear at hf
  have ch : SameX [(135, 146)] w w := SameX.refl _ _
  obtain ⟨v_1, hv_1, hf⟩ := bnd hf
  rcases ite_or hf with ⟨_, hf⟩ | ⟨_, hf⟩
  · obtain ⟨hb_3, hf⟩ := itn hf
    have lhb_3 := inb_lt hb_3
    obtain ⟨w_4, ew_4, hf⟩ := nwx hf
    have ch := SameX.w_si (lo := 135) (hi := 146) ch ew_4 (by simp) (by omega)
    obtain ⟨w_5, ew_5, hf⟩ := nwx hf
    have ch := SameX.w_si (lo := 135) (hi := 146) ch ew_5 (by simp) (by omega)
    obtain rfl := Option.some.inj hf
    exact ch
  · obtain rfl := Option.some.inj hf
    exact ch

theorem frfX11_coal {v1 : Int32} {v2 : Int32} {w : Wd} {r : Int32 × Wd} (hf : fX11_coal v1 v2 w = some r) : SameX [(1, 91)] w r.2 := by
  unfold fX11_coal at hf
  have ch : SameX [(1, 91)] w w := SameX.refl _ _
  obtain ⟨v_1, hv_1, hf⟩ := bnd hf
  rcases ite_or hf with ⟨_, hf⟩ | ⟨_, hf⟩
  · obtain ⟨v_3, hv_3, hf⟩ := bnd hf
    rcases ite_or hf with ⟨_, hf⟩ | ⟨_, hf⟩
    · obtain ⟨hb_5, hf⟩ := itn hf
      rcases ite_or hf with ⟨_, hf⟩ | ⟨_, hf⟩
      · obtain rfl := Option.some.inj hf
        exact ch
      · obtain ⟨w_7, ew_7, hf⟩ := nwx hf
        have ch := SameX.w_wi (lo := 1) (hi := 91) ch ew_7 (by simp) (by omega)
        obtain rfl := Option.some.inj hf
        exact ch
    · obtain rfl := Option.some.inj hf
      exact ch
  · obtain rfl := Option.some.inj hf
    exact ch

theorem frfX11_copy_48 {w : Wd} {r : Int32 × Wd} (hf : fX11_copy_48 w = some r) : SameX [(0, 0), (135, 146)] w r.2 := by
  unfold fX11_copy_48 at hf
  have ch : SameX [(0, 0), (135, 146)] w w := SameX.refl _ _
  obtain ⟨v_1, hv_1, hf⟩ := bnd hf
  have ch := SameX.tr (by simp) ch (frfX11_refuse hv_1)
  obtain rfl := Option.some.inj hf
  exact ch

theorem frfX11_copy_122 {w : Wd} {r : Int32 × Wd} (hf : fX11_copy_122 w = some r) : SameX [(0, 0), (135, 146)] w r.2 := by
  unfold fX11_copy_122 at hf
  have ch : SameX [(0, 0), (135, 146)] w w := SameX.refl _ _
  obtain ⟨v_1, hv_1, hf⟩ := bnd hf
  have ch := SameX.tr (by simp) ch (frfX11_refuse hv_1)
  obtain rfl := Option.some.inj hf
  exact ch

theorem frfX11_copy_76 {w : Wd} {r : Int32 × Wd} (hf : fX11_copy_76 w = some r) : SameX [(0, 0), (135, 146)] w r.2 := by
  unfold fX11_copy_76 at hf
  have ch : SameX [(0, 0), (135, 146)] w w := SameX.refl _ _
  obtain ⟨v_1, hv_1, hf⟩ := bnd hf
  have ch := SameX.tr (by simp) ch (frfX11_refuse hv_1)
  obtain rfl := Option.some.inj hf
  exact ch

theorem frfX11_copy {v1 : Int32} {v2 : Int32} {v3 : Int32} {v4 : Int32} {v5 : Int32} {w : Wd} {r : Int32 × Wd} (hf : fX11_copy v1 v2 v3 v4 v5 w = some r) : SameX [(0, 0), (135, 146)] w r.2 := by
  unfold fX11_copy at hf
  have ch : SameX [(0, 0), (135, 146)] w w := SameX.refl _ _
  obtain ⟨v_1, hv_1, hf⟩ := bnd hf
  rcases ite_or hf with ⟨_, hf⟩ | ⟨_, hf⟩
  · obtain ⟨v_3, hv_3, hf⟩ := bnd hf
    rcases ite_or hf with ⟨_, hf⟩ | ⟨_, hf⟩
    · obtain ⟨hb_5, hf⟩ := itn hf
      have lhb_5 := inb_lt hb_5
      obtain ⟨hb_6, hf⟩ := itn hf
      have lhb_6 := inb_lt hb_6
      rcases ite_or hf with ⟨_, hf⟩ | ⟨_, hf⟩
      · exact ch.trans (frfX11_copy_48 hf)
      · rcases ite_or hf with ⟨_, hf⟩ | ⟨_, hf⟩
        · exact ch.trans (frfX11_copy_48 hf)
        · obtain ⟨v_9, hv_9, hf⟩ := bnd hf
          rcases ite_or hf with ⟨_, hf⟩ | ⟨_, hf⟩
          · rcases ite_or hf with ⟨_, hf⟩ | ⟨_, hf⟩
            · rcases ite_or hf with ⟨_, hf⟩ | ⟨_, hf⟩
              · exact ch.trans (frfX11_copy_122 hf)
              · rcases ite_or hf with ⟨_, hf⟩ | ⟨_, hf⟩
                · exact ch.trans (frfX11_copy_122 hf)
                · rcases ite_or hf with ⟨_, hf⟩ | ⟨_, hf⟩
                  · exact ch.trans (frfX11_copy_122 hf)
                  · rcases ite_or hf with ⟨_, hf⟩ | ⟨_, hf⟩
                    · exact ch.trans (frfX11_copy_122 hf)
                    · rcases ite_or hf with ⟨_, hf⟩ | ⟨_, hf⟩
                      · exact ch.trans (frfX11_copy_122 hf)
                      · obtain ⟨_, hf⟩ := itn hf
                        obtain ⟨w_17, ew_17, hf⟩ := nwx hf
                        have ch := SameX.w_cpJ (lo := 135) (hi := 146) ch ew_17 (by simp) (by omega)
                        obtain rfl := Option.some.inj hf
                        exact ch
            · exact ch.trans (frfX11_copy_76 hf)
          · exact ch.trans (frfX11_copy_76 hf)
    · obtain rfl := Option.some.inj hf
      exact ch
  · obtain rfl := Option.some.inj hf
    exact ch

theorem frfX11_cut_88 {v1 : Int32} {v3 : Int32} {v4 : Int32} {w : Wd} {r : Int32 × Wd} (hf : fX11_cut_88 v1 v3 v4 w = some r) : SameX [(1, 91)] w r.2 := by
  unfold fX11_cut_88 at hf
  have ch : SameX [(1, 91)] w w := SameX.refl _ _
  rcases ite_or hf with ⟨_, hf⟩ | ⟨_, hf⟩
  · obtain ⟨v_2, hv_2, hf⟩ := bnd hf
    obtain ⟨v_3, hv_3, hf⟩ := bnd hf
    have ch := SameX.tr (by simp) ch (frfX6_note hv_3)
    obtain rfl := Option.some.inj hf
    exact ch
  · obtain rfl := Option.some.inj hf
    exact ch

theorem frfX11_cut {v1 : Int32} {w : Wd} {r : Int32 × Wd} (hf : fX11_cut v1 w = some r) : SameX [(1, 91)] w r.2 := by
  unfold fX11_cut at hf
  have ch : SameX [(1, 91)] w w := SameX.refl _ _
  obtain ⟨v_1, hv_1, hf⟩ := bnd hf
  rcases ite_or hf with ⟨_, hf⟩ | ⟨_, hf⟩
  · obtain ⟨hb_3, hf⟩ := itn hf
    obtain ⟨v_4, hv_4, hf⟩ := bnd hf
    obtain ⟨v_5, hv_5, hf⟩ := bnd hf
    rcases ite_or hf with ⟨_, hf⟩ | ⟨_, hf⟩
    · exact ch.trans (frfX11_cut_88 hf)
    · obtain ⟨hb_7, hf⟩ := itn hf
      rcases ite_or hf with ⟨_, hf⟩ | ⟨_, hf⟩
      · rcases ite_or hf with ⟨_, hf⟩ | ⟨_, hf⟩
        · obtain rfl := Option.some.inj hf
          exact ch
        · exact ch.trans (frfX11_cut_88 hf)
      · exact ch.trans (frfX11_cut_88 hf)
  · obtain rfl := Option.some.inj hf
    exact ch

theorem frfX11_cutOff {w : Wd} {r : Int32 × Wd} (hf : fX11_cutOff w = some r) : SameX [(92, 99)] w r.2 := by
  unfold fX11_cutOff at hf
  have ch : SameX [(92, 99)] w w := SameX.refl _ _
  obtain ⟨v_1, hv_1, hf⟩ := bnd hf
  have ch := SameX.tr (by simp) ch (frfX1_cellsCutOff hv_1)
  obtain rfl := Option.some.inj hf
  exact ch

theorem frfX11_gangs {v1 : Int32} {v2 : Int32} {w : Wd} {r : Int32 × Wd} (hf : fX11_gangs v1 v2 w = some r) : SameX [(1, 91)] w r.2 := by
  unfold fX11_gangs at hf
  have ch : SameX [(1, 91)] w w := SameX.refl _ _
  obtain ⟨v_1, hv_1, hf⟩ := bnd hf
  rcases ite_or hf with ⟨_, hf⟩ | ⟨_, hf⟩
  · obtain ⟨v_3, hv_3, hf⟩ := bnd hf
    rcases ite_or hf with ⟨_, hf⟩ | ⟨_, hf⟩
    · obtain ⟨hb_5, hf⟩ := itn hf
      have lhb_5 := inb_lt hb_5
      obtain ⟨w_6, ew_6, hf⟩ := nwx hf
      have ch := SameX.w_si (lo := 1) (hi := 91) ch ew_6 (by simp) (by omega)
      obtain rfl := Option.some.inj hf
      exact ch
    · obtain rfl := Option.some.inj hf
      exact ch
  · obtain rfl := Option.some.inj hf
    exact ch

theorem frfX11_holdNow {v1 : Int32} {w : Wd} {r : Int32 × Wd} (hf : fX11_holdNow v1 w = some r) : SameX [(92, 99)] w r.2 := by
  unfold fX11_holdNow at hf
  have ch : SameX [(92, 99)] w w := SameX.refl _ _
  obtain ⟨v_1, hv_1, hf⟩ := bnd hf
  obtain ⟨v_2, hv_2, hf⟩ := bnd hf
  have ch := SameX.tr (by simp) ch (frfX1_lead hv_2)
  obtain ⟨hb_3, hf⟩ := itn hf
  obtain rfl := Option.some.inj hf
  exact ch

theorem frfX11_holds {v1 : Int32} {v2 : Int32} {w : Wd} {r : Int32 × Wd} (hf : fX11_holds v1 v2 w = some r) : SameX [(106, 133)] w r.2 := by
  unfold fX11_holds at hf
  have ch : SameX [(106, 133)] w w := SameX.refl _ _
  obtain ⟨v_1, hv_1, hf⟩ := bnd hf
  rcases ite_or hf with ⟨_, hf⟩ | ⟨_, hf⟩
  · obtain ⟨v_3, hv_3, hf⟩ := bnd hf
    rcases ite_or hf with ⟨_, hf⟩ | ⟨_, hf⟩
    · obtain ⟨v_5, hv_5, hf⟩ := bnd hf
      have ch := SameX.tr (by simp) ch (frfX4_allow hv_5)
      rcases ite_or hf with ⟨_, hf⟩ | ⟨_, hf⟩
      · obtain rfl := Option.some.inj hf
        exact ch
      · obtain rfl := Option.some.inj hf
        exact ch
    · obtain rfl := Option.some.inj hf
      exact ch
  · obtain rfl := Option.some.inj hf
    exact ch

theorem frfX11_hours_88 {v1 : Int32} {v2 : Int32} {v3 : Int32} {w : Wd} {r : Int32 × Wd} (k32 : Int32 → Int32 → Wd → Option (Int32 × Wd)) (hk32 : ∀ (v1 : Int32) (v2 : Int32) (w : Wd), k32 v1 v2 w = some r → SameX [(1, 91), (106, 133), (92, 99)] w r.2) (hf : fX11_hours_88 k32 v1 v2 v3 w = some r) : SameX [(1, 91), (106, 133), (92, 99)] w r.2 := by
  unfold fX11_hours_88 at hf
  have ch : SameX [(1, 91), (106, 133), (92, 99)] w w := SameX.refl _ _
  obtain ⟨v_1, hv_1, hf⟩ := bnd hf
  have ch := SameX.tr (by simp) ch (frfX1_passHour hv_1)
  rcases ite_or hf with ⟨_, hf⟩ | ⟨_, hf⟩
  · obtain ⟨v_3, hv_3, hf⟩ := bnd hf
    have ch := SameX.tr (by simp) ch (frfX0_doDaysWork hv_3)
    obtain ⟨v_4, hv_4, hf⟩ := bnd hf
    have ch := SameX.tr (by simp) ch (frfX1_drink hv_4)
    exact ch.trans (hk32 _ _ _ hf)
  · exact ch.trans (hk32 _ _ _ hf)

theorem frfX11_hours_70 {v1 : Int32} {v2 : Int32} {v3 : Int32} {w : Wd} {r : Int32 × Wd} (k32 : Int32 → Int32 → Wd → Option (Int32 × Wd)) (hk32 : ∀ (v1 : Int32) (v2 : Int32) (w : Wd), k32 v1 v2 w = some r → SameX [(1, 91), (106, 133), (92, 99)] w r.2) (hf : fX11_hours_70 k32 v1 v2 v3 w = some r) : SameX [(1, 91), (106, 133), (92, 99)] w r.2 := by
  unfold fX11_hours_70 at hf
  have ch : SameX [(1, 91), (106, 133), (92, 99)] w w := SameX.refl _ _
  obtain ⟨v_1, hv_1, hf⟩ := bnd hf
  obtain ⟨v_2, hv_2, hf⟩ := bnd hf
  have ch := SameX.tr (by simp) ch (frfX1_lead hv_2)
  exact ch.trans (frfX11_hours_88 k32 hk32 hf)

theorem frfX11_hours_32 {r : Int32 × Wd} : ∀ (n : Nat) (v1 : Int32) (v2 : Int32) (w : Wd), fX11_hours_32 n v1 v2 w = some r → SameX [(1, 91), (106, 133), (92, 99)] w r.2 := by
  intro n
  induction n with
  | zero =>
    intro v1 v2 w hf
    unfold fX11_hours_32 at hf
    cases hf
  | succ n ih =>
    intro v1 v2 w hf
    unfold fX11_hours_32 at hf
    have ch : SameX [(1, 91), (106, 133), (92, 99)] w w := SameX.refl _ _
    rcases ite_or hf with ⟨_, hf⟩ | ⟨_, hf⟩
    · obtain ⟨w_2, ew_2, hf⟩ := nwx hf
      have ch := SameX.w_si (lo := 1) (hi := 91) ch ew_2 (by simp) (by omega)
      rcases ite_or hf with ⟨_, hf⟩ | ⟨_, hf⟩
      · exact ch.trans (frfX11_hours_70 (fX11_hours_32 n) ih hf)
      · rcases ite_or hf with ⟨_, hf⟩ | ⟨_, hf⟩
        · exact ch.trans (frfX11_hours_70 (fX11_hours_32 n) ih hf)
        · exact ch.trans (frfX11_hours_88 (fX11_hours_32 n) ih hf)
    · obtain rfl := Option.some.inj hf
      exact ch

theorem frfX11_hours {v1 : Int32} {w : Wd} {r : Int32 × Wd} (hf : fX11_hours v1 w = some r) : SameX [(1, 91), (106, 133), (92, 99)] w r.2 := by
  unfold fX11_hours at hf
  have ch : SameX [(1, 91), (106, 133), (92, 99)] w w := SameX.refl _ _
  obtain ⟨v_1, hv_1, hf⟩ := bnd hf
  rcases ite_or hf with ⟨_, hf⟩ | ⟨_, hf⟩
  · rcases ite_or hf with ⟨_, hf⟩ | ⟨_, hf⟩
    · obtain rfl := Option.some.inj hf
      exact ch
    · exact ch.trans (frfX11_hours_32 FU _ _ _ hf)
  · obtain rfl := Option.some.inj hf
    exact ch

theorem frfX11_judge_150 {v3 : Nat} {v4 : Int32} {w : Wd} {r : Int32 × Wd} (bv3 : 135 ≤ v3 ∧ v3 ≤ 145) (hf : fX11_judge_150 v3 v4 w = some r) : SameX [(0, 0), (92, 99)] w r.2 := by
  unfold fX11_judge_150 at hf
  have ch : SameX [(0, 0), (92, 99)] w w := SameX.refl _ _
  rcases ite_or hf with ⟨_, hf⟩ | ⟨_, hf⟩
  · obtain ⟨v_2, hv_2, hf⟩ := bnd hf
    have ch := SameX.tr (by simp) ch (frfX11_refuse hv_2)
    obtain rfl := Option.some.inj hf
    exact ch
  · obtain ⟨v_3, hv_3, hf⟩ := bnd hf
    have ch := SameX.tr (by simp) ch (frfX1_peopleFouled hv_3)
    obtain rfl := Option.some.inj hf
    exact ch

theorem frfX11_judge_65 {r : Int32 × Wd} : ∀ (n : Nat) (v2 : Int32) (v3 : Nat) (v4 : Int32) (v5 : Int32) (v6 : Int32) (w : Wd), 135 ≤ v3 ∧ v3 ≤ 145 → fX11_judge_65 n v2 v3 v4 v5 v6 w = some r → SameX [(0, 0), (92, 99)] w r.2 := by
  intro n
  induction n with
  | zero =>
    intro v2 v3 v4 v5 v6 w bv3 hf
    unfold fX11_judge_65 at hf
    cases hf
  | succ n ih =>
    intro v2 v3 v4 v5 v6 w bv3 hf
    unfold fX11_judge_65 at hf
    have ch : SameX [(0, 0), (92, 99)] w w := SameX.refl _ _
    rcases ite_or hf with ⟨_, hf⟩ | ⟨_, hf⟩
    · rcases ite_or hf with ⟨_, hf⟩ | ⟨_, hf⟩
      · obtain ⟨hb_3, hf⟩ := itn hf
        rcases ite_or hf with ⟨_, hf⟩ | ⟨_, hf⟩
        · exact ch.trans (ih _ _ _ _ _ _ (by omega) hf)
        · obtain ⟨hb_5, hf⟩ := itn hf
          have lhb_5 := inb_lt hb_5
          obtain ⟨v_6, hv_6, hf⟩ := bnd hf
          rcases ite_or hf with ⟨_, hf⟩ | ⟨_, hf⟩
          · obtain rfl := Option.some.inj hf
            exact ch
          · exact ch.trans (ih _ _ _ _ _ _ (by omega) hf)
      · exact ch.trans (frfX11_judge_150 (by omega) hf)
    · exact ch.trans (frfX11_judge_150 (by omega) hf)

theorem frfX11_judge {v1 : Int32} {v2 : Int32} {w : Wd} {r : Int32 × Wd} (hf : fX11_judge v1 v2 w = some r) : SameX [(0, 0), (92, 99)] w r.2 := by
  unfold fX11_judge at hf
  have ch : SameX [(0, 0), (92, 99)] w w := SameX.refl _ _
  obtain ⟨v_1, hv_1, hf⟩ := bnd hf
  rcases ite_or hf with ⟨_, hf⟩ | ⟨_, hf⟩
  · obtain ⟨v_3, hv_3, hf⟩ := bnd hf
    rcases ite_or hf with ⟨_, hf⟩ | ⟨_, hf⟩
    · obtain ⟨hb_5, hf⟩ := itn hf
      have lhb_5 := inb_lt hb_5
      rcases ite_or hf with ⟨_, hf⟩ | ⟨_, hf⟩
      · obtain ⟨v_7, hv_7, hf⟩ := bnd hf
        have ch := SameX.tr (by simp) ch (frfX11_refuse hv_7)
        obtain rfl := Option.some.inj hf
        exact ch
      · rcases ite_or hf with ⟨_, hf⟩ | ⟨_, hf⟩
        · exact ch.trans (frfX11_judge_65 FU _ _ _ _ _ _ (by omega) hf)
        · obtain ⟨v_9, hv_9, hf⟩ := bnd hf
          have ch := SameX.tr (by simp) ch (frfX11_refuse hv_9)
          obtain rfl := Option.some.inj hf
          exact ch
    · obtain rfl := Option.some.inj hf
      exact ch
  · obtain rfl := Option.some.inj hf
    exact ch

theorem frfX11_kiln {v1 : Int32} {w : Wd} {r : Int32 × Wd} (hf : fX11_kiln v1 w = some r) : SameX [(1, 91)] w r.2 := by
  unfold fX11_kiln at hf
  have ch : SameX [(1, 91)] w w := SameX.refl _ _
  obtain ⟨v_1, hv_1, hf⟩ := bnd hf
  rcases ite_or hf with ⟨_, hf⟩ | ⟨_, hf⟩
  · obtain ⟨w_3, ew_3, hf⟩ := nwx hf
    have ch := SameX.w_si (lo := 1) (hi := 91) ch ew_3 (by simp) (by omega)
    obtain rfl := Option.some.inj hf
    exact ch
  · obtain rfl := Option.some.inj hf
    exact ch

theorem frfX11_lasts {v1 : Int32} {v2 : Int32} {w : Wd} {r : Int32 × Wd} (hf : fX11_lasts v1 v2 w = some r) : SameX [(0, 0), (92, 99)] w r.2 := by
  unfold fX11_lasts at hf
  have ch : SameX [(0, 0), (92, 99)] w w := SameX.refl _ _
  obtain ⟨v_1, hv_1, hf⟩ := bnd hf
  rcases ite_or hf with ⟨_, hf⟩ | ⟨_, hf⟩
  · rcases ite_or hf with ⟨_, hf⟩ | ⟨_, hf⟩
    · obtain rfl := Option.some.inj hf
      exact ch
    · obtain ⟨v_4, hv_4, hf⟩ := bnd hf
      have ch := SameX.tr (by simp) ch (frfX11_holdNow hv_4)
      obtain ⟨v_5, hv_5, hf⟩ := bnd hf
      rcases ite_or hf with ⟨_, hf⟩ | ⟨_, hf⟩
      · rcases ite_or hf with ⟨_, hf⟩ | ⟨_, hf⟩
        · obtain ⟨v_8, hv_8, hf⟩ := bnd hf
          have ch := SameX.tr (by simp) ch (frfX11_refuse hv_8)
          obtain rfl := Option.some.inj hf
          exact ch
        · obtain ⟨_, hf⟩ := itz hf
          obtain rfl := Option.some.inj hf
          exact ch
      · obtain rfl := Option.some.inj hf
        exact ch
  · obtain rfl := Option.some.inj hf
    exact ch

theorem frfX11_law {v1 : Int32} {v2 : Int32} {v3 : Int32} {w : Wd} {r : Int32 × Wd} (hf : fX11_law v1 v2 v3 w = some r) : SameX [(0, 0), (106, 133)] w r.2 := by
  unfold fX11_law at hf
  have ch : SameX [(0, 0), (106, 133)] w w := SameX.refl _ _
  obtain ⟨v_1, hv_1, hf⟩ := bnd hf
  rcases ite_or hf with ⟨_, hf⟩ | ⟨_, hf⟩
  · obtain ⟨v_3, hv_3, hf⟩ := bnd hf
    rcases ite_or hf with ⟨_, hf⟩ | ⟨_, hf⟩
    · obtain ⟨v_5, hv_5, hf⟩ := bnd hf
      rcases ite_or hf with ⟨_, hf⟩ | ⟨_, hf⟩
      · obtain ⟨v_7, hv_7, hf⟩ := bnd hf
        rcases ite_or hf with ⟨_, hf⟩ | ⟨_, hf⟩
        · obtain rfl := Option.some.inj hf
          exact ch
        · obtain ⟨hb_9, hf⟩ := itn hf
          have lhb_9 := inb_lt hb_9
          rcases ite_or hf with ⟨_, hf⟩ | ⟨_, hf⟩
          · obtain ⟨v_11, hv_11, hf⟩ := bnd hf
            have ch := SameX.tr (by simp) ch (frfX11_refuse hv_11)
            obtain rfl := Option.some.inj hf
            exact ch
          · rcases ite_or hf with ⟨_, hf⟩ | ⟨_, hf⟩
            · obtain ⟨v_13, hv_13, hf⟩ := bnd hf
              have ch := SameX.tr (by simp) ch (frfX4_firstFault (by omega) hv_13)
              rcases ite_or hf with ⟨_, hf⟩ | ⟨_, hf⟩
              · rcases ite_or hf with ⟨_, hf⟩ | ⟨_, hf⟩
                · rcases ite_or hf with ⟨_, hf⟩ | ⟨_, hf⟩
                  · obtain rfl := Option.some.inj hf
                    exact ch
                  · obtain ⟨v_17, hv_17, hf⟩ := bnd hf
                    have ch := SameX.tr (by simp) ch (frfX4_enact hv_17)
                    obtain rfl := Option.some.inj hf
                    exact ch
                · obtain rfl := Option.some.inj hf
                  exact ch
              · obtain rfl := Option.some.inj hf
                exact ch
            · obtain ⟨v_18, hv_18, hf⟩ := bnd hf
              have ch := SameX.tr (by simp) ch (frfX11_refuse hv_18)
              obtain rfl := Option.some.inj hf
              exact ch
      · obtain rfl := Option.some.inj hf
        exact ch
    · obtain rfl := Option.some.inj hf
      exact ch
  · obtain rfl := Option.some.inj hf
    exact ch

theorem frfX11_lift {v1 : Int32} {v2 : Int32} {v3 : Int32} {v4 : Int32} {w : Wd} {r : Int32 × Wd} (hf : fX11_lift v1 v2 v3 v4 w = some r) : SameX [(1, 91)] w r.2 := by
  unfold fX11_lift at hf
  have ch : SameX [(1, 91)] w w := SameX.refl _ _
  obtain ⟨v_1, hv_1, hf⟩ := bnd hf
  rcases ite_or hf with ⟨_, hf⟩ | ⟨_, hf⟩
  · obtain ⟨v_3, hv_3, hf⟩ := bnd hf
    rcases ite_or hf with ⟨_, hf⟩ | ⟨_, hf⟩
    · obtain ⟨v_5, hv_5, hf⟩ := bnd hf
      rcases ite_or hf with ⟨_, hf⟩ | ⟨_, hf⟩
      · obtain ⟨v_7, hv_7, hf⟩ := bnd hf
        rcases ite_or hf with ⟨_, hf⟩ | ⟨_, hf⟩
        · rcases ite_or hf with ⟨_, hf⟩ | ⟨_, hf⟩
          · obtain rfl := Option.some.inj hf
            exact ch
          · obtain ⟨hb_10, hf⟩ := itn hf
            rcases ite_or hf with ⟨_, hf⟩ | ⟨_, hf⟩
            · obtain rfl := Option.some.inj hf
              exact ch
            · obtain ⟨v_12, hv_12, hf⟩ := bnd hf
              rcases ite_or hf with ⟨_, hf⟩ | ⟨_, hf⟩
              · obtain ⟨w_14, ew_14, hf⟩ := nwx hf
                have ch := SameX.w_wi (lo := 1) (hi := 91) ch ew_14 (by simp) (by omega)
                obtain ⟨w_15, ew_15, hf⟩ := nwx hf
                have ch := SameX.w_wi (lo := 1) (hi := 91) ch ew_15 (by simp) (by omega)
                obtain ⟨w_16, ew_16, hf⟩ := nwx hf
                have ch := SameX.w_wi (lo := 1) (hi := 91) ch ew_16 (by simp) (by omega)
                obtain ⟨w_17, ew_17, hf⟩ := nwx hf
                have ch := SameX.w_wi (lo := 1) (hi := 91) ch ew_17 (by simp) (by omega)
                obtain ⟨w_18, ew_18, hf⟩ := nwx hf
                have ch := SameX.w_wi (lo := 1) (hi := 91) ch ew_18 (by simp) (by omega)
                obtain rfl := Option.some.inj hf
                exact ch
              · obtain rfl := Option.some.inj hf
                exact ch
        · obtain rfl := Option.some.inj hf
          exact ch
      · obtain rfl := Option.some.inj hf
        exact ch
    · obtain rfl := Option.some.inj hf
      exact ch
  · obtain rfl := Option.some.inj hf
    exact ch

theorem frfX11_map {v1 : Int32} {v2 : Int32} {v3 : Int32} {w : Wd} {r : Int32 × Wd} (hf : fX11_map v1 v2 v3 w = some r) : SameX [(1, 91)] w r.2 := by
  unfold fX11_map at hf
  have ch : SameX [(1, 91)] w w := SameX.refl _ _
  obtain ⟨v_1, hv_1, hf⟩ := bnd hf
  rcases ite_or hf with ⟨_, hf⟩ | ⟨_, hf⟩
  · obtain ⟨v_3, hv_3, hf⟩ := bnd hf
    rcases ite_or hf with ⟨_, hf⟩ | ⟨_, hf⟩
    · obtain ⟨v_5, hv_5, hf⟩ := bnd hf
      rcases ite_or hf with ⟨_, hf⟩ | ⟨_, hf⟩
      · rcases ite_or hf with ⟨_, hf⟩ | ⟨_, hf⟩
        · obtain ⟨v_8, hv_8, hf⟩ := bnd hf
          obtain ⟨v_9, hv_9, hf⟩ := bnd hf
          have ch := SameX.tr (by simp) ch (frfX6_note hv_9)
          obtain rfl := Option.some.inj hf
          exact ch
        · obtain rfl := Option.some.inj hf
          exact ch
      · obtain rfl := Option.some.inj hf
        exact ch
    · obtain rfl := Option.some.inj hf
      exact ch
  · obtain rfl := Option.some.inj hf
    exact ch

theorem frfX11_old {v1 : Int32} {v2 : Int32} {v3 : Int32} {v4 : Int32} {w : Wd} {r : Int32 × Wd} (hf : fX11_old v1 v2 v3 v4 w = some r) : SameX [(1, 91)] w r.2 := by
  unfold fX11_old at hf
  have ch : SameX [(1, 91)] w w := SameX.refl _ _
  obtain ⟨v_1, hv_1, hf⟩ := bnd hf
  rcases ite_or hf with ⟨_, hf⟩ | ⟨_, hf⟩
  · obtain ⟨v_3, hv_3, hf⟩ := bnd hf
    rcases ite_or hf with ⟨_, hf⟩ | ⟨_, hf⟩
    · obtain ⟨v_5, hv_5, hf⟩ := bnd hf
      rcases ite_or hf with ⟨_, hf⟩ | ⟨_, hf⟩
      · obtain ⟨v_7, hv_7, hf⟩ := bnd hf
        rcases ite_or hf with ⟨_, hf⟩ | ⟨_, hf⟩
        · obtain ⟨hb_9, hf⟩ := itn hf
          obtain ⟨w_10, ew_10, hf⟩ := nwx hf
          have ch := SameX.w_wi (lo := 1) (hi := 91) ch ew_10 (by simp) (by omega)
          obtain ⟨w_11, ew_11, hf⟩ := nwx hf
          have ch := SameX.w_wi (lo := 1) (hi := 91) ch ew_11 (by simp) (by omega)
          obtain ⟨w_12, ew_12, hf⟩ := nwx hf
          have ch := SameX.w_wi (lo := 1) (hi := 91) ch ew_12 (by simp) (by omega)
          obtain rfl := Option.some.inj hf
          exact ch
        · obtain rfl := Option.some.inj hf
          exact ch
      · obtain rfl := Option.some.inj hf
        exact ch
    · obtain rfl := Option.some.inj hf
      exact ch
  · obtain rfl := Option.some.inj hf
    exact ch

theorem frfX11_spillTank {v1 : Int32} {w : Wd} {r : Wd} (hf : fX11_spillTank v1 w = some r) : SameX [(1, 91)] w r := by
  unfold fX11_spillTank at hf
  have ch : SameX [(1, 91)] w w := SameX.refl _ _
  obtain ⟨hb_1, hf⟩ := itn hf
  rcases ite_or hf with ⟨_, hf⟩ | ⟨_, hf⟩
  · obtain ⟨w_3, ew_3, hf⟩ := nwx hf
    have ch := SameX.w_wi (lo := 1) (hi := 91) ch ew_3 (by simp) (by omega)
    obtain ⟨w_4, ew_4, hf⟩ := nwx hf
    have ch := SameX.w_wi (lo := 1) (hi := 91) ch ew_4 (by simp) (by omega)
    obtain ⟨w_5, ew_5, hf⟩ := nwx hf
    have ch := SameX.w_wi (lo := 1) (hi := 91) ch ew_5 (by simp) (by omega)
    obtain ⟨w_6, ew_6, hf⟩ := nwx hf
    have ch := SameX.w_wi (lo := 1) (hi := 91) ch ew_6 (by simp) (by omega)
    obtain rfl := Option.some.inj hf
    exact ch
  · obtain rfl := Option.some.inj hf
    exact ch

theorem frfX11_out {v1 : Int32} {v2 : Int32} {v3 : Int32} {v4 : Int32} {w : Wd} {r : Int32 × Wd} (hf : fX11_out v1 v2 v3 v4 w = some r) : SameX [(1, 91)] w r.2 := by
  unfold fX11_out at hf
  have ch : SameX [(1, 91)] w w := SameX.refl _ _
  obtain ⟨v_1, hv_1, hf⟩ := bnd hf
  rcases ite_or hf with ⟨_, hf⟩ | ⟨_, hf⟩
  · obtain ⟨v_3, hv_3, hf⟩ := bnd hf
    rcases ite_or hf with ⟨_, hf⟩ | ⟨_, hf⟩
    · obtain ⟨v_5, hv_5, hf⟩ := bnd hf
      rcases ite_or hf with ⟨_, hf⟩ | ⟨_, hf⟩
      · obtain ⟨v_7, hv_7, hf⟩ := bnd hf
        rcases ite_or hf with ⟨_, hf⟩ | ⟨_, hf⟩
        · obtain ⟨hb_9, hf⟩ := itn hf
          rcases ite_or hf with ⟨_, hf⟩ | ⟨_, hf⟩
          · obtain rfl := Option.some.inj hf
            exact ch
          · obtain ⟨v_11, hv_11, hf⟩ := bnd hf
            rcases ite_or hf with ⟨_, hf⟩ | ⟨_, hf⟩
            · obtain ⟨w_13, ew_13, hf⟩ := nwx hf
              have ch := SameX.w_wi (lo := 1) (hi := 91) ch ew_13 (by simp) (by omega)
              obtain ⟨w_14, ew_14, hf⟩ := nwx hf
              have ch := SameX.w_wi (lo := 1) (hi := 91) ch ew_14 (by simp) (by omega)
              obtain ⟨w_15, ew_15, hf⟩ := nwx hf
              have ch := SameX.w_wi (lo := 1) (hi := 91) ch ew_15 (by simp) (by omega)
              obtain ⟨w_16, ew_16, hf⟩ := nwx hf
              have ch := SameX.w_wi (lo := 1) (hi := 91) ch ew_16 (by simp) (by omega)
              obtain ⟨v_17, hv_17, hf⟩ := bnd hf
              have ch := SameX.tr (by simp) ch (frfX11_spillTank hv_17)
              obtain rfl := Option.some.inj hf
              exact ch
            · obtain rfl := Option.some.inj hf
              exact ch
        · obtain rfl := Option.some.inj hf
          exact ch
      · obtain rfl := Option.some.inj hf
        exact ch
    · obtain rfl := Option.some.inj hf
      exact ch
  · obtain rfl := Option.some.inj hf
    exact ch

theorem frfX11_put {v1 : Int32} {v2 : Int32} {v3 : Int64} {w : Wd} {r : Int32 × Wd} (hf : fX11_put v1 v2 v3 w = some r) : SameX [(0, 0), (135, 146)] w r.2 := by
  unfold fX11_put at hf
  have ch : SameX [(0, 0), (135, 146)] w w := SameX.refl _ _
  obtain ⟨v_1, hv_1, hf⟩ := bnd hf
  rcases ite_or hf with ⟨_, hf⟩ | ⟨_, hf⟩
  · obtain ⟨hb_3, hf⟩ := itn hf
    have lhb_3 := inb_lt hb_3
    rcases ite_or hf with ⟨_, hf⟩ | ⟨_, hf⟩
    · obtain ⟨v_5, hv_5, hf⟩ := bnd hf
      have ch := SameX.tr (by simp) ch (frfX11_refuse hv_5)
      obtain rfl := Option.some.inj hf
      exact ch
    · rcases ite_or hf with ⟨_, hf⟩ | ⟨_, hf⟩
      · obtain ⟨v_7, hv_7, hf⟩ := bnd hf
        have ch := SameX.tr (by simp) ch (frfX11_refuse hv_7)
        obtain rfl := Option.some.inj hf
        exact ch
      · obtain ⟨v_8, hv_8, hf⟩ := bnd hf
        rcases ite_or hf with ⟨_, hf⟩ | ⟨_, hf⟩
        · obtain ⟨v_10, hv_10, hf⟩ := bnd hf
          obtain ⟨hb_11, hf⟩ := itn hf
          obtain ⟨w_12, ew_12, hf⟩ := nwx hf
          have ch := SameX.w_wl (lo := 135) (hi := 146) ch ew_12 (by simp) (by omega)
          obtain rfl := Option.some.inj hf
          exact ch
        · obtain ⟨v_13, hv_13, hf⟩ := bnd hf
          have ch := SameX.tr (by simp) ch (frfX11_refuse hv_13)
          obtain rfl := Option.some.inj hf
          exact ch
  · obtain rfl := Option.some.inj hf
    exact ch

theorem frfX11_rain {v1 : Int32} {w : Wd} {r : Int32 × Wd} (hf : fX11_rain v1 w = some r) : SameX [(1, 91)] w r.2 := by
  unfold fX11_rain at hf
  have ch : SameX [(1, 91)] w w := SameX.refl _ _
  obtain ⟨v_1, hv_1, hf⟩ := bnd hf
  rcases ite_or hf with ⟨_, hf⟩ | ⟨_, hf⟩
  · obtain ⟨w_3, ew_3, hf⟩ := nwx hf
    have ch := SameX.w_si (lo := 1) (hi := 91) ch ew_3 (by simp) (by omega)
    obtain rfl := Option.some.inj hf
    exact ch
  · obtain rfl := Option.some.inj hf
    exact ch

theorem frfX11_route {v1 : Int32} {v2 : Int32} {v3 : Int32} {v4 : Int32} {w : Wd} {r : Int32 × Wd} (hf : fX11_route v1 v2 v3 v4 w = some r) : SameX [(102, 105)] w r.2 := by
  unfold fX11_route at hf
  have ch : SameX [(102, 105)] w w := SameX.refl _ _
  obtain ⟨v_1, hv_1, hf⟩ := bnd hf
  rcases ite_or hf with ⟨_, hf⟩ | ⟨_, hf⟩
  · obtain ⟨v_3, hv_3, hf⟩ := bnd hf
    rcases ite_or hf with ⟨_, hf⟩ | ⟨_, hf⟩
    · rcases ite_or hf with ⟨_, hf⟩ | ⟨_, hf⟩
      · obtain rfl := Option.some.inj hf
        exact ch
      · obtain ⟨v_6, hv_6, hf⟩ := bnd hf
        rcases ite_or hf with ⟨_, hf⟩ | ⟨_, hf⟩
        · obtain ⟨v_8, hv_8, hf⟩ := bnd hf
          rcases ite_or hf with ⟨_, hf⟩ | ⟨_, hf⟩
          · obtain ⟨v_10, hv_10, hf⟩ := bnd hf
            rcases ite_or hf with ⟨_, hf⟩ | ⟨_, hf⟩
            · obtain rfl := Option.some.inj hf
              exact ch
            · obtain ⟨v_12, hv_12, hf⟩ := bnd hf
              have ch := SameX.tr (by simp) ch (frfX7_leastDig hv_12)
              rcases ite_or hf with ⟨_, hf⟩ | ⟨_, hf⟩
              · obtain ⟨v_14, hv_14, hf⟩ := bnd hf
                have ch := SameX.tr (by simp) ch (frfX7_follow hv_14)
                obtain rfl := Option.some.inj hf
                exact ch
              · obtain rfl := Option.some.inj hf
                exact ch
          · obtain rfl := Option.some.inj hf
            exact ch
        · obtain rfl := Option.some.inj hf
          exact ch
    · obtain rfl := Option.some.inj hf
      exact ch
  · obtain rfl := Option.some.inj hf
    exact ch

theorem frfX11_set {v1 : Int32} {v2 : Int32} {v3 : Int32} {w : Wd} {r : Int32 × Wd} (hf : fX11_set v1 v2 v3 w = some r) : SameX [(1, 91)] w r.2 := by
  unfold fX11_set at hf
  have ch : SameX [(1, 91)] w w := SameX.refl _ _
  obtain ⟨v_1, hv_1, hf⟩ := bnd hf
  cases v_1 with
  | none =>
    obtain ⟨v_3, hv_3, hf⟩ := bnd hf
    rcases ite_or hf with ⟨_, hf⟩ | ⟨_, hf⟩
    · obtain rfl := Option.some.inj hf
      exact ch
    · obtain rfl := Option.some.inj hf
      exact ch
  | some qa =>
    have bqa := rowB hv_1
    obtain ⟨v_5, hv_5, hf⟩ := bnd hf
    rcases ite_or hf with ⟨_, hf⟩ | ⟨_, hf⟩
    · obtain ⟨v_7, hv_7, hf⟩ := bnd hf
      obtain ⟨v_8, hv_8, hf⟩ := bnd hf
      rcases ite_or hf with ⟨_, hf⟩ | ⟨_, hf⟩
      · obtain ⟨hb_10, hf⟩ := itn hf
        obtain ⟨w_11, ew_11, hf⟩ := nwx hf
        have ch := SameX.w_wi (lo := 1) (hi := 91) ch ew_11 (by simp) (by omega)
        obtain rfl := Option.some.inj hf
        exact ch
      · obtain rfl := Option.some.inj hf
        exact ch
    · obtain rfl := Option.some.inj hf
      exact ch

theorem frfX11_share_97 {r : Int32 × Wd} : ∀ (n : Nat) (v1 : Int32) (v2 : Int32) (v3 : Int64) (v5 : Int64) (v7 : Int64) (v9 : Int32) (v10 : Int32) (w : Wd), fX11_share_97 n v1 v2 v3 v5 v7 v9 v10 w = some r → SameX [(0, 0)] w r.2 := by
  intro n
  induction n with
  | zero =>
    intro v1 v2 v3 v5 v7 v9 v10 w hf
    unfold fX11_share_97 at hf
    cases hf
  | succ n ih =>
    intro v1 v2 v3 v5 v7 v9 v10 w hf
    unfold fX11_share_97 at hf
    have ch : SameX [(0, 0)] w w := SameX.refl _ _
    rcases ite_or hf with ⟨_, hf⟩ | ⟨_, hf⟩
    · obtain ⟨v_2, hv_2, hf⟩ := bnd hf
      obtain ⟨_, hf⟩ := itz hf
      obtain ⟨_, hf⟩ := itz hf
      obtain ⟨_, hf⟩ := itz hf
      rcases ite_or hf with ⟨_, hf⟩ | ⟨_, hf⟩
      · exact ch.trans (ih _ _ _ _ _ _ _ _ hf)
      · rcases ite_or hf with ⟨_, hf⟩ | ⟨_, hf⟩
        · rcases ite_or hf with ⟨_, hf⟩ | ⟨_, hf⟩
          · exact ch.trans (ih _ _ _ _ _ _ _ _ hf)
          · exact ch.trans (ih _ _ _ _ _ _ _ _ hf)
        · exact ch.trans (ih _ _ _ _ _ _ _ _ hf)
    · obtain ⟨_, hf⟩ := itz hf
      rcases ite_or hf with ⟨_, hf⟩ | ⟨_, hf⟩
      · obtain rfl := Option.some.inj hf
        exact ch
      · obtain rfl := Option.some.inj hf
        exact ch

theorem frfX11_share_28 {r : Int32 × Wd} : ∀ (n : Nat) (v1 : Int32) (v2 : Int32) (v3 : Int64) (v5 : Int32) (w : Wd), fX11_share_28 n v1 v2 v3 v5 w = some r → SameX [(0, 0)] w r.2 := by
  intro n
  induction n with
  | zero =>
    intro v1 v2 v3 v5 w hf
    unfold fX11_share_28 at hf
    cases hf
  | succ n ih =>
    intro v1 v2 v3 v5 w hf
    unfold fX11_share_28 at hf
    have ch : SameX [(0, 0)] w w := SameX.refl _ _
    rcases ite_or hf with ⟨_, hf⟩ | ⟨_, hf⟩
    · obtain ⟨v_2, hv_2, hf⟩ := bnd hf
      exact ch.trans (ih _ _ _ _ _ hf)
    · rcases ite_or hf with ⟨_, hf⟩ | ⟨_, hf⟩
      · obtain ⟨v_4, hv_4, hf⟩ := bnd hf
        exact ch.trans (frfX11_share_97 FU _ _ _ _ _ _ _ _ hf)
      · obtain ⟨v_5, hv_5, hf⟩ := bnd hf
        have ch := SameX.tr (by simp) ch (frfX11_refuse hv_5)
        obtain rfl := Option.some.inj hf
        exact ch

theorem frfX11_share {v1 : Int32} {v2 : Int32} {w : Wd} {r : Int32 × Wd} (hf : fX11_share v1 v2 w = some r) : SameX [(0, 0)] w r.2 := by
  unfold fX11_share at hf
  have ch : SameX [(0, 0)] w w := SameX.refl _ _
  obtain ⟨v_1, hv_1, hf⟩ := bnd hf
  rcases ite_or hf with ⟨_, hf⟩ | ⟨_, hf⟩
  · obtain ⟨v_3, hv_3, hf⟩ := bnd hf
    rcases ite_or hf with ⟨_, hf⟩ | ⟨_, hf⟩
    · exact ch.trans (frfX11_share_28 FU _ _ _ _ _ hf)
    · obtain rfl := Option.some.inj hf
      exact ch
  · obtain rfl := Option.some.inj hf
    exact ch

theorem frfX11_stop_20 {v1 : Int32} {s0 : Int32} {w : Wd} {r : Int32 × Wd} (hf : fX11_stop_20 v1 s0 w = some r) : SameX [(1, 91)] w r.2 := by
  unfold fX11_stop_20 at hf
  have ch : SameX [(1, 91)] w w := SameX.refl _ _
  obtain ⟨hb_1, hf⟩ := itn hf
  rcases ite_or hf with ⟨_, hf⟩ | ⟨_, hf⟩
  · obtain rfl := Option.some.inj hf
    exact ch
  · obtain ⟨w_3, ew_3, hf⟩ := nwx hf
    have ch := SameX.w_wi (lo := 1) (hi := 91) ch ew_3 (by simp) (by omega)
    obtain rfl := Option.some.inj hf
    exact ch

theorem frfX11_stop {v1 : Int32} {v2 : Int32} {w : Wd} {r : Int32 × Wd} (hf : fX11_stop v1 v2 w = some r) : SameX [(1, 91)] w r.2 := by
  unfold fX11_stop at hf
  have ch : SameX [(1, 91)] w w := SameX.refl _ _
  obtain ⟨v_1, hv_1, hf⟩ := bnd hf
  rcases ite_or hf with ⟨_, hf⟩ | ⟨_, hf⟩
  · rcases ite_or hf with ⟨_, hf⟩ | ⟨_, hf⟩
    · exact ch.trans (frfX11_stop_20 hf)
    · exact ch.trans (frfX11_stop_20 hf)
  · obtain rfl := Option.some.inj hf
    exact ch

theorem frfX11_take {v1 : Int32} {v2 : Int32} {w : Wd} {r : Int32 × Wd} (hf : fX11_take v1 v2 w = some r) : SameX [(1, 91)] w r.2 := by
  unfold fX11_take at hf
  have ch : SameX [(1, 91)] w w := SameX.refl _ _
  obtain ⟨v_1, hv_1, hf⟩ := bnd hf
  rcases ite_or hf with ⟨_, hf⟩ | ⟨_, hf⟩
  · obtain ⟨v_3, hv_3, hf⟩ := bnd hf
    rcases ite_or hf with ⟨_, hf⟩ | ⟨_, hf⟩
    · rcases ite_or hf with ⟨_, hf⟩ | ⟨_, hf⟩
      · obtain rfl := Option.some.inj hf
        exact ch
      · rcases ite_or hf with ⟨_, hf⟩ | ⟨_, hf⟩
        · obtain ⟨hb_7, hf⟩ := itn hf
          have lhb_7 := inb_lt hb_7
          obtain ⟨v_8, hv_8, hf⟩ := bnd hf
          have ch := SameX.tr (by simp) ch (frfX5_start (by omega) hv_8)
          obtain ⟨w_9, ew_9, hf⟩ := nwx hf
          have ch := SameX.w_si (lo := 1) (hi := 91) ch ew_9 (by simp) (by omega)
          obtain rfl := Option.some.inj hf
          exact ch
        · obtain rfl := Option.some.inj hf
          exact ch
    · obtain rfl := Option.some.inj hf
      exact ch
  · obtain rfl := Option.some.inj hf
    exact ch

theorem frfX11_tape {v1 : Int32} {v2 : Int32} {v3 : Int32} {w : Wd} {r : Int32 × Wd} (hf : fX11_tape v1 v2 v3 w = some r) : SameX [(0, 0), (135, 146)] w r.2 := by
  unfold fX11_tape at hf
  have ch : SameX [(0, 0), (135, 146)] w w := SameX.refl _ _
  obtain ⟨v_1, hv_1, hf⟩ := bnd hf
  rcases ite_or hf with ⟨_, hf⟩ | ⟨_, hf⟩
  · obtain ⟨v_3, hv_3, hf⟩ := bnd hf
    rcases ite_or hf with ⟨_, hf⟩ | ⟨_, hf⟩
    · rcases ite_or hf with ⟨_, hf⟩ | ⟨_, hf⟩
      · obtain rfl := Option.some.inj hf
        exact ch
      · rcases ite_or hf with ⟨_, hf⟩ | ⟨_, hf⟩
        · obtain ⟨v_7, hv_7, hf⟩ := bnd hf
          have ch := SameX.tr (by simp) ch (frfX11_refuse hv_7)
          obtain rfl := Option.some.inj hf
          exact ch
        · obtain ⟨hb_8, hf⟩ := itn hf
          have lhb_8 := inb_lt hb_8
          obtain ⟨w_9, ew_9, hf⟩ := nwx hf
          have ch := SameX.w_si (lo := 135) (hi := 146) ch ew_9 (by simp) (by omega)
          obtain ⟨w_10, ew_10, hf⟩ := nwx hf
          have ch := SameX.w_si (lo := 135) (hi := 146) ch ew_10 (by simp) (by omega)
          obtain ⟨w_11, ew_11, hf⟩ := nwx hf
          have ch := SameX.w_flJ (lo := 135) (hi := 146) ch ew_11 (by simp) (by omega)
          obtain rfl := Option.some.inj hf
          exact ch
    · obtain rfl := Option.some.inj hf
      exact ch
  · obtain rfl := Option.some.inj hf
    exact ch

theorem frfX11_tide {v1 : Int32} {w : Wd} {r : Int32 × Wd} (hf : fX11_tide v1 w = some r) : SameX [(0, 0), (100, 101)] w r.2 := by
  unfold fX11_tide at hf
  have ch : SameX [(0, 0), (100, 101)] w w := SameX.refl _ _
  obtain ⟨v_1, hv_1, hf⟩ := bnd hf
  rcases ite_or hf with ⟨_, hf⟩ | ⟨_, hf⟩
  · obtain ⟨hb_3, hf⟩ := itn hf
    have lhb_3 := inb_lt hb_3
    rcases ite_or hf with ⟨_, hf⟩ | ⟨_, hf⟩
    · obtain ⟨v_5, hv_5, hf⟩ := bnd hf
      have ch := SameX.tr (by simp) ch (frfX11_refuse hv_5)
      obtain rfl := Option.some.inj hf
      exact ch
    · rcases ite_or hf with ⟨_, hf⟩ | ⟨_, hf⟩
      · obtain ⟨v_7, hv_7, hf⟩ := bnd hf
        rcases ite_or hf with ⟨_, hf⟩ | ⟨_, hf⟩
        · obtain ⟨v_9, hv_9, hf⟩ := bnd hf
          have ch := SameX.tr (by simp) ch (frfX9_learn (by omega) hv_9)
          obtain rfl := Option.some.inj hf
          exact ch
        · obtain rfl := Option.some.inj hf
          exact ch
      · obtain ⟨v_10, hv_10, hf⟩ := bnd hf
        have ch := SameX.tr (by simp) ch (frfX11_refuse hv_10)
        obtain rfl := Option.some.inj hf
        exact ch
  · obtain rfl := Option.some.inj hf
    exact ch

theorem frfX11_toss_46 {w : Wd} {r : Int32 × Wd} (hf : fX11_toss_46 w = some r) : SameX [(0, 0)] w r.2 := by
  unfold fX11_toss_46 at hf
  have ch : SameX [(0, 0)] w w := SameX.refl _ _
  obtain ⟨v_1, hv_1, hf⟩ := bnd hf
  have ch := SameX.tr (by simp) ch (frfX11_refuse hv_1)
  obtain rfl := Option.some.inj hf
  exact ch

theorem frfX11_toss {v1 : Int32} {w : Wd} {r : Int32 × Wd} (hf : fX11_toss v1 w = some r) : SameX [(0, 0)] w r.2 := by
  unfold fX11_toss at hf
  have ch : SameX [(0, 0)] w w := SameX.refl _ _
  obtain ⟨v_1, hv_1, hf⟩ := bnd hf
  rcases ite_or hf with ⟨_, hf⟩ | ⟨_, hf⟩
  · obtain ⟨hb_3, hf⟩ := itn hf
    have lhb_3 := inb_lt hb_3
    rcases ite_or hf with ⟨_, hf⟩ | ⟨_, hf⟩
    · obtain ⟨v_5, hv_5, hf⟩ := bnd hf
      have ch := SameX.tr (by simp) ch (frfX11_refuse hv_5)
      obtain rfl := Option.some.inj hf
      exact ch
    · rcases ite_or hf with ⟨_, hf⟩ | ⟨_, hf⟩
      · rcases ite_or hf with ⟨_, hf⟩ | ⟨_, hf⟩
        · exact ch.trans (frfX11_toss_46 hf)
        · obtain ⟨v_8, hv_8, hf⟩ := bnd hf
          rcases ite_or hf with ⟨_, hf⟩ | ⟨_, hf⟩
          · obtain ⟨v_10, hv_10, hf⟩ := bnd hf
            have ch := SameX.tr (by simp) ch (frfX11_refuse hv_10)
            obtain rfl := Option.some.inj hf
            exact ch
          · obtain rfl := Option.some.inj hf
            exact ch
      · exact ch.trans (frfX11_toss_46 hf)
  · obtain rfl := Option.some.inj hf
    exact ch

theorem frfX12_start_24 {r : Wd} : ∀ (n : Nat) (v1 : Int32) (w : Wd), fX12_start_24 n v1 w = some r → SameX [(148, 168)] w r := by
  intro n
  induction n with
  | zero =>
    intro v1 w hf
    unfold fX12_start_24 at hf
    cases hf
  | succ n ih =>
    intro v1 w hf
    unfold fX12_start_24 at hf
    have ch : SameX [(148, 168)] w w := SameX.refl _ _
    rcases ite_or hf with ⟨_, hf⟩ | ⟨_, hf⟩
    · obtain ⟨hb_2, hf⟩ := itn hf
      obtain ⟨w_3, ew_3, hf⟩ := nwx hf
      have ch := SameX.w_wi (lo := 148) (hi := 168) ch ew_3 (by simp) (by omega)
      obtain ⟨hb_4, hf⟩ := itn hf
      obtain ⟨w_5, ew_5, hf⟩ := nwx hf
      have ch := SameX.w_wi (lo := 148) (hi := 168) ch ew_5 (by simp) (by omega)
      obtain ⟨hb_6, hf⟩ := itn hf
      obtain ⟨w_7, ew_7, hf⟩ := nwx hf
      have ch := SameX.w_wi (lo := 148) (hi := 168) ch ew_7 (by simp) (by omega)
      exact ch.trans (ih _ _ hf)
    · obtain ⟨w_8, ew_8, hf⟩ := nwx hf
      have ch := SameX.w_si (lo := 148) (hi := 168) ch ew_8 (by simp) (by omega)
      obtain ⟨w_9, ew_9, hf⟩ := nwx hf
      have ch := SameX.w_si (lo := 148) (hi := 168) ch ew_9 (by simp) (by omega)
      obtain ⟨w_10, ew_10, hf⟩ := nwx hf
      have ch := SameX.w_si (lo := 148) (hi := 168) ch ew_10 (by simp) (by omega)
      obtain ⟨w_11, ew_11, hf⟩ := nwx hf
      have ch := SameX.w_si (lo := 148) (hi := 168) ch ew_11 (by simp) (by omega)
      obtain rfl := Option.some.inj hf
      exact ch

theorem frfX12_start_2 {r : Wd} : ∀ (n : Nat) (v1 : Int32) (w : Wd), fX12_start_2 n v1 w = some r → SameX [(148, 168)] w r := by
  intro n
  induction n with
  | zero =>
    intro v1 w hf
    unfold fX12_start_2 at hf
    cases hf
  | succ n ih =>
    intro v1 w hf
    unfold fX12_start_2 at hf
    have ch : SameX [(148, 168)] w w := SameX.refl _ _
    rcases ite_or hf with ⟨_, hf⟩ | ⟨_, hf⟩
    · obtain ⟨hb_2, hf⟩ := itn hf
      obtain ⟨w_3, ew_3, hf⟩ := nwx hf
      have ch := SameX.w_wi (lo := 148) (hi := 168) ch ew_3 (by simp) (by omega)
      exact ch.trans (ih _ _ hf)
    · exact ch.trans (frfX12_start_24 FU _ _ hf)

theorem frfX12_start {w : Wd} {r : Wd} (hf : fX12_start w = some r) : SameX [(148, 168)] w r := by
  unfold fX12_start at hf
  have ch : SameX [(148, 168)] w w := SameX.refl _ _
  exact ch.trans (frfX12_start_2 FU _ _ hf)

theorem frfX12_at_49 {w : Wd} {r : Int64 × Wd} (hf : fX12_at_49 w = some r) : SameX [(148, 168)] w r.2 := by
  unfold fX12_at_49 at hf
  have ch : SameX [(148, 168)] w w := SameX.refl _ _
  obtain ⟨w_1, ew_1, hf⟩ := nwx hf
  have ch := SameX.w_si (lo := 148) (hi := 168) ch ew_1 (by simp) (by omega)
  obtain rfl := Option.some.inj hf
  exact ch

theorem frfX12_at {v1 : Int32} {v2 : Int32} {w : Wd} {r : Int64 × Wd} (hf : fX12_at v1 v2 w = some r) : SameX [(148, 168)] w r.2 := by
  unfold fX12_at at hf
  have ch : SameX [(148, 168)] w w := SameX.refl _ _
  obtain ⟨w_1, ew_1, hf⟩ := nwx hf
  have ch := SameX.w_si (lo := 148) (hi := 168) ch ew_1 (by simp) (by omega)
  obtain ⟨v_2, hv_2, hf⟩ := bnd hf
  rcases ite_or hf with ⟨_, hf⟩ | ⟨_, hf⟩
  · obtain ⟨hb_4, hf⟩ := itn hf
    obtain ⟨v_5, hv_5, hf⟩ := bnd hf
    rcases ite_or hf with ⟨_, hf⟩ | ⟨_, hf⟩
    · obtain ⟨v_7, hv_7, hf⟩ := bnd hf
      rcases ite_or hf with ⟨_, hf⟩ | ⟨_, hf⟩
      · obtain ⟨hb_9, hf⟩ := itn hf
        obtain rfl := Option.some.inj hf
        exact ch
      · exact ch.trans (frfX12_at_49 hf)
    · exact ch.trans (frfX12_at_49 hf)
  · obtain ⟨w_10, ew_10, hf⟩ := nwx hf
    have ch := SameX.w_si (lo := 148) (hi := 168) ch ew_10 (by simp) (by omega)
    obtain rfl := Option.some.inj hf
    exact ch

theorem frfX12_host {v1 : Int32} {w : Wd} {r : Int32 × Wd} (hf : fX12_host v1 w = some r) : SameX [(148, 168)] w r.2 := by
  unfold fX12_host at hf
  have ch : SameX [(148, 168)] w w := SameX.refl _ _
  obtain ⟨w_1, ew_1, hf⟩ := nwx hf
  have ch := SameX.w_si (lo := 148) (hi := 168) ch ew_1 (by simp) (by omega)
  obtain rfl := Option.some.inj hf
  exact ch

theorem frfX12_back_50 {r : Int32 × Wd} : ∀ (n : Nat) (v1 : Int32) (v2 : Int32) (w : Wd), fX12_back_50 n v1 v2 w = some r → SameX [(148, 168)] w r.2 := by
  intro n
  induction n with
  | zero =>
    intro v1 v2 w hf
    unfold fX12_back_50 at hf
    cases hf
  | succ n ih =>
    intro v1 v2 w hf
    unfold fX12_back_50 at hf
    have ch : SameX [(148, 168)] w w := SameX.refl _ _
    rcases ite_or hf with ⟨_, hf⟩ | ⟨_, hf⟩
    · obtain ⟨hb_2, hf⟩ := itn hf
      obtain ⟨hb_3, hf⟩ := itn hf
      obtain ⟨w_4, ew_4, hf⟩ := nwx hf
      have ch := SameX.w_wi (lo := 148) (hi := 168) ch ew_4 (by simp) (by omega)
      exact ch.trans (ih _ _ _ hf)
    · obtain ⟨v_5, hv_5, hf⟩ := bnd hf
      obtain rfl := Option.some.inj hf
      exact ch

theorem frfX12_back {v1 : Int32} {w : Wd} {r : Int32 × Wd} (hf : fX12_back v1 w = some r) : SameX [(148, 168)] w r.2 := by
  unfold fX12_back at hf
  have ch : SameX [(148, 168)] w w := SameX.refl _ _
  obtain ⟨w_1, ew_1, hf⟩ := nwx hf
  have ch := SameX.w_si (lo := 148) (hi := 168) ch ew_1 (by simp) (by omega)
  obtain ⟨v_2, hv_2, hf⟩ := bnd hf
  rcases ite_or hf with ⟨_, hf⟩ | ⟨_, hf⟩
  · obtain ⟨hb_4, hf⟩ := itn hf
    rcases ite_or hf with ⟨_, hf⟩ | ⟨_, hf⟩
    · obtain ⟨v_6, hv_6, hf⟩ := bnd hf
      have ch := SameX.tr (by simp) ch (frfX12_host hv_6)
      obtain rfl := Option.some.inj hf
      exact ch
    · rcases ite_or hf with ⟨_, hf⟩ | ⟨_, hf⟩
      · exact ch.trans (frfX12_back_50 FU _ _ _ hf)
      · obtain ⟨v_8, hv_8, hf⟩ := bnd hf
        have ch := SameX.tr (by simp) ch (frfX12_host hv_8)
        obtain rfl := Option.some.inj hf
        exact ch
  · obtain rfl := Option.some.inj hf
    exact ch

theorem frfX12_bad_82 {s1 : Int32} {s2 : Int32} {w : Wd} {r : Int32 × Wd} (hf : fX12_bad_82 s1 s2 w = some r) : SameX [(148, 168)] w r.2 := by
  unfold fX12_bad_82 at hf
  have ch : SameX [(148, 168)] w w := SameX.refl _ _
  obtain ⟨hb_1, hf⟩ := itn hf
  obtain ⟨w_2, ew_2, hf⟩ := nwx hf
  have ch := SameX.w_wi (lo := 148) (hi := 168) ch ew_2 (by simp) (by omega)
  obtain rfl := Option.some.inj hf
  exact ch

theorem frfX12_bad_59 {v3 : Int32} {v4 : Int32} {s0 : Int32} {w : Wd} {r : Int32 × Wd} (hf : fX12_bad_59 v3 v4 s0 w = some r) : SameX [(148, 168)] w r.2 := by
  unfold fX12_bad_59 at hf
  have ch : SameX [(148, 168)] w w := SameX.refl _ _
  rcases ite_or hf with ⟨_, hf⟩ | ⟨_, hf⟩
  · obtain rfl := Option.some.inj hf
    exact ch
  · rcases ite_or hf with ⟨_, hf⟩ | ⟨_, hf⟩
    · exact ch.trans (frfX12_bad_82 hf)
    · exact ch.trans (frfX12_bad_82 hf)

theorem frfX12_bad {v1 : Int32} {v2 : Int32} {v3 : Int32} {w : Wd} {r : Int32 × Wd} (hf : fX12_bad v1 v2 v3 w = some r) : SameX [(148, 168)] w r.2 := by
  unfold fX12_bad at hf
  have ch : SameX [(148, 168)] w w := SameX.refl _ _
  obtain ⟨w_1, ew_1, hf⟩ := nwx hf
  have ch := SameX.w_si (lo := 148) (hi := 168) ch ew_1 (by simp) (by omega)
  obtain ⟨v_2, hv_2, hf⟩ := bnd hf
  rcases ite_or hf with ⟨_, hf⟩ | ⟨_, hf⟩
  · obtain ⟨v_4, hv_4, hf⟩ := bnd hf
    obtain ⟨hb_5, hf⟩ := itn hf
    rcases ite_or hf with ⟨_, hf⟩ | ⟨_, hf⟩
    · obtain rfl := Option.some.inj hf
      exact ch
    · obtain ⟨hb_7, hf⟩ := itn hf
      rcases ite_or hf with ⟨_, hf⟩ | ⟨_, hf⟩
      · exact ch.trans (frfX12_bad_59 hf)
      · exact ch.trans (frfX12_bad_59 hf)
  · obtain rfl := Option.some.inj hf
    exact ch

theorem frfX12_bears_49 {r : Int32 × Wd} : ∀ (n : Nat) (v1 : Int32) (v3 : Int32) (v4 : Int32) (w : Wd), fX12_bears_49 n v1 v3 v4 w = some r → SameX [(148, 168)] w r.2 := by
  intro n
  induction n with
  | zero =>
    intro v1 v3 v4 w hf
    unfold fX12_bears_49 at hf
    cases hf
  | succ n ih =>
    intro v1 v3 v4 w hf
    unfold fX12_bears_49 at hf
    have ch : SameX [(148, 168)] w w := SameX.refl _ _
    rcases ite_or hf with ⟨_, hf⟩ | ⟨_, hf⟩
    · obtain rfl := Option.some.inj hf
      exact ch
    · obtain ⟨v_2, hv_2, hf⟩ := bnd hf
      rcases ite_or hf with ⟨_, hf⟩ | ⟨_, hf⟩
      · obtain rfl := Option.some.inj hf
        exact ch
      · exact ch.trans (ih _ _ _ _ hf)

theorem frfX12_bears {v1 : Int32} {v2 : Int32} {w : Wd} {r : Int32 × Wd} (hf : fX12_bears v1 v2 w = some r) : SameX [(148, 168)] w r.2 := by
  unfold fX12_bears at hf
  have ch : SameX [(148, 168)] w w := SameX.refl _ _
  obtain ⟨w_1, ew_1, hf⟩ := nwx hf
  have ch := SameX.w_si (lo := 148) (hi := 168) ch ew_1 (by simp) (by omega)
  obtain ⟨v_2, hv_2, hf⟩ := bnd hf
  rcases ite_or hf with ⟨_, hf⟩ | ⟨_, hf⟩
  · obtain ⟨v_4, hv_4, hf⟩ := bnd hf
    obtain ⟨hb_5, hf⟩ := itn hf
    rcases ite_or hf with ⟨_, hf⟩ | ⟨_, hf⟩
    · obtain rfl := Option.some.inj hf
      exact ch
    · exact ch.trans (frfX12_bears_49 FU _ _ _ _ hf)
  · obtain rfl := Option.some.inj hf
    exact ch

theorem frfX12_begin {w : Wd} {r : Int32 × Wd} (hf : fX12_begin w = some r) : SameX [(148, 168)] w r.2 := by
  unfold fX12_begin at hf
  have ch : SameX [(148, 168)] w w := SameX.refl _ _
  obtain ⟨w_1, ew_1, hf⟩ := nwx hf
  have ch := SameX.w_si (lo := 148) (hi := 168) ch ew_1 (by simp) (by omega)
  obtain ⟨v_2, hv_2, hf⟩ := bnd hf
  have ch := SameX.tr (by simp) ch (frfX12_start hv_2)
  obtain rfl := Option.some.inj hf
  exact ch

theorem frfX12_fouledBy_141 {v3 : Int32} {s0 : Int32} {w : Wd} {r : Int32 × Wd} (k30 : Int32 → Int32 → Wd → Option (Int32 × Wd)) (hk30 : ∀ (v2 : Int32) (v3 : Int32) (w : Wd), k30 v2 v3 w = some r → SameX [(148, 168)] w r.2) (hf : fX12_fouledBy_141 k30 v3 s0 w = some r) : SameX [(148, 168)] w r.2 := by
  unfold fX12_fouledBy_141 at hf
  have ch : SameX [(148, 168)] w w := SameX.refl _ _
  exact ch.trans (hk30 _ _ _ hf)

theorem frfX12_fouledBy_114 {v2 : Int32} {v3 : Int32} {v4 : Int32} {w : Wd} {r : Int32 × Wd} (k30 : Int32 → Int32 → Wd → Option (Int32 × Wd)) (hk30 : ∀ (v2 : Int32) (v3 : Int32) (w : Wd), k30 v2 v3 w = some r → SameX [(148, 168)] w r.2) (hf : fX12_fouledBy_114 k30 v2 v3 v4 w = some r) : SameX [(148, 168)] w r.2 := by
  unfold fX12_fouledBy_114 at hf
  have ch : SameX [(148, 168)] w w := SameX.refl _ _
  rcases ite_or hf with ⟨_, hf⟩ | ⟨_, hf⟩
  · exact ch.trans (frfX12_fouledBy_141 k30 hk30 hf)
  · obtain ⟨v_2, hv_2, hf⟩ := bnd hf
    rcases ite_or hf with ⟨_, hf⟩ | ⟨_, hf⟩
    · obtain ⟨v_4, hv_4, hf⟩ := bnd hf
      exact ch.trans (hk30 _ _ _ hf)
    · exact ch.trans (frfX12_fouledBy_141 k30 hk30 hf)

theorem frfX12_fouledBy_64 {r : Int32 × Wd} (k30 : Int32 → Int32 → Wd → Option (Int32 × Wd)) (hk30 : ∀ (v2 : Int32) (v3 : Int32) (w : Wd), k30 v2 v3 w = some r → SameX [(148, 168)] w r.2) : ∀ (n : Nat) (v2 : Int32) (v3 : Int32) (v4 : Int32) (v5 : Int32) (w : Wd), fX12_fouledBy_64 k30 n v2 v3 v4 v5 w = some r → SameX [(148, 168)] w r.2 := by
  intro n
  induction n with
  | zero =>
    intro v2 v3 v4 v5 w hf
    unfold fX12_fouledBy_64 at hf
    cases hf
  | succ n ih =>
    intro v2 v3 v4 v5 w hf
    unfold fX12_fouledBy_64 at hf
    have ch : SameX [(148, 168)] w w := SameX.refl _ _
    rcases ite_or hf with ⟨_, hf⟩ | ⟨_, hf⟩
    · rcases ite_or hf with ⟨_, hf⟩ | ⟨_, hf⟩
      · exact ch.trans (frfX12_fouledBy_114 k30 hk30 hf)
      · obtain ⟨v_3, hv_3, hf⟩ := bnd hf
        rcases ite_or hf with ⟨_, hf⟩ | ⟨_, hf⟩
        · obtain ⟨v_5, hv_5, hf⟩ := bnd hf
          rcases ite_or hf with ⟨_, hf⟩ | ⟨_, hf⟩
          · exact ch.trans (frfX12_fouledBy_114 k30 hk30 hf)
          · obtain ⟨hb_7, hf⟩ := itn hf
            exact ch.trans (ih _ _ _ _ _ hf)
        · exact ch.trans (frfX12_fouledBy_114 k30 hk30 hf)
    · exact ch.trans (frfX12_fouledBy_114 k30 hk30 hf)

theorem frfX12_fouledBy_30 {r : Int32 × Wd} : ∀ (n : Nat) (v2 : Int32) (v3 : Int32) (w : Wd), fX12_fouledBy_30 n v2 v3 w = some r → SameX [(148, 168)] w r.2 := by
  intro n
  induction n with
  | zero =>
    intro v2 v3 w hf
    unfold fX12_fouledBy_30 at hf
    cases hf
  | succ n ih =>
    intro v2 v3 w hf
    unfold fX12_fouledBy_30 at hf
    have ch : SameX [(148, 168)] w w := SameX.refl _ _
    rcases ite_or hf with ⟨_, hf⟩ | ⟨_, hf⟩
    · obtain ⟨v_2, hv_2, hf⟩ := bnd hf
      rcases ite_or hf with ⟨_, hf⟩ | ⟨_, hf⟩
      · exact ch.trans (ih _ _ _ hf)
      · obtain ⟨v_4, hv_4, hf⟩ := bnd hf
        rcases ite_or hf with ⟨_, hf⟩ | ⟨_, hf⟩
        · exact ch.trans (ih _ _ _ hf)
        · exact ch.trans (frfX12_fouledBy_64 (fX12_fouledBy_30 n) ih FU _ _ _ _ _ hf)
    · obtain rfl := Option.some.inj hf
      exact ch

theorem frfX12_fouledBy_2 {r : Int32 × Wd} : ∀ (n : Nat) (v1 : Int32) (v2 : Int32) (w : Wd), fX12_fouledBy_2 n v1 v2 w = some r → SameX [(148, 168)] w r.2 := by
  intro n
  induction n with
  | zero =>
    intro v1 v2 w hf
    unfold fX12_fouledBy_2 at hf
    cases hf
  | succ n ih =>
    intro v1 v2 w hf
    unfold fX12_fouledBy_2 at hf
    have ch : SameX [(148, 168)] w w := SameX.refl _ _
    rcases ite_or hf with ⟨_, hf⟩ | ⟨_, hf⟩
    · obtain ⟨v_2, hv_2, hf⟩ := bnd hf
      obtain ⟨hb_3, hf⟩ := itn hf
      obtain ⟨w_4, ew_4, hf⟩ := nwx hf
      have ch := SameX.w_wi (lo := 148) (hi := 168) ch ew_4 (by simp) (by omega)
      exact ch.trans (ih _ _ _ hf)
    · exact ch.trans (frfX12_fouledBy_30 FU _ _ _ hf)

theorem frfX12_fouledBy {v1 : Int32} {w : Wd} {r : Int32 × Wd} (hf : fX12_fouledBy v1 w = some r) : SameX [(148, 168)] w r.2 := by
  unfold fX12_fouledBy at hf
  have ch : SameX [(148, 168)] w w := SameX.refl _ _
  exact ch.trans (frfX12_fouledBy_2 FU _ _ _ hf)

theorem frfX12_best_108 {v1 : Int32} {v2 : Int32} {v6 : Int32} {v7 : Int32} {v8 : Int32} {w : Wd} {r : Int32 × Wd} (k46 : Int32 → Int32 → Int32 → Int32 → Int32 → Int32 → Wd → Option (Int32 × Wd)) (hk46 : ∀ (v1 : Int32) (v2 : Int32) (v3 : Int32) (v4 : Int32) (v5 : Int32) (v6 : Int32) (w : Wd), k46 v1 v2 v3 v4 v5 v6 w = some r → SameX [(148, 168)] w r.2) (hf : fX12_best_108 k46 v1 v2 v6 v7 v8 w = some r) : SameX [(148, 168)] w r.2 := by
  unfold fX12_best_108 at hf
  have ch : SameX [(148, 168)] w w := SameX.refl _ _
  exact ch.trans (hk46 _ _ _ _ _ _ _ hf)

theorem frfX12_best_46 {r : Int32 × Wd} : ∀ (n : Nat) (v1 : Int32) (v2 : Int32) (v3 : Int32) (v4 : Int32) (v5 : Int32) (v6 : Int32) (w : Wd), fX12_best_46 n v1 v2 v3 v4 v5 v6 w = some r → SameX [(148, 168)] w r.2 := by
  intro n
  induction n with
  | zero =>
    intro v1 v2 v3 v4 v5 v6 w hf
    unfold fX12_best_46 at hf
    cases hf
  | succ n ih =>
    intro v1 v2 v3 v4 v5 v6 w hf
    unfold fX12_best_46 at hf
    have ch : SameX [(148, 168)] w w := SameX.refl _ _
    obtain ⟨v_1, hv_1, hf⟩ := bnd hf
    rcases ite_or hf with ⟨_, hf⟩ | ⟨_, hf⟩
    · obtain ⟨v_3, hv_3, hf⟩ := bnd hf
      rcases ite_or hf with ⟨_, hf⟩ | ⟨_, hf⟩
      · exact ch.trans (ih _ _ _ _ _ _ _ hf)
      · obtain ⟨v_5, hv_5, hf⟩ := bnd hf
        have ch := SameX.tr (by simp) ch (frfX12_fouledBy hv_5)
        rcases ite_or hf with ⟨_, hf⟩ | ⟨_, hf⟩
        · exact ch.trans (ih _ _ _ _ _ _ _ hf)
        · rcases ite_or hf with ⟨_, hf⟩ | ⟨_, hf⟩
          · rcases ite_or hf with ⟨_, hf⟩ | ⟨_, hf⟩
            · exact ch.trans (frfX12_best_108 (fX12_best_46 n) ih hf)
            · exact ch.trans (ih _ _ _ _ _ _ _ hf)
          · exact ch.trans (frfX12_best_108 (fX12_best_46 n) ih hf)
    · rcases ite_or hf with ⟨_, hf⟩ | ⟨_, hf⟩
      · obtain rfl := Option.some.inj hf
        exact ch
      · rcases ite_or hf with ⟨_, hf⟩ | ⟨_, hf⟩
        · obtain rfl := Option.some.inj hf
          exact ch
        · obtain rfl := Option.some.inj hf
          exact ch

theorem frfX12_best {v1 : Int32} {v2 : Int32} {w : Wd} {r : Int32 × Wd} (hf : fX12_best v1 v2 w = some r) : SameX [(148, 168)] w r.2 := by
  unfold fX12_best at hf
  have ch : SameX [(148, 168)] w w := SameX.refl _ _
  obtain ⟨w_1, ew_1, hf⟩ := nwx hf
  have ch := SameX.w_si (lo := 148) (hi := 168) ch ew_1 (by simp) (by omega)
  obtain ⟨v_2, hv_2, hf⟩ := bnd hf
  rcases ite_or hf with ⟨_, hf⟩ | ⟨_, hf⟩
  · obtain ⟨v_4, hv_4, hf⟩ := bnd hf
    rcases ite_or hf with ⟨_, hf⟩ | ⟨_, hf⟩
    · obtain ⟨v_6, hv_6, hf⟩ := bnd hf
      have ch := SameX.tr (by simp) ch (frfX12_fouledBy hv_6)
      exact ch.trans (frfX12_best_46 FU _ _ _ _ _ _ _ hf)
    · obtain rfl := Option.some.inj hf
      exact ch
  · obtain rfl := Option.some.inj hf
    exact ch

theorem frfX12_bridge {v1 : Int32} {w : Wd} {r : Int32 × Wd} (hf : fX12_bridge v1 w = some r) : SameX [(148, 168)] w r.2 := by
  unfold fX12_bridge at hf
  have ch : SameX [(148, 168)] w w := SameX.refl _ _
  obtain ⟨w_1, ew_1, hf⟩ := nwx hf
  have ch := SameX.w_si (lo := 148) (hi := 168) ch ew_1 (by simp) (by omega)
  obtain ⟨v_2, hv_2, hf⟩ := bnd hf
  rcases ite_or hf with ⟨_, hf⟩ | ⟨_, hf⟩
  · obtain ⟨v_4, hv_4, hf⟩ := bnd hf
    obtain ⟨w_5, ew_5, hf⟩ := nwx hf
    have ch := SameX.w_wi (lo := 148) (hi := 168) ch ew_5 (by simp) (by omega)
    obtain rfl := Option.some.inj hf
    exact ch
  · obtain rfl := Option.some.inj hf
    exact ch

theorem frfX12_carries {v1 : Int32} {w : Wd} {r : Int32 × Wd} (hf : fX12_carries v1 w = some r) : SameX [(148, 168)] w r.2 := by
  unfold fX12_carries at hf
  have ch : SameX [(148, 168)] w w := SameX.refl _ _
  obtain ⟨w_1, ew_1, hf⟩ := nwx hf
  have ch := SameX.w_si (lo := 148) (hi := 168) ch ew_1 (by simp) (by omega)
  obtain ⟨v_2, hv_2, hf⟩ := bnd hf
  rcases ite_or hf with ⟨_, hf⟩ | ⟨_, hf⟩
  · obtain ⟨v_4, hv_4, hf⟩ := bnd hf
    rcases ite_or hf with ⟨_, hf⟩ | ⟨_, hf⟩
    · obtain rfl := Option.some.inj hf
      exact ch
    · obtain rfl := Option.some.inj hf
      exact ch
  · obtain rfl := Option.some.inj hf
    exact ch

theorem frfX12_clear {v1 : Int32} {w : Wd} {r : Int32 × Wd} (hf : fX12_clear v1 w = some r) : SameX [(148, 168)] w r.2 := by
  unfold fX12_clear at hf
  have ch : SameX [(148, 168)] w w := SameX.refl _ _
  obtain ⟨w_1, ew_1, hf⟩ := nwx hf
  have ch := SameX.w_si (lo := 148) (hi := 168) ch ew_1 (by simp) (by omega)
  obtain ⟨v_2, hv_2, hf⟩ := bnd hf
  rcases ite_or hf with ⟨_, hf⟩ | ⟨_, hf⟩
  · obtain ⟨hb_4, hf⟩ := itn hf
    obtain ⟨w_5, ew_5, hf⟩ := nwx hf
    have ch := SameX.w_wi (lo := 148) (hi := 168) ch ew_5 (by simp) (by omega)
    obtain ⟨w_6, ew_6, hf⟩ := nwx hf
    have ch := SameX.w_wi (lo := 148) (hi := 168) ch ew_6 (by simp) (by omega)
    obtain rfl := Option.some.inj hf
    exact ch
  · obtain rfl := Option.some.inj hf
    exact ch

theorem frfX12_coal {v1 : Int32} {v2 : Int32} {w : Wd} {r : Int32 × Wd} (hf : fX12_coal v1 v2 w = some r) : SameX [(148, 168)] w r.2 := by
  unfold fX12_coal at hf
  have ch : SameX [(148, 168)] w w := SameX.refl _ _
  obtain ⟨w_1, ew_1, hf⟩ := nwx hf
  have ch := SameX.w_si (lo := 148) (hi := 168) ch ew_1 (by simp) (by omega)
  obtain ⟨v_2, hv_2, hf⟩ := bnd hf
  rcases ite_or hf with ⟨_, hf⟩ | ⟨_, hf⟩
  · obtain ⟨v_4, hv_4, hf⟩ := bnd hf
    rcases ite_or hf with ⟨_, hf⟩ | ⟨_, hf⟩
    · obtain ⟨v_6, hv_6, hf⟩ := bnd hf
      rcases ite_or hf with ⟨_, hf⟩ | ⟨_, hf⟩
      · obtain ⟨v_8, hv_8, hf⟩ := bnd hf
        rcases ite_or hf with ⟨_, hf⟩ | ⟨_, hf⟩
        · obtain rfl := Option.some.inj hf
          exact ch
        · obtain ⟨hb_10, hf⟩ := itn hf
          obtain ⟨w_11, ew_11, hf⟩ := nwx hf
          have ch := SameX.w_wi (lo := 148) (hi := 168) ch ew_11 (by simp) (by omega)
          obtain ⟨v_12, hv_12, hf⟩ := bnd hf
          obtain rfl := Option.some.inj hf
          exact ch
      · obtain rfl := Option.some.inj hf
        exact ch
    · obtain rfl := Option.some.inj hf
      exact ch
  · obtain rfl := Option.some.inj hf
    exact ch

theorem frfX12_comesBack {v1 : Int32} {w : Wd} {r : Int32 × Wd} (hf : fX12_comesBack v1 w = some r) : SameX [(148, 168)] w r.2 := by
  unfold fX12_comesBack at hf
  have ch : SameX [(148, 168)] w w := SameX.refl _ _
  obtain ⟨w_1, ew_1, hf⟩ := nwx hf
  have ch := SameX.w_si (lo := 148) (hi := 168) ch ew_1 (by simp) (by omega)
  obtain ⟨v_2, hv_2, hf⟩ := bnd hf
  rcases ite_or hf with ⟨_, hf⟩ | ⟨_, hf⟩
  · obtain ⟨v_4, hv_4, hf⟩ := bnd hf
    rcases ite_or hf with ⟨_, hf⟩ | ⟨_, hf⟩
    · obtain rfl := Option.some.inj hf
      exact ch
    · obtain rfl := Option.some.inj hf
      exact ch
  · obtain rfl := Option.some.inj hf
    exact ch

theorem frfX12_copy_39 {w : Wd} {r : Int32 × Wd} (hf : fX12_copy_39 w = some r) : SameX [(148, 168)] w r.2 := by
  unfold fX12_copy_39 at hf
  have ch : SameX [(148, 168)] w w := SameX.refl _ _
  obtain ⟨v_1, hv_1, hf⟩ := bnd hf
  have ch := SameX.tr (by simp) ch (frfX12_host hv_1)
  obtain rfl := Option.some.inj hf
  exact ch

theorem frfX12_copy_121 {w : Wd} {r : Int32 × Wd} (hf : fX12_copy_121 w = some r) : SameX [(148, 168)] w r.2 := by
  unfold fX12_copy_121 at hf
  have ch : SameX [(148, 168)] w w := SameX.refl _ _
  obtain ⟨v_1, hv_1, hf⟩ := bnd hf
  have ch := SameX.tr (by simp) ch (frfX12_host hv_1)
  obtain rfl := Option.some.inj hf
  exact ch

theorem frfX12_copy_190 {r : Int32 × Wd} : ∀ (n : Nat) (v1 : Int32) (v2 : Int32) (v3 : Int32) (v4 : Int32) (v5 : Int32) (v6 : Int32) (w : Wd), fX12_copy_190 n v1 v2 v3 v4 v5 v6 w = some r → SameX [(148, 168)] w r.2 := by
  intro n
  induction n with
  | zero =>
    intro v1 v2 v3 v4 v5 v6 w hf
    unfold fX12_copy_190 at hf
    cases hf
  | succ n ih =>
    intro v1 v2 v3 v4 v5 v6 w hf
    unfold fX12_copy_190 at hf
    have ch : SameX [(148, 168)] w w := SameX.refl _ _
    rcases ite_or hf with ⟨_, hf⟩ | ⟨_, hf⟩
    · obtain rfl := Option.some.inj hf
      exact ch
    · rcases ite_or hf with ⟨_, hf⟩ | ⟨_, hf⟩
      · rcases ite_or hf with ⟨_, hf⟩ | ⟨_, hf⟩
        · obtain ⟨hb_4, hf⟩ := itn hf
          obtain ⟨hb_5, hf⟩ := itn hf
          obtain ⟨w_6, ew_6, hf⟩ := nwx hf
          have ch := SameX.w_wl (lo := 148) (hi := 168) ch ew_6 (by simp) (by omega)
          exact ch.trans (ih _ _ _ _ _ _ _ hf)
        · obtain rfl := Option.some.inj hf
          exact ch
      · obtain rfl := Option.some.inj hf
        exact ch

theorem frfX12_copy_184 {v1 : Int32} {v2 : Int32} {v3 : Int32} {v4 : Int32} {v5 : Int32} {w : Wd} {r : Int32 × Wd} (hf : fX12_copy_184 v1 v2 v3 v4 v5 w = some r) : SameX [(148, 168)] w r.2 := by
  unfold fX12_copy_184 at hf
  have ch : SameX [(148, 168)] w w := SameX.refl _ _
  exact ch.trans (frfX12_copy_190 FU _ _ _ _ _ _ _ hf)

theorem frfX12_copy_149 {v1 : Int32} {v2 : Int32} {v3 : Int32} {v4 : Int32} {v5 : Int32} {v6 : Int32} {w : Wd} {r : Int32 × Wd} (k131 : Int32 → Int32 → Int32 → Int32 → Int32 → Int32 → Wd → Option (Int32 × Wd)) (hk131 : ∀ (v1 : Int32) (v2 : Int32) (v3 : Int32) (v4 : Int32) (v5 : Int32) (v6 : Int32) (w : Wd), k131 v1 v2 v3 v4 v5 v6 w = some r → SameX [(148, 168)] w r.2) (hf : fX12_copy_149 k131 v1 v2 v3 v4 v5 v6 w = some r) : SameX [(148, 168)] w r.2 := by
  unfold fX12_copy_149 at hf
  have ch : SameX [(148, 168)] w w := SameX.refl _ _
  obtain ⟨hb_1, hf⟩ := itn hf
  obtain ⟨hb_2, hf⟩ := itn hf
  obtain ⟨w_3, ew_3, hf⟩ := nwx hf
  have ch := SameX.w_wl (lo := 148) (hi := 168) ch ew_3 (by simp) (by omega)
  exact ch.trans (hk131 _ _ _ _ _ _ _ hf)

theorem frfX12_copy_131 {r : Int32 × Wd} : ∀ (n : Nat) (v1 : Int32) (v2 : Int32) (v3 : Int32) (v4 : Int32) (v5 : Int32) (v6 : Int32) (w : Wd), fX12_copy_131 n v1 v2 v3 v4 v5 v6 w = some r → SameX [(148, 168)] w r.2 := by
  intro n
  induction n with
  | zero =>
    intro v1 v2 v3 v4 v5 v6 w hf
    unfold fX12_copy_131 at hf
    cases hf
  | succ n ih =>
    intro v1 v2 v3 v4 v5 v6 w hf
    unfold fX12_copy_131 at hf
    have ch : SameX [(148, 168)] w w := SameX.refl _ _
    rcases ite_or hf with ⟨_, hf⟩ | ⟨_, hf⟩
    · rcases ite_or hf with ⟨_, hf⟩ | ⟨_, hf⟩
      · rcases ite_or hf with ⟨_, hf⟩ | ⟨_, hf⟩
        · exact ch.trans (frfX12_copy_184 hf)
        · exact ch.trans (frfX12_copy_149 (fX12_copy_131 n) ih hf)
      · exact ch.trans (frfX12_copy_149 (fX12_copy_131 n) ih hf)
    · exact ch.trans (frfX12_copy_184 hf)

theorem frfX12_copy_73 {w : Wd} {r : Int32 × Wd} (hf : fX12_copy_73 w = some r) : SameX [(148, 168)] w r.2 := by
  unfold fX12_copy_73 at hf
  have ch : SameX [(148, 168)] w w := SameX.refl _ _
  obtain ⟨v_1, hv_1, hf⟩ := bnd hf
  have ch := SameX.tr (by simp) ch (frfX12_host hv_1)
  obtain rfl := Option.some.inj hf
  exact ch

theorem frfX12_copy {v1 : Int32} {v2 : Int32} {v3 : Int32} {v4 : Int32} {v5 : Int32} {w : Wd} {r : Int32 × Wd} (hf : fX12_copy v1 v2 v3 v4 v5 w = some r) : SameX [(148, 168)] w r.2 := by
  unfold fX12_copy at hf
  have ch : SameX [(148, 168)] w w := SameX.refl _ _
  obtain ⟨w_1, ew_1, hf⟩ := nwx hf
  have ch := SameX.w_si (lo := 148) (hi := 168) ch ew_1 (by simp) (by omega)
  obtain ⟨v_2, hv_2, hf⟩ := bnd hf
  rcases ite_or hf with ⟨_, hf⟩ | ⟨_, hf⟩
  · obtain ⟨v_4, hv_4, hf⟩ := bnd hf
    rcases ite_or hf with ⟨_, hf⟩ | ⟨_, hf⟩
    · obtain ⟨hb_6, hf⟩ := itn hf
      rcases ite_or hf with ⟨_, hf⟩ | ⟨_, hf⟩
      · exact ch.trans (frfX12_copy_39 hf)
      · obtain ⟨hb_8, hf⟩ := itn hf
        rcases ite_or hf with ⟨_, hf⟩ | ⟨_, hf⟩
        · exact ch.trans (frfX12_copy_39 hf)
        · obtain ⟨v_10, hv_10, hf⟩ := bnd hf
          rcases ite_or hf with ⟨_, hf⟩ | ⟨_, hf⟩
          · rcases ite_or hf with ⟨_, hf⟩ | ⟨_, hf⟩
            · rcases ite_or hf with ⟨_, hf⟩ | ⟨_, hf⟩
              · exact ch.trans (frfX12_copy_121 hf)
              · rcases ite_or hf with ⟨_, hf⟩ | ⟨_, hf⟩
                · exact ch.trans (frfX12_copy_121 hf)
                · rcases ite_or hf with ⟨_, hf⟩ | ⟨_, hf⟩
                  · exact ch.trans (frfX12_copy_121 hf)
                  · rcases ite_or hf with ⟨_, hf⟩ | ⟨_, hf⟩
                    · exact ch.trans (frfX12_copy_121 hf)
                    · rcases ite_or hf with ⟨_, hf⟩ | ⟨_, hf⟩
                      · exact ch.trans (frfX12_copy_121 hf)
                      · exact ch.trans (frfX12_copy_131 FU _ _ _ _ _ _ _ hf)
            · exact ch.trans (frfX12_copy_73 hf)
          · exact ch.trans (frfX12_copy_73 hf)
    · obtain rfl := Option.some.inj hf
      exact ch
  · obtain rfl := Option.some.inj hf
    exact ch

theorem frfX12_count {v1 : Int32} {w : Wd} {r : Int32 × Wd} (hf : fX12_count v1 w = some r) : SameX [(148, 168)] w r.2 := by
  unfold fX12_count at hf
  have ch : SameX [(148, 168)] w w := SameX.refl _ _
  obtain ⟨w_1, ew_1, hf⟩ := nwx hf
  have ch := SameX.w_si (lo := 148) (hi := 168) ch ew_1 (by simp) (by omega)
  rcases ite_or hf with ⟨_, hf⟩ | ⟨_, hf⟩
  · obtain ⟨v_2, hv_2, hf⟩ := bnd hf
    obtain rfl := Option.some.inj hf
    exact ch
  rcases ite_or hf with ⟨_, hf⟩ | ⟨_, hf⟩
  · obtain ⟨v_4, hv_4, hf⟩ := bnd hf
    obtain rfl := Option.some.inj hf
    exact ch
  rcases ite_or hf with ⟨_, hf⟩ | ⟨_, hf⟩
  · obtain ⟨v_6, hv_6, hf⟩ := bnd hf
    obtain rfl := Option.some.inj hf
    exact ch
  rcases ite_or hf with ⟨_, hf⟩ | ⟨_, hf⟩
  · obtain ⟨v_8, hv_8, hf⟩ := bnd hf
    obtain rfl := Option.some.inj hf
    exact ch
  rcases ite_or hf with ⟨_, hf⟩ | ⟨_, hf⟩
  · obtain ⟨v_10, hv_10, hf⟩ := bnd hf
    obtain rfl := Option.some.inj hf
    exact ch
  rcases ite_or hf with ⟨_, hf⟩ | ⟨_, hf⟩
  · obtain ⟨v_12, hv_12, hf⟩ := bnd hf
    obtain rfl := Option.some.inj hf
    exact ch
  rcases ite_or hf with ⟨_, hf⟩ | ⟨_, hf⟩
  · obtain ⟨v_14, hv_14, hf⟩ := bnd hf
    obtain rfl := Option.some.inj hf
    exact ch
  rcases ite_or hf with ⟨_, hf⟩ | ⟨_, hf⟩
  · obtain ⟨v_16, hv_16, hf⟩ := bnd hf
    obtain rfl := Option.some.inj hf
    exact ch
  rcases ite_or hf with ⟨_, hf⟩ | ⟨_, hf⟩
  · obtain ⟨v_18, hv_18, hf⟩ := bnd hf
    obtain rfl := Option.some.inj hf
    exact ch
  rcases ite_or hf with ⟨_, hf⟩ | ⟨_, hf⟩
  · obtain ⟨v_20, hv_20, hf⟩ := bnd hf
    obtain rfl := Option.some.inj hf
    exact ch
  rcases ite_or hf with ⟨_, hf⟩ | ⟨_, hf⟩
  · obtain ⟨v_22, hv_22, hf⟩ := bnd hf
    obtain rfl := Option.some.inj hf
    exact ch
  rcases ite_or hf with ⟨_, hf⟩ | ⟨_, hf⟩
  · obtain ⟨v_24, hv_24, hf⟩ := bnd hf
    obtain rfl := Option.some.inj hf
    exact ch
  rcases ite_or hf with ⟨_, hf⟩ | ⟨_, hf⟩
  · obtain ⟨v_26, hv_26, hf⟩ := bnd hf
    obtain rfl := Option.some.inj hf
    exact ch
  rcases ite_or hf with ⟨_, hf⟩ | ⟨_, hf⟩
  · obtain ⟨v_28, hv_28, hf⟩ := bnd hf
    obtain rfl := Option.some.inj hf
    exact ch
  rcases ite_or hf with ⟨_, hf⟩ | ⟨_, hf⟩
  · obtain ⟨v_30, hv_30, hf⟩ := bnd hf
    obtain rfl := Option.some.inj hf
    exact ch
  rcases ite_or hf with ⟨_, hf⟩ | ⟨_, hf⟩
  · obtain ⟨v_32, hv_32, hf⟩ := bnd hf
    obtain rfl := Option.some.inj hf
    exact ch
  rcases ite_or hf with ⟨_, hf⟩ | ⟨_, hf⟩
  · obtain rfl := Option.some.inj hf
    exact ch
  rcases ite_or hf with ⟨_, hf⟩ | ⟨_, hf⟩
  · obtain ⟨v_35, hv_35, hf⟩ := bnd hf
    obtain rfl := Option.some.inj hf
    exact ch
  rcases ite_or hf with ⟨_, hf⟩ | ⟨_, hf⟩
  · obtain rfl := Option.some.inj hf
    exact ch
  obtain rfl := Option.some.inj hf
  exact ch

theorem frfX12_cross {v1 : Int32} {v2 : Int32} {v3 : Int32} {w : Wd} {r : Int32 × Wd} (hf : fX12_cross v1 v2 v3 w = some r) : SameX [(148, 168)] w r.2 := by
  unfold fX12_cross at hf
  have ch : SameX [(148, 168)] w w := SameX.refl _ _
  obtain ⟨w_1, ew_1, hf⟩ := nwx hf
  have ch := SameX.w_si (lo := 148) (hi := 168) ch ew_1 (by simp) (by omega)
  obtain ⟨v_2, hv_2, hf⟩ := bnd hf
  rcases ite_or hf with ⟨_, hf⟩ | ⟨_, hf⟩
  · obtain ⟨v_4, hv_4, hf⟩ := bnd hf
    rcases ite_or hf with ⟨_, hf⟩ | ⟨_, hf⟩
    · obtain ⟨v_6, hv_6, hf⟩ := bnd hf
      obtain ⟨hb_7, hf⟩ := itn hf
      obtain ⟨v_8, hv_8, hf⟩ := bnd hf
      rcases ite_or hf with ⟨_, hf⟩ | ⟨_, hf⟩
      · obtain rfl := Option.some.inj hf
        exact ch
      · obtain ⟨hb_10, hf⟩ := itn hf
        rcases ite_or hf with ⟨_, hf⟩ | ⟨_, hf⟩
        · obtain rfl := Option.some.inj hf
          exact ch
        · obtain ⟨hb_12, hf⟩ := itn hf
          obtain ⟨hb_13, hf⟩ := itn hf
          rcases ite_or hf with ⟨_, hf⟩ | ⟨_, hf⟩
          · rcases ite_or hf with ⟨_, hf⟩ | ⟨_, hf⟩
            · obtain rfl := Option.some.inj hf
              exact ch
            · obtain rfl := Option.some.inj hf
              exact ch
          · obtain rfl := Option.some.inj hf
            exact ch
    · obtain rfl := Option.some.inj hf
      exact ch
  · obtain rfl := Option.some.inj hf
    exact ch

theorem frfX12_tells {v1 : Int32} {v2 : Int32} {v3 : Int32} {w : Wd} {r : Int32 × Wd} (hf : fX12_tells v1 v2 v3 w = some r) : SameX [(148, 168)] w r.2 := by
  unfold fX12_tells at hf
  have ch : SameX [(148, 168)] w w := SameX.refl _ _
  obtain ⟨v_1, hv_1, hf⟩ := bnd hf
  obtain ⟨hb_2, hf⟩ := itn hf
  obtain ⟨w_3, ew_3, hf⟩ := nwx hf
  have ch := SameX.w_wi (lo := 148) (hi := 168) ch ew_3 (by simp) (by omega)
  obtain ⟨hb_4, hf⟩ := itn hf
  obtain ⟨w_5, ew_5, hf⟩ := nwx hf
  have ch := SameX.w_wi (lo := 148) (hi := 168) ch ew_5 (by simp) (by omega)
  obtain ⟨hb_6, hf⟩ := itn hf
  obtain ⟨w_7, ew_7, hf⟩ := nwx hf
  have ch := SameX.w_wi (lo := 148) (hi := 168) ch ew_7 (by simp) (by omega)
  obtain ⟨v_8, hv_8, hf⟩ := bnd hf
  obtain ⟨hb_9, hf⟩ := itn hf
  obtain ⟨w_10, ew_10, hf⟩ := nwx hf
  have ch := SameX.w_wi (lo := 148) (hi := 168) ch ew_10 (by simp) (by omega)
  obtain ⟨w_11, ew_11, hf⟩ := nwx hf
  have ch := SameX.w_wi (lo := 148) (hi := 168) ch ew_11 (by simp) (by omega)
  obtain ⟨v_12, hv_12, hf⟩ := bnd hf
  obtain rfl := Option.some.inj hf
  exact ch

theorem frfX12_cut_67 {v1 : Int32} {w : Wd} {r : Int32 × Wd} (hf : fX12_cut_67 v1 w = some r) : SameX [(148, 168)] w r.2 := by
  unfold fX12_cut_67 at hf
  have ch : SameX [(148, 168)] w w := SameX.refl _ _
  obtain ⟨v_1, hv_1, hf⟩ := bnd hf
  rcases ite_or hf with ⟨_, hf⟩ | ⟨_, hf⟩
  · obtain rfl := Option.some.inj hf
    exact ch
  · obtain ⟨v_3, hv_3, hf⟩ := bnd hf
    obtain ⟨v_4, hv_4, hf⟩ := bnd hf
    obtain ⟨v_5, hv_5, hf⟩ := bnd hf
    have ch := SameX.tr (by simp) ch (frfX12_tells hv_5)
    obtain rfl := Option.some.inj hf
    exact ch

theorem frfX12_cut {v1 : Int32} {w : Wd} {r : Int32 × Wd} (hf : fX12_cut v1 w = some r) : SameX [(148, 168)] w r.2 := by
  unfold fX12_cut at hf
  have ch : SameX [(148, 168)] w w := SameX.refl _ _
  obtain ⟨w_1, ew_1, hf⟩ := nwx hf
  have ch := SameX.w_si (lo := 148) (hi := 168) ch ew_1 (by simp) (by omega)
  obtain ⟨v_2, hv_2, hf⟩ := bnd hf
  rcases ite_or hf with ⟨_, hf⟩ | ⟨_, hf⟩
  · obtain ⟨v_4, hv_4, hf⟩ := bnd hf
    obtain ⟨v_5, hv_5, hf⟩ := bnd hf
    rcases ite_or hf with ⟨_, hf⟩ | ⟨_, hf⟩
    · exact ch.trans (frfX12_cut_67 hf)
    · obtain ⟨hb_7, hf⟩ := itn hf
      obtain ⟨v_8, hv_8, hf⟩ := bnd hf
      rcases ite_or hf with ⟨_, hf⟩ | ⟨_, hf⟩
      · obtain ⟨hb_10, hf⟩ := itn hf
        obtain ⟨v_11, hv_11, hf⟩ := bnd hf
        rcases ite_or hf with ⟨_, hf⟩ | ⟨_, hf⟩
        · obtain rfl := Option.some.inj hf
          exact ch
        · exact ch.trans (frfX12_cut_67 hf)
      · exact ch.trans (frfX12_cut_67 hf)
  · obtain rfl := Option.some.inj hf
    exact ch

theorem frfX12_cutOff_40 {v1 : Int32} {s1 : Int32} {s2 : Int32} {w : Wd} {r : Int32 × Wd} (k7 : Int32 → Wd → Option (Int32 × Wd)) (hk7 : ∀ (v1 : Int32) (w : Wd), k7 v1 w = some r → SameX [(148, 168)] w r.2) (hf : fX12_cutOff_40 k7 v1 s1 s2 w = some r) : SameX [(148, 168)] w r.2 := by
  unfold fX12_cutOff_40 at hf
  have ch : SameX [(148, 168)] w w := SameX.refl _ _
  obtain ⟨hb_1, hf⟩ := itn hf
  obtain ⟨w_2, ew_2, hf⟩ := nwx hf
  have ch := SameX.w_wi (lo := 148) (hi := 168) ch ew_2 (by simp) (by omega)
  obtain ⟨hb_3, hf⟩ := itn hf
  obtain ⟨w_4, ew_4, hf⟩ := nwx hf
  have ch := SameX.w_wi (lo := 148) (hi := 168) ch ew_4 (by simp) (by omega)
  exact ch.trans (hk7 _ _ hf)

theorem frfX12_cutOff_39 {v1 : Int32} {s1 : Int32} {w : Wd} {r : Int32 × Wd} (k7 : Int32 → Wd → Option (Int32 × Wd)) (hk7 : ∀ (v1 : Int32) (w : Wd), k7 v1 w = some r → SameX [(148, 168)] w r.2) (hf : fX12_cutOff_39 k7 v1 s1 w = some r) : SameX [(148, 168)] w r.2 := by
  unfold fX12_cutOff_39 at hf
  have ch : SameX [(148, 168)] w w := SameX.refl _ _
  exact ch.trans (frfX12_cutOff_40 k7 hk7 hf)

theorem frfX12_cutOff_237 {v3 : Int32} {s0 : Int32} {w : Wd} {r : Int32 × Wd} (k199 : Int32 → Int32 → Wd → Option (Int32 × Wd)) (hk199 : ∀ (v2 : Int32) (v3 : Int32) (w : Wd), k199 v2 v3 w = some r → SameX [(148, 168)] w r.2) (hf : fX12_cutOff_237 k199 v3 s0 w = some r) : SameX [(148, 168)] w r.2 := by
  unfold fX12_cutOff_237 at hf
  have ch : SameX [(148, 168)] w w := SameX.refl _ _
  exact ch.trans (hk199 _ _ _ hf)

theorem frfX12_cutOff_199 {r : Int32 × Wd} : ∀ (n : Nat) (v2 : Int32) (v3 : Int32) (w : Wd), fX12_cutOff_199 n v2 v3 w = some r → SameX [(148, 168)] w r.2 := by
  intro n
  induction n with
  | zero =>
    intro v2 v3 w hf
    unfold fX12_cutOff_199 at hf
    cases hf
  | succ n ih =>
    intro v2 v3 w hf
    unfold fX12_cutOff_199 at hf
    have ch : SameX [(148, 168)] w w := SameX.refl _ _
    rcases ite_or hf with ⟨_, hf⟩ | ⟨_, hf⟩
    · obtain ⟨v_2, hv_2, hf⟩ := bnd hf
      rcases ite_or hf with ⟨_, hf⟩ | ⟨_, hf⟩
      · obtain ⟨v_4, hv_4, hf⟩ := bnd hf
        rcases ite_or hf with ⟨_, hf⟩ | ⟨_, hf⟩
        · obtain ⟨hb_6, hf⟩ := itn hf
          rcases ite_or hf with ⟨_, hf⟩ | ⟨_, hf⟩
          · exact ch.trans (ih _ _ _ hf)
          · exact ch.trans (frfX12_cutOff_237 (fX12_cutOff_199 n) ih hf)
        · exact ch.trans (frfX12_cutOff_237 (fX12_cutOff_199 n) ih hf)
      · exact ch.trans (frfX12_cutOff_237 (fX12_cutOff_199 n) ih hf)
    · obtain rfl := Option.some.inj hf
      exact ch

theorem frfX12_cutOff_160 {v1 : Int32} {v2 : Int32} {v3 : Int32} {s1 : Int32} {s2 : Int32} {w : Wd} {r : Int32 × Wd} (k76 : Int32 → Wd → Option (Int32 × Wd)) (hk76 : ∀ (v1 : Int32) (w : Wd), k76 v1 w = some r → SameX [(148, 168)] w r.2) (k84 : Int32 → Int32 → Wd → Option (Int32 × Wd)) (hk84 : ∀ (v1 : Int32) (v2 : Int32) (w : Wd), k84 v1 v2 w = some r → SameX [(148, 168)] w r.2) (k113 : Int32 → Int32 → Int32 → Wd → Option (Int32 × Wd)) (hk113 : ∀ (v1 : Int32) (v2 : Int32) (v3 : Int32) (w : Wd), k113 v1 v2 v3 w = some r → SameX [(148, 168)] w r.2) (hf : fX12_cutOff_160 k76 k84 k113 v1 v2 v3 s1 s2 w = some r) : SameX [(148, 168)] w r.2 := by
  unfold fX12_cutOff_160 at hf
  have ch : SameX [(148, 168)] w w := SameX.refl _ _
  obtain ⟨hb_1, hf⟩ := itn hf
  obtain ⟨w_2, ew_2, hf⟩ := nwx hf
  have ch := SameX.w_wi (lo := 148) (hi := 168) ch ew_2 (by simp) (by omega)
  exact ch.trans (hk113 _ _ _ _ hf)

theorem frfX12_cutOff_159 {v1 : Int32} {v2 : Int32} {v3 : Int32} {s1 : Int32} {w : Wd} {r : Int32 × Wd} (k76 : Int32 → Wd → Option (Int32 × Wd)) (hk76 : ∀ (v1 : Int32) (w : Wd), k76 v1 w = some r → SameX [(148, 168)] w r.2) (k84 : Int32 → Int32 → Wd → Option (Int32 × Wd)) (hk84 : ∀ (v1 : Int32) (v2 : Int32) (w : Wd), k84 v1 v2 w = some r → SameX [(148, 168)] w r.2) (k113 : Int32 → Int32 → Int32 → Wd → Option (Int32 × Wd)) (hk113 : ∀ (v1 : Int32) (v2 : Int32) (v3 : Int32) (w : Wd), k113 v1 v2 v3 w = some r → SameX [(148, 168)] w r.2) (hf : fX12_cutOff_159 k76 k84 k113 v1 v2 v3 s1 w = some r) : SameX [(148, 168)] w r.2 := by
  unfold fX12_cutOff_159 at hf
  have ch : SameX [(148, 168)] w w := SameX.refl _ _
  exact ch.trans (frfX12_cutOff_160 k76 hk76 k84 hk84 k113 hk113 hf)

theorem frfX12_cutOff_113 {r : Int32 × Wd} (k76 : Int32 → Wd → Option (Int32 × Wd)) (hk76 : ∀ (v1 : Int32) (w : Wd), k76 v1 w = some r → SameX [(148, 168)] w r.2) (k84 : Int32 → Int32 → Wd → Option (Int32 × Wd)) (hk84 : ∀ (v1 : Int32) (v2 : Int32) (w : Wd), k84 v1 v2 w = some r → SameX [(148, 168)] w r.2) : ∀ (n : Nat) (v1 : Int32) (v2 : Int32) (v3 : Int32) (w : Wd), fX12_cutOff_113 k76 k84 n v1 v2 v3 w = some r → SameX [(148, 168)] w r.2 := by
  intro n
  induction n with
  | zero =>
    intro v1 v2 v3 w hf
    unfold fX12_cutOff_113 at hf
    cases hf
  | succ n ih =>
    intro v1 v2 v3 w hf
    unfold fX12_cutOff_113 at hf
    have ch : SameX [(148, 168)] w w := SameX.refl _ _
    rcases ite_or hf with ⟨_, hf⟩ | ⟨_, hf⟩
    · obtain ⟨v_2, hv_2, hf⟩ := bnd hf
      obtain ⟨hb_3, hf⟩ := itn hf
      rcases ite_or hf with ⟨_, hf⟩ | ⟨_, hf⟩
      · rcases ite_or hf with ⟨_, hf⟩ | ⟨_, hf⟩
        · exact ch.trans (frfX12_cutOff_159 k76 hk76 k84 hk84 (fX12_cutOff_113 k76 k84 n) ih hf)
        · obtain ⟨hb_6, hf⟩ := itn hf
          rcases ite_or hf with ⟨_, hf⟩ | ⟨_, hf⟩
          · exact ch.trans (frfX12_cutOff_159 k76 hk76 k84 hk84 (fX12_cutOff_113 k76 k84 n) ih hf)
          · exact ch.trans (frfX12_cutOff_160 k76 hk76 k84 hk84 (fX12_cutOff_113 k76 k84 n) ih hf)
      · exact ch.trans (frfX12_cutOff_160 k76 hk76 k84 hk84 (fX12_cutOff_113 k76 k84 n) ih hf)
    · rcases ite_or hf with ⟨_, hf⟩ | ⟨_, hf⟩
      · obtain ⟨hb_9, hf⟩ := itn hf
        rcases ite_or hf with ⟨_, hf⟩ | ⟨_, hf⟩
        · exact ch.trans (hk84 _ _ _ hf)
        · exact ch.trans (hk84 _ _ _ hf)
      · exact ch.trans (hk84 _ _ _ hf)

theorem frfX12_cutOff_84 {r : Int32 × Wd} (k76 : Int32 → Wd → Option (Int32 × Wd)) (hk76 : ∀ (v1 : Int32) (w : Wd), k76 v1 w = some r → SameX [(148, 168)] w r.2) : ∀ (n : Nat) (v1 : Int32) (v2 : Int32) (w : Wd), fX12_cutOff_84 k76 n v1 v2 w = some r → SameX [(148, 168)] w r.2 := by
  intro n
  induction n with
  | zero =>
    intro v1 v2 w hf
    unfold fX12_cutOff_84 at hf
    cases hf
  | succ n ih =>
    intro v1 v2 w hf
    unfold fX12_cutOff_84 at hf
    have ch : SameX [(148, 168)] w w := SameX.refl _ _
    rcases ite_or hf with ⟨_, hf⟩ | ⟨_, hf⟩
    · obtain ⟨hb_2, hf⟩ := itn hf
      rcases ite_or hf with ⟨_, hf⟩ | ⟨_, hf⟩
      · exact ch.trans (ih _ _ _ hf)
      · rcases ite_or hf with ⟨_, hf⟩ | ⟨_, hf⟩
        · exact ch.trans (frfX12_cutOff_113 k76 hk76 (fX12_cutOff_84 k76 n) ih FU _ _ _ _ hf)
        · exact ch.trans (ih _ _ _ hf)
    · exact ch.trans (hk76 _ _ hf)

theorem frfX12_cutOff_76 {r : Int32 × Wd} : ∀ (n : Nat) (v1 : Int32) (w : Wd), fX12_cutOff_76 n v1 w = some r → SameX [(148, 168)] w r.2 := by
  intro n
  induction n with
  | zero =>
    intro v1 w hf
    unfold fX12_cutOff_76 at hf
    cases hf
  | succ n ih =>
    intro v1 w hf
    unfold fX12_cutOff_76 at hf
    have ch : SameX [(148, 168)] w w := SameX.refl _ _
    rcases ite_or hf with ⟨_, hf⟩ | ⟨_, hf⟩
    · exact ch.trans (frfX12_cutOff_199 FU _ _ _ hf)
    · exact ch.trans (frfX12_cutOff_84 (fX12_cutOff_76 n) ih FU _ _ _ hf)

theorem frfX12_cutOff_7 {r : Int32 × Wd} : ∀ (n : Nat) (v1 : Int32) (w : Wd), fX12_cutOff_7 n v1 w = some r → SameX [(148, 168)] w r.2 := by
  intro n
  induction n with
  | zero =>
    intro v1 w hf
    unfold fX12_cutOff_7 at hf
    cases hf
  | succ n ih =>
    intro v1 w hf
    unfold fX12_cutOff_7 at hf
    have ch : SameX [(148, 168)] w w := SameX.refl _ _
    rcases ite_or hf with ⟨_, hf⟩ | ⟨_, hf⟩
    · obtain ⟨v_2, hv_2, hf⟩ := bnd hf
      rcases ite_or hf with ⟨_, hf⟩ | ⟨_, hf⟩
      · obtain ⟨v_4, hv_4, hf⟩ := bnd hf
        rcases ite_or hf with ⟨_, hf⟩ | ⟨_, hf⟩
        · exact ch.trans (frfX12_cutOff_39 (fX12_cutOff_7 n) ih hf)
        · exact ch.trans (frfX12_cutOff_40 (fX12_cutOff_7 n) ih hf)
      · exact ch.trans (frfX12_cutOff_39 (fX12_cutOff_7 n) ih hf)
    · obtain ⟨v_6, hv_6, hf⟩ := bnd hf
      obtain ⟨v_7, hv_7, hf⟩ := bnd hf
      obtain ⟨hb_8, hf⟩ := itn hf
      obtain ⟨hb_9, hf⟩ := itn hf
      obtain ⟨w_10, ew_10, hf⟩ := nwx hf
      have ch := SameX.w_wi (lo := 148) (hi := 168) ch ew_10 (by simp) (by omega)
      exact ch.trans (frfX12_cutOff_76 FU _ _ hf)

theorem frfX12_cutOff {w : Wd} {r : Int32 × Wd} (hf : fX12_cutOff w = some r) : SameX [(148, 168)] w r.2 := by
  unfold fX12_cutOff at hf
  have ch : SameX [(148, 168)] w w := SameX.refl _ _
  obtain ⟨w_1, ew_1, hf⟩ := nwx hf
  have ch := SameX.w_si (lo := 148) (hi := 168) ch ew_1 (by simp) (by omega)
  exact ch.trans (frfX12_cutOff_7 FU _ _ hf)

theorem frfX12_gangs {v1 : Int32} {v2 : Int32} {w : Wd} {r : Int32 × Wd} (hf : fX12_gangs v1 v2 w = some r) : SameX [(148, 168)] w r.2 := by
  unfold fX12_gangs at hf
  have ch : SameX [(148, 168)] w w := SameX.refl _ _
  obtain ⟨w_1, ew_1, hf⟩ := nwx hf
  have ch := SameX.w_si (lo := 148) (hi := 168) ch ew_1 (by simp) (by omega)
  obtain ⟨v_2, hv_2, hf⟩ := bnd hf
  rcases ite_or hf with ⟨_, hf⟩ | ⟨_, hf⟩
  · obtain ⟨v_4, hv_4, hf⟩ := bnd hf
    rcases ite_or hf with ⟨_, hf⟩ | ⟨_, hf⟩
    · obtain ⟨v_6, hv_6, hf⟩ := bnd hf
      obtain ⟨hb_7, hf⟩ := itn hf
      obtain ⟨w_8, ew_8, hf⟩ := nwx hf
      have ch := SameX.w_wi (lo := 148) (hi := 168) ch ew_8 (by simp) (by omega)
      obtain rfl := Option.some.inj hf
      exact ch
    · obtain rfl := Option.some.inj hf
      exact ch
  · obtain rfl := Option.some.inj hf
    exact ch

theorem frfX12_reads {w : Wd} {r : Bool × Wd} (hf : fX12_reads w = some r) : SameX [(148, 168)] w r.2 := by
  unfold fX12_reads at hf
  have ch : SameX [(148, 168)] w w := SameX.refl _ _
  obtain ⟨w_1, ew_1, hf⟩ := nwx hf
  have ch := SameX.w_si (lo := 148) (hi := 168) ch ew_1 (by simp) (by omega)
  obtain ⟨w_2, ew_2, hf⟩ := nwx hf
  have ch := SameX.w_si (lo := 148) (hi := 168) ch ew_2 (by simp) (by omega)
  obtain ⟨w_3, ew_3, hf⟩ := nwx hf
  have ch := SameX.w_si (lo := 148) (hi := 168) ch ew_3 (by simp) (by omega)
  obtain ⟨v_4, hv_4, hf⟩ := bnd hf
  have ch := SameX.tr (by simp) ch (frkMO hv_4)
  rcases ite_or hf with ⟨_, hf⟩ | ⟨_, hf⟩
  · rcases ite_or hf with ⟨_, hf⟩ | ⟨_, hf⟩
    · obtain ⟨w_7, ew_7, hf⟩ := nwx hf
      have ch := SameX.w_si (lo := 148) (hi := 168) ch ew_7 (by simp) (by omega)
      obtain rfl := Option.some.inj hf
      exact ch
    · obtain rfl := Option.some.inj hf
      exact ch
  · obtain rfl := Option.some.inj hf
    exact ch

theorem frfX12_isHeld_39 {r : Bool × Wd} : ∀ (n : Nat) (v2 : Int32) (v3 : Int32) (v4 : Int32) (w : Wd), fX12_isHeld_39 n v2 v3 v4 w = some r → SameX [(148, 168)] w r.2 := by
  intro n
  induction n with
  | zero =>
    intro v2 v3 v4 w hf
    unfold fX12_isHeld_39 at hf
    cases hf
  | succ n ih =>
    intro v2 v3 v4 w hf
    unfold fX12_isHeld_39 at hf
    have ch : SameX [(148, 168)] w w := SameX.refl _ _
    rcases ite_or hf with ⟨_, hf⟩ | ⟨_, hf⟩
    · obtain ⟨hb_2, hf⟩ := itn hf
      obtain ⟨hb_3, hf⟩ := itn hf
      obtain ⟨w_4, ew_4, hf⟩ := nwx hf
      have ch := SameX.w_wi (lo := 148) (hi := 168) ch ew_4 (by simp) (by omega)
      exact ch.trans (ih _ _ _ _ hf)
    · obtain ⟨w_5, ew_5, hf⟩ := nwx hf
      have ch := SameX.w_si (lo := 148) (hi := 168) ch ew_5 (by simp) (by omega)
      obtain ⟨v_6, hv_6, hf⟩ := bnd hf
      have ch := SameX.tr (by simp) ch (frfX12_reads hv_6)
      obtain rfl := Option.some.inj hf
      exact ch

theorem frfX12_isHeld {v1 : Int32} {v2 : Int32} {w : Wd} {r : Bool × Wd} (hf : fX12_isHeld v1 v2 w = some r) : SameX [(148, 168)] w r.2 := by
  unfold fX12_isHeld at hf
  have ch : SameX [(148, 168)] w w := SameX.refl _ _
  obtain ⟨v_1, hv_1, hf⟩ := bnd hf
  obtain ⟨v_2, hv_2, hf⟩ := bnd hf
  rcases ite_or hf with ⟨_, hf⟩ | ⟨_, hf⟩
  · rcases ite_or hf with ⟨_, hf⟩ | ⟨_, hf⟩
    · obtain rfl := Option.some.inj hf
      exact ch
    · obtain rfl := Option.some.inj hf
      exact ch
  · obtain ⟨hb_5, hf⟩ := itn hf
    obtain ⟨w_6, ew_6, hf⟩ := nwx hf
    have ch := SameX.w_si (lo := 148) (hi := 168) ch ew_6 (by simp) (by omega)
    exact ch.trans (frfX12_isHeld_39 FU _ _ _ _ hf)

theorem frfX12_holds {v1 : Int32} {v2 : Int32} {w : Wd} {r : Int32 × Wd} (hf : fX12_holds v1 v2 w = some r) : SameX [(148, 168)] w r.2 := by
  unfold fX12_holds at hf
  have ch : SameX [(148, 168)] w w := SameX.refl _ _
  obtain ⟨w_1, ew_1, hf⟩ := nwx hf
  have ch := SameX.w_si (lo := 148) (hi := 168) ch ew_1 (by simp) (by omega)
  obtain ⟨v_2, hv_2, hf⟩ := bnd hf
  rcases ite_or hf with ⟨_, hf⟩ | ⟨_, hf⟩
  · obtain ⟨v_4, hv_4, hf⟩ := bnd hf
    rcases ite_or hf with ⟨_, hf⟩ | ⟨_, hf⟩
    · obtain ⟨v_6, hv_6, hf⟩ := bnd hf
      have ch := SameX.tr (by simp) ch (frfX12_isHeld hv_6)
      rcases ite_or hf with ⟨_, hf⟩ | ⟨_, hf⟩
      · obtain rfl := Option.some.inj hf
        exact ch
      · obtain rfl := Option.some.inj hf
        exact ch
    · obtain rfl := Option.some.inj hf
      exact ch
  · obtain rfl := Option.some.inj hf
    exact ch

theorem frfX12_comes {v1 : Int32} {v2 : Int32} {v3 : Int32} {w : Wd} {r : Wd} (hf : fX12_comes v1 v2 v3 w = some r) : SameX [(148, 168)] w r := by
  unfold fX12_comes at hf
  have ch : SameX [(148, 168)] w w := SameX.refl _ _
  obtain ⟨v_1, hv_1, hf⟩ := bnd hf
  rcases ite_or hf with ⟨_, hf⟩ | ⟨_, hf⟩
  · obtain ⟨w_3, ew_3, hf⟩ := nwx hf
    have ch := SameX.w_wi (lo := 148) (hi := 168) ch ew_3 (by simp) (by omega)
    obtain ⟨w_4, ew_4, hf⟩ := nwx hf
    have ch := SameX.w_wi (lo := 148) (hi := 168) ch ew_4 (by simp) (by omega)
    obtain rfl := Option.some.inj hf
    exact ch
  · obtain ⟨hb_5, hf⟩ := itn hf
    obtain ⟨w_6, ew_6, hf⟩ := nwx hf
    have ch := SameX.w_wi (lo := 148) (hi := 168) ch ew_6 (by simp) (by omega)
    obtain ⟨hb_7, hf⟩ := itn hf
    obtain ⟨w_8, ew_8, hf⟩ := nwx hf
    have ch := SameX.w_wi (lo := 148) (hi := 168) ch ew_8 (by simp) (by omega)
    obtain rfl := Option.some.inj hf
    exact ch

theorem frfX12_drinks_14 {r : Wd} : ∀ (n : Nat) (v1 : Int32) (v2 : Int32) (v3 : Int32) (w : Wd), fX12_drinks_14 n v1 v2 v3 w = some r → SameX [(148, 168)] w r := by
  intro n
  induction n with
  | zero =>
    intro v1 v2 v3 w hf
    unfold fX12_drinks_14 at hf
    cases hf
  | succ n ih =>
    intro v1 v2 v3 w hf
    unfold fX12_drinks_14 at hf
    have ch : SameX [(148, 168)] w w := SameX.refl _ _
    rcases ite_or hf with ⟨_, hf⟩ | ⟨_, hf⟩
    · obtain ⟨v_2, hv_2, hf⟩ := bnd hf
      rcases ite_or hf with ⟨_, hf⟩ | ⟨_, hf⟩
      · rcases ite_or hf with ⟨_, hf⟩ | ⟨_, hf⟩
        · exact ch.trans (ih _ _ _ _ hf)
        · obtain ⟨v_5, hv_5, hf⟩ := bnd hf
          obtain ⟨v_6, hv_6, hf⟩ := bnd hf
          rcases ite_or hf with ⟨_, hf⟩ | ⟨_, hf⟩
          · exact ch.trans (ih _ _ _ _ hf)
          · exact ch.trans (ih _ _ _ _ hf)
      · exact ch.trans (ih _ _ _ _ hf)
    · rcases ite_or hf with ⟨_, hf⟩ | ⟨_, hf⟩
      · obtain rfl := Option.some.inj hf
        exact ch
      · obtain ⟨v_9, hv_9, hf⟩ := bnd hf
        rcases ite_or hf with ⟨_, hf⟩ | ⟨_, hf⟩
        · obtain ⟨hb_11, hf⟩ := itn hf
          obtain ⟨v_12, hv_12, hf⟩ := bnd hf
          obtain ⟨w_13, ew_13, hf⟩ := nwx hf
          have ch := SameX.w_wi (lo := 148) (hi := 168) ch ew_13 (by simp) (by omega)
          obtain ⟨v_14, hv_14, hf⟩ := bnd hf
          obtain ⟨w_15, ew_15, hf⟩ := nwx hf
          have ch := SameX.w_wi (lo := 148) (hi := 168) ch ew_15 (by simp) (by omega)
          obtain rfl := Option.some.inj hf
          exact ch
        · obtain rfl := Option.some.inj hf
          exact ch

theorem frfX12_drinks {v1 : Int32} {w : Wd} {r : Wd} (hf : fX12_drinks v1 w = some r) : SameX [(148, 168)] w r := by
  unfold fX12_drinks at hf
  have ch : SameX [(148, 168)] w w := SameX.refl _ _
  obtain ⟨v_1, hv_1, hf⟩ := bnd hf
  rcases ite_or hf with ⟨_, hf⟩ | ⟨_, hf⟩
  · obtain rfl := Option.some.inj hf
    exact ch
  · exact ch.trans (frfX12_drinks_14 FU _ _ _ _ hf)

theorem frfX12_carrying_2 {r : Int32 × Wd} : ∀ (n : Nat) (v1 : Int32) (v2 : Int32) (w : Wd), fX12_carrying_2 n v1 v2 w = some r → SameX [(148, 168)] w r.2 := by
  intro n
  induction n with
  | zero =>
    intro v1 v2 w hf
    unfold fX12_carrying_2 at hf
    cases hf
  | succ n ih =>
    intro v1 v2 w hf
    unfold fX12_carrying_2 at hf
    have ch : SameX [(148, 168)] w w := SameX.refl _ _
    obtain ⟨v_1, hv_1, hf⟩ := bnd hf
    rcases ite_or hf with ⟨_, hf⟩ | ⟨_, hf⟩
    · obtain ⟨v_3, hv_3, hf⟩ := bnd hf
      rcases ite_or hf with ⟨_, hf⟩ | ⟨_, hf⟩
      · exact ch.trans (ih _ _ _ hf)
      · obtain ⟨hb_5, hf⟩ := itn hf
        rcases ite_or hf with ⟨_, hf⟩ | ⟨_, hf⟩
        · exact ch.trans (ih _ _ _ hf)
        · obtain ⟨w_7, ew_7, hf⟩ := nwx hf
          have ch := SameX.w_si (lo := 148) (hi := 168) ch ew_7 (by simp) (by omega)
          obtain rfl := Option.some.inj hf
          exact ch
    · obtain rfl := Option.some.inj hf
      exact ch

theorem frfX12_carrying {v1 : Int32} {w : Wd} {r : Int32 × Wd} (hf : fX12_carrying v1 w = some r) : SameX [(148, 168)] w r.2 := by
  unfold fX12_carrying at hf
  have ch : SameX [(148, 168)] w w := SameX.refl _ _
  exact ch.trans (frfX12_carrying_2 FU _ _ _ hf)

theorem frfX12_letsOn_119 {v1 : Int32} {v3 : Int32} {w : Wd} {r : Wd} (hf : fX12_letsOn_119 v1 v3 w = some r) : SameX [(148, 168)] w r := by
  unfold fX12_letsOn_119 at hf
  have ch : SameX [(148, 168)] w w := SameX.refl _ _
  obtain ⟨hb_1, hf⟩ := itn hf
  rcases ite_or hf with ⟨_, hf⟩ | ⟨_, hf⟩
  · obtain rfl := Option.some.inj hf
    exact ch
  · obtain ⟨v_3, hv_3, hf⟩ := bnd hf
    obtain ⟨v_4, hv_4, hf⟩ := bnd hf
    obtain ⟨w_5, ew_5, hf⟩ := nwx hf
    have ch := SameX.w_wi (lo := 148) (hi := 168) ch ew_5 (by simp) (by omega)
    obtain ⟨v_6, hv_6, hf⟩ := bnd hf
    obtain ⟨v_7, hv_7, hf⟩ := bnd hf
    obtain ⟨w_8, ew_8, hf⟩ := nwx hf
    have ch := SameX.w_wi (lo := 148) (hi := 168) ch ew_8 (by simp) (by omega)
    obtain ⟨hb_9, hf⟩ := itn hf
    obtain ⟨w_10, ew_10, hf⟩ := nwx hf
    have ch := SameX.w_wi (lo := 148) (hi := 168) ch ew_10 (by simp) (by omega)
    obtain ⟨hb_11, hf⟩ := itn hf
    obtain ⟨w_12, ew_12, hf⟩ := nwx hf
    have ch := SameX.w_wi (lo := 148) (hi := 168) ch ew_12 (by simp) (by omega)
    obtain rfl := Option.some.inj hf
    exact ch

theorem frfX12_letsOn_87 {v1 : Int32} {w : Wd} {r : Wd} (hf : fX12_letsOn_87 v1 w = some r) : SameX [(148, 168)] w r := by
  unfold fX12_letsOn_87 at hf
  have ch : SameX [(148, 168)] w w := SameX.refl _ _
  obtain ⟨v_1, hv_1, hf⟩ := bnd hf
  obtain ⟨hb_2, hf⟩ := itn hf
  obtain ⟨w_3, ew_3, hf⟩ := nwx hf
  have ch := SameX.w_wi (lo := 148) (hi := 168) ch ew_3 (by simp) (by omega)
  obtain ⟨v_4, hv_4, hf⟩ := bnd hf
  obtain ⟨v_5, hv_5, hf⟩ := bnd hf
  exact ch.trans (frfX12_letsOn_119 hf)

theorem frfX12_letsOn {v1 : Int32} {w : Wd} {r : Wd} (hf : fX12_letsOn v1 w = some r) : SameX [(148, 168)] w r := by
  unfold fX12_letsOn at hf
  have ch : SameX [(148, 168)] w w := SameX.refl _ _
  obtain ⟨hb_1, hf⟩ := itn hf
  obtain ⟨w_2, ew_2, hf⟩ := nwx hf
  have ch := SameX.w_wi (lo := 148) (hi := 168) ch ew_2 (by simp) (by omega)
  obtain ⟨v_3, hv_3, hf⟩ := bnd hf
  rcases ite_or hf with ⟨_, hf⟩ | ⟨_, hf⟩
  · obtain ⟨v_5, hv_5, hf⟩ := bnd hf
    have ch := SameX.tr (by simp) ch (frfX12_carrying hv_5)
    rcases ite_or hf with ⟨_, hf⟩ | ⟨_, hf⟩
    · exact ch.trans (frfX12_letsOn_87 hf)
    · obtain ⟨v_7, hv_7, hf⟩ := bnd hf
      rcases ite_or hf with ⟨_, hf⟩ | ⟨_, hf⟩
      · obtain ⟨v_9, hv_9, hf⟩ := bnd hf
        obtain ⟨hb_10, hf⟩ := itn hf
        obtain ⟨w_11, ew_11, hf⟩ := nwx hf
        have ch := SameX.w_wi (lo := 148) (hi := 168) ch ew_11 (by simp) (by omega)
        obtain ⟨v_12, hv_12, hf⟩ := bnd hf
        obtain ⟨v_13, hv_13, hf⟩ := bnd hf
        exact ch.trans (frfX12_letsOn_119 hf)
      · exact ch.trans (frfX12_letsOn_87 hf)
  · obtain rfl := Option.some.inj hf
    exact ch

theorem frfX12_lifts {v1 : Int32} {w : Wd} {r : Wd} (hf : fX12_lifts v1 w = some r) : SameX [(148, 168)] w r := by
  unfold fX12_lifts at hf
  have ch : SameX [(148, 168)] w w := SameX.refl _ _
  obtain ⟨hb_1, hf⟩ := itn hf
  rcases ite_or hf with ⟨_, hf⟩ | ⟨_, hf⟩
  · obtain ⟨hb_3, hf⟩ := itn hf
    rcases ite_or hf with ⟨_, hf⟩ | ⟨_, hf⟩
    · obtain rfl := Option.some.inj hf
      exact ch
    · obtain ⟨hb_5, hf⟩ := itn hf
      obtain ⟨hb_6, hf⟩ := itn hf
      obtain ⟨v_7, hv_7, hf⟩ := bnd hf
      obtain ⟨v_8, hv_8, hf⟩ := bnd hf
      obtain ⟨v_9, hv_9, hf⟩ := bnd hf
      obtain ⟨v_10, hv_10, hf⟩ := bnd hf
      obtain ⟨v_11, hv_11, hf⟩ := bnd hf
      obtain ⟨hb_12, hf⟩ := itn hf
      obtain ⟨w_13, ew_13, hf⟩ := nwx hf
      have ch := SameX.w_wi (lo := 148) (hi := 168) ch ew_13 (by simp) (by omega)
      obtain ⟨hb_14, hf⟩ := itn hf
      obtain ⟨w_15, ew_15, hf⟩ := nwx hf
      have ch := SameX.w_wi (lo := 148) (hi := 168) ch ew_15 (by simp) (by omega)
      obtain ⟨w_16, ew_16, hf⟩ := nwx hf
      have ch := SameX.w_wi (lo := 148) (hi := 168) ch ew_16 (by simp) (by omega)
      obtain ⟨hb_17, hf⟩ := itn hf
      obtain ⟨v_18, hv_18, hf⟩ := bnd hf
      have ch := SameX.tr (by simp) ch (frfX12_comes hv_18)
      obtain rfl := Option.some.inj hf
      exact ch
  · obtain rfl := Option.some.inj hf
    exact ch

theorem frfX12_lookAtLines_2 {r : Wd} : ∀ (n : Nat) (v1 : Int32) (w : Wd), fX12_lookAtLines_2 n v1 w = some r → SameX [(148, 168)] w r := by
  intro n
  induction n with
  | zero =>
    intro v1 w hf
    unfold fX12_lookAtLines_2 at hf
    cases hf
  | succ n ih =>
    intro v1 w hf
    unfold fX12_lookAtLines_2 at hf
    have ch : SameX [(148, 168)] w w := SameX.refl _ _
    obtain ⟨v_1, hv_1, hf⟩ := bnd hf
    rcases ite_or hf with ⟨_, hf⟩ | ⟨_, hf⟩
    · obtain ⟨v_3, hv_3, hf⟩ := bnd hf
      obtain ⟨hb_4, hf⟩ := itn hf
      obtain ⟨w_5, ew_5, hf⟩ := nwx hf
      have ch := SameX.w_wi (lo := 148) (hi := 168) ch ew_5 (by simp) (by omega)
      exact ch.trans (ih _ _ hf)
    · obtain rfl := Option.some.inj hf
      exact ch

theorem frfX12_lookAtLines {w : Wd} {r : Wd} (hf : fX12_lookAtLines w = some r) : SameX [(148, 168)] w r := by
  unfold fX12_lookAtLines at hf
  have ch : SameX [(148, 168)] w w := SameX.refl _ _
  exact ch.trans (frfX12_lookAtLines_2 FU _ _ hf)

theorem frfX12_outs {v1 : Int32} {w : Wd} {r : Wd} (hf : fX12_outs v1 w = some r) : SameX [(148, 168)] w r := by
  unfold fX12_outs at hf
  have ch : SameX [(148, 168)] w w := SameX.refl _ _
  obtain ⟨hb_1, hf⟩ := itn hf
  rcases ite_or hf with ⟨_, hf⟩ | ⟨_, hf⟩
  · obtain ⟨hb_3, hf⟩ := itn hf
    obtain ⟨hb_4, hf⟩ := itn hf
    obtain ⟨hb_5, hf⟩ := itn hf
    obtain ⟨v_6, hv_6, hf⟩ := bnd hf
    obtain ⟨v_7, hv_7, hf⟩ := bnd hf
    obtain ⟨v_8, hv_8, hf⟩ := bnd hf
    obtain ⟨v_9, hv_9, hf⟩ := bnd hf
    obtain ⟨hb_10, hf⟩ := itn hf
    obtain ⟨w_11, ew_11, hf⟩ := nwx hf
    have ch := SameX.w_wi (lo := 148) (hi := 168) ch ew_11 (by simp) (by omega)
    obtain ⟨hb_12, hf⟩ := itn hf
    obtain ⟨w_13, ew_13, hf⟩ := nwx hf
    have ch := SameX.w_wi (lo := 148) (hi := 168) ch ew_13 (by simp) (by omega)
    obtain ⟨w_14, ew_14, hf⟩ := nwx hf
    have ch := SameX.w_wi (lo := 148) (hi := 168) ch ew_14 (by simp) (by omega)
    obtain ⟨w_15, ew_15, hf⟩ := nwx hf
    have ch := SameX.w_wi (lo := 148) (hi := 168) ch ew_15 (by simp) (by omega)
    obtain ⟨v_16, hv_16, hf⟩ := bnd hf
    have ch := SameX.tr (by simp) ch (frfX12_isHeld hv_16)
    rcases ite_or hf with ⟨_, hf⟩ | ⟨_, hf⟩
    · obtain ⟨v_18, hv_18, hf⟩ := bnd hf
      obtain ⟨v_19, hv_19, hf⟩ := bnd hf
      obtain ⟨hb_20, hf⟩ := itn hf
      rcases ite_or hf with ⟨_, hf⟩ | ⟨_, hf⟩
      · obtain ⟨hb_22, hf⟩ := itn hf
        obtain ⟨v_23, hv_23, hf⟩ := bnd hf
        obtain ⟨v_24, hv_24, hf⟩ := bnd hf
        obtain ⟨w_25, ew_25, hf⟩ := nwx hf
        have ch := SameX.w_wi (lo := 148) (hi := 168) ch ew_25 (by simp) (by omega)
        obtain ⟨w_26, ew_26, hf⟩ := nwx hf
        have ch := SameX.w_wi (lo := 148) (hi := 168) ch ew_26 (by simp) (by omega)
        obtain ⟨w_27, ew_27, hf⟩ := nwx hf
        have ch := SameX.w_wi (lo := 148) (hi := 168) ch ew_27 (by simp) (by omega)
        obtain ⟨v_28, hv_28, hf⟩ := bnd hf
        obtain ⟨v_29, hv_29, hf⟩ := bnd hf
        rcases ite_or hf with ⟨_, hf⟩ | ⟨_, hf⟩
        · obtain ⟨w_31, ew_31, hf⟩ := nwx hf
          have ch := SameX.w_wi (lo := 148) (hi := 168) ch ew_31 (by simp) (by omega)
          obtain rfl := Option.some.inj hf
          exact ch
        · obtain ⟨w_32, ew_32, hf⟩ := nwx hf
          have ch := SameX.w_wi (lo := 148) (hi := 168) ch ew_32 (by simp) (by omega)
          obtain rfl := Option.some.inj hf
          exact ch
      · obtain rfl := Option.some.inj hf
        exact ch
    · obtain rfl := Option.some.inj hf
      exact ch
  · obtain rfl := Option.some.inj hf
    exact ch

theorem frfX12_hold {v1 : Int32} {w : Wd} {r : Int32 × Wd} (hf : fX12_hold v1 w = some r) : SameX [(148, 168)] w r.2 := by
  unfold fX12_hold at hf
  have ch : SameX [(148, 168)] w w := SameX.refl _ _
  obtain ⟨v_1, hv_1, hf⟩ := bnd hf
  have ch := SameX.tr (by simp) ch (frfX12_carrying hv_1)
  obtain ⟨v_2, hv_2, hf⟩ := bnd hf
  rcases ite_or hf with ⟨_, hf⟩ | ⟨_, hf⟩
  · obtain rfl := Option.some.inj hf
    exact ch
  · obtain ⟨v_4, hv_4, hf⟩ := bnd hf
    obtain rfl := Option.some.inj hf
    exact ch

theorem frfX12_rises {v1 : Int32} {w : Wd} {r : Wd} (hf : fX12_rises v1 w = some r) : SameX [(148, 168)] w r := by
  unfold fX12_rises at hf
  have ch : SameX [(148, 168)] w w := SameX.refl _ _
  obtain ⟨v_1, hv_1, hf⟩ := bnd hf
  obtain ⟨v_2, hv_2, hf⟩ := bnd hf
  obtain ⟨v_3, hv_3, hf⟩ := bnd hf
  have ch := SameX.tr (by simp) ch (frfX12_hold hv_3)
  rcases ite_or hf with ⟨_, hf⟩ | ⟨_, hf⟩
  · obtain ⟨v_5, hv_5, hf⟩ := bnd hf
    obtain ⟨v_6, hv_6, hf⟩ := bnd hf
    obtain ⟨hb_7, hf⟩ := itn hf
    obtain ⟨w_8, ew_8, hf⟩ := nwx hf
    have ch := SameX.w_wi (lo := 148) (hi := 168) ch ew_8 (by simp) (by omega)
    obtain ⟨hb_9, hf⟩ := itn hf
    obtain ⟨w_10, ew_10, hf⟩ := nwx hf
    have ch := SameX.w_wi (lo := 148) (hi := 168) ch ew_10 (by simp) (by omega)
    obtain ⟨hb_11, hf⟩ := itn hf
    obtain ⟨w_12, ew_12, hf⟩ := nwx hf
    have ch := SameX.w_wi (lo := 148) (hi := 168) ch ew_12 (by simp) (by omega)
    obtain ⟨hb_13, hf⟩ := itn hf
    obtain ⟨w_14, ew_14, hf⟩ := nwx hf
    have ch := SameX.w_wi (lo := 148) (hi := 168) ch ew_14 (by simp) (by omega)
    obtain rfl := Option.some.inj hf
    exact ch
  · obtain ⟨v_15, hv_15, hf⟩ := bnd hf
    obtain ⟨v_16, hv_16, hf⟩ := bnd hf
    obtain ⟨v_17, hv_17, hf⟩ := bnd hf
    obtain ⟨v_18, hv_18, hf⟩ := bnd hf
    obtain ⟨v_19, hv_19, hf⟩ := bnd hf
    obtain ⟨hb_20, hf⟩ := itn hf
    obtain ⟨w_21, ew_21, hf⟩ := nwx hf
    have ch := SameX.w_wi (lo := 148) (hi := 168) ch ew_21 (by simp) (by omega)
    obtain ⟨hb_22, hf⟩ := itn hf
    obtain ⟨w_23, ew_23, hf⟩ := nwx hf
    have ch := SameX.w_wi (lo := 148) (hi := 168) ch ew_23 (by simp) (by omega)
    obtain ⟨hb_24, hf⟩ := itn hf
    obtain ⟨w_25, ew_25, hf⟩ := nwx hf
    have ch := SameX.w_wi (lo := 148) (hi := 168) ch ew_25 (by simp) (by omega)
    obtain ⟨hb_26, hf⟩ := itn hf
    obtain ⟨w_27, ew_27, hf⟩ := nwx hf
    have ch := SameX.w_wi (lo := 148) (hi := 168) ch ew_27 (by simp) (by omega)
    obtain rfl := Option.some.inj hf
    exact ch

theorem frfX12_pulls {v1 : Int32} {v2 : Int32} {w : Wd} {r : Wd} (hf : fX12_pulls v1 v2 w = some r) : SameX [(148, 168)] w r := by
  unfold fX12_pulls at hf
  have ch : SameX [(148, 168)] w w := SameX.refl _ _
  obtain ⟨v_1, hv_1, hf⟩ := bnd hf
  rcases ite_or hf with ⟨_, hf⟩ | ⟨_, hf⟩
  · obtain rfl := Option.some.inj hf
    exact ch
  · obtain ⟨v_3, hv_3, hf⟩ := bnd hf
    rcases ite_or hf with ⟨_, hf⟩ | ⟨_, hf⟩
    · obtain ⟨v_5, hv_5, hf⟩ := bnd hf
      rcases ite_or hf with ⟨_, hf⟩ | ⟨_, hf⟩
      · obtain rfl := Option.some.inj hf
        exact ch
      · obtain ⟨hb_7, hf⟩ := itn hf
        obtain ⟨w_8, ew_8, hf⟩ := nwx hf
        have ch := SameX.w_wi (lo := 148) (hi := 168) ch ew_8 (by simp) (by omega)
        obtain ⟨v_9, hv_9, hf⟩ := bnd hf
        obtain ⟨v_10, hv_10, hf⟩ := bnd hf
        obtain ⟨v_11, hv_11, hf⟩ := bnd hf
        have ch := SameX.tr (by simp) ch (frfX12_isHeld hv_11)
        rcases ite_or hf with ⟨_, hf⟩ | ⟨_, hf⟩
        · obtain ⟨w_13, ew_13, hf⟩ := nwx hf
          have ch := SameX.w_wi (lo := 148) (hi := 168) ch ew_13 (by simp) (by omega)
          obtain rfl := Option.some.inj hf
          exact ch
        · obtain ⟨w_14, ew_14, hf⟩ := nwx hf
          have ch := SameX.w_wi (lo := 148) (hi := 168) ch ew_14 (by simp) (by omega)
          obtain rfl := Option.some.inj hf
          exact ch
    · obtain rfl := Option.some.inj hf
      exact ch

theorem frfX12_work_153 {r : Wd} : ∀ (n : Nat) (v5 : Int32) (v7 : Int32) (v8 : Int32) (w : Wd), fX12_work_153 n v5 v7 v8 w = some r → SameX [(148, 168)] w r := by
  intro n
  induction n with
  | zero =>
    intro v5 v7 v8 w hf
    unfold fX12_work_153 at hf
    cases hf
  | succ n ih =>
    intro v5 v7 v8 w hf
    unfold fX12_work_153 at hf
    have ch : SameX [(148, 168)] w w := SameX.refl _ _
    rcases ite_or hf with ⟨_, hf⟩ | ⟨_, hf⟩
    · obtain ⟨v_2, hv_2, hf⟩ := bnd hf
      rcases ite_or hf with ⟨_, hf⟩ | ⟨_, hf⟩
      · exact ch.trans (ih _ _ _ _ hf)
      · obtain ⟨v_4, hv_4, hf⟩ := bnd hf
        obtain ⟨v_5, hv_5, hf⟩ := bnd hf
        have ch := SameX.tr (by simp) ch (frfX12_pulls hv_5)
        exact ch.trans (ih _ _ _ _ hf)
    · obtain rfl := Option.some.inj hf
      exact ch

theorem frfX12_work_288 {s1 : Int32} {s2 : Int32} {w : Wd} {r : Wd} (hf : fX12_work_288 s1 s2 w = some r) : SameX [(148, 168)] w r := by
  unfold fX12_work_288 at hf
  have ch : SameX [(148, 168)] w w := SameX.refl _ _
  obtain ⟨hb_1, hf⟩ := itn hf
  obtain ⟨w_2, ew_2, hf⟩ := nwx hf
  have ch := SameX.w_wi (lo := 148) (hi := 168) ch ew_2 (by simp) (by omega)
  obtain rfl := Option.some.inj hf
  exact ch

theorem frfX12_work_20 {v1 : Int32} {v2 : Int32} {s0 : Int32} {w : Wd} {r : Wd} (hf : fX12_work_20 v1 v2 s0 w = some r) : SameX [(148, 168)] w r := by
  unfold fX12_work_20 at hf
  have ch : SameX [(148, 168)] w w := SameX.refl _ _
  rcases ite_or hf with ⟨_, hf⟩ | ⟨_, hf⟩
  · obtain rfl := Option.some.inj hf
    exact ch
  · obtain ⟨v_2, hv_2, hf⟩ := bnd hf
    obtain ⟨hb_3, hf⟩ := itn hf
    obtain ⟨v_4, hv_4, hf⟩ := bnd hf
    have ch := SameX.tr (by simp) ch (frfX12_isHeld hv_4)
    rcases ite_or hf with ⟨_, hf⟩ | ⟨_, hf⟩
    · obtain ⟨v_6, hv_6, hf⟩ := bnd hf
      obtain ⟨hb_7, hf⟩ := itn hf
      rcases ite_or hf with ⟨_, hf⟩ | ⟨_, hf⟩
      · obtain ⟨w_9, ew_9, hf⟩ := nwx hf
        have ch := SameX.w_wi (lo := 148) (hi := 168) ch ew_9 (by simp) (by omega)
        rcases ite_or hf with ⟨_, hf⟩ | ⟨_, hf⟩
        · obtain rfl := Option.some.inj hf
          exact ch
        · obtain ⟨v_11, hv_11, hf⟩ := bnd hf
          obtain ⟨v_12, hv_12, hf⟩ := bnd hf
          obtain ⟨v_13, hv_13, hf⟩ := bnd hf
          have ch := SameX.tr (by simp) ch (frfX12_pulls hv_13)
          exact ch.trans (frfX12_work_153 FU _ _ _ _ hf)
      · obtain ⟨v_14, hv_14, hf⟩ := bnd hf
        obtain ⟨v_15, hv_15, hf⟩ := bnd hf
        rcases ite_or hf with ⟨_, hf⟩ | ⟨_, hf⟩
        · obtain ⟨w_17, ew_17, hf⟩ := nwx hf
          have ch := SameX.w_wi (lo := 148) (hi := 168) ch ew_17 (by simp) (by omega)
          obtain rfl := Option.some.inj hf
          exact ch
        · obtain ⟨v_18, hv_18, hf⟩ := bnd hf
          obtain ⟨w_19, ew_19, hf⟩ := nwx hf
          have ch := SameX.w_wi (lo := 148) (hi := 168) ch ew_19 (by simp) (by omega)
          obtain ⟨v_20, hv_20, hf⟩ := bnd hf
          obtain ⟨hb_21, hf⟩ := itn hf
          obtain ⟨w_22, ew_22, hf⟩ := nwx hf
          have ch := SameX.w_wi (lo := 148) (hi := 168) ch ew_22 (by simp) (by omega)
          obtain ⟨v_23, hv_23, hf⟩ := bnd hf
          obtain ⟨v_24, hv_24, hf⟩ := bnd hf
          rcases ite_or hf with ⟨_, hf⟩ | ⟨_, hf⟩
          · exact ch.trans (frfX12_work_288 hf)
          · exact ch.trans (frfX12_work_288 hf)
    · obtain ⟨w_26, ew_26, hf⟩ := nwx hf
      have ch := SameX.w_wi (lo := 148) (hi := 168) ch ew_26 (by simp) (by omega)
      obtain rfl := Option.some.inj hf
      exact ch

theorem frfX12_work {v1 : Int32} {w : Wd} {r : Wd} (hf : fX12_work v1 w = some r) : SameX [(148, 168)] w r := by
  unfold fX12_work at hf
  have ch : SameX [(148, 168)] w w := SameX.refl _ _
  obtain ⟨v_1, hv_1, hf⟩ := bnd hf
  rcases ite_or hf with ⟨_, hf⟩ | ⟨_, hf⟩
  · obtain ⟨v_3, hv_3, hf⟩ := bnd hf
    exact ch.trans (frfX12_work_20 hf)
  · exact ch.trans (frfX12_work_20 hf)

theorem frfX12_hour_298 {r : Wd} : ∀ (n : Nat) (v1 : Int32) (w : Wd), fX12_hour_298 n v1 w = some r → SameX [(148, 168)] w r := by
  intro n
  induction n with
  | zero =>
    intro v1 w hf
    unfold fX12_hour_298 at hf
    cases hf
  | succ n ih =>
    intro v1 w hf
    unfold fX12_hour_298 at hf
    have ch : SameX [(148, 168)] w w := SameX.refl _ _
    rcases ite_or hf with ⟨_, hf⟩ | ⟨_, hf⟩
    · obtain ⟨v_2, hv_2, hf⟩ := bnd hf
      have ch := SameX.tr (by simp) ch (frfX12_drinks hv_2)
      exact ch.trans (ih _ _ hf)
    · obtain rfl := Option.some.inj hf
      exact ch

theorem frfX12_hour_275 {r : Wd} : ∀ (n : Nat) (v1 : Int32) (w : Wd), fX12_hour_275 n v1 w = some r → SameX [(148, 168)] w r := by
  intro n
  induction n with
  | zero =>
    intro v1 w hf
    unfold fX12_hour_275 at hf
    cases hf
  | succ n ih =>
    intro v1 w hf
    unfold fX12_hour_275 at hf
    have ch : SameX [(148, 168)] w w := SameX.refl _ _
    obtain ⟨v_1, hv_1, hf⟩ := bnd hf
    rcases ite_or hf with ⟨_, hf⟩ | ⟨_, hf⟩
    · obtain ⟨v_3, hv_3, hf⟩ := bnd hf
      have ch := SameX.tr (by simp) ch (frfX12_work hv_3)
      exact ch.trans (ih _ _ hf)
    · exact ch.trans (frfX12_hour_298 FU _ _ hf)

theorem frfX12_hour_228 {r : Wd} : ∀ (n : Nat) (v1 : Int32) (w : Wd), fX12_hour_228 n v1 w = some r → SameX [(148, 168)] w r := by
  intro n
  induction n with
  | zero =>
    intro v1 w hf
    unfold fX12_hour_228 at hf
    cases hf
  | succ n ih =>
    intro v1 w hf
    unfold fX12_hour_228 at hf
    have ch : SameX [(148, 168)] w w := SameX.refl _ _
    rcases ite_or hf with ⟨_, hf⟩ | ⟨_, hf⟩
    · obtain ⟨v_2, hv_2, hf⟩ := bnd hf
      have ch := SameX.tr (by simp) ch (frfX12_rises hv_2)
      exact ch.trans (ih _ _ hf)
    · obtain ⟨v_3, hv_3, hf⟩ := bnd hf
      rcases ite_or hf with ⟨_, hf⟩ | ⟨_, hf⟩
      · obtain ⟨v_5, hv_5, hf⟩ := bnd hf
        obtain ⟨w_6, ew_6, hf⟩ := nwx hf
        have ch := SameX.w_wi (lo := 148) (hi := 168) ch ew_6 (by simp) (by omega)
        exact ch.trans (frfX12_hour_275 FU _ _ hf)
      · obtain rfl := Option.some.inj hf
        exact ch

theorem frfX12_hour_209 {r : Wd} : ∀ (n : Nat) (v1 : Int32) (w : Wd), fX12_hour_209 n v1 w = some r → SameX [(148, 168)] w r := by
  intro n
  induction n with
  | zero =>
    intro v1 w hf
    unfold fX12_hour_209 at hf
    cases hf
  | succ n ih =>
    intro v1 w hf
    unfold fX12_hour_209 at hf
    have ch : SameX [(148, 168)] w w := SameX.refl _ _
    rcases ite_or hf with ⟨_, hf⟩ | ⟨_, hf⟩
    · obtain ⟨v_2, hv_2, hf⟩ := bnd hf
      have ch := SameX.tr (by simp) ch (frfX12_outs hv_2)
      exact ch.trans (ih _ _ hf)
    · exact ch.trans (frfX12_hour_228 FU _ _ hf)

theorem frfX12_hour_190 {r : Wd} : ∀ (n : Nat) (v1 : Int32) (w : Wd), fX12_hour_190 n v1 w = some r → SameX [(148, 168)] w r := by
  intro n
  induction n with
  | zero =>
    intro v1 w hf
    unfold fX12_hour_190 at hf
    cases hf
  | succ n ih =>
    intro v1 w hf
    unfold fX12_hour_190 at hf
    have ch : SameX [(148, 168)] w w := SameX.refl _ _
    rcases ite_or hf with ⟨_, hf⟩ | ⟨_, hf⟩
    · obtain ⟨v_2, hv_2, hf⟩ := bnd hf
      have ch := SameX.tr (by simp) ch (frfX12_lifts hv_2)
      exact ch.trans (ih _ _ hf)
    · exact ch.trans (frfX12_hour_209 FU _ _ hf)

theorem frfX12_hour_144 {r : Wd} : ∀ (n : Nat) (v1 : Int32) (w : Wd), fX12_hour_144 n v1 w = some r → SameX [(148, 168)] w r := by
  intro n
  induction n with
  | zero =>
    intro v1 w hf
    unfold fX12_hour_144 at hf
    cases hf
  | succ n ih =>
    intro v1 w hf
    unfold fX12_hour_144 at hf
    have ch : SameX [(148, 168)] w w := SameX.refl _ _
    rcases ite_or hf with ⟨_, hf⟩ | ⟨_, hf⟩
    · obtain ⟨hb_2, hf⟩ := itn hf
      rcases ite_or hf with ⟨_, hf⟩ | ⟨_, hf⟩
      · exact ch.trans (ih _ _ hf)
      · obtain ⟨v_4, hv_4, hf⟩ := bnd hf
        have ch := SameX.tr (by simp) ch (frfX12_comes hv_4)
        exact ch.trans (ih _ _ hf)
    · exact ch.trans (frfX12_hour_190 FU _ _ hf)

theorem frfX12_hour_125 {r : Wd} : ∀ (n : Nat) (v1 : Int32) (w : Wd), fX12_hour_125 n v1 w = some r → SameX [(148, 168)] w r := by
  intro n
  induction n with
  | zero =>
    intro v1 w hf
    unfold fX12_hour_125 at hf
    cases hf
  | succ n ih =>
    intro v1 w hf
    unfold fX12_hour_125 at hf
    have ch : SameX [(148, 168)] w w := SameX.refl _ _
    rcases ite_or hf with ⟨_, hf⟩ | ⟨_, hf⟩
    · obtain ⟨v_2, hv_2, hf⟩ := bnd hf
      have ch := SameX.tr (by simp) ch (frfX12_letsOn hv_2)
      exact ch.trans (ih _ _ hf)
    · exact ch.trans (frfX12_hour_144 FU _ _ hf)

theorem frfX12_hour_14 {r : Wd} : ∀ (n : Nat) (v1 : Int32) (w : Wd), fX12_hour_14 n v1 w = some r → SameX [(148, 168)] w r := by
  intro n
  induction n with
  | zero =>
    intro v1 w hf
    unfold fX12_hour_14 at hf
    cases hf
  | succ n ih =>
    intro v1 w hf
    unfold fX12_hour_14 at hf
    have ch : SameX [(148, 168)] w w := SameX.refl _ _
    rcases ite_or hf with ⟨_, hf⟩ | ⟨_, hf⟩
    · obtain ⟨v_2, hv_2, hf⟩ := bnd hf
      rcases ite_or hf with ⟨_, hf⟩ | ⟨_, hf⟩
      · exact ch.trans (ih _ _ hf)
      · obtain ⟨hb_4, hf⟩ := itn hf
        obtain ⟨v_5, hv_5, hf⟩ := bnd hf
        obtain ⟨w_6, ew_6, hf⟩ := nwx hf
        have ch := SameX.w_wi (lo := 148) (hi := 168) ch ew_6 (by simp) (by omega)
        obtain ⟨hb_7, hf⟩ := itn hf
        obtain ⟨v_8, hv_8, hf⟩ := bnd hf
        obtain ⟨w_9, ew_9, hf⟩ := nwx hf
        have ch := SameX.w_wi (lo := 148) (hi := 168) ch ew_9 (by simp) (by omega)
        obtain ⟨v_10, hv_10, hf⟩ := bnd hf
        obtain ⟨w_11, ew_11, hf⟩ := nwx hf
        have ch := SameX.w_wi (lo := 148) (hi := 168) ch ew_11 (by simp) (by omega)
        obtain ⟨v_12, hv_12, hf⟩ := bnd hf
        obtain ⟨w_13, ew_13, hf⟩ := nwx hf
        have ch := SameX.w_wi (lo := 148) (hi := 168) ch ew_13 (by simp) (by omega)
        exact ch.trans (ih _ _ hf)
    · obtain ⟨v_14, hv_14, hf⟩ := bnd hf
      have ch := SameX.tr (by simp) ch (frfX12_lookAtLines hv_14)
      exact ch.trans (frfX12_hour_125 FU _ _ hf)

theorem frfX12_hour {w : Wd} {r : Wd} (hf : fX12_hour w = some r) : SameX [(148, 168)] w r := by
  unfold fX12_hour at hf
  have ch : SameX [(148, 168)] w w := SameX.refl _ _
  obtain ⟨w_1, ew_1, hf⟩ := nwx hf
  have ch := SameX.w_wi (lo := 148) (hi := 168) ch ew_1 (by simp) (by omega)
  exact ch.trans (frfX12_hour_14 FU _ _ hf)

theorem frfX12_hours_36 {r : Int32 × Wd} : ∀ (n : Nat) (v1 : Int32) (v2 : Int32) (w : Wd), fX12_hours_36 n v1 v2 w = some r → SameX [(148, 168)] w r.2 := by
  intro n
  induction n with
  | zero =>
    intro v1 v2 w hf
    unfold fX12_hours_36 at hf
    cases hf
  | succ n ih =>
    intro v1 v2 w hf
    unfold fX12_hours_36 at hf
    have ch : SameX [(148, 168)] w w := SameX.refl _ _
    rcases ite_or hf with ⟨_, hf⟩ | ⟨_, hf⟩
    · obtain ⟨v_2, hv_2, hf⟩ := bnd hf
      have ch := SameX.tr (by simp) ch (frfX12_hour hv_2)
      exact ch.trans (ih _ _ _ hf)
    · obtain ⟨v_3, hv_3, hf⟩ := bnd hf
      obtain rfl := Option.some.inj hf
      exact ch

theorem frfX12_hours {v1 : Int32} {w : Wd} {r : Int32 × Wd} (hf : fX12_hours v1 w = some r) : SameX [(148, 168)] w r.2 := by
  unfold fX12_hours at hf
  have ch : SameX [(148, 168)] w w := SameX.refl _ _
  obtain ⟨w_1, ew_1, hf⟩ := nwx hf
  have ch := SameX.w_si (lo := 148) (hi := 168) ch ew_1 (by simp) (by omega)
  obtain ⟨v_2, hv_2, hf⟩ := bnd hf
  rcases ite_or hf with ⟨_, hf⟩ | ⟨_, hf⟩
  · obtain ⟨v_4, hv_4, hf⟩ := bnd hf
    rcases ite_or hf with ⟨_, hf⟩ | ⟨_, hf⟩
    · obtain rfl := Option.some.inj hf
      exact ch
    · exact ch.trans (frfX12_hours_36 FU _ _ _ hf)
  · obtain rfl := Option.some.inj hf
    exact ch

theorem frfX12_house_88 {s1 : Int32} {s2 : Int32} {w : Wd} {r : Int32 × Wd} (hf : fX12_house_88 s1 s2 w = some r) : SameX [(148, 168)] w r.2 := by
  unfold fX12_house_88 at hf
  have ch : SameX [(148, 168)] w w := SameX.refl _ _
  obtain ⟨v_1, hv_1, hf⟩ := bnd hf
  obtain rfl := Option.some.inj hf
  exact ch

theorem frfX12_house_47 {v1 : Int32} {v2 : Int32} {s0 : Int32} {s1 : Int32} {w : Wd} {r : Int32 × Wd} (hf : fX12_house_47 v1 v2 s0 s1 w = some r) : SameX [(148, 168)] w r.2 := by
  unfold fX12_house_47 at hf
  have ch : SameX [(148, 168)] w w := SameX.refl _ _
  rcases ite_or hf with ⟨_, hf⟩ | ⟨_, hf⟩
  · rcases ite_or hf with ⟨_, hf⟩ | ⟨_, hf⟩
    · exact ch.trans (frfX12_house_88 hf)
    · rcases ite_or hf with ⟨_, hf⟩ | ⟨_, hf⟩
      · exact ch.trans (frfX12_house_88 hf)
      · rcases ite_or hf with ⟨_, hf⟩ | ⟨_, hf⟩
        · exact ch.trans (frfX12_house_88 hf)
        · exact ch.trans (frfX12_house_88 hf)
  · obtain ⟨w_5, ew_5, hf⟩ := nwx hf
    have ch := SameX.w_si (lo := 148) (hi := 168) ch ew_5 (by simp) (by omega)
    obtain rfl := Option.some.inj hf
    exact ch

theorem frfX12_house_24 {w : Wd} {r : Int32 × Wd} (hf : fX12_house_24 w = some r) : SameX [(148, 168)] w r.2 := by
  unfold fX12_house_24 at hf
  have ch : SameX [(148, 168)] w w := SameX.refl _ _
  obtain ⟨w_1, ew_1, hf⟩ := nwx hf
  have ch := SameX.w_si (lo := 148) (hi := 168) ch ew_1 (by simp) (by omega)
  obtain rfl := Option.some.inj hf
  exact ch

theorem frfX12_house {v1 : Int32} {v2 : Int32} {w : Wd} {r : Int32 × Wd} (hf : fX12_house v1 v2 w = some r) : SameX [(148, 168)] w r.2 := by
  unfold fX12_house at hf
  have ch : SameX [(148, 168)] w w := SameX.refl _ _
  obtain ⟨w_1, ew_1, hf⟩ := nwx hf
  have ch := SameX.w_si (lo := 148) (hi := 168) ch ew_1 (by simp) (by omega)
  obtain ⟨v_2, hv_2, hf⟩ := bnd hf
  rcases ite_or hf with ⟨_, hf⟩ | ⟨_, hf⟩
  · obtain ⟨v_4, hv_4, hf⟩ := bnd hf
    rcases ite_or hf with ⟨_, hf⟩ | ⟨_, hf⟩
    · obtain ⟨v_6, hv_6, hf⟩ := bnd hf
      rcases ite_or hf with ⟨_, hf⟩ | ⟨_, hf⟩
      · exact ch.trans (frfX12_house_47 hf)
      · exact ch.trans (frfX12_house_47 hf)
    · exact ch.trans (frfX12_house_24 hf)
  · exact ch.trans (frfX12_house_24 hf)

theorem frfX12_inForce {v1 : Int32} {v2 : Int32} {w : Wd} {r : Int32 × Wd} (hf : fX12_inForce v1 v2 w = some r) : SameX [(148, 168)] w r.2 := by
  unfold fX12_inForce at hf
  have ch : SameX [(148, 168)] w w := SameX.refl _ _
  obtain ⟨w_1, ew_1, hf⟩ := nwx hf
  have ch := SameX.w_si (lo := 148) (hi := 168) ch ew_1 (by simp) (by omega)
  obtain ⟨v_2, hv_2, hf⟩ := bnd hf
  rcases ite_or hf with ⟨_, hf⟩ | ⟨_, hf⟩
  · obtain ⟨v_4, hv_4, hf⟩ := bnd hf
    rcases ite_or hf with ⟨_, hf⟩ | ⟨_, hf⟩
    · obtain ⟨v_6, hv_6, hf⟩ := bnd hf
      rcases ite_or hf with ⟨_, hf⟩ | ⟨_, hf⟩
      · obtain rfl := Option.some.inj hf
        exact ch
      · obtain rfl := Option.some.inj hf
        exact ch
    · obtain rfl := Option.some.inj hf
      exact ch
  · obtain rfl := Option.some.inj hf
    exact ch

theorem frfX12_judge_112 {v1 : Int32} {v2 : Int32} {v4 : Int32} {s0 : Int32} {s1 : Int32} {w : Wd} {r : Int32 × Wd} (k64 : Int32 → Int32 → Int32 → Int32 → Wd → Option (Int32 × Wd)) (hk64 : ∀ (v1 : Int32) (v2 : Int32) (v3 : Int32) (v4 : Int32) (w : Wd), k64 v1 v2 v3 v4 w = some r → SameX [(148, 168)] w r.2) (hf : fX12_judge_112 k64 v1 v2 v4 s0 s1 w = some r) : SameX [(148, 168)] w r.2 := by
  unfold fX12_judge_112 at hf
  have ch : SameX [(148, 168)] w w := SameX.refl _ _
  obtain ⟨v_1, hv_1, hf⟩ := bnd hf
  rcases ite_or hf with ⟨_, hf⟩ | ⟨_, hf⟩
  · obtain rfl := Option.some.inj hf
    exact ch
  · exact ch.trans (hk64 _ _ _ _ _ hf)

theorem frfX12_judge_135 {v1 : Int32} {v3 : Int32} {w : Wd} {r : Int32 × Wd} (hf : fX12_judge_135 v1 v3 w = some r) : SameX [(148, 168)] w r.2 := by
  unfold fX12_judge_135 at hf
  have ch : SameX [(148, 168)] w w := SameX.refl _ _
  obtain ⟨hb_1, hf⟩ := itn hf
  obtain ⟨v_2, hv_2, hf⟩ := bnd hf
  rcases ite_or hf with ⟨_, hf⟩ | ⟨_, hf⟩
  · obtain ⟨v_4, hv_4, hf⟩ := bnd hf
    have ch := SameX.tr (by simp) ch (frfX12_host hv_4)
    obtain rfl := Option.some.inj hf
    exact ch
  · obtain ⟨v_5, hv_5, hf⟩ := bnd hf
    have ch := SameX.tr (by simp) ch (frfX12_fouledBy hv_5)
    obtain rfl := Option.some.inj hf
    exact ch

theorem frfX12_judge_64 {r : Int32 × Wd} : ∀ (n : Nat) (v1 : Int32) (v2 : Int32) (v3 : Int32) (v4 : Int32) (w : Wd), fX12_judge_64 n v1 v2 v3 v4 w = some r → SameX [(148, 168)] w r.2 := by
  intro n
  induction n with
  | zero =>
    intro v1 v2 v3 v4 w hf
    unfold fX12_judge_64 at hf
    cases hf
  | succ n ih =>
    intro v1 v2 v3 v4 w hf
    unfold fX12_judge_64 at hf
    have ch : SameX [(148, 168)] w w := SameX.refl _ _
    obtain ⟨v_1, hv_1, hf⟩ := bnd hf
    rcases ite_or hf with ⟨_, hf⟩ | ⟨_, hf⟩
    · obtain ⟨hb_3, hf⟩ := itn hf
      rcases ite_or hf with ⟨_, hf⟩ | ⟨_, hf⟩
      · obtain ⟨hb_5, hf⟩ := itn hf
        rcases ite_or hf with ⟨_, hf⟩ | ⟨_, hf⟩
        · exact ch.trans (frfX12_judge_112 (fX12_judge_64 n) ih hf)
        · exact ch.trans (frfX12_judge_112 (fX12_judge_64 n) ih hf)
      · exact ch.trans (frfX12_judge_135 hf)
    · exact ch.trans (frfX12_judge_135 hf)

theorem frfX12_judge {v1 : Int32} {v2 : Int32} {w : Wd} {r : Int32 × Wd} (hf : fX12_judge v1 v2 w = some r) : SameX [(148, 168)] w r.2 := by
  unfold fX12_judge at hf
  have ch : SameX [(148, 168)] w w := SameX.refl _ _
  obtain ⟨w_1, ew_1, hf⟩ := nwx hf
  have ch := SameX.w_si (lo := 148) (hi := 168) ch ew_1 (by simp) (by omega)
  obtain ⟨v_2, hv_2, hf⟩ := bnd hf
  rcases ite_or hf with ⟨_, hf⟩ | ⟨_, hf⟩
  · obtain ⟨v_4, hv_4, hf⟩ := bnd hf
    rcases ite_or hf with ⟨_, hf⟩ | ⟨_, hf⟩
    · obtain ⟨hb_6, hf⟩ := itn hf
      rcases ite_or hf with ⟨_, hf⟩ | ⟨_, hf⟩
      · obtain ⟨v_8, hv_8, hf⟩ := bnd hf
        have ch := SameX.tr (by simp) ch (frfX12_host hv_8)
        obtain rfl := Option.some.inj hf
        exact ch
      · rcases ite_or hf with ⟨_, hf⟩ | ⟨_, hf⟩
        · exact ch.trans (frfX12_judge_64 FU _ _ _ _ _ hf)
        · obtain ⟨v_10, hv_10, hf⟩ := bnd hf
          have ch := SameX.tr (by simp) ch (frfX12_host hv_10)
          obtain rfl := Option.some.inj hf
          exact ch
    · obtain rfl := Option.some.inj hf
      exact ch
  · obtain rfl := Option.some.inj hf
    exact ch

theorem frfX12_keep_31 {r : Int32 × Wd} : ∀ (n : Nat) (v1 : Int32) (v2 : Int32) (w : Wd), fX12_keep_31 n v1 v2 w = some r → SameX [(148, 168)] w r.2 := by
  intro n
  induction n with
  | zero =>
    intro v1 v2 w hf
    unfold fX12_keep_31 at hf
    cases hf
  | succ n ih =>
    intro v1 v2 w hf
    unfold fX12_keep_31 at hf
    have ch : SameX [(148, 168)] w w := SameX.refl _ _
    rcases ite_or hf with ⟨_, hf⟩ | ⟨_, hf⟩
    · obtain ⟨hb_2, hf⟩ := itn hf
      obtain ⟨hb_3, hf⟩ := itn hf
      obtain ⟨w_4, ew_4, hf⟩ := nwx hf
      have ch := SameX.w_wi (lo := 148) (hi := 168) ch ew_4 (by simp) (by omega)
      exact ch.trans (ih _ _ _ hf)
    · obtain ⟨v_5, hv_5, hf⟩ := bnd hf
      obtain rfl := Option.some.inj hf
      exact ch

theorem frfX12_keep {v1 : Int32} {w : Wd} {r : Int32 × Wd} (hf : fX12_keep v1 w = some r) : SameX [(148, 168)] w r.2 := by
  unfold fX12_keep at hf
  have ch : SameX [(148, 168)] w w := SameX.refl _ _
  obtain ⟨w_1, ew_1, hf⟩ := nwx hf
  have ch := SameX.w_si (lo := 148) (hi := 168) ch ew_1 (by simp) (by omega)
  obtain ⟨v_2, hv_2, hf⟩ := bnd hf
  rcases ite_or hf with ⟨_, hf⟩ | ⟨_, hf⟩
  · obtain ⟨hb_4, hf⟩ := itn hf
    obtain ⟨w_5, ew_5, hf⟩ := nwx hf
    have ch := SameX.w_wi (lo := 148) (hi := 168) ch ew_5 (by simp) (by omega)
    obtain ⟨w_6, ew_6, hf⟩ := nwx hf
    have ch := SameX.w_wi (lo := 148) (hi := 168) ch ew_6 (by simp) (by omega)
    exact ch.trans (frfX12_keep_31 FU _ _ _ hf)
  · obtain rfl := Option.some.inj hf
    exact ch

theorem frfX12_kiln {v1 : Int32} {w : Wd} {r : Int32 × Wd} (hf : fX12_kiln v1 w = some r) : SameX [(148, 168)] w r.2 := by
  unfold fX12_kiln at hf
  have ch : SameX [(148, 168)] w w := SameX.refl _ _
  obtain ⟨w_1, ew_1, hf⟩ := nwx hf
  have ch := SameX.w_si (lo := 148) (hi := 168) ch ew_1 (by simp) (by omega)
  obtain ⟨v_2, hv_2, hf⟩ := bnd hf
  rcases ite_or hf with ⟨_, hf⟩ | ⟨_, hf⟩
  · obtain ⟨v_4, hv_4, hf⟩ := bnd hf
    obtain ⟨w_5, ew_5, hf⟩ := nwx hf
    have ch := SameX.w_wi (lo := 148) (hi := 168) ch ew_5 (by simp) (by omega)
    obtain rfl := Option.some.inj hf
    exact ch
  · obtain rfl := Option.some.inj hf
    exact ch

theorem frfX12_holdOf {v1 : Int32} {w : Wd} {r : Int32 × Wd} (hf : fX12_holdOf v1 w = some r) : SameX [(148, 168)] w r.2 := by
  unfold fX12_holdOf at hf
  have ch : SameX [(148, 168)] w w := SameX.refl _ _
  obtain ⟨v_1, hv_1, hf⟩ := bnd hf
  have ch := SameX.tr (by simp) ch (frfX12_lookAtLines hv_1)
  obtain ⟨v_2, hv_2, hf⟩ := bnd hf
  have ch := SameX.tr (by simp) ch (frfX12_hold hv_2)
  obtain rfl := Option.some.inj hf
  exact ch

theorem frfX12_lasts {v1 : Int32} {v2 : Int32} {w : Wd} {r : Int32 × Wd} (hf : fX12_lasts v1 v2 w = some r) : SameX [(148, 168)] w r.2 := by
  unfold fX12_lasts at hf
  have ch : SameX [(148, 168)] w w := SameX.refl _ _
  obtain ⟨w_1, ew_1, hf⟩ := nwx hf
  have ch := SameX.w_si (lo := 148) (hi := 168) ch ew_1 (by simp) (by omega)
  obtain ⟨v_2, hv_2, hf⟩ := bnd hf
  rcases ite_or hf with ⟨_, hf⟩ | ⟨_, hf⟩
  · rcases ite_or hf with ⟨_, hf⟩ | ⟨_, hf⟩
    · obtain rfl := Option.some.inj hf
      exact ch
    · obtain ⟨v_5, hv_5, hf⟩ := bnd hf
      have ch := SameX.tr (by simp) ch (frfX12_holdOf hv_5)
      obtain ⟨v_6, hv_6, hf⟩ := bnd hf
      obtain ⟨v_7, hv_7, hf⟩ := bnd hf
      rcases ite_or hf with ⟨_, hf⟩ | ⟨_, hf⟩
      · rcases ite_or hf with ⟨_, hf⟩ | ⟨_, hf⟩
        · obtain ⟨v_10, hv_10, hf⟩ := bnd hf
          have ch := SameX.tr (by simp) ch (frfX12_host hv_10)
          obtain rfl := Option.some.inj hf
          exact ch
        · obtain ⟨_, hf⟩ := itz hf
          obtain rfl := Option.some.inj hf
          exact ch
      · obtain rfl := Option.some.inj hf
        exact ch
  · obtain rfl := Option.some.inj hf
    exact ch

theorem frfX12_law_213 {r : Int32 × Wd} : ∀ (n : Nat) (v5 : Int32) (w : Wd), fX12_law_213 n v5 w = some r → SameX [(148, 168)] w r.2 := by
  intro n
  induction n with
  | zero =>
    intro v5 w hf
    unfold fX12_law_213 at hf
    cases hf
  | succ n ih =>
    intro v5 w hf
    unfold fX12_law_213 at hf
    have ch : SameX [(148, 168)] w w := SameX.refl _ _
    rcases ite_or hf with ⟨_, hf⟩ | ⟨_, hf⟩
    · obtain ⟨hb_2, hf⟩ := itn hf
      obtain ⟨hb_3, hf⟩ := itn hf
      obtain ⟨w_4, ew_4, hf⟩ := nwx hf
      have ch := SameX.w_wi (lo := 148) (hi := 168) ch ew_4 (by simp) (by omega)
      exact ch.trans (ih _ _ hf)
    · obtain ⟨w_5, ew_5, hf⟩ := nwx hf
      have ch := SameX.w_si (lo := 148) (hi := 168) ch ew_5 (by simp) (by omega)
      obtain rfl := Option.some.inj hf
      exact ch

theorem frfX12_law_95 {r : Int32 × Wd} : ∀ (n : Nat) (v1 : Int32) (v2 : Int32) (v3 : Int32) (v4 : Int32) (w : Wd), fX12_law_95 n v1 v2 v3 v4 w = some r → SameX [(148, 168)] w r.2 := by
  intro n
  induction n with
  | zero =>
    intro v1 v2 v3 v4 w hf
    unfold fX12_law_95 at hf
    cases hf
  | succ n ih =>
    intro v1 v2 v3 v4 w hf
    unfold fX12_law_95 at hf
    have ch : SameX [(148, 168)] w w := SameX.refl _ _
    rcases ite_or hf with ⟨_, hf⟩ | ⟨_, hf⟩
    · obtain ⟨hb_2, hf⟩ := itn hf
      obtain ⟨hb_3, hf⟩ := itn hf
      obtain ⟨w_4, ew_4, hf⟩ := nwx hf
      have ch := SameX.w_wi (lo := 148) (hi := 168) ch ew_4 (by simp) (by omega)
      exact ch.trans (ih _ _ _ _ _ hf)
    · obtain ⟨w_5, ew_5, hf⟩ := nwx hf
      have ch := SameX.w_si (lo := 148) (hi := 168) ch ew_5 (by simp) (by omega)
      obtain ⟨v_6, hv_6, hf⟩ := bnd hf
      have ch := SameX.tr (by simp) ch (frfX12_reads hv_6)
      rcases ite_or hf with ⟨_, hf⟩ | ⟨_, hf⟩
      · rcases ite_or hf with ⟨_, hf⟩ | ⟨_, hf⟩
        · obtain rfl := Option.some.inj hf
          exact ch
        · rcases ite_or hf with ⟨_, hf⟩ | ⟨_, hf⟩
          · obtain rfl := Option.some.inj hf
            exact ch
          · obtain ⟨hb_10, hf⟩ := itn hf
            obtain ⟨w_11, ew_11, hf⟩ := nwx hf
            have ch := SameX.w_wi (lo := 148) (hi := 168) ch ew_11 (by simp) (by omega)
            obtain ⟨hb_12, hf⟩ := itn hf
            obtain ⟨w_13, ew_13, hf⟩ := nwx hf
            have ch := SameX.w_wi (lo := 148) (hi := 168) ch ew_13 (by simp) (by omega)
            obtain ⟨hb_14, hf⟩ := itn hf
            obtain ⟨w_15, ew_15, hf⟩ := nwx hf
            have ch := SameX.w_wi (lo := 148) (hi := 168) ch ew_15 (by simp) (by omega)
            exact ch.trans (frfX12_law_213 FU _ _ hf)
      · obtain rfl := Option.some.inj hf
        exact ch

theorem frfX12_law {v1 : Int32} {v2 : Int32} {v3 : Int32} {w : Wd} {r : Int32 × Wd} (hf : fX12_law v1 v2 v3 w = some r) : SameX [(148, 168)] w r.2 := by
  unfold fX12_law at hf
  have ch : SameX [(148, 168)] w w := SameX.refl _ _
  obtain ⟨w_1, ew_1, hf⟩ := nwx hf
  have ch := SameX.w_si (lo := 148) (hi := 168) ch ew_1 (by simp) (by omega)
  obtain ⟨v_2, hv_2, hf⟩ := bnd hf
  rcases ite_or hf with ⟨_, hf⟩ | ⟨_, hf⟩
  · obtain ⟨v_4, hv_4, hf⟩ := bnd hf
    rcases ite_or hf with ⟨_, hf⟩ | ⟨_, hf⟩
    · obtain ⟨v_6, hv_6, hf⟩ := bnd hf
      rcases ite_or hf with ⟨_, hf⟩ | ⟨_, hf⟩
      · obtain ⟨v_8, hv_8, hf⟩ := bnd hf
        rcases ite_or hf with ⟨_, hf⟩ | ⟨_, hf⟩
        · obtain rfl := Option.some.inj hf
          exact ch
        · obtain ⟨hb_10, hf⟩ := itn hf
          rcases ite_or hf with ⟨_, hf⟩ | ⟨_, hf⟩
          · obtain ⟨v_12, hv_12, hf⟩ := bnd hf
            have ch := SameX.tr (by simp) ch (frfX12_host hv_12)
            obtain rfl := Option.some.inj hf
            exact ch
          · rcases ite_or hf with ⟨_, hf⟩ | ⟨_, hf⟩
            · obtain ⟨w_14, ew_14, hf⟩ := nwx hf
              have ch := SameX.w_si (lo := 148) (hi := 168) ch ew_14 (by simp) (by omega)
              exact ch.trans (frfX12_law_95 FU _ _ _ _ _ hf)
            · obtain ⟨v_15, hv_15, hf⟩ := bnd hf
              have ch := SameX.tr (by simp) ch (frfX12_host hv_15)
              obtain rfl := Option.some.inj hf
              exact ch
      · obtain rfl := Option.some.inj hf
        exact ch
    · obtain rfl := Option.some.inj hf
      exact ch
  · obtain rfl := Option.some.inj hf
    exact ch

theorem frfX12_level {v1 : Int32} {w : Wd} {r : Int32 × Wd} (hf : fX12_level v1 w = some r) : SameX [(148, 168)] w r.2 := by
  unfold fX12_level at hf
  have ch : SameX [(148, 168)] w w := SameX.refl _ _
  obtain ⟨w_1, ew_1, hf⟩ := nwx hf
  have ch := SameX.w_si (lo := 148) (hi := 168) ch ew_1 (by simp) (by omega)
  obtain ⟨v_2, hv_2, hf⟩ := bnd hf
  rcases ite_or hf with ⟨_, hf⟩ | ⟨_, hf⟩
  · obtain ⟨v_4, hv_4, hf⟩ := bnd hf
    obtain rfl := Option.some.inj hf
    exact ch
  · obtain ⟨w_5, ew_5, hf⟩ := nwx hf
    have ch := SameX.w_si (lo := 148) (hi := 168) ch ew_5 (by simp) (by omega)
    obtain rfl := Option.some.inj hf
    exact ch

theorem frfX12_lift_99 {v1 : Int32} {v2 : Int32} {v3 : Int32} {v4 : Int32} {w : Wd} {r : Int32 × Wd} (hf : fX12_lift_99 v1 v2 v3 v4 w = some r) : SameX [(148, 168)] w r.2 := by
  unfold fX12_lift_99 at hf
  have ch : SameX [(148, 168)] w w := SameX.refl _ _
  obtain ⟨hb_1, hf⟩ := itn hf
  obtain ⟨w_2, ew_2, hf⟩ := nwx hf
  have ch := SameX.w_wi (lo := 148) (hi := 168) ch ew_2 (by simp) (by omega)
  obtain ⟨hb_3, hf⟩ := itn hf
  obtain ⟨w_4, ew_4, hf⟩ := nwx hf
  have ch := SameX.w_wi (lo := 148) (hi := 168) ch ew_4 (by simp) (by omega)
  obtain ⟨hb_5, hf⟩ := itn hf
  obtain ⟨w_6, ew_6, hf⟩ := nwx hf
  have ch := SameX.w_wi (lo := 148) (hi := 168) ch ew_6 (by simp) (by omega)
  obtain ⟨hb_7, hf⟩ := itn hf
  obtain ⟨w_8, ew_8, hf⟩ := nwx hf
  have ch := SameX.w_wi (lo := 148) (hi := 168) ch ew_8 (by simp) (by omega)
  obtain ⟨hb_9, hf⟩ := itn hf
  obtain ⟨w_10, ew_10, hf⟩ := nwx hf
  have ch := SameX.w_wi (lo := 148) (hi := 168) ch ew_10 (by simp) (by omega)
  obtain rfl := Option.some.inj hf
  exact ch

theorem frfX12_lift {v1 : Int32} {v2 : Int32} {v3 : Int32} {v4 : Int32} {w : Wd} {r : Int32 × Wd} (hf : fX12_lift v1 v2 v3 v4 w = some r) : SameX [(148, 168)] w r.2 := by
  unfold fX12_lift at hf
  have ch : SameX [(148, 168)] w w := SameX.refl _ _
  obtain ⟨w_1, ew_1, hf⟩ := nwx hf
  have ch := SameX.w_si (lo := 148) (hi := 168) ch ew_1 (by simp) (by omega)
  obtain ⟨v_2, hv_2, hf⟩ := bnd hf
  rcases ite_or hf with ⟨_, hf⟩ | ⟨_, hf⟩
  · obtain ⟨v_4, hv_4, hf⟩ := bnd hf
    rcases ite_or hf with ⟨_, hf⟩ | ⟨_, hf⟩
    · obtain ⟨v_6, hv_6, hf⟩ := bnd hf
      rcases ite_or hf with ⟨_, hf⟩ | ⟨_, hf⟩
      · obtain ⟨v_8, hv_8, hf⟩ := bnd hf
        rcases ite_or hf with ⟨_, hf⟩ | ⟨_, hf⟩
        · rcases ite_or hf with ⟨_, hf⟩ | ⟨_, hf⟩
          · obtain rfl := Option.some.inj hf
            exact ch
          · obtain ⟨v_11, hv_11, hf⟩ := bnd hf
            rcases ite_or hf with ⟨_, hf⟩ | ⟨_, hf⟩
            · obtain rfl := Option.some.inj hf
              exact ch
            · obtain ⟨v_13, hv_13, hf⟩ := bnd hf
              rcases ite_or hf with ⟨_, hf⟩ | ⟨_, hf⟩
              · obtain ⟨v_15, hv_15, hf⟩ := bnd hf
                rcases ite_or hf with ⟨_, hf⟩ | ⟨_, hf⟩
                · obtain rfl := Option.some.inj hf
                  exact ch
                · obtain ⟨w_17, ew_17, hf⟩ := nwx hf
                  have ch := SameX.w_wi (lo := 148) (hi := 168) ch ew_17 (by simp) (by omega)
                  exact ch.trans (frfX12_lift_99 hf)
              · exact ch.trans (frfX12_lift_99 hf)
        · obtain rfl := Option.some.inj hf
          exact ch
      · obtain rfl := Option.some.inj hf
        exact ch
    · obtain rfl := Option.some.inj hf
      exact ch
  · obtain rfl := Option.some.inj hf
    exact ch

theorem frfX12_lineOf_25 {w : Wd} {r : Int32 × Wd} (hf : fX12_lineOf_25 w = some r) : SameX [(148, 168)] w r.2 := by
  unfold fX12_lineOf_25 at hf
  have ch : SameX [(148, 168)] w w := SameX.refl _ _
  obtain ⟨w_1, ew_1, hf⟩ := nwx hf
  have ch := SameX.w_si (lo := 148) (hi := 168) ch ew_1 (by simp) (by omega)
  obtain rfl := Option.some.inj hf
  exact ch

theorem frfX12_lineOf {v1 : Int32} {v2 : Int32} {v3 : Int32} {w : Wd} {r : Int32 × Wd} (hf : fX12_lineOf v1 v2 v3 w = some r) : SameX [(148, 168)] w r.2 := by
  unfold fX12_lineOf at hf
  have ch : SameX [(148, 168)] w w := SameX.refl _ _
  obtain ⟨w_1, ew_1, hf⟩ := nwx hf
  have ch := SameX.w_si (lo := 148) (hi := 168) ch ew_1 (by simp) (by omega)
  obtain ⟨v_2, hv_2, hf⟩ := bnd hf
  rcases ite_or hf with ⟨_, hf⟩ | ⟨_, hf⟩
  · obtain ⟨v_4, hv_4, hf⟩ := bnd hf
    rcases ite_or hf with ⟨_, hf⟩ | ⟨_, hf⟩
    · obtain ⟨v_6, hv_6, hf⟩ := bnd hf
      obtain ⟨v_7, hv_7, hf⟩ := bnd hf
      rcases ite_or hf with ⟨_, hf⟩ | ⟨_, hf⟩
      · obtain ⟨v_9, hv_9, hf⟩ := bnd hf
        rcases ite_or hf with ⟨_, hf⟩ | ⟨_, hf⟩
        · obtain ⟨hb_11, hf⟩ := itn hf
          obtain rfl := Option.some.inj hf
          exact ch
        · rcases ite_or hf with ⟨_, hf⟩ | ⟨_, hf⟩
          · obtain ⟨v_13, hv_13, hf⟩ := bnd hf
            obtain rfl := Option.some.inj hf
            exact ch
          · obtain ⟨hb_14, hf⟩ := itn hf
            obtain rfl := Option.some.inj hf
            exact ch
      · obtain ⟨w_15, ew_15, hf⟩ := nwx hf
        have ch := SameX.w_si (lo := 148) (hi := 168) ch ew_15 (by simp) (by omega)
        obtain rfl := Option.some.inj hf
        exact ch
    · exact ch.trans (frfX12_lineOf_25 hf)
  · exact ch.trans (frfX12_lineOf_25 hf)

theorem frfX12_map_25 {v1 : Int32} {v2 : Int32} {v3 : Int32} {w : Wd} {r : Int32 × Wd} (hf : fX12_map_25 v1 v2 v3 w = some r) : SameX [(148, 168)] w r.2 := by
  unfold fX12_map_25 at hf
  have ch : SameX [(148, 168)] w w := SameX.refl _ _
  obtain ⟨v_1, hv_1, hf⟩ := bnd hf
  rcases ite_or hf with ⟨_, hf⟩ | ⟨_, hf⟩
  · obtain ⟨v_3, hv_3, hf⟩ := bnd hf
    rcases ite_or hf with ⟨_, hf⟩ | ⟨_, hf⟩
    · obtain rfl := Option.some.inj hf
      exact ch
    · obtain ⟨v_5, hv_5, hf⟩ := bnd hf
      have ch := SameX.tr (by simp) ch (frfX12_tells hv_5)
      obtain rfl := Option.some.inj hf
      exact ch
  · obtain rfl := Option.some.inj hf
    exact ch

theorem frfX12_map {v1 : Int32} {v2 : Int32} {v3 : Int32} {w : Wd} {r : Int32 × Wd} (hf : fX12_map v1 v2 v3 w = some r) : SameX [(148, 168)] w r.2 := by
  unfold fX12_map at hf
  have ch : SameX [(148, 168)] w w := SameX.refl _ _
  obtain ⟨w_1, ew_1, hf⟩ := nwx hf
  have ch := SameX.w_si (lo := 148) (hi := 168) ch ew_1 (by simp) (by omega)
  obtain ⟨v_2, hv_2, hf⟩ := bnd hf
  rcases ite_or hf with ⟨_, hf⟩ | ⟨_, hf⟩
  · rcases ite_or hf with ⟨_, hf⟩ | ⟨_, hf⟩
    · exact ch.trans (frfX12_map_25 hf)
    · obtain ⟨v_5, hv_5, hf⟩ := bnd hf
      rcases ite_or hf with ⟨_, hf⟩ | ⟨_, hf⟩
      · exact ch.trans (frfX12_map_25 hf)
      · obtain rfl := Option.some.inj hf
        exact ch
  · obtain rfl := Option.some.inj hf
    exact ch

theorem frfX12_mapOf {v1 : Int32} {v2 : Int32} {v3 : Int32} {w : Wd} {r : Int32 × Wd} (hf : fX12_mapOf v1 v2 v3 w = some r) : SameX [(148, 168)] w r.2 := by
  unfold fX12_mapOf at hf
  have ch : SameX [(148, 168)] w w := SameX.refl _ _
  obtain ⟨w_1, ew_1, hf⟩ := nwx hf
  have ch := SameX.w_si (lo := 148) (hi := 168) ch ew_1 (by simp) (by omega)
  obtain ⟨v_2, hv_2, hf⟩ := bnd hf
  rcases ite_or hf with ⟨_, hf⟩ | ⟨_, hf⟩
  · obtain ⟨v_4, hv_4, hf⟩ := bnd hf
    rcases ite_or hf with ⟨_, hf⟩ | ⟨_, hf⟩
    · obtain ⟨v_6, hv_6, hf⟩ := bnd hf
      rcases ite_or hf with ⟨_, hf⟩ | ⟨_, hf⟩
      · obtain ⟨v_8, hv_8, hf⟩ := bnd hf
        rcases ite_or hf with ⟨_, hf⟩ | ⟨_, hf⟩
        · obtain rfl := Option.some.inj hf
          exact ch
        · obtain ⟨hb_10, hf⟩ := itn hf
          obtain rfl := Option.some.inj hf
          exact ch
      · obtain rfl := Option.some.inj hf
        exact ch
    · obtain rfl := Option.some.inj hf
      exact ch
  · obtain rfl := Option.some.inj hf
    exact ch

theorem frfX12_of {v1 : Int32} {v2 : Int32} {w : Wd} {r : Int32 × Wd} (hf : fX12_of v1 v2 w = some r) : SameX [(148, 168)] w r.2 := by
  unfold fX12_of at hf
  have ch : SameX [(148, 168)] w w := SameX.refl _ _
  obtain ⟨w_1, ew_1, hf⟩ := nwx hf
  have ch := SameX.w_si (lo := 148) (hi := 168) ch ew_1 (by simp) (by omega)
  obtain ⟨v_2, hv_2, hf⟩ := bnd hf
  rcases ite_or hf with ⟨_, hf⟩ | ⟨_, hf⟩
  · obtain ⟨v_4, hv_4, hf⟩ := bnd hf
    rcases ite_or hf with ⟨_, hf⟩ | ⟨_, hf⟩
    · rcases ite_or hf with ⟨_, hf⟩ | ⟨_, hf⟩
      · obtain ⟨v_7, hv_7, hf⟩ := bnd hf
        obtain rfl := Option.some.inj hf
        exact ch
      · rcases ite_or hf with ⟨_, hf⟩ | ⟨_, hf⟩
        · obtain ⟨v_9, hv_9, hf⟩ := bnd hf
          have ch := SameX.tr (by simp) ch (frfX12_holdOf hv_9)
          obtain rfl := Option.some.inj hf
          exact ch
        · rcases ite_or hf with ⟨_, hf⟩ | ⟨_, hf⟩
          · obtain ⟨v_11, hv_11, hf⟩ := bnd hf
            obtain rfl := Option.some.inj hf
            exact ch
          · rcases ite_or hf with ⟨_, hf⟩ | ⟨_, hf⟩
            · obtain ⟨v_13, hv_13, hf⟩ := bnd hf
              rcases ite_or hf with ⟨_, hf⟩ | ⟨_, hf⟩
              · obtain rfl := Option.some.inj hf
                exact ch
              · obtain rfl := Option.some.inj hf
                exact ch
            · obtain ⟨v_15, hv_15, hf⟩ := bnd hf
              obtain rfl := Option.some.inj hf
              exact ch
    · obtain ⟨w_16, ew_16, hf⟩ := nwx hf
      have ch := SameX.w_si (lo := 148) (hi := 168) ch ew_16 (by simp) (by omega)
      obtain rfl := Option.some.inj hf
      exact ch
  · obtain ⟨w_17, ew_17, hf⟩ := nwx hf
    have ch := SameX.w_si (lo := 148) (hi := 168) ch ew_17 (by simp) (by omega)
    obtain rfl := Option.some.inj hf
    exact ch

theorem frfX12_old_25 {v1 : Int32} {v2 : Int32} {v3 : Int32} {v4 : Int32} {w : Wd} {r : Int32 × Wd} (hf : fX12_old_25 v1 v2 v3 v4 w = some r) : SameX [(148, 168)] w r.2 := by
  unfold fX12_old_25 at hf
  have ch : SameX [(148, 168)] w w := SameX.refl _ _
  obtain ⟨v_1, hv_1, hf⟩ := bnd hf
  rcases ite_or hf with ⟨_, hf⟩ | ⟨_, hf⟩
  · obtain ⟨v_3, hv_3, hf⟩ := bnd hf
    rcases ite_or hf with ⟨_, hf⟩ | ⟨_, hf⟩
    · obtain ⟨hb_5, hf⟩ := itn hf
      obtain ⟨w_6, ew_6, hf⟩ := nwx hf
      have ch := SameX.w_wi (lo := 148) (hi := 168) ch ew_6 (by simp) (by omega)
      obtain ⟨hb_7, hf⟩ := itn hf
      obtain ⟨w_8, ew_8, hf⟩ := nwx hf
      have ch := SameX.w_wi (lo := 148) (hi := 168) ch ew_8 (by simp) (by omega)
      obtain ⟨hb_9, hf⟩ := itn hf
      obtain ⟨w_10, ew_10, hf⟩ := nwx hf
      have ch := SameX.w_wi (lo := 148) (hi := 168) ch ew_10 (by simp) (by omega)
      obtain rfl := Option.some.inj hf
      exact ch
    · obtain rfl := Option.some.inj hf
      exact ch
  · obtain rfl := Option.some.inj hf
    exact ch

theorem frfX12_old {v1 : Int32} {v2 : Int32} {v3 : Int32} {v4 : Int32} {w : Wd} {r : Int32 × Wd} (hf : fX12_old v1 v2 v3 v4 w = some r) : SameX [(148, 168)] w r.2 := by
  unfold fX12_old at hf
  have ch : SameX [(148, 168)] w w := SameX.refl _ _
  obtain ⟨w_1, ew_1, hf⟩ := nwx hf
  have ch := SameX.w_si (lo := 148) (hi := 168) ch ew_1 (by simp) (by omega)
  obtain ⟨v_2, hv_2, hf⟩ := bnd hf
  rcases ite_or hf with ⟨_, hf⟩ | ⟨_, hf⟩
  · rcases ite_or hf with ⟨_, hf⟩ | ⟨_, hf⟩
    · exact ch.trans (frfX12_old_25 hf)
    · obtain ⟨v_5, hv_5, hf⟩ := bnd hf
      rcases ite_or hf with ⟨_, hf⟩ | ⟨_, hf⟩
      · exact ch.trans (frfX12_old_25 hf)
      · obtain rfl := Option.some.inj hf
        exact ch
  · obtain rfl := Option.some.inj hf
    exact ch

theorem frfX12_out_237 {v1 : Int32} {v5 : Int32} {v7 : Int32} {s0 : Int32} {w : Wd} {r : Int32 × Wd} (hf : fX12_out_237 v1 v5 v7 s0 w = some r) : SameX [(148, 168)] w r.2 := by
  unfold fX12_out_237 at hf
  have ch : SameX [(148, 168)] w w := SameX.refl _ _
  obtain ⟨hb_1, hf⟩ := itn hf
  obtain ⟨w_2, ew_2, hf⟩ := nwx hf
  have ch := SameX.w_wi (lo := 148) (hi := 168) ch ew_2 (by simp) (by omega)
  obtain ⟨hb_3, hf⟩ := itn hf
  obtain ⟨w_4, ew_4, hf⟩ := nwx hf
  have ch := SameX.w_wi (lo := 148) (hi := 168) ch ew_4 (by simp) (by omega)
  obtain ⟨hb_5, hf⟩ := itn hf
  obtain ⟨w_6, ew_6, hf⟩ := nwx hf
  have ch := SameX.w_wi (lo := 148) (hi := 168) ch ew_6 (by simp) (by omega)
  obtain ⟨hb_7, hf⟩ := itn hf
  obtain ⟨w_8, ew_8, hf⟩ := nwx hf
  have ch := SameX.w_wi (lo := 148) (hi := 168) ch ew_8 (by simp) (by omega)
  obtain rfl := Option.some.inj hf
  exact ch

theorem frfX12_out_218 {v1 : Int32} {v5 : Int32} {v6 : Int32} {s0 : Int32} {w : Wd} {r : Int32 × Wd} (hf : fX12_out_218 v1 v5 v6 s0 w = some r) : SameX [(148, 168)] w r.2 := by
  unfold fX12_out_218 at hf
  have ch : SameX [(148, 168)] w w := SameX.refl _ _
  rcases ite_or hf with ⟨_, hf⟩ | ⟨_, hf⟩
  · exact ch.trans (frfX12_out_237 hf)
  · exact ch.trans (frfX12_out_237 hf)

theorem frfX12_out_101 {v1 : Int32} {v2 : Int32} {v3 : Int32} {v4 : Int32} {w : Wd} {r : Int32 × Wd} (hf : fX12_out_101 v1 v2 v3 v4 w = some r) : SameX [(148, 168)] w r.2 := by
  unfold fX12_out_101 at hf
  have ch : SameX [(148, 168)] w w := SameX.refl _ _
  obtain ⟨hb_1, hf⟩ := itn hf
  obtain ⟨w_2, ew_2, hf⟩ := nwx hf
  have ch := SameX.w_wi (lo := 148) (hi := 168) ch ew_2 (by simp) (by omega)
  obtain ⟨hb_3, hf⟩ := itn hf
  obtain ⟨w_4, ew_4, hf⟩ := nwx hf
  have ch := SameX.w_wi (lo := 148) (hi := 168) ch ew_4 (by simp) (by omega)
  obtain ⟨hb_5, hf⟩ := itn hf
  obtain ⟨w_6, ew_6, hf⟩ := nwx hf
  have ch := SameX.w_wi (lo := 148) (hi := 168) ch ew_6 (by simp) (by omega)
  obtain ⟨hb_7, hf⟩ := itn hf
  obtain ⟨w_8, ew_8, hf⟩ := nwx hf
  have ch := SameX.w_wi (lo := 148) (hi := 168) ch ew_8 (by simp) (by omega)
  obtain ⟨hb_9, hf⟩ := itn hf
  obtain ⟨hb_10, hf⟩ := itn hf
  rcases ite_or hf with ⟨_, hf⟩ | ⟨_, hf⟩
  · exact ch.trans (frfX12_out_218 hf)
  · rcases ite_or hf with ⟨_, hf⟩ | ⟨_, hf⟩
    · exact ch.trans (frfX12_out_218 hf)
    · exact ch.trans (frfX12_out_218 hf)

theorem frfX12_out {v1 : Int32} {v2 : Int32} {v3 : Int32} {v4 : Int32} {w : Wd} {r : Int32 × Wd} (hf : fX12_out v1 v2 v3 v4 w = some r) : SameX [(148, 168)] w r.2 := by
  unfold fX12_out at hf
  have ch : SameX [(148, 168)] w w := SameX.refl _ _
  obtain ⟨w_1, ew_1, hf⟩ := nwx hf
  have ch := SameX.w_si (lo := 148) (hi := 168) ch ew_1 (by simp) (by omega)
  obtain ⟨v_2, hv_2, hf⟩ := bnd hf
  rcases ite_or hf with ⟨_, hf⟩ | ⟨_, hf⟩
  · obtain ⟨v_4, hv_4, hf⟩ := bnd hf
    rcases ite_or hf with ⟨_, hf⟩ | ⟨_, hf⟩
    · obtain ⟨v_6, hv_6, hf⟩ := bnd hf
      rcases ite_or hf with ⟨_, hf⟩ | ⟨_, hf⟩
      · obtain ⟨v_8, hv_8, hf⟩ := bnd hf
        rcases ite_or hf with ⟨_, hf⟩ | ⟨_, hf⟩
        · obtain ⟨v_10, hv_10, hf⟩ := bnd hf
          rcases ite_or hf with ⟨_, hf⟩ | ⟨_, hf⟩
          · obtain rfl := Option.some.inj hf
            exact ch
          · obtain ⟨v_12, hv_12, hf⟩ := bnd hf
            rcases ite_or hf with ⟨_, hf⟩ | ⟨_, hf⟩
            · obtain ⟨v_14, hv_14, hf⟩ := bnd hf
              rcases ite_or hf with ⟨_, hf⟩ | ⟨_, hf⟩
              · obtain rfl := Option.some.inj hf
                exact ch
              · obtain ⟨w_16, ew_16, hf⟩ := nwx hf
                have ch := SameX.w_wi (lo := 148) (hi := 168) ch ew_16 (by simp) (by omega)
                exact ch.trans (frfX12_out_101 hf)
            · exact ch.trans (frfX12_out_101 hf)
        · obtain rfl := Option.some.inj hf
          exact ch
      · obtain rfl := Option.some.inj hf
        exact ch
    · obtain rfl := Option.some.inj hf
      exact ch
  · obtain rfl := Option.some.inj hf
    exact ch

theorem frfX12_put_150 {s1 : Int32} {s2 : Int64} {w : Wd} {r : Int32 × Wd} (hf : fX12_put_150 s1 s2 w = some r) : SameX [(148, 168)] w r.2 := by
  unfold fX12_put_150 at hf
  have ch : SameX [(148, 168)] w w := SameX.refl _ _
  obtain ⟨hb_1, hf⟩ := itn hf
  obtain ⟨w_2, ew_2, hf⟩ := nwx hf
  have ch := SameX.w_wl (lo := 148) (hi := 168) ch ew_2 (by simp) (by omega)
  obtain rfl := Option.some.inj hf
  exact ch

theorem frfX12_put {v1 : Int32} {v2 : Int32} {v3 : Int64} {w : Wd} {r : Int32 × Wd} (hf : fX12_put v1 v2 v3 w = some r) : SameX [(148, 168)] w r.2 := by
  unfold fX12_put at hf
  have ch : SameX [(148, 168)] w w := SameX.refl _ _
  obtain ⟨w_1, ew_1, hf⟩ := nwx hf
  have ch := SameX.w_si (lo := 148) (hi := 168) ch ew_1 (by simp) (by omega)
  obtain ⟨v_2, hv_2, hf⟩ := bnd hf
  rcases ite_or hf with ⟨_, hf⟩ | ⟨_, hf⟩
  · obtain ⟨hb_4, hf⟩ := itn hf
    rcases ite_or hf with ⟨_, hf⟩ | ⟨_, hf⟩
    · obtain ⟨v_6, hv_6, hf⟩ := bnd hf
      have ch := SameX.tr (by simp) ch (frfX12_host hv_6)
      obtain rfl := Option.some.inj hf
      exact ch
    · rcases ite_or hf with ⟨_, hf⟩ | ⟨_, hf⟩
      · obtain ⟨v_8, hv_8, hf⟩ := bnd hf
        have ch := SameX.tr (by simp) ch (frfX12_host hv_8)
        obtain rfl := Option.some.inj hf
        exact ch
      · obtain ⟨v_9, hv_9, hf⟩ := bnd hf
        rcases ite_or hf with ⟨_, hf⟩ | ⟨_, hf⟩
        · rcases ite_or hf with ⟨_, hf⟩ | ⟨_, hf⟩
          · exact ch.trans (frfX12_put_150 hf)
          · rcases ite_or hf with ⟨_, hf⟩ | ⟨_, hf⟩
            · exact ch.trans (frfX12_put_150 hf)
            · rcases ite_or hf with ⟨_, hf⟩ | ⟨_, hf⟩
              · exact ch.trans (frfX12_put_150 hf)
              · rcases ite_or hf with ⟨_, hf⟩ | ⟨_, hf⟩
                · exact ch.trans (frfX12_put_150 hf)
                · rcases ite_or hf with ⟨_, hf⟩ | ⟨_, hf⟩
                  · exact ch.trans (frfX12_put_150 hf)
                  · exact ch.trans (frfX12_put_150 hf)
        · obtain ⟨v_16, hv_16, hf⟩ := bnd hf
          have ch := SameX.tr (by simp) ch (frfX12_host hv_16)
          obtain rfl := Option.some.inj hf
          exact ch
  · obtain rfl := Option.some.inj hf
    exact ch

theorem frfX12_rain {v1 : Int32} {w : Wd} {r : Int32 × Wd} (hf : fX12_rain v1 w = some r) : SameX [(148, 168)] w r.2 := by
  unfold fX12_rain at hf
  have ch : SameX [(148, 168)] w w := SameX.refl _ _
  obtain ⟨w_1, ew_1, hf⟩ := nwx hf
  have ch := SameX.w_si (lo := 148) (hi := 168) ch ew_1 (by simp) (by omega)
  obtain ⟨v_2, hv_2, hf⟩ := bnd hf
  rcases ite_or hf with ⟨_, hf⟩ | ⟨_, hf⟩
  · obtain ⟨v_4, hv_4, hf⟩ := bnd hf
    obtain ⟨w_5, ew_5, hf⟩ := nwx hf
    have ch := SameX.w_wi (lo := 148) (hi := 168) ch ew_5 (by simp) (by omega)
    obtain rfl := Option.some.inj hf
    exact ch
  · obtain rfl := Option.some.inj hf
    exact ch

theorem frfX12_route_334 {r : Int32 × Wd} (k321 : Int32 → Int32 → Int32 → Int32 → Int32 → Int32 → Int32 → Wd → Option (Int32 × Wd)) (hk321 : ∀ (v1 : Int32) (v2 : Int32) (v3 : Int32) (v4 : Int32) (v5 : Int32) (v6 : Int32) (v7 : Int32) (w : Wd), k321 v1 v2 v3 v4 v5 v6 v7 w = some r → SameX [(148, 168)] w r.2) : ∀ (n : Nat) (v1 : Int32) (v2 : Int32) (v3 : Int32) (v4 : Int32) (v5 : Int32) (v6 : Int32) (v7 : Int32) (v8 : Int32) (v9 : Int32) (w : Wd), fX12_route_334 k321 n v1 v2 v3 v4 v5 v6 v7 v8 v9 w = some r → SameX [(148, 168)] w r.2 := by
  intro n
  induction n with
  | zero =>
    intro v1 v2 v3 v4 v5 v6 v7 v8 v9 w hf
    unfold fX12_route_334 at hf
    cases hf
  | succ n ih =>
    intro v1 v2 v3 v4 v5 v6 v7 v8 v9 w hf
    unfold fX12_route_334 at hf
    have ch : SameX [(148, 168)] w w := SameX.refl _ _
    rcases ite_or hf with ⟨_, hf⟩ | ⟨_, hf⟩
    · obtain ⟨hb_2, hf⟩ := itn hf
      obtain ⟨w_3, ew_3, hf⟩ := nwx hf
      have ch := SameX.w_wi (lo := 148) (hi := 168) ch ew_3 (by simp) (by omega)
      exact ch.trans (hk321 _ _ _ _ _ _ _ _ hf)
    · obtain ⟨v_4, hv_4, hf⟩ := bnd hf
      rcases ite_or hf with ⟨_, hf⟩ | ⟨_, hf⟩
      · exact ch.trans (ih _ _ _ _ _ _ _ _ _ _ hf)
      · obtain ⟨v_6, hv_6, hf⟩ := bnd hf
        rcases ite_or hf with ⟨_, hf⟩ | ⟨_, hf⟩
        · obtain ⟨hb_8, hf⟩ := itn hf
          rcases ite_or hf with ⟨_, hf⟩ | ⟨_, hf⟩
          · obtain ⟨v_10, hv_10, hf⟩ := bnd hf
            obtain ⟨hb_11, hf⟩ := itn hf
            rcases ite_or hf with ⟨_, hf⟩ | ⟨_, hf⟩
            · exact ch.trans (ih _ _ _ _ _ _ _ _ _ _ hf)
            · exact ch.trans (ih _ _ _ _ _ _ _ _ _ _ hf)
          · exact ch.trans (ih _ _ _ _ _ _ _ _ _ _ hf)
        · exact ch.trans (ih _ _ _ _ _ _ _ _ _ _ hf)

theorem frfX12_route_321 {r : Int32 × Wd} : ∀ (n : Nat) (v1 : Int32) (v2 : Int32) (v3 : Int32) (v4 : Int32) (v5 : Int32) (v6 : Int32) (v7 : Int32) (w : Wd), fX12_route_321 n v1 v2 v3 v4 v5 v6 v7 w = some r → SameX [(148, 168)] w r.2 := by
  intro n
  induction n with
  | zero =>
    intro v1 v2 v3 v4 v5 v6 v7 w hf
    unfold fX12_route_321 at hf
    cases hf
  | succ n ih =>
    intro v1 v2 v3 v4 v5 v6 v7 w hf
    unfold fX12_route_321 at hf
    have ch : SameX [(148, 168)] w w := SameX.refl _ _
    rcases ite_or hf with ⟨_, hf⟩ | ⟨_, hf⟩
    · obtain ⟨hb_2, hf⟩ := itn hf
      obtain rfl := Option.some.inj hf
      exact ch
    · exact ch.trans (frfX12_route_334 (fX12_route_321 n) ih FU _ _ _ _ _ _ _ _ _ _ hf)

theorem frfX12_route_164 {r : Int32 × Wd} (k74 : Int32 → Int32 → Int32 → Int32 → Int32 → Int32 → Wd → Option (Int32 × Wd)) (hk74 : ∀ (v1 : Int32) (v2 : Int32) (v3 : Int32) (v4 : Int32) (v5 : Int32) (v6 : Int32) (w : Wd), k74 v1 v2 v3 v4 v5 v6 w = some r → SameX [(148, 168)] w r.2) (k84 : Int32 → Int32 → Int32 → Int32 → Int32 → Int32 → Int32 → Wd → Option (Int32 × Wd)) (hk84 : ∀ (v1 : Int32) (v2 : Int32) (v3 : Int32) (v4 : Int32) (v5 : Int32) (v6 : Int32) (v7 : Int32) (w : Wd), k84 v1 v2 v3 v4 v5 v6 v7 w = some r → SameX [(148, 168)] w r.2) : ∀ (n : Nat) (v1 : Int32) (v2 : Int32) (v3 : Int32) (v4 : Int32) (v5 : Int32) (v6 : Int32) (v7 : Int32) (v8 : Int32) (v9 : Int32) (w : Wd), fX12_route_164 k74 k84 n v1 v2 v3 v4 v5 v6 v7 v8 v9 w = some r → SameX [(148, 168)] w r.2 := by
  intro n
  induction n with
  | zero =>
    intro v1 v2 v3 v4 v5 v6 v7 v8 v9 w hf
    unfold fX12_route_164 at hf
    cases hf
  | succ n ih =>
    intro v1 v2 v3 v4 v5 v6 v7 v8 v9 w hf
    unfold fX12_route_164 at hf
    have ch : SameX [(148, 168)] w w := SameX.refl _ _
    rcases ite_or hf with ⟨_, hf⟩ | ⟨_, hf⟩
    · obtain ⟨v_2, hv_2, hf⟩ := bnd hf
      rcases ite_or hf with ⟨_, hf⟩ | ⟨_, hf⟩
      · exact ch.trans (ih _ _ _ _ _ _ _ _ _ _ hf)
      · rcases ite_or hf with ⟨_, hf⟩ | ⟨_, hf⟩
        · obtain ⟨v_5, hv_5, hf⟩ := bnd hf
          rcases ite_or hf with ⟨_, hf⟩ | ⟨_, hf⟩
          · obtain ⟨hb_7, hf⟩ := itn hf
            rcases ite_or hf with ⟨_, hf⟩ | ⟨_, hf⟩
            · exact ch.trans (ih _ _ _ _ _ _ _ _ _ _ hf)
            · exact ch.trans (ih _ _ _ _ _ _ _ _ _ _ hf)
          · exact ch.trans (ih _ _ _ _ _ _ _ _ _ _ hf)
        · exact ch.trans (ih _ _ _ _ _ _ _ _ _ _ hf)
    · rcases ite_or hf with ⟨_, hf⟩ | ⟨_, hf⟩
      · obtain ⟨v_10, hv_10, hf⟩ := bnd hf
        obtain ⟨hb_11, hf⟩ := itn hf
        obtain ⟨w_12, ew_12, hf⟩ := nwx hf
        have ch := SameX.w_wi (lo := 148) (hi := 168) ch ew_12 (by simp) (by omega)
        exact ch.trans (hk84 _ _ _ _ _ _ _ _ hf)
      · exact ch.trans (hk84 _ _ _ _ _ _ _ _ hf)

theorem frfX12_route_148 {v1 : Int32} {v2 : Int32} {v3 : Int32} {v4 : Int32} {v5 : Int32} {v6 : Int32} {v7 : Int32} {w : Wd} {r : Int32 × Wd} (k74 : Int32 → Int32 → Int32 → Int32 → Int32 → Int32 → Wd → Option (Int32 × Wd)) (hk74 : ∀ (v1 : Int32) (v2 : Int32) (v3 : Int32) (v4 : Int32) (v5 : Int32) (v6 : Int32) (w : Wd), k74 v1 v2 v3 v4 v5 v6 w = some r → SameX [(148, 168)] w r.2) (k84 : Int32 → Int32 → Int32 → Int32 → Int32 → Int32 → Int32 → Wd → Option (Int32 × Wd)) (hk84 : ∀ (v1 : Int32) (v2 : Int32) (v3 : Int32) (v4 : Int32) (v5 : Int32) (v6 : Int32) (v7 : Int32) (w : Wd), k84 v1 v2 v3 v4 v5 v6 v7 w = some r → SameX [(148, 168)] w r.2) (hf : fX12_route_148 k74 k84 v1 v2 v3 v4 v5 v6 v7 w = some r) : SameX [(148, 168)] w r.2 := by
  unfold fX12_route_148 at hf
  have ch : SameX [(148, 168)] w w := SameX.refl _ _
  rcases ite_or hf with ⟨_, hf⟩ | ⟨_, hf⟩
  · exact ch.trans (frfX12_route_164 k74 hk74 k84 hk84 FU _ _ _ _ _ _ _ _ _ _ hf)
  · exact ch.trans (frfX12_route_164 k74 hk74 k84 hk84 FU _ _ _ _ _ _ _ _ _ _ hf)

theorem frfX12_route_84 {r : Int32 × Wd} (k74 : Int32 → Int32 → Int32 → Int32 → Int32 → Int32 → Wd → Option (Int32 × Wd)) (hk74 : ∀ (v1 : Int32) (v2 : Int32) (v3 : Int32) (v4 : Int32) (v5 : Int32) (v6 : Int32) (w : Wd), k74 v1 v2 v3 v4 v5 v6 w = some r → SameX [(148, 168)] w r.2) : ∀ (n : Nat) (v1 : Int32) (v2 : Int32) (v3 : Int32) (v4 : Int32) (v5 : Int32) (v6 : Int32) (v7 : Int32) (w : Wd), fX12_route_84 k74 n v1 v2 v3 v4 v5 v6 v7 w = some r → SameX [(148, 168)] w r.2 := by
  intro n
  induction n with
  | zero =>
    intro v1 v2 v3 v4 v5 v6 v7 w hf
    unfold fX12_route_84 at hf
    cases hf
  | succ n ih =>
    intro v1 v2 v3 v4 v5 v6 v7 w hf
    unfold fX12_route_84 at hf
    have ch : SameX [(148, 168)] w w := SameX.refl _ _
    rcases ite_or hf with ⟨_, hf⟩ | ⟨_, hf⟩
    · obtain ⟨v_2, hv_2, hf⟩ := bnd hf
      rcases ite_or hf with ⟨_, hf⟩ | ⟨_, hf⟩
      · obtain ⟨v_4, hv_4, hf⟩ := bnd hf
        rcases ite_or hf with ⟨_, hf⟩ | ⟨_, hf⟩
        · obtain ⟨hb_6, hf⟩ := itn hf
          obtain ⟨w_7, ew_7, hf⟩ := nwx hf
          have ch := SameX.w_wi (lo := 148) (hi := 168) ch ew_7 (by simp) (by omega)
          obtain ⟨v_8, hv_8, hf⟩ := bnd hf
          rcases ite_or hf with ⟨_, hf⟩ | ⟨_, hf⟩
          · rcases ite_or hf with ⟨_, hf⟩ | ⟨_, hf⟩
            · exact ch.trans (frfX12_route_148 k74 hk74 (fX12_route_84 k74 n) ih hf)
            · exact ch.trans (ih _ _ _ _ _ _ _ _ hf)
          · exact ch.trans (frfX12_route_148 k74 hk74 (fX12_route_84 k74 n) ih hf)
        · exact ch.trans (ih _ _ _ _ _ _ _ _ hf)
      · exact ch.trans (ih _ _ _ _ _ _ _ _ hf)
    · exact ch.trans (hk74 _ _ _ _ _ _ _ hf)

theorem frfX12_route_74 {r : Int32 × Wd} : ∀ (n : Nat) (v1 : Int32) (v2 : Int32) (v3 : Int32) (v4 : Int32) (v5 : Int32) (v6 : Int32) (w : Wd), fX12_route_74 n v1 v2 v3 v4 v5 v6 w = some r → SameX [(148, 168)] w r.2 := by
  intro n
  induction n with
  | zero =>
    intro v1 v2 v3 v4 v5 v6 w hf
    unfold fX12_route_74 at hf
    cases hf
  | succ n ih =>
    intro v1 v2 v3 v4 v5 v6 w hf
    unfold fX12_route_74 at hf
    have ch : SameX [(148, 168)] w w := SameX.refl _ _
    rcases ite_or hf with ⟨_, hf⟩ | ⟨_, hf⟩
    · obtain ⟨hb_2, hf⟩ := itn hf
      rcases ite_or hf with ⟨_, hf⟩ | ⟨_, hf⟩
      · obtain ⟨w_4, ew_4, hf⟩ := nwx hf
        have ch := SameX.w_si (lo := 148) (hi := 168) ch ew_4 (by simp) (by omega)
        obtain ⟨w_5, ew_5, hf⟩ := nwx hf
        have ch := SameX.w_si (lo := 148) (hi := 168) ch ew_5 (by simp) (by omega)
        obtain ⟨w_6, ew_6, hf⟩ := nwx hf
        have ch := SameX.w_si (lo := 148) (hi := 168) ch ew_6 (by simp) (by omega)
        obtain ⟨w_7, ew_7, hf⟩ := nwx hf
        have ch := SameX.w_wi (lo := 148) (hi := 168) ch ew_7 (by simp) (by omega)
        exact ch.trans (frfX12_route_321 FU _ _ _ _ _ _ _ _ hf)
      · obtain rfl := Option.some.inj hf
        exact ch
    · exact ch.trans (frfX12_route_84 (fX12_route_74 n) ih FU _ _ _ _ _ _ _ _ hf)

theorem frfX12_route {v1 : Int32} {v2 : Int32} {v3 : Int32} {v4 : Int32} {w : Wd} {r : Int32 × Wd} (hf : fX12_route v1 v2 v3 v4 w = some r) : SameX [(148, 168)] w r.2 := by
  unfold fX12_route at hf
  have ch : SameX [(148, 168)] w w := SameX.refl _ _
  obtain ⟨w_1, ew_1, hf⟩ := nwx hf
  have ch := SameX.w_si (lo := 148) (hi := 168) ch ew_1 (by simp) (by omega)
  obtain ⟨v_2, hv_2, hf⟩ := bnd hf
  rcases ite_or hf with ⟨_, hf⟩ | ⟨_, hf⟩
  · obtain ⟨v_4, hv_4, hf⟩ := bnd hf
    rcases ite_or hf with ⟨_, hf⟩ | ⟨_, hf⟩
    · rcases ite_or hf with ⟨_, hf⟩ | ⟨_, hf⟩
      · obtain rfl := Option.some.inj hf
        exact ch
      · obtain ⟨v_7, hv_7, hf⟩ := bnd hf
        rcases ite_or hf with ⟨_, hf⟩ | ⟨_, hf⟩
        · obtain ⟨v_9, hv_9, hf⟩ := bnd hf
          rcases ite_or hf with ⟨_, hf⟩ | ⟨_, hf⟩
          · obtain ⟨v_11, hv_11, hf⟩ := bnd hf
            rcases ite_or hf with ⟨_, hf⟩ | ⟨_, hf⟩
            · obtain rfl := Option.some.inj hf
              exact ch
            · exact ch.trans (frfX12_route_74 FU _ _ _ _ _ _ _ hf)
          · obtain rfl := Option.some.inj hf
            exact ch
        · obtain rfl := Option.some.inj hf
          exact ch
    · obtain rfl := Option.some.inj hf
      exact ch
  · obtain rfl := Option.some.inj hf
    exact ch

theorem frfX12_set_71 {v1 : Int32} {v2 : Int32} {v3 : Int32} {s0 : Int64} {s1 : Int64} {s2 : Int64} {w : Wd} {r : Int32 × Wd} (hf : fX12_set_71 v1 v2 v3 s0 s1 s2 w = some r) : SameX [(148, 168)] w r.2 := by
  unfold fX12_set_71 at hf
  have ch : SameX [(148, 168)] w w := SameX.refl _ _
  obtain ⟨v_1, hv_1, hf⟩ := bnd hf
  rcases ite_or hf with ⟨_, hf⟩ | ⟨_, hf⟩
  · obtain ⟨v_3, hv_3, hf⟩ := bnd hf
    obtain ⟨hb_4, hf⟩ := itn hf
    obtain ⟨w_5, ew_5, hf⟩ := nwx hf
    have ch := SameX.w_wi (lo := 148) (hi := 168) ch ew_5 (by simp) (by omega)
    obtain rfl := Option.some.inj hf
    exact ch
  · obtain rfl := Option.some.inj hf
    exact ch

theorem frfX12_set {v1 : Int32} {v2 : Int32} {v3 : Int32} {w : Wd} {r : Int32 × Wd} (hf : fX12_set v1 v2 v3 w = some r) : SameX [(148, 168)] w r.2 := by
  unfold fX12_set at hf
  have ch : SameX [(148, 168)] w w := SameX.refl _ _
  obtain ⟨w_1, ew_1, hf⟩ := nwx hf
  have ch := SameX.w_si (lo := 148) (hi := 168) ch ew_1 (by simp) (by omega)
  obtain ⟨v_2, hv_2, hf⟩ := bnd hf
  rcases ite_or hf with ⟨_, hf⟩ | ⟨_, hf⟩
  · obtain ⟨v_4, hv_4, hf⟩ := bnd hf
    rcases ite_or hf with ⟨_, hf⟩ | ⟨_, hf⟩
    · rcases ite_or hf with ⟨_, hf⟩ | ⟨_, hf⟩
      · exact ch.trans (frfX12_set_71 hf)
      · rcases ite_or hf with ⟨_, hf⟩ | ⟨_, hf⟩
        · exact ch.trans (frfX12_set_71 hf)
        · rcases ite_or hf with ⟨_, hf⟩ | ⟨_, hf⟩
          · exact ch.trans (frfX12_set_71 hf)
          · rcases ite_or hf with ⟨_, hf⟩ | ⟨_, hf⟩
            · exact ch.trans (frfX12_set_71 hf)
            · exact ch.trans (frfX12_set_71 hf)
    · obtain rfl := Option.some.inj hf
      exact ch
  · obtain rfl := Option.some.inj hf
    exact ch

theorem frfX12_share_177 {v1 : Int32} {v2 : Int32} {v3 : Int64} {v5 : Int64} {v7 : Int64} {v10 : Int32} {s0 : Int32} {w : Wd} {r : Int32 × Wd} (k128 : Int32 → Int32 → Int64 → Int64 → Int64 → Int32 → Int32 → Wd → Option (Int32 × Wd)) (hk128 : ∀ (v1 : Int32) (v2 : Int32) (v3 : Int64) (v5 : Int64) (v7 : Int64) (v9 : Int32) (v10 : Int32) (w : Wd), k128 v1 v2 v3 v5 v7 v9 v10 w = some r → SameX [(148, 168)] w r.2) (hf : fX12_share_177 k128 v1 v2 v3 v5 v7 v10 s0 w = some r) : SameX [(148, 168)] w r.2 := by
  unfold fX12_share_177 at hf
  have ch : SameX [(148, 168)] w w := SameX.refl _ _
  exact ch.trans (hk128 _ _ _ _ _ _ _ _ hf)

theorem frfX12_share_128 {r : Int32 × Wd} : ∀ (n : Nat) (v1 : Int32) (v2 : Int32) (v3 : Int64) (v5 : Int64) (v7 : Int64) (v9 : Int32) (v10 : Int32) (w : Wd), fX12_share_128 n v1 v2 v3 v5 v7 v9 v10 w = some r → SameX [(148, 168)] w r.2 := by
  intro n
  induction n with
  | zero =>
    intro v1 v2 v3 v5 v7 v9 v10 w hf
    unfold fX12_share_128 at hf
    cases hf
  | succ n ih =>
    intro v1 v2 v3 v5 v7 v9 v10 w hf
    unfold fX12_share_128 at hf
    have ch : SameX [(148, 168)] w w := SameX.refl _ _
    rcases ite_or hf with ⟨_, hf⟩ | ⟨_, hf⟩
    · obtain ⟨v_2, hv_2, hf⟩ := bnd hf
      obtain ⟨_, hf⟩ := itz hf
      rcases ite_or hf with ⟨_, hf⟩ | ⟨_, hf⟩
      · exact ch.trans (ih _ _ _ _ _ _ _ _ hf)
      · rcases ite_or hf with ⟨_, hf⟩ | ⟨_, hf⟩
        · rcases ite_or hf with ⟨_, hf⟩ | ⟨_, hf⟩
          · exact ch.trans (ih _ _ _ _ _ _ _ _ hf)
          · exact ch.trans (frfX12_share_177 (fX12_share_128 n) ih hf)
        · exact ch.trans (frfX12_share_177 (fX12_share_128 n) ih hf)
    · obtain ⟨v_6, hv_6, hf⟩ := bnd hf
      obtain ⟨_, hf⟩ := itz hf
      rcases ite_or hf with ⟨_, hf⟩ | ⟨_, hf⟩
      · obtain rfl := Option.some.inj hf
        exact ch
      · obtain rfl := Option.some.inj hf
        exact ch

theorem frfX12_share_79 {r : Int32 × Wd} : ∀ (n : Nat) (v1 : Int32) (v2 : Int32) (v3 : Int64) (v5 : Int64) (v7 : Int32) (w : Wd), fX12_share_79 n v1 v2 v3 v5 v7 w = some r → SameX [(148, 168)] w r.2 := by
  intro n
  induction n with
  | zero =>
    intro v1 v2 v3 v5 v7 w hf
    unfold fX12_share_79 at hf
    cases hf
  | succ n ih =>
    intro v1 v2 v3 v5 v7 w hf
    unfold fX12_share_79 at hf
    have ch : SameX [(148, 168)] w w := SameX.refl _ _
    rcases ite_or hf with ⟨_, hf⟩ | ⟨_, hf⟩
    · obtain ⟨v_2, hv_2, hf⟩ := bnd hf
      obtain ⟨_, hf⟩ := itz hf
      exact ch.trans (ih _ _ _ _ _ _ hf)
    · obtain ⟨v_3, hv_3, hf⟩ := bnd hf
      obtain ⟨_, hf⟩ := itz hf
      exact ch.trans (frfX12_share_128 FU _ _ _ _ _ _ _ _ hf)

theorem frfX12_share_36 {r : Int32 × Wd} : ∀ (n : Nat) (v1 : Int32) (v2 : Int32) (v3 : Int64) (v5 : Int32) (w : Wd), fX12_share_36 n v1 v2 v3 v5 w = some r → SameX [(148, 168)] w r.2 := by
  intro n
  induction n with
  | zero =>
    intro v1 v2 v3 v5 w hf
    unfold fX12_share_36 at hf
    cases hf
  | succ n ih =>
    intro v1 v2 v3 v5 w hf
    unfold fX12_share_36 at hf
    have ch : SameX [(148, 168)] w w := SameX.refl _ _
    rcases ite_or hf with ⟨_, hf⟩ | ⟨_, hf⟩
    · obtain ⟨v_2, hv_2, hf⟩ := bnd hf
      exact ch.trans (ih _ _ _ _ _ hf)
    · rcases ite_or hf with ⟨_, hf⟩ | ⟨_, hf⟩
      · obtain ⟨v_4, hv_4, hf⟩ := bnd hf
        have ch := SameX.tr (by simp) ch (frfX12_host hv_4)
        obtain rfl := Option.some.inj hf
        exact ch
      · exact ch.trans (frfX12_share_79 FU _ _ _ _ _ _ hf)

theorem frfX12_share {v1 : Int32} {v2 : Int32} {w : Wd} {r : Int32 × Wd} (hf : fX12_share v1 v2 w = some r) : SameX [(148, 168)] w r.2 := by
  unfold fX12_share at hf
  have ch : SameX [(148, 168)] w w := SameX.refl _ _
  obtain ⟨w_1, ew_1, hf⟩ := nwx hf
  have ch := SameX.w_si (lo := 148) (hi := 168) ch ew_1 (by simp) (by omega)
  obtain ⟨v_2, hv_2, hf⟩ := bnd hf
  rcases ite_or hf with ⟨_, hf⟩ | ⟨_, hf⟩
  · obtain ⟨v_4, hv_4, hf⟩ := bnd hf
    rcases ite_or hf with ⟨_, hf⟩ | ⟨_, hf⟩
    · exact ch.trans (frfX12_share_36 FU _ _ _ _ _ hf)
    · obtain rfl := Option.some.inj hf
      exact ch
  · obtain rfl := Option.some.inj hf
    exact ch

theorem frfX12_size {v1 : Int32} {w : Wd} {r : Int32 × Wd} (hf : fX12_size v1 w = some r) : SameX [(148, 168)] w r.2 := by
  unfold fX12_size at hf
  have ch : SameX [(148, 168)] w w := SameX.refl _ _
  obtain ⟨w_1, ew_1, hf⟩ := nwx hf
  have ch := SameX.w_si (lo := 148) (hi := 168) ch ew_1 (by simp) (by omega)
  obtain ⟨v_2, hv_2, hf⟩ := bnd hf
  rcases ite_or hf with ⟨_, hf⟩ | ⟨_, hf⟩
  · obtain ⟨v_4, hv_4, hf⟩ := bnd hf
    obtain rfl := Option.some.inj hf
    exact ch
  · obtain rfl := Option.some.inj hf
    exact ch

theorem frfX12_stop_68 {s1 : Int32} {s2 : Int32} {w : Wd} {r : Int32 × Wd} (hf : fX12_stop_68 s1 s2 w = some r) : SameX [(148, 168)] w r.2 := by
  unfold fX12_stop_68 at hf
  have ch : SameX [(148, 168)] w w := SameX.refl _ _
  obtain ⟨hb_1, hf⟩ := itn hf
  obtain ⟨w_2, ew_2, hf⟩ := nwx hf
  have ch := SameX.w_wi (lo := 148) (hi := 168) ch ew_2 (by simp) (by omega)
  obtain rfl := Option.some.inj hf
  exact ch

theorem frfX12_stop_39 {v1 : Int32} {v2 : Int32} {s0 : Int32} {w : Wd} {r : Int32 × Wd} (hf : fX12_stop_39 v1 v2 s0 w = some r) : SameX [(148, 168)] w r.2 := by
  unfold fX12_stop_39 at hf
  have ch : SameX [(148, 168)] w w := SameX.refl _ _
  rcases ite_or hf with ⟨_, hf⟩ | ⟨_, hf⟩
  · obtain rfl := Option.some.inj hf
    exact ch
  · rcases ite_or hf with ⟨_, hf⟩ | ⟨_, hf⟩
    · exact ch.trans (frfX12_stop_68 hf)
    · exact ch.trans (frfX12_stop_68 hf)

theorem frfX12_stop {v1 : Int32} {v2 : Int32} {w : Wd} {r : Int32 × Wd} (hf : fX12_stop v1 v2 w = some r) : SameX [(148, 168)] w r.2 := by
  unfold fX12_stop at hf
  have ch : SameX [(148, 168)] w w := SameX.refl _ _
  obtain ⟨w_1, ew_1, hf⟩ := nwx hf
  have ch := SameX.w_si (lo := 148) (hi := 168) ch ew_1 (by simp) (by omega)
  obtain ⟨v_2, hv_2, hf⟩ := bnd hf
  rcases ite_or hf with ⟨_, hf⟩ | ⟨_, hf⟩
  · obtain ⟨v_4, hv_4, hf⟩ := bnd hf
    rcases ite_or hf with ⟨_, hf⟩ | ⟨_, hf⟩
    · obtain ⟨v_6, hv_6, hf⟩ := bnd hf
      rcases ite_or hf with ⟨_, hf⟩ | ⟨_, hf⟩
      · exact ch.trans (frfX12_stop_39 hf)
      · exact ch.trans (frfX12_stop_39 hf)
    · obtain rfl := Option.some.inj hf
      exact ch
  · obtain rfl := Option.some.inj hf
    exact ch

theorem frfX12_take_142 {r : Int32 × Wd} : ∀ (n : Nat) (v3 : Int32) (v4 : Int32) (w : Wd), fX12_take_142 n v3 v4 w = some r → SameX [(148, 168)] w r.2 := by
  intro n
  induction n with
  | zero =>
    intro v3 v4 w hf
    unfold fX12_take_142 at hf
    cases hf
  | succ n ih =>
    intro v3 v4 w hf
    unfold fX12_take_142 at hf
    have ch : SameX [(148, 168)] w w := SameX.refl _ _
    rcases ite_or hf with ⟨_, hf⟩ | ⟨_, hf⟩
    · obtain ⟨v_2, hv_2, hf⟩ := bnd hf
      obtain ⟨hb_3, hf⟩ := itn hf
      obtain ⟨hb_4, hf⟩ := itn hf
      obtain ⟨w_5, ew_5, hf⟩ := nwx hf
      have ch := SameX.w_wi (lo := 148) (hi := 168) ch ew_5 (by simp) (by omega)
      obtain ⟨hb_6, hf⟩ := itn hf
      obtain ⟨w_7, ew_7, hf⟩ := nwx hf
      have ch := SameX.w_wi (lo := 148) (hi := 168) ch ew_7 (by simp) (by omega)
      obtain ⟨hb_8, hf⟩ := itn hf
      obtain ⟨w_9, ew_9, hf⟩ := nwx hf
      have ch := SameX.w_wi (lo := 148) (hi := 168) ch ew_9 (by simp) (by omega)
      obtain ⟨hb_10, hf⟩ := itn hf
      obtain ⟨w_11, ew_11, hf⟩ := nwx hf
      have ch := SameX.w_wi (lo := 148) (hi := 168) ch ew_11 (by simp) (by omega)
      obtain ⟨hb_12, hf⟩ := itn hf
      obtain ⟨w_13, ew_13, hf⟩ := nwx hf
      have ch := SameX.w_wi (lo := 148) (hi := 168) ch ew_13 (by simp) (by omega)
      obtain ⟨hb_14, hf⟩ := itn hf
      obtain ⟨w_15, ew_15, hf⟩ := nwx hf
      have ch := SameX.w_wi (lo := 148) (hi := 168) ch ew_15 (by simp) (by omega)
      exact ch.trans (ih _ _ _ hf)
    · obtain rfl := Option.some.inj hf
      exact ch

theorem frfX12_take {v1 : Int32} {v2 : Int32} {w : Wd} {r : Int32 × Wd} (hf : fX12_take v1 v2 w = some r) : SameX [(148, 168)] w r.2 := by
  unfold fX12_take at hf
  have ch : SameX [(148, 168)] w w := SameX.refl _ _
  obtain ⟨w_1, ew_1, hf⟩ := nwx hf
  have ch := SameX.w_si (lo := 148) (hi := 168) ch ew_1 (by simp) (by omega)
  obtain ⟨v_2, hv_2, hf⟩ := bnd hf
  rcases ite_or hf with ⟨_, hf⟩ | ⟨_, hf⟩
  · obtain ⟨v_4, hv_4, hf⟩ := bnd hf
    rcases ite_or hf with ⟨_, hf⟩ | ⟨_, hf⟩
    · rcases ite_or hf with ⟨_, hf⟩ | ⟨_, hf⟩
      · obtain rfl := Option.some.inj hf
        exact ch
      · obtain ⟨v_7, hv_7, hf⟩ := bnd hf
        rcases ite_or hf with ⟨_, hf⟩ | ⟨_, hf⟩
        · obtain rfl := Option.some.inj hf
          exact ch
        · obtain ⟨v_9, hv_9, hf⟩ := bnd hf
          obtain ⟨w_10, ew_10, hf⟩ := nwx hf
          have ch := SameX.w_wi (lo := 148) (hi := 168) ch ew_10 (by simp) (by omega)
          obtain ⟨hb_11, hf⟩ := itn hf
          obtain ⟨w_12, ew_12, hf⟩ := nwx hf
          have ch := SameX.w_wi (lo := 148) (hi := 168) ch ew_12 (by simp) (by omega)
          obtain ⟨hb_13, hf⟩ := itn hf
          obtain ⟨w_14, ew_14, hf⟩ := nwx hf
          have ch := SameX.w_wi (lo := 148) (hi := 168) ch ew_14 (by simp) (by omega)
          obtain ⟨hb_15, hf⟩ := itn hf
          obtain ⟨w_16, ew_16, hf⟩ := nwx hf
          have ch := SameX.w_wi (lo := 148) (hi := 168) ch ew_16 (by simp) (by omega)
          obtain ⟨hb_17, hf⟩ := itn hf
          obtain ⟨w_18, ew_18, hf⟩ := nwx hf
          have ch := SameX.w_wi (lo := 148) (hi := 168) ch ew_18 (by simp) (by omega)
          exact ch.trans (frfX12_take_142 FU _ _ _ hf)
    · obtain rfl := Option.some.inj hf
      exact ch
  · obtain rfl := Option.some.inj hf
    exact ch

theorem frfX12_tape_55 {r : Int32 × Wd} : ∀ (n : Nat) (v1 : Int32) (v3 : Int32) (v4 : Int32) (w : Wd), fX12_tape_55 n v1 v3 v4 w = some r → SameX [(148, 168)] w r.2 := by
  intro n
  induction n with
  | zero =>
    intro v1 v3 v4 w hf
    unfold fX12_tape_55 at hf
    cases hf
  | succ n ih =>
    intro v1 v3 v4 w hf
    unfold fX12_tape_55 at hf
    have ch : SameX [(148, 168)] w w := SameX.refl _ _
    rcases ite_or hf with ⟨_, hf⟩ | ⟨_, hf⟩
    · obtain ⟨hb_2, hf⟩ := itn hf
      obtain ⟨w_3, ew_3, hf⟩ := nwx hf
      have ch := SameX.w_wl (lo := 148) (hi := 168) ch ew_3 (by simp) (by omega)
      exact ch.trans (ih _ _ _ _ hf)
    · obtain rfl := Option.some.inj hf
      exact ch

theorem frfX12_tape {v1 : Int32} {v2 : Int32} {v3 : Int32} {w : Wd} {r : Int32 × Wd} (hf : fX12_tape v1 v2 v3 w = some r) : SameX [(148, 168)] w r.2 := by
  unfold fX12_tape at hf
  have ch : SameX [(148, 168)] w w := SameX.refl _ _
  obtain ⟨w_1, ew_1, hf⟩ := nwx hf
  have ch := SameX.w_si (lo := 148) (hi := 168) ch ew_1 (by simp) (by omega)
  obtain ⟨v_2, hv_2, hf⟩ := bnd hf
  rcases ite_or hf with ⟨_, hf⟩ | ⟨_, hf⟩
  · obtain ⟨v_4, hv_4, hf⟩ := bnd hf
    rcases ite_or hf with ⟨_, hf⟩ | ⟨_, hf⟩
    · rcases ite_or hf with ⟨_, hf⟩ | ⟨_, hf⟩
      · obtain rfl := Option.some.inj hf
        exact ch
      · rcases ite_or hf with ⟨_, hf⟩ | ⟨_, hf⟩
        · obtain ⟨v_8, hv_8, hf⟩ := bnd hf
          have ch := SameX.tr (by simp) ch (frfX12_host hv_8)
          obtain rfl := Option.some.inj hf
          exact ch
        · obtain ⟨hb_9, hf⟩ := itn hf
          obtain ⟨w_10, ew_10, hf⟩ := nwx hf
          have ch := SameX.w_wi (lo := 148) (hi := 168) ch ew_10 (by simp) (by omega)
          obtain ⟨w_11, ew_11, hf⟩ := nwx hf
          have ch := SameX.w_wi (lo := 148) (hi := 168) ch ew_11 (by simp) (by omega)
          exact ch.trans (frfX12_tape_55 FU _ _ _ _ hf)
    · obtain rfl := Option.some.inj hf
      exact ch
  · obtain rfl := Option.some.inj hf
    exact ch

theorem frfX12_tide_79 {r : Int32 × Wd} : ∀ (n : Nat) (v1 : Int32) (v2 : Int32) (w : Wd), fX12_tide_79 n v1 v2 w = some r → SameX [(148, 168)] w r.2 := by
  intro n
  induction n with
  | zero =>
    intro v1 v2 w hf
    unfold fX12_tide_79 at hf
    cases hf
  | succ n ih =>
    intro v1 v2 w hf
    unfold fX12_tide_79 at hf
    have ch : SameX [(148, 168)] w w := SameX.refl _ _
    rcases ite_or hf with ⟨_, hf⟩ | ⟨_, hf⟩
    · obtain ⟨hb_2, hf⟩ := itn hf
      obtain ⟨hb_3, hf⟩ := itn hf
      obtain ⟨w_4, ew_4, hf⟩ := nwx hf
      have ch := SameX.w_wi (lo := 148) (hi := 168) ch ew_4 (by simp) (by omega)
      exact ch.trans (ih _ _ _ hf)
    · obtain rfl := Option.some.inj hf
      exact ch

theorem frfX12_tide {v1 : Int32} {w : Wd} {r : Int32 × Wd} (hf : fX12_tide v1 w = some r) : SameX [(148, 168)] w r.2 := by
  unfold fX12_tide at hf
  have ch : SameX [(148, 168)] w w := SameX.refl _ _
  obtain ⟨w_1, ew_1, hf⟩ := nwx hf
  have ch := SameX.w_si (lo := 148) (hi := 168) ch ew_1 (by simp) (by omega)
  obtain ⟨v_2, hv_2, hf⟩ := bnd hf
  rcases ite_or hf with ⟨_, hf⟩ | ⟨_, hf⟩
  · obtain ⟨hb_4, hf⟩ := itn hf
    rcases ite_or hf with ⟨_, hf⟩ | ⟨_, hf⟩
    · obtain ⟨v_6, hv_6, hf⟩ := bnd hf
      have ch := SameX.tr (by simp) ch (frfX12_host hv_6)
      obtain rfl := Option.some.inj hf
      exact ch
    · rcases ite_or hf with ⟨_, hf⟩ | ⟨_, hf⟩
      · obtain ⟨v_8, hv_8, hf⟩ := bnd hf
        rcases ite_or hf with ⟨_, hf⟩ | ⟨_, hf⟩
        · obtain ⟨w_10, ew_10, hf⟩ := nwx hf
          have ch := SameX.w_si (lo := 148) (hi := 168) ch ew_10 (by simp) (by omega)
          exact ch.trans (frfX12_tide_79 FU _ _ _ hf)
        · obtain rfl := Option.some.inj hf
          exact ch
      · obtain ⟨v_11, hv_11, hf⟩ := bnd hf
        have ch := SameX.tr (by simp) ch (frfX12_host hv_11)
        obtain rfl := Option.some.inj hf
        exact ch
  · obtain rfl := Option.some.inj hf
    exact ch

theorem frfX12_toss_52 {r : Int32 × Wd} : ∀ (n : Nat) (v1 : Int32) (v2 : Int32) (v3 : Int32) (w : Wd), fX12_toss_52 n v1 v2 v3 w = some r → SameX [(148, 168)] w r.2 := by
  intro n
  induction n with
  | zero =>
    intro v1 v2 v3 w hf
    unfold fX12_toss_52 at hf
    cases hf
  | succ n ih =>
    intro v1 v2 v3 w hf
    unfold fX12_toss_52 at hf
    have ch : SameX [(148, 168)] w w := SameX.refl _ _
    rcases ite_or hf with ⟨_, hf⟩ | ⟨_, hf⟩
    · obtain ⟨hb_2, hf⟩ := itn hf
      rcases ite_or hf with ⟨_, hf⟩ | ⟨_, hf⟩
      · exact ch.trans (ih _ _ _ _ hf)
      · exact ch.trans (ih _ _ _ _ hf)
    · rcases ite_or hf with ⟨_, hf⟩ | ⟨_, hf⟩
      · obtain ⟨v_5, hv_5, hf⟩ := bnd hf
        have ch := SameX.tr (by simp) ch (frfX12_host hv_5)
        obtain rfl := Option.some.inj hf
        exact ch
      · obtain rfl := Option.some.inj hf
        exact ch

theorem frfX12_toss {v1 : Int32} {w : Wd} {r : Int32 × Wd} (hf : fX12_toss v1 w = some r) : SameX [(148, 168)] w r.2 := by
  unfold fX12_toss at hf
  have ch : SameX [(148, 168)] w w := SameX.refl _ _
  obtain ⟨w_1, ew_1, hf⟩ := nwx hf
  have ch := SameX.w_si (lo := 148) (hi := 168) ch ew_1 (by simp) (by omega)
  obtain ⟨v_2, hv_2, hf⟩ := bnd hf
  rcases ite_or hf with ⟨_, hf⟩ | ⟨_, hf⟩
  · obtain ⟨hb_4, hf⟩ := itn hf
    rcases ite_or hf with ⟨_, hf⟩ | ⟨_, hf⟩
    · obtain ⟨v_6, hv_6, hf⟩ := bnd hf
      have ch := SameX.tr (by simp) ch (frfX12_host hv_6)
      obtain rfl := Option.some.inj hf
      exact ch
    · rcases ite_or hf with ⟨_, hf⟩ | ⟨_, hf⟩
      · exact ch.trans (frfX12_toss_52 FU _ _ _ _ hf)
      · obtain ⟨v_8, hv_8, hf⟩ := bnd hf
        have ch := SameX.tr (by simp) ch (frfX12_host hv_8)
        obtain rfl := Option.some.inj hf
        exact ch
  · obtain rfl := Option.some.inj hf
    exact ch

theorem frfX12_way {v1 : Int32} {w : Wd} {r : Int32 × Wd} (hf : fX12_way v1 w = some r) : SameX [(148, 168)] w r.2 := by
  unfold fX12_way at hf
  have ch : SameX [(148, 168)] w w := SameX.refl _ _
  obtain ⟨w_1, ew_1, hf⟩ := nwx hf
  have ch := SameX.w_si (lo := 148) (hi := 168) ch ew_1 (by simp) (by omega)
  obtain ⟨v_2, hv_2, hf⟩ := bnd hf
  rcases ite_or hf with ⟨_, hf⟩ | ⟨_, hf⟩
  · obtain ⟨hb_4, hf⟩ := itn hf
    obtain rfl := Option.some.inj hf
    exact ch
  · obtain rfl := Option.some.inj hf
    exact ch

theorem frfX12_window_35 {r : Int32 × Wd} : ∀ (n : Nat) (v1 : Int32) (v2 : Int32) (v3 : Int32) (w : Wd), fX12_window_35 n v1 v2 v3 w = some r → SameX [(148, 168)] w r.2 := by
  intro n
  induction n with
  | zero =>
    intro v1 v2 v3 w hf
    unfold fX12_window_35 at hf
    cases hf
  | succ n ih =>
    intro v1 v2 v3 w hf
    unfold fX12_window_35 at hf
    have ch : SameX [(148, 168)] w w := SameX.refl _ _
    rcases ite_or hf with ⟨_, hf⟩ | ⟨_, hf⟩
    · obtain ⟨v_2, hv_2, hf⟩ := bnd hf
      rcases ite_or hf with ⟨_, hf⟩ | ⟨_, hf⟩
      · obtain ⟨v_4, hv_4, hf⟩ := bnd hf
        rcases ite_or hf with ⟨_, hf⟩ | ⟨_, hf⟩
        · exact ch.trans (ih _ _ _ _ hf)
        · obtain rfl := Option.some.inj hf
          exact ch
      · exact ch.trans (ih _ _ _ _ hf)
    · obtain rfl := Option.some.inj hf
      exact ch

theorem frfX12_window {v1 : Int32} {v2 : Int32} {w : Wd} {r : Int32 × Wd} (hf : fX12_window v1 v2 w = some r) : SameX [(148, 168)] w r.2 := by
  unfold fX12_window at hf
  have ch : SameX [(148, 168)] w w := SameX.refl _ _
  obtain ⟨w_1, ew_1, hf⟩ := nwx hf
  have ch := SameX.w_si (lo := 148) (hi := 168) ch ew_1 (by simp) (by omega)
  obtain ⟨v_2, hv_2, hf⟩ := bnd hf
  rcases ite_or hf with ⟨_, hf⟩ | ⟨_, hf⟩
  · obtain ⟨v_4, hv_4, hf⟩ := bnd hf
    rcases ite_or hf with ⟨_, hf⟩ | ⟨_, hf⟩
    · exact ch.trans (frfX12_window_35 FU _ _ _ _ hf)
    · obtain rfl := Option.some.inj hf
      exact ch
  · obtain rfl := Option.some.inj hf
    exact ch
