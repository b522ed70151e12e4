-- MATHEMATICS: numbers
def iN (n : Nat) : Int32 := Int32.ofNat n
theorem iN_toInt {n : Nat} (h : n < 2147483648) : (iN n).toInt = (n : Int) := by
  unfold iN
  rw [Int32.toInt_ofNat', show Int32.size = 4294967296 from rfl]
  exact Int.bmod_eq_of_le (by omega) (by omega)
theorem toInt_lt (v : Int32) : -2147483648 ≤ v.toInt ∧ v.toInt < 2147483648 := ⟨Int32.le_toInt v, Int32.toInt_lt v⟩
theorem clamp_eq (v : Int32) : v.toNatClampNeg = v.toInt.toNat := rfl
theorem iN_clamp {n : Nat} (h : n < 2147483648) : (iN n).toNatClampNeg = n := by
  rw [clamp_eq, iN_toInt h]
  exact Int.toNat_natCast n
theorem lt_I {a b : Int32} : a < b ↔ a.toInt < b.toInt := Int32.lt_iff_toInt_lt
theorem le_I {a b : Int32} : a ≤ b ↔ a.toInt ≤ b.toInt := Int32.le_iff_toInt_le
theorem eq_I {a b : Int32} : a = b ↔ a.toInt = b.toInt := Int32.toInt_inj.symm
theorem inb_iff {i : Int32} {n : Nat} : inb i n = true ↔ 0 ≤ i.toInt ∧ i.toInt < n := by
  unfold inb
  rw [decide_eq_true_iff, lt_I, clamp_eq, show (0 : Int32).toInt = 0 from rfl]
  omega
theorem inb_iN {n m : Nat} (h : n < 2147483648) : inb (iN n) m = decide (n < m) := by
  rw [Bool.eq_iff_iff, inb_iff, iN_toInt h, decide_eq_true_iff]
  omega
theorem ri_iN {w : Wd} {a n : Nat} (h : n < 2147483648) : ri w a (iN n) = w.1 a n := by
  unfold ri
  rw [iN_clamp h]
theorem rl_iN {w : Wd} {a n : Nat} (h : n < 2147483648) : rl w a (iN n) = w.2 a n := by
  unfold rl
  rw [iN_clamp h]
theorem wi_iN {w : Wd} {a n : Nat} {x : Int32} (h : n < 2147483648) : wi w a (iN n) x = si w a n x := by
  unfold wi
  rw [iN_clamp h]
theorem wl_iN {w : Wd} {a n : Nat} {x : Int64} (h : n < 2147483648) : wl w a (iN n) x = sl w a n x := by
  unfold wl
  rw [iN_clamp h]
theorem iN_add (a b : Nat) : iN a + iN b = iN (a + b) := (Int32.ofNat_add a b).symm
theorem iN_mul (a b : Nat) : iN a * iN b = iN (a * b) := (Int32.ofNat_mul a b).symm
theorem iN_sub {a b : Nat} (h : b ≤ a) : iN a - iN b = iN (a - b) := by
  have h1 : iN a = iN (a - b) + iN b := by rw [iN_add, Nat.sub_add_cancel h]
  rw [h1, Int32.add_sub_cancel]
theorem lit_mul (n c : Nat) : (OfNat.ofNat n : Int32) * iN c = iN ((OfNat.ofNat n : Nat) * c) := iN_mul n c
theorem mul_lit (n c : Nat) : iN c * (OfNat.ofNat n : Int32) = iN (c * (OfNat.ofNat n : Nat)) := iN_mul c n
theorem lit_add (n c : Nat) : (OfNat.ofNat n : Int32) + iN c = iN ((OfNat.ofNat n : Nat) + c) := iN_add n c
theorem add_lit (n c : Nat) : iN c + (OfNat.ofNat n : Int32) = iN (c + (OfNat.ofNat n : Nat)) := iN_add c n
theorem sub_lit {n c : Nat} (h : (OfNat.ofNat n : Nat) ≤ c) : iN c - (OfNat.ofNat n : Int32) = iN (c - (OfNat.ofNat n : Nat)) := iN_sub h
theorem lit_iN (n : Nat) : (OfNat.ofNat n : Int32) = iN (OfNat.ofNat n : Nat) := rfl
theorem iN_inj {a b : Nat} (ha : a < 2147483648) (hb : b < 2147483648) : iN a = iN b ↔ a = b := by
  rw [eq_I, iN_toInt ha, iN_toInt hb]
  omega
theorem iN_lit {a b : Nat} (ha : a < 2147483648) (hb : (OfNat.ofNat b : Nat) < 2147483648) : iN a = (OfNat.ofNat b : Int32) ↔ a = (OfNat.ofNat b : Nat) := iN_inj ha hb
theorem iN_lt {a b : Nat} (ha : a < 2147483648) (hb : b < 2147483648) : iN a < iN b ↔ a < b := by
  rw [lt_I, iN_toInt ha, iN_toInt hb]
  omega
theorem iN_lt_lit {a b : Nat} (ha : a < 2147483648) (hb : (OfNat.ofNat b : Nat) < 2147483648) : iN a < (OfNat.ofNat b : Int32) ↔ a < (OfNat.ofNat b : Nat) := iN_lt ha hb
theorem lit_lt_iN {a b : Nat} (ha : a < 2147483648) (hb : (OfNat.ofNat b : Nat) < 2147483648) : (OfNat.ofNat b : Int32) < iN a ↔ (OfNat.ofNat b : Nat) < a := iN_lt hb ha
theorem iN_nneg {a : Nat} (ha : a < 2147483648) : ¬ iN a < 0 := by
  rw [lt_I, iN_toInt ha, show (0 : Int32).toInt = 0 from rfl]
  omega
theorem of_range {v : Int32} (m : Nat) (h0 : 0 ≤ v.toInt) (h : v.toInt < m) : ∃ c, c < m ∧ v = iN c := by
  refine ⟨v.toInt.toNat, by omega, ?_⟩
  have := toInt_lt v
  rw [eq_I, iN_toInt (by omega)]
  omega
theorem add_I {a b : Int32} (h0 : -2147483648 ≤ a.toInt + b.toInt) (h1 : a.toInt + b.toInt < 2147483648) : (a + b).toInt = a.toInt + b.toInt := by
  rw [Int32.toInt_add]
  exact Int.bmod_eq_of_le (by omega) (by omega)
theorem sub_I {a b : Int32} (h0 : -2147483648 ≤ a.toInt - b.toInt) (h1 : a.toInt - b.toInt < 2147483648) : (a - b).toInt = a.toInt - b.toInt := by
  rw [Int32.toInt_sub]
  exact Int.bmod_eq_of_le (by omega) (by omega)
theorem mul_I {a b : Int32} (h0 : -2147483648 ≤ a.toInt * b.toInt) (h1 : a.toInt * b.toInt < 2147483648) : (a * b).toInt = a.toInt * b.toInt := by
  rw [Int32.toInt_mul]
  exact Int.bmod_eq_of_le (by omega) (by omega)
theorem neg_I {a : Int32} (h1 : -2147483648 < a.toInt) : (-a).toInt = -a.toInt := by
  have := toInt_lt a
  rw [Int32.toInt_neg]
  exact Int.bmod_eq_of_le (by omega) (by omega)
theorem nw_eq {α : Type} (e : Wd) (A : Wd → α) : nw e A = A e := rfl
theorem within_eq (v l m : Int32) (w : Wd) : fX11_within v l m w = some (decide (l.toInt ≤ v.toInt ∧ v.toInt ≤ m.toInt)) := by
  unfold fX11_within
  simp only [lt_I]
  by_cases h1 : v.toInt < l.toInt
  · rw [if_pos h1, decide_eq_false (by omega)]
  · rw [if_neg h1]
    by_cases h2 : m.toInt < v.toInt
    · rw [if_pos h2, decide_eq_false (by omega)]
    · rw [if_neg h2, decide_eq_true (by omega)]
theorem in_eq (v l m : Int64) (w : Wd) : fX12_in v l m w = some (decide (l.toInt ≤ v.toInt ∧ v.toInt ≤ m.toInt)) := by
  unfold fX12_in
  simp only [Int64.lt_iff_toInt_lt]
  by_cases h1 : v.toInt < l.toInt
  · rw [if_pos h1, decide_eq_false (by omega)]
  · rw [if_neg h1]
    by_cases h2 : m.toInt < v.toInt
    · rw [if_pos h2, decide_eq_false (by omega)]
    · rw [if_neg h2, decide_eq_true (by omega)]
theorem isCell_c (v : Int32) (w : Wd) : fX11_isCell v w = some (decide (0 ≤ v.toInt ∧ v.toInt ≤ 99)) := by
  unfold fX11_isCell
  rw [within_eq]
  rfl
theorem isCell_m (v : Int32) (w : Wd) : fX12_isCell v w = some (decide (0 ≤ v.toInt ∧ v.toInt ≤ 99)) := by
  unfold fX12_isCell
  rw [in_eq, Int32.toInt_toInt64]
  rfl
theorem isTape_c (v : Int32) (w : Wd) : fX11_isTape v w = some (decide (0 ≤ v.toInt ∧ v.toInt ≤ 5)) := by
  unfold fX11_isTape
  rw [within_eq]
  rfl
theorem isTape_m (v : Int32) (w : Wd) : fX12_isTape v w = some (decide (0 ≤ v.toInt ∧ v.toInt ≤ 5)) := by
  unfold fX12_isTape
  rw [in_eq, Int32.toInt_toInt64]
  rfl
