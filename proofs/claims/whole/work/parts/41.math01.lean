-- MATHEMATICS: m26
def rowA (j : Nat) : Nat := if j < 9 then 3 + j else if j < 13 then 6 + j else if j = 13 then 12 else 13
def lnA (n r : Nat) : Nat × Nat := if r = 0 then (36 + 7 * n, 3) else if r < 4 then (36 + 7 * n, r - 1) else if r < 118 then (37 + 7 * n + (r - 4) % 6, (r - 4) / 6) else (10000, 3300 + 125 * n + r)
def scA (j : Nat) : Nat × Nat := match j with
  | 0 => (1, 6) | 1 => (1, 7) | 2 => (1, 8) | 3 => (14, 4) | 4 => (1, 9) | 5 => (14, 5) | 6 => (14, 6) | 7 => (14, 7) | 8 => (14, 8) | 9 => (14, 9) | 10 => (14, 10) | 11 => (1, 10) | 12 => (1, 11) | 13 => (1, 12) | 15 => (1, 5) | 16 => (30, 0) | j => (10000, 4300 + j)
def loc (k : Nat) : Nat × Nat := if k < 1500 then (rowA (k % 15), k / 15) else if k < 2500 then (20 + (k - 1500) % 10, (k - 1500) / 10) else if k < 3300 then (31 + (k - 2500) % 4, (k - 2500) / 4) else if k < 4300 then lnA ((k - 3300) / 125) ((k - 3300) % 125) else scA (k - 4300)
def colI (o i : Nat) : Nat :=
  if o = 1 then (if i = 5 then 4315 else if i = 6 then 4300 else if i = 7 then 4301 else if i = 8 then 4302 else if i = 9 then 4304 else 4301 + i)
  else if o < 12 then 15 * i + (o - 3) else if o = 12 then 15 * i + 13 else if o = 13 then 15 * i + 14
  else if o = 14 then (if i = 4 then 4303 else 4300 + i) else if o < 19 then 15 * i + (o - 6) else if o < 30 then 1500 + 10 * i + (o - 20)
  else if o = 30 then 4316 else if o < 35 then 2500 + 4 * i + (o - 31)
  else if o < 92 then (if (o - 36) % 7 = 0 then (if i = 3 then 3300 + 125 * ((o - 36) / 7) else 3301 + 125 * ((o - 36) / 7) + i) else 3304 + 125 * ((o - 36) / 7) + 6 * i + ((o - 36) % 7 - 1))
  else i
theorem loc_col0 : ∀ q, q < 434 → ∀ r, r < 10 → colI (loc (10 * q + r)).1 (loc (10 * q + r)).2 = 10 * q + r := by decide +kernel
theorem loc_col {k : Nat} (h : k < 4340) : colI (loc k).1 (loc k).2 = k := by
  have := loc_col0 (k / 10) (by omega) (k % 10) (by omega)
  rwa [Nat.div_add_mod] at this
theorem loc_inj {k k' : Nat} (h : k < 4340) (h' : k' < 4340) (e : loc k = loc k') : k = k' := by rw [← loc_col h, ← loc_col h', e]
theorem loc_rng0 : ∀ q, q < 434 → ∀ r, r < 10 → (1 ≤ (loc (10 * q + r)).1 ∧ (loc (10 * q + r)).1 ≤ 91) ∨ (loc (10 * q + r)).1 = 10000 := by decide +kernel
theorem loc_rng {k : Nat} (h : k < 4340) : (1 ≤ (loc k).1 ∧ (loc k).1 ≤ 91) ∨ (loc k).1 = 10000 := by
  have := loc_rng0 (k / 10) (by omega) (k % 10) (by omega)
  rwa [Nat.div_add_mod] at this
theorem loc_row {c j : Nat} (hc : c < 100) (hj : j < 15) : loc (15 * c + j) = (rowA j, c) := by
  unfold loc
  rw [if_pos (by omega), show (15 * c + j) % 15 = j by omega, show (15 * c + j) / 15 = c by omega]
theorem loc_hse {c j : Nat} (hc : c < 100) (hj : j < 10) : loc (1500 + 10 * c + j) = (20 + j, c) := by
  unfold loc
  rw [if_neg (by omega), if_pos (by omega), show (1500 + 10 * c + j - 1500) % 10 = j by omega, show (1500 + 10 * c + j - 1500) / 10 = c by omega]
theorem loc_tel {t j : Nat} (ht : t < 200) (hj : j < 4) : loc (2500 + 4 * t + j) = (31 + j, t) := by
  unfold loc
  rw [if_neg (by omega), if_neg (by omega), if_pos (by omega), show (2500 + 4 * t + j - 2500) % 4 = j by omega, show (2500 + 4 * t + j - 2500) / 4 = t by omega]
theorem loc_lnH {n r : Nat} (hn : n < 8) (hr : r < 125) : loc (3300 + 125 * n + r) = lnA n r := by
  unfold loc
  rw [if_neg (by omega), if_neg (by omega), if_neg (by omega), if_pos (by omega), show (3300 + 125 * n + r - 3300) / 125 = n by omega, show (3300 + 125 * n + r - 3300) % 125 = r by omega]
theorem loc_lnI {n i j : Nat} (hn : n < 8) (hi : i < 19) (hj : j < 6) : loc (3304 + 125 * n + 6 * i + j) = (37 + 7 * n + j, i) := by
  have := loc_lnH (n := n) (r := 4 + 6 * i + j) hn (by omega)
  rw [show 3304 + 125 * n + 6 * i + j = 3300 + 125 * n + (4 + 6 * i + j) by omega, this]
  unfold lnA
  rw [if_neg (by omega), if_neg (by omega), if_pos (by omega), show (4 + 6 * i + j - 4) % 6 = j by omega, show (4 + 6 * i + j - 4) / 6 = i by omega]
theorem loc_sc {j : Nat} (hj : j < 40) : loc (4300 + j) = scA j := by
  unfold loc
  rw [if_neg (by omega), if_neg (by omega), if_neg (by omega), if_neg (by omega), Nat.add_sub_cancel_left]
def V (w : Wd) (z k : Nat) : Int32 := w.1 (z + (loc k).1) (loc k).2
theorem V_si {w : Wd} {z o i k0 k : Nat} {x : Int32} (h : loc k0 = (o, i)) (h0 : k0 < 4340) (hk : k < 4340) : V (si w (z + o) i x) z k = upd (V w z) k0 x k := by
  unfold V upd
  by_cases e : k = k0
  · subst e
    rw [if_pos rfl, h]
    simp [si, upd]
  · rw [if_neg e]
    have hne : loc k ≠ (o, i) := fun h2 => e (loc_inj hk h0 (h2.trans h.symm))
    show (if z + (loc k).1 = z + o then upd (w.1 (z + o)) i x else w.1 (z + (loc k).1)) (loc k).2 = _
    by_cases h1 : z + (loc k).1 = z + o
    · rw [if_pos h1]
      show _ = w.1 (z + (loc k).1) (loc k).2
      rw [h1]
      have h2 : (loc k).1 = o := by omega
      have h3 : (loc k).2 ≠ i := fun h3 => hne (Prod.ext h2 h3)
      show (if (loc k).2 = i then x else w.1 (z + o) (loc k).2) = _
      rw [if_neg h3]
    · rw [if_neg h1]
theorem V_si0 {w : Wd} {o i k0 k : Nat} {x : Int32} (h : loc k0 = (o, i)) (h0 : k0 < 4340) (hk : k < 4340) : V (si w o i x) 0 k = upd (V w 0) k0 x k := by
  have := V_si (w := w) (z := 0) (x := x) h h0 hk
  rwa [Nat.zero_add] at this
theorem V_cong {w w' : Wd} {z k : Nat} (hk : k < 4340) (h : ∀ a, (z + 1 ≤ a ∧ a ≤ z + 91) ∨ a = z + 10000 → w'.1 a = w.1 a) : V w' z k = V w z k := by
  unfold V
  rw [h]
  have := loc_rng hk
  omega
def bt (lo hi : Int) (x : Int32) : Prop := lo ≤ x.toInt ∧ x.toInt ≤ hi
def val (S : Nat → Int32) (k : Nat) : Prop :=
  if k < 1500 then True
  else if k < 2500 then (if (k - 1500) % 10 = 0 ∨ 8 ≤ (k - 1500) % 10 then True else if (k - 1500) % 10 < 5 then S (k - (k - 1500) % 10) = 1 else S (k - (k - 1500) % 10) = 2)
  else if k < 3300 then (k - 2500) / 4 < (S 4316).toNatClampNeg
  else if k < 4300 then (k - 3300) / 125 < (S 4315).toNatClampNeg ∧ ((k - 3300) % 125 < 4 ∨ ((k - 3300) % 125 - 4) / 6 < (S (3300 + 125 * ((k - 3300) / 125))).toNatClampNeg)
  else k ≠ 4314 ∧ k ≠ 4317 ∧ k < 4318
theorem val_row {S : Nat → Int32} {c j : Nat} (hc : c < 100) (hj : j < 15) : val S (15 * c + j) := by
  unfold val
  rw [if_pos (by omega)]
  trivial
theorem val_hse {S : Nat → Int32} {c j : Nat} (hc : c < 100) (hj : j < 10) : val S (1500 + 10 * c + j) ↔ (j = 0 ∨ 8 ≤ j ∨ (j < 5 ∧ S (1500 + 10 * c) = 1) ∨ (5 ≤ j ∧ S (1500 + 10 * c) = 2)) := by
  unfold val
  rw [if_neg (by omega), if_pos (by omega), show (1500 + 10 * c + j - 1500) % 10 = j by omega, show 1500 + 10 * c + j - j = 1500 + 10 * c by omega]
  by_cases h1 : j = 0 ∨ 8 ≤ j
  · rw [if_pos h1]
    simp
    omega
  · rw [if_neg h1]
    by_cases h2 : j < 5
    · rw [if_pos h2]
      constructor
      · intro h
        exact Or.inr (Or.inr (Or.inl ⟨h2, h⟩))
      · rintro (h | h | h | h)
        · omega
        · omega
        · exact h.2
        · omega
    · rw [if_neg h2]
      constructor
      · intro h
        exact Or.inr (Or.inr (Or.inr ⟨by omega, h⟩))
      · rintro (h | h | h | h)
        · omega
        · omega
        · omega
        · exact h.2
theorem val_tel {S : Nat → Int32} {t j : Nat} (ht : t < 200) (hj : j < 4) : val S (2500 + 4 * t + j) ↔ t < (S 4316).toNatClampNeg := by
  unfold val
  rw [if_neg (by omega), if_neg (by omega), if_pos (by omega), show (2500 + 4 * t + j - 2500) / 4 = t by omega]
theorem val_lnH {S : Nat → Int32} {n r : Nat} (hn : n < 8) (hr : r < 4) : val S (3300 + 125 * n + r) ↔ n < (S 4315).toNatClampNeg := by
  unfold val
  rw [if_neg (by omega), if_neg (by omega), if_neg (by omega), if_pos (by omega), show (3300 + 125 * n + r - 3300) / 125 = n by omega, show (3300 + 125 * n + r - 3300) % 125 = r by omega]
  simp [hr]
theorem val_lnI {S : Nat → Int32} {n i j : Nat} (hn : n < 8) (hi : i < 19) (hj : j < 6) : val S (3304 + 125 * n + 6 * i + j) ↔ n < (S 4315).toNatClampNeg ∧ i < (S (3300 + 125 * n)).toNatClampNeg := by
  unfold val
  rw [if_neg (by omega), if_neg (by omega), if_neg (by omega), if_pos (by omega), show (3304 + 125 * n + 6 * i + j - 3300) / 125 = n by omega, show (3304 + 125 * n + 6 * i + j - 3300) % 125 = 4 + 6 * i + j by omega, show (4 + 6 * i + j - 4) / 6 = i by omega]
  constructor
  · rintro ⟨h1, h2 | h2⟩
    · omega
    · exact ⟨h1, h2⟩
  · rintro ⟨h1, h2⟩
    exact ⟨h1, Or.inr h2⟩
theorem val_sc {S : Nat → Int32} {j : Nat} (hj : j < 18) (h1 : j ≠ 14) (h2 : j ≠ 17) : val S (4300 + j) := by
  unfold val
  rw [if_neg (by omega), if_neg (by omega), if_neg (by omega), if_neg (by omega)]
  omega
abbrev PR : Type := Nat ⊕ (List Int32 × Nat)
def pk (f : Nat → Int32) (L p : Nat) : Int32 := if p < L then f p else -1
def isLt (b : Int32) : Bool := decide (b = 104 ∨ b = 115 ∨ b = 112 ∨ b = 116 ∨ b = 100 ∨ b = 107 ∨ b = 111 ∨ b = 119 ∨ b = 102 ∨ b = 99 ∨ b = 109 ∨ b = 117)
def isDg (b : Int32) : Bool := decide (48 ≤ b.toInt ∧ b.toInt ≤ 57)
def pDig (f : Nat → Int32) (L : Nat) : Nat → Int32 → Nat → Int32 × Nat
  | 0, v, p => (v, p)
  | n + 1, v, p => if isDg (pk f L p) = true then pDig f L n (10 * v + pk f L p - 48) (p + 1) else (v, p)
def pUnit (f : Nat → Int32) (L p : Nat) : PR :=
  if isLt (pk f L p) = true then .inr ([10000 + pk f L p], p + 1)
  else if isDg (pk f L p) = true then .inr ([(pDig f L 4 0 p).1], (pDig f L 4 0 p).2)
  else .inl p
def pMore (op : Int32 → Bool) (item : Nat → PR) (f : Nat → Int32) (L : Nat) : Nat → List Int32 → Nat → PR
  | 0, c, p => .inr (c, p)
  | n + 1, c, p => if op (pk f L p) = true then (match item (p + 1) with
      | .inl q => .inl q
      | .inr (c2, p2) => pMore op item f L n (c ++ c2 ++ [20000 + pk f L p]) p2) else .inr (c, p)
def pRow (op : Int32 → Bool) (item : Nat → PR) (f : Nat → Int32) (L p : Nat) : PR :=
  match item p with
  | .inl q => .inl q
  | .inr (c, p2) => pMore op item f L 200 c p2
def pSum (f : Nat → Int32) (L p : Nat) : PR := pRow (fun b => b = 43 || b = 45 || b = 42) (pUnit f L) f L p
def pOrsOf (item : Nat → PR) (f : Nat → Int32) (L p : Nat) : PR := pRow (fun b => b = 124) (pRow (fun b => b = 38) item f L) f L p
def pTest (f : Nat → Int32) (L : Nat) : Nat → Nat → PR
  | 0, p => if pk f L p = 33 ∨ pk f L p = 40 then .inl p else
      match pSum f L p with
      | .inl q => .inl q
      | .inr (c, p2) => if pk f L p2 = 60 ∨ pk f L p2 = 61 ∨ pk f L p2 = 62 then (match pSum f L (p2 + 1) with
        | .inl q => .inl q
        | .inr (c2, p3) => .inr (c ++ c2 ++ [20000 + pk f L p2], p3)) else .inl p2
  | n + 1, p =>
    if pk f L p = 33 then (match pTest f L n (p + 1) with
      | .inl q => .inl q
      | .inr (c, p2) => .inr (c ++ [20033], p2))
    else if pk f L p = 40 then (match pOrsOf (pTest f L n) f L (p + 1) with
      | .inl q => .inl q
      | .inr (c, p2) => if pk f L p2 = 41 then .inr (c, p2 + 1) else .inl p2)
    else match pSum f L p with
      | .inl q => .inl q
      | .inr (c, p2) => if pk f L p2 = 60 ∨ pk f L p2 = 61 ∨ pk f L p2 = 62 then (match pSum f L (p2 + 1) with
        | .inl q => .inl q
        | .inr (c2, p3) => .inr (c ++ c2 ++ [20000 + pk f L p2], p3)) else .inl p2
def pAll (f : Nat → Int32) (L : Nat) : PR :=
  match pOrsOf (pTest f L 5) f L 0 with
  | .inl q => .inl q
  | .inr (c, p) => if p < L then .inl p else .inr (c, p)
def LawOk (f : Nat → Int32) (L : Nat) (steps : Nat → Int32) (m : Int32) : Prop :=
  ∃ c : List Int32, ∃ p, pAll f L = .inr (c, p) ∧ c.length ≤ 60 ∧ m = iN c.length ∧ ∀ i x, c[i]? = some x → steps i = x
def sumN (f : Nat → Int32) : Nat → Int32
  | 0 => 0
  | n + 1 => sumN f n + f n
def cntN (p : Nat → Bool) : Nat → Nat
  | 0 => 0
  | n + 1 => cntN p n + (if p n = true then 1 else 0)
def sumZ (f : Nat → Int) : Nat → Int
  | 0 => 0
  | n + 1 => sumZ f n + f n
def adj (c d : Nat) : Prop := d = c + 10 ∨ c = d + 10 ∨ (d = c + 1 ∧ c % 10 ≠ 9) ∨ (c = d + 1 ∧ d % 10 ≠ 9)
def dn (c : Nat) (x : Int32) : Prop := x = -1 ∨ ∃ d, d < 100 ∧ x = iN d ∧ adj c d
def IA (S : Nat → Int32) : Prop := ∀ c, c < 100 → (bt 0 300 (S (15 * c)) ∧ bt 0 3 (S (15 * c + 1)) ∧ bt 0 9999 (S (15 * c + 2)) ∧ bt 0 99 (S (15 * c + 3)) ∧ bt 0 1 (S (15 * c + 4)) ∧ bt 0 1 (S (15 * c + 5))) ∧ dn c (S (15 * c + 6)) ∧ bt 0 300 (S (15 * c + 7)) ∧ bt 0 9 (S (15 * c + 8)) ∧ bt 0 1 (S (15 * c + 13))
def hs (c : Nat) (g : Nat → Int32) : Prop :=
  ((g 0 = 0 ∨ g 0 = 1 ∨ g 0 = 2) ∧ (g 0 = 1 → (∃ t, t < 100 ∧ g 1 = iN t ∧ t ≠ c) ∧ bt 1 9999 (g 2) ∧ bt 0 99999 (g 3) ∧ bt 0 1 (g 4)) ∧ (g 0 = 2 → bt 1 9999 (g 5) ∧ bt 1 9999 (g 6) ∧ bt (-128) 127 (g 7))) ∧ bt 0 9999 (g 8) ∧ bt 0 9999 (g 9) ∧ (¬ g 0 = 2 → g 8 = 0 ∧ g 9 = 0) ∧ (g 0 = 2 → (g 8).toInt + (g 9).toInt ≤ (g 5).toInt)
def IH (S : Nat → Int32) : Prop := (∀ c, c < 100 → hs c (fun j => S (1500 + 10 * c + j))) ∧ S 4317 = iN (cntN (fun c => decide (¬ S (1500 + 10 * c) = 0)) 100) ∧ cntN (fun c => decide (¬ S (1500 + 10 * c) = 0)) 100 ≤ 12
def lnS (D : Int) (g : Nat → Int32) (i : Nat) : Prop := (∃ c, c < 100 ∧ g (4 + 6 * i) = iN c) ∧ bt 0 300 (g (5 + 6 * i)) ∧ (g (7 + 6 * i) = -9 ∨ bt 0 D (g (7 + 6 * i))) ∧ bt 0 1 (g (8 + 6 * i)) ∧ bt 0 1 (g (9 + 6 * i))
def ln1 (D : Int) (g : Nat → Int32) : Prop := (bt 2 19 (g 0) ∧ bt 1 9 (g 1) ∧ bt 0 1 (g 2) ∧ bt 0 4 (g 3)) ∧ (∀ i : Nat, (i : Int) < (g 0).toInt → lnS D g i) ∧ (∀ i c d : Nat, ((i + 1 : Nat) : Int) < (g 0).toInt → g (4 + 6 * i) = iN c → c < 100 → g (10 + 6 * i) = iN d → d < 100 → adj c d) ∧ (∀ i j : Nat, i < j → (j : Int) < (g 0).toInt → ¬ g (4 + 6 * i) = g (4 + 6 * j))
def IL (S : Nat → Int32) : Prop := bt 0 8 (S 4315) ∧ ∀ m : Nat, (m : Int) < (S 4315).toInt → ln1 ((S 4300).toInt / 24) (fun r => S (3300 + 125 * m + r))
def IG (S : Nat → Int32) : Prop := bt 0 99999 (S 4300) ∧ bt 0 9999 (S 4302) ∧ bt 0 200 (S 4303) ∧ (∃ b, b < 100 ∧ S 4304 = iN b) ∧ bt 0 200 (S 4316) ∧ S 4314 = sumN (fun c => S (15 * c + 14)) 100
def coalZ (S : Nat → Int32) : Int := sumZ (fun c => if S (1500 + 10 * c) = 1 then (S (1503 + 10 * c)).toInt else 0) 100
def wtr (S : Nat → Int32) (c : Nat) : Int := (S (15 * c + 9)).toInt + (S (15 * c + 10)).toInt + (S (1508 + 10 * c)).toInt + (S (1509 + 10 * c)).toInt
def IW (S : Nat → Int32) (n : Nat) : Prop := ∀ c, c < 100 → (0 ≤ (S (15 * c + 9)).toInt ∧ 0 ≤ (S (15 * c + 10)).toInt ∧ 0 ≤ (S (15 * c + 11)).toInt ∧ 0 ≤ (S (15 * c + 12)).toInt) ∧ wtr S c ≤ 1600000000 ∧ wtr S c + (S (15 * c + 11)).toInt + (S (15 * c + 12)).toInt + 100 * coalZ S ≤ 10019 * (S 4300).toInt + 999900 * (n : Int)
def Inv (S : Nat → Int32) (n : Nat) : Prop := IA S ∧ IH S ∧ IL S ∧ IG S ∧ IW S n
def UL (w : Wd) (z : Nat) (S : Nat → Int32) : Prop := ∀ m : Nat, (m : Int) < (S 4315).toInt → ∃ u : Nat, (u : Int) ≤ (S (3300 + 125 * m)).toInt ∧ w.1 (z + (36 + 7 * m)) 4 = iN u ∧ (∀ i, i < u → S (3307 + 125 * m + 6 * i) = -9) ∧ ∀ i : Nat, u ≤ i → (i : Int) < (S (3300 + 125 * m)).toInt → ¬ S (3307 + 125 * m + 6 * i) = -9
def YC (w : Wd) (z : Nat) (S : Nat → Int32) (n : Nat) : Prop := (∀ k, k < 4340 → val S k → V w z k = S k) ∧ UL w z S ∧ Inv S n
def YI (n : Nat) (wc wm : Wd) : Prop := ∀ d, d < 6 → wm.1 165 d = 6 → ¬ wc.1 (135 + 2 * d) 3 = 0 ∧ YC wc (200 + 100 * d) (fun k => wm.1 168 (4340 * d + k)) n
def YT (wc wm : Wd) : Prop := ∀ d, d < 6 → (wc.1 (135 + 2 * d) 0 = wm.1 165 d ∧ bt 0 6 (wm.1 165 d) ∧ wc.1 (135 + 2 * d) 1 = wm.1 166 d ∧ bt 0 100 (wm.1 166 d)) ∧ (∀ i, i < 100 → wc.2 (136 + 2 * d) i = wm.2 167 (100 * d + i)) ∧ (wm.1 165 d = 1 → ∀ i, i < 100 → -128 ≤ (wm.2 167 (100 * d + i)).toInt ∧ (wm.2 167 (100 * d + i)).toInt ≤ 127)
def YD (wc wm : Wd) : Prop := wc.1 100 0 = wm.1 148 4 ∧ bt 0 60 (wm.1 148 4) ∧ ∀ i : Nat, (i : Int) < (wm.1 148 4).toInt → wc.1 101 i = wm.1 150 i ∧ bt (-128) 127 (wm.1 150 i)
def YO (wc wm : Wd) : Prop := wc.1 102 0 = wm.1 148 6 ∧ (wm.1 148 6 = 0 ∨ bt 2 19 (wm.1 148 6)) ∧ (∀ i : Nat, (i : Int) < (wm.1 148 6).toInt → (∃ c, c < 100 ∧ wm.1 151 i = iN c) ∧ wc.1 103 i = wm.1 151 i ∧ wc.1 104 i = wm.1 148 7 - wm.1 148 8 * iN i ∧ bt 0 300 (wc.1 104 i)) ∧ (∀ i c d : Nat, ((i + 1 : Nat) : Int) < (wm.1 148 6).toInt → wm.1 151 i = iN c → c < 100 → wm.1 151 (i + 1) = iN d → d < 100 → adj c d) ∧ (∀ i j : Nat, i < j → (j : Int) < (wm.1 148 6).toInt → ¬ wm.1 151 i = wm.1 151 j)
def YL (wc wm : Wd) : Prop := wc.1 106 0 = wm.1 148 21 ∧ bt 0 20 (wm.1 148 21) ∧ ∀ k : Nat, (k : Int) < (wm.1 148 21).toInt → wc.1 107 k = wm.1 159 k ∧ wc.1 108 k = wm.1 160 k ∧ bt 0 60 (wm.1 161 k) ∧ LawOk (fun i => wm.1 162 (60 * k + i)) (wm.1 161 k).toNatClampNeg (fun i => wc.1 (114 + k) i) (wc.1 109 k)
def YY (n : Nat) (wc wm : Wd) : Prop := YC wc 0 (wm.1 149) n ∧ YI n wc wm ∧ YT wc wm ∧ YD wc wm ∧ YO wc wm ∧ YL wc wm ∧ wc.1 0 7 = wm.1 148 2
theorem si_1 {w : Wd} {a i b j : Nat} {x : Int32} : (si w a i x).1 b j = if b = a ∧ j = i then x else w.1 b j := by
  unfold si
  by_cases h : b = a
  · subst h
    simp only [if_pos]
    show upd (w.1 b) i x j = _
    unfold upd
    by_cases h2 : j = i
    · simp [h2]
    · simp [h2]
  · simp [h]
theorem si_2 {w : Wd} {a i b : Nat} {x : Int32} : (si w a i x).2 b = w.2 b := rfl
theorem sl_1 {w : Wd} {a i b : Nat} {x : Int64} : (sl w a i x).1 b = w.1 b := rfl
theorem sl_2 {w : Wd} {a i b j : Nat} {x : Int64} : (sl w a i x).2 b j = if b = a ∧ j = i then x else w.2 b j := by
  unfold sl
  by_cases h : b = a
  · subst h
    simp only [if_pos]
    show vp_updL (w.2 b) i x j = _
    unfold vp_updL
    by_cases h2 : j = i
    · simp [h2]
    · simp [h2]
  · simp [h]
theorem si_row {w : Wd} {a i : Nat} {x : Int32} : (si w a i x).1 a = upd (w.1 a) i x := by
  simp [si]
theorem si_oth {w : Wd} {a i b : Nat} {x : Int32} (h : b ≠ a) : (si w a i x).1 b = w.1 b := by
  simp [si, h]
theorem upd_eq {f : Nat → Int32} {i : Nat} {x : Int32} : upd f i x i = x := if_pos rfl
theorem upd_ne {f : Nat → Int32} {i j : Nat} {x : Int32} (h : j ≠ i) : upd f i x j = f j := if_neg h
theorem mc_eq {w : Wd} {c j : Nat} (hc : c < 100) (hj : j < 15) : fX12_c (iN c) (iN j) w = some (w.1 149 (15 * c + j)) := by
  unfold fX12_c
  rw [lit_mul, iN_add, inb_iN (by omega), if_pos (by simp; omega), ri_iN (by omega)]
theorem mh_eq {w : Wd} {c j : Nat} (hc : c < 100) (hj : j < 10) : fX12_h (iN c) (iN j) w = some (w.1 149 (1500 + 10 * c + j)) := by
  unfold fX12_h
  rw [lit_mul, lit_add, iN_add, inb_iN (by omega), if_pos (by simp; omega), ri_iN (by omega)]
theorem mg_eq {w : Wd} {j : Nat} (hj : j < 40) : fX12_g (iN j) w = some (w.1 149 (4300 + j)) := by
  unfold fX12_g
  rw [lit_add, inb_iN (by omega), if_pos (by simp; omega), ri_iN (by omega)]
theorem ml_eq {w : Wd} {n j : Nat} (hn : n < 8) (hj : j < 125) : fX12_l (iN n) (iN j) w = some (w.1 149 (3300 + 125 * n + j)) := by
  unfold fX12_l
  rw [lit_mul, lit_add, iN_add, inb_iN (by omega), if_pos (by simp; omega), ri_iN (by omega)]
theorem msp_eq {w : Wd} {n i : Nat} : fX12_spot (iN n) (iN i) w = some (iN (3304 + 125 * n + 6 * i)) := by
  unfold fX12_spot
  rw [lit_mul, lit_add, lit_mul, add_lit, iN_add]
  congr 2
  omega
theorem val_cong {S S' : Nat → Int32} {k : Nat} (hk : k < 4340) (h1 : ∀ c, c < 100 → S' (1500 + 10 * c) = S (1500 + 10 * c)) (h2 : ∀ n, n < 8 → S' (3300 + 125 * n) = S (3300 + 125 * n)) (h3 : S' 4315 = S 4315) (h4 : S' 4316 = S 4316) : val S' k ↔ val S k := by
  unfold val
  by_cases c1 : k < 1500
  · rw [if_pos c1, if_pos c1]
  · rw [if_neg c1, if_neg c1]
    by_cases c2 : k < 2500
    · rw [if_pos c2, if_pos c2]
      have e : S' (k - (k - 1500) % 10) = S (k - (k - 1500) % 10) := by
        have := h1 ((k - 1500) / 10) (by omega)
        rwa [show 1500 + 10 * ((k - 1500) / 10) = k - (k - 1500) % 10 by omega] at this
      rw [e]
    · rw [if_neg c2, if_neg c2]
      by_cases c3 : k < 3300
      · rw [if_pos c3, if_pos c3, h4]
      · rw [if_neg c3, if_neg c3]
        by_cases c4 : k < 4300
        · rw [if_pos c4, if_pos c4, h3, h2 _ (by omega)]
        · rw [if_neg c4, if_neg c4]
def plainK (k : Nat) : Prop := k < 4340 ∧ (∀ c, c < 100 → k ≠ 1500 + 10 * c) ∧ (∀ m, m < 8 → k ≠ 3300 + 125 * m ∧ ∀ i, i < 19 → k ≠ 3307 + 125 * m + 6 * i) ∧ k ≠ 4315 ∧ k ≠ 4316
theorem loc_ul0 : ∀ q, q < 434 → ∀ r, r < 10 → ∀ m, m < 8 → ¬ ((loc (10 * q + r)).1 = 36 + 7 * m ∧ (loc (10 * q + r)).2 = 4) := by decide +kernel
theorem loc_ul {k m : Nat} (h : k < 4340) (hm : m < 8) : ¬ ((loc k).1 = 36 + 7 * m ∧ (loc k).2 = 4) := by
  have := loc_ul0 (k / 10) (by omega) (k % 10) (by omega) m hm
  rwa [Nat.div_add_mod] at this
theorem IL.lt {S : Nat → Int32} (h : IL S) {m : Nat} (hm : (m : Int) < (S 4315).toInt) : m < 8 := by
  have := h.1.2
  omega
theorem YC.put {w : Wd} {z n k0 o i : Nat} {S : Nat → Int32} {x : Int32} (h : YC w z S n) (hl : loc k0 = (o, i)) (hk : plainK k0) (hI : Inv (upd S k0 x) n) : YC (si w (z + o) i x) z (upd S k0 x) n := by
  obtain ⟨h1, h2, h3⟩ := h
  obtain ⟨k1, k2, k3, k4, k5⟩ := hk
  refine ⟨fun k hk hv => ?_, fun m hm => ?_, hI⟩
  · rw [V_si hl k1 hk]
    have hv2 : val S k := (val_cong hk (fun c hc => upd_ne (Ne.symm (k2 c hc))) (fun n hn => upd_ne (Ne.symm (k3 n hn).1)) (upd_ne (Ne.symm k4)) (upd_ne (Ne.symm k5))).mp hv
    unfold upd
    by_cases e : k = k0
    · rw [if_pos e, if_pos e]
    · rw [if_neg e, if_neg e]
      exact h1 k hk hv2
  · rw [upd_ne (Ne.symm k4)] at hm
    have hm8 := IL.lt h3.2.2.1 hm
    obtain ⟨u, u1, u2, u3, u4⟩ := h2 m hm
    have hu19 : (S (3300 + 125 * m)).toInt ≤ 19 := (h3.2.2.1.2 m hm).1.1.2
    refine ⟨u, ?_, ?_, fun i hi => ?_, fun i hi hi2 => ?_⟩
    · rw [upd_ne (Ne.symm (k3 m hm8).1)]
      exact u1
    · rw [si_1, if_neg]
      · exact u2
      · rintro ⟨e1, e2⟩
        refine loc_ul k1 hm8 ?_
        rw [hl]
        exact ⟨by omega, e2.symm⟩
    · rw [upd_ne (Ne.symm ((k3 m hm8).2 i (by omega)))]
      exact u3 i hi
    · rw [upd_ne (Ne.symm (k3 m hm8).1)] at hi2
      rw [upd_ne (Ne.symm ((k3 m hm8).2 i (by omega)))]
      exact u4 i hi hi2
theorem YC.cong {w w' : Wd} {z n : Nat} {S : Nat → Int32} (h : YC w z S n) (e : ∀ a, (z + 1 ≤ a ∧ a ≤ z + 91) ∨ a = z + 10000 → w'.1 a = w.1 a) : YC w' z S n := by
  obtain ⟨h1, h2, h3⟩ := h
  refine ⟨fun k hk hv => (V_cong hk e).trans (h1 k hk hv), fun m hm => ?_, h3⟩
  have hm8 := IL.lt h3.2.2.1 hm
  obtain ⟨u, u1, u2, u3⟩ := h2 m hm
  exact ⟨u, u1, by rw [e _ (Or.inl (by omega))]; exact u2, u3⟩
theorem YI.cong {n : Nat} {wc wc' wm wm' : Wd} (h : YI n wc wm) (e1 : ∀ a, (135 ≤ a ∧ a ≤ 146) ∨ 200 ≤ a → wc'.1 a = wc.1 a) (e2 : wm'.1 165 = wm.1 165) (e3 : wm'.1 168 = wm.1 168) : YI n wc' wm' := by
  intro d hd hs
  rw [e2] at hs
  obtain ⟨h1, h2⟩ := h d hd hs
  refine ⟨by rw [e1 _ (Or.inl (by omega))]; exact h1, ?_⟩
  rw [e3]
  exact h2.cong (fun a ha => e1 a (by omega))
theorem YT.cong {wc wc' wm wm' : Wd} (h : YT wc wm) (e1 : ∀ a, 135 ≤ a ∧ a ≤ 146 → wc'.1 a = wc.1 a ∧ wc'.2 a = wc.2 a) (e2 : wm'.1 165 = wm.1 165) (e3 : wm'.1 166 = wm.1 166) (e4 : wm'.2 167 = wm.2 167) : YT wc' wm' := by
  intro d hd
  rw [(e1 (135 + 2 * d) (by omega)).1, (e1 (136 + 2 * d) (by omega)).2, e2, e3, e4]
  exact h d hd
theorem YD.cong {wc wc' wm wm' : Wd} (h : YD wc wm) (e1 : wc'.1 100 = wc.1 100) (e2 : wc'.1 101 = wc.1 101) (e3 : wm'.1 148 4 = wm.1 148 4) (e4 : wm'.1 150 = wm.1 150) : YD wc' wm' := by
  unfold YD
  rw [e1, e2, e3, e4]
  exact h
theorem YO.cong {wc wc' wm wm' : Wd} (h : YO wc wm) (e1 : ∀ a, 102 ≤ a ∧ a ≤ 104 → wc'.1 a = wc.1 a) (e3 : ∀ j, 6 ≤ j ∧ j ≤ 8 → wm'.1 148 j = wm.1 148 j) (e4 : wm'.1 151 = wm.1 151) : YO wc' wm' := by
  unfold YO
  rw [e1 102 (by omega), e1 103 (by omega), e1 104 (by omega), e3 6 (by omega), e3 7 (by omega), e3 8 (by omega), e4]
  exact h
theorem YL.cong {wc wc' wm wm' : Wd} (h : YL wc wm) (e0 : wc'.1 106 0 = wc.1 106 0) (e1 : ∀ a, 107 ≤ a ∧ a ≤ 109 → wc'.1 a = wc.1 a) (e2 : ∀ a, 114 ≤ a ∧ a ≤ 133 → wc'.1 a = wc.1 a) (e3 : wm'.1 148 21 = wm.1 148 21) (e4 : ∀ a, 159 ≤ a ∧ a ≤ 162 → wm'.1 a = wm.1 a) : YL wc' wm' := by
  obtain ⟨h1, h2, h3⟩ := h
  unfold YL
  rw [e0, e3]
  refine ⟨h1, h2, fun k hk => ?_⟩
  have hk2 : k < 20 := by
    have := h2.2
    omega
  rw [e1 107 (by omega), e1 108 (by omega), e1 109 (by omega), e2 (114 + k) (by omega), e4 159 (by omega), e4 160 (by omega), e4 161 (by omega), e4 162 (by omega)]
  exact h3 k hk
theorem YY.city {n : Nat} {wc wc' wm wm' : Wd} (h : YY n wc wm) (hc : YC wc' 0 (wm'.1 149) n) (e1 : ∀ a, ¬ (1 ≤ a ∧ a ≤ 91) → ¬ (92 ≤ a ∧ a ≤ 99) → wc'.1 a = wc.1 a ∧ wc'.2 a = wc.2 a) (e2 : ∀ a, ¬ a = 149 → ¬ (152 ≤ a ∧ a ≤ 158) → ¬ a = 148 → ¬ a = 163 → ¬ a = 164 → wm'.1 a = wm.1 a) (e3 : wm'.2 167 = wm.2 167) (e4 : ∀ j, 2 ≤ j → j ≤ 8 ∨ j = 21 → wm'.1 148 j = wm.1 148 j) : YY n wc' wm' := by
  obtain ⟨-, h2, h3, h4, h5, h6, h7⟩ := h
  refine ⟨hc, h2.cong (fun a ha => (e1 a (by omega) (by omega)).1) (e2 _ (by omega) (by omega) (by omega) (by omega) (by omega)) (e2 _ (by omega) (by omega) (by omega) (by omega) (by omega)), h3.cong (fun a ha => e1 a (by omega) (by omega)) (e2 _ (by omega) (by omega) (by omega) (by omega) (by omega)) (e2 _ (by omega) (by omega) (by omega) (by omega) (by omega)) e3, h4.cong (e1 _ (by omega) (by omega)).1 (e1 _ (by omega) (by omega)).1 (e4 4 (by omega) (by omega)) (e2 _ (by omega) (by omega) (by omega) (by omega) (by omega)), h5.cong (fun a ha => (e1 a (by omega) (by omega)).1) (fun j hj => e4 j (by omega) (by omega)) (e2 _ (by omega) (by omega) (by omega) (by omega) (by omega)), h6.cong (by rw [(e1 106 (by omega) (by omega)).1]) (fun a ha => (e1 a (by omega) (by omega)).1) (fun a ha => (e1 a (by omega) (by omega)).1) (e4 21 (by omega) (by omega)) (fun a ha => e2 a (by omega) (by omega) (by omega) (by omega) (by omega)), ?_⟩
  rw [(e1 0 (by omega) (by omega)).1, e4 2 (by omega) (by omega)]
  exact h7
theorem YY.thr {n : Nat} {wc wm : Wd} {x : Int32} (h : YY n wc wm) : YY n wc (si wm 148 0 x) := by
  have e : ∀ a, ¬ a = 148 → (si wm 148 0 x).1 a = wm.1 a := fun a ha => si_oth ha
  refine h.city ?_ (fun a _ _ => ⟨rfl, rfl⟩) (fun a _ _ h3 _ _ => e a h3) rfl (fun j h1 h2 => ?_)
  · rw [e 149 (by omega)]
    exact h.1
  · rw [si_1, if_neg (by omega)]
theorem sumZ_cong {f g : Nat → Int} : ∀ n, (∀ i, i < n → f i = g i) → sumZ f n = sumZ g n
  | 0, _ => rfl
  | n + 1, h => by
    show sumZ f n + f n = sumZ g n + g n
    rw [sumZ_cong n (fun i hi => h i (by omega)), h n (by omega)]
theorem sumN_cong {f g : Nat → Int32} : ∀ n, (∀ i, i < n → f i = g i) → sumN f n = sumN g n
  | 0, _ => rfl
  | n + 1, h => by
    show sumN f n + f n = sumN g n + g n
    rw [sumN_cong n (fun i hi => h i (by omega)), h n (by omega)]
theorem cntN_cong {p q : Nat → Bool} : ∀ n, (∀ i, i < n → p i = q i) → cntN p n = cntN q n
  | 0, _ => rfl
  | n + 1, h => by
    show cntN p n + _ = cntN q n + _
    rw [cntN_cong n (fun i hi => h i (by omega)), h n (by omega)]
theorem IA.cong {S S' : Nat → Int32} (h : IA S) (e : ∀ c j, c < 100 → j < 9 ∨ j = 13 → S' (15 * c + j) = S (15 * c + j)) : IA S' := by
  intro c hc
  have h0 := e c 0 hc (by omega)
  rw [Nat.add_zero] at h0
  rw [h0, e c 1 hc (by omega), e c 2 hc (by omega), e c 3 hc (by omega), e c 4 hc (by omega), e c 5 hc (by omega), e c 6 hc (by omega), e c 7 hc (by omega), e c 8 hc (by omega), e c 13 hc (by omega)]
  exact h c hc
theorem hs.cong {c : Nat} {g g' : Nat → Int32} (h : hs c g) (e : ∀ j, j < 10 → g' j = g j) : hs c g' := by
  unfold hs
  rw [e 0 (by omega), e 1 (by omega), e 2 (by omega), e 3 (by omega), e 4 (by omega), e 5 (by omega), e 6 (by omega), e 7 (by omega), e 8 (by omega), e 9 (by omega)]
  exact h
theorem IH.cong {S S' : Nat → Int32} (h : IH S) (e : ∀ k, 1500 ≤ k → k < 2500 → S' k = S k) (e2 : S' 4317 = S 4317) : IH S' := by
  have q : cntN (fun c => decide (¬ S' (1500 + 10 * c) = 0)) 100 = cntN (fun c => decide (¬ S (1500 + 10 * c) = 0)) 100 := cntN_cong 100 (fun c hc => by rw [e _ (by omega) (by omega)])
  refine ⟨fun c hc => (h.1 c hc).cong (fun j hj => e _ (by omega) (by omega)), ?_, ?_⟩
  · rw [e2, h.2.1, q]
  · rw [q]
    exact h.2.2
theorem lnS.cong {D : Int} {g g' : Nat → Int32} {i : Nat} (h : lnS D g i) (e : ∀ j, 4 ≤ j → j < 10 → g' (j + 6 * i) = g (j + 6 * i)) : lnS D g' i := by
  unfold lnS
  rw [e 4 (by omega) (by omega), e 5 (by omega) (by omega), e 7 (by omega) (by omega), e 8 (by omega) (by omega), e 9 (by omega) (by omega)]
  exact h
theorem ln1.cong {D : Int} {g g' : Nat → Int32} (h : ln1 D g) (e : ∀ r, r < 125 → g' r = g r) : ln1 D g' := by
  obtain ⟨h1, h2, h3, h4⟩ := h
  have hl : (g 0).toInt ≤ 19 := h1.1.2
  unfold ln1
  rw [e 0 (by omega), e 1 (by omega), e 2 (by omega), e 3 (by omega)]
  refine ⟨h1, fun i hi => (h2 i hi).cong (fun j a1 a2 => e _ (by omega)), fun i c d hi a1 a2 a3 a4 => ?_, fun i j hij hj a1 => ?_⟩
  · rw [e _ (by omega)] at a1 a3
    exact h3 i c d hi a1 a2 a3 a4
  · rw [e _ (by omega), e _ (by omega)] at a1
    exact h4 i j hij hj a1
theorem IL.cong {S S' : Nat → Int32} (h : IL S) (e : ∀ k, 3300 ≤ k → k < 4300 → S' k = S k) (e2 : S' 4315 = S 4315) (e3 : S' 4300 = S 4300) : IL S' := by
  refine ⟨by rw [e2]; exact h.1, fun m hm => ?_⟩
  rw [e2] at hm
  have hm8 := h.lt hm
  rw [e3]
  exact (h.2 m hm).cong (fun r hr => e _ (by omega) (by omega))
theorem IG.cong {S S' : Nat → Int32} (h : IG S) (e : ∀ c, c < 100 → S' (15 * c + 14) = S (15 * c + 14)) (e2 : ∀ j, j ≤ 4 ∨ j = 14 ∨ j = 16 → S' (4300 + j) = S (4300 + j)) : IG S' := by
  unfold IG
  rw [e2 0 (by omega), e2 2 (by omega), e2 3 (by omega), e2 4 (by omega), e2 16 (by omega), e2 14 (by omega), sumN_cong 100 e]
  exact h
theorem coalZ_cong {S S' : Nat → Int32} (e : ∀ k, 1500 ≤ k → k < 2500 → S' k = S k) : coalZ S' = coalZ S := by
  refine sumZ_cong 100 (fun c hc => ?_)
  rw [e _ (by omega) (by omega), e _ (by omega) (by omega)]
theorem IW.cong {S S' : Nat → Int32} {n : Nat} (h : IW S n) (e : ∀ c j, c < 100 → 9 ≤ j → j < 13 → S' (15 * c + j) = S (15 * c + j)) (e1 : ∀ k, 1500 ≤ k → k < 2500 → S' k = S k) (e2 : S' 4300 = S 4300) : IW S' n := by
  intro c hc
  have := h c hc
  unfold wtr at this ⊢
  rw [coalZ_cong e1, e2, e c 9 hc (by omega) (by omega), e c 10 hc (by omega) (by omega), e c 11 hc (by omega) (by omega), e c 12 hc (by omega) (by omega), e1 _ (by omega) (by omega), e1 _ (by omega) (by omega)]
  exact this
theorem rowA_lt {j : Nat} (hj : j < 9) : rowA j = 3 + j := if_pos hj
theorem Inv.cell {S : Nat → Int32} {n c j : Nat} {x : Int32} (h : Inv S n) (hj : j < 9 ∨ j = 13) (hc : c < 100) (hA : IA (upd S (15 * c + j) x)) : Inv (upd S (15 * c + j) x) n := by
  obtain ⟨-, h2, h3, h4, h5⟩ := h
  exact ⟨hA, h2.cong (fun k _ _ => upd_ne (by omega)) (upd_ne (by omega)), h3.cong (fun k _ _ => upd_ne (by omega)) (upd_ne (by omega)) (upd_ne (by omega)), h4.cong (fun c' _ => upd_ne (by omega)) (fun j _ => upd_ne (by omega)), h5.cong (fun c' j' _ _ _ => upd_ne (by omega)) (fun k _ _ => upd_ne (by omega)) (upd_ne (by omega))⟩
theorem plainK_cell {c j : Nat} (hc : c < 100) (hj : j < 15) : plainK (15 * c + j) := ⟨by omega, fun c' _ => by omega, fun m _ => ⟨by omega, fun i _ => by omega⟩, by omega, by omega⟩
theorem YY.cell {n c j : Nat} {wc wm : Wd} {x : Int32} (h : YY n wc wm) (hc : c < 100) (hj : j < 9 ∨ j = 13) (hA : IA (upd (wm.1 149) (15 * c + j) x)) : YY n (si wc (rowA j) c x) (si wm 149 (15 * c + j) x) := by
  have hj15 : j < 15 := by omega
  have hr : rowA j ≤ 12 ∧ 3 ≤ rowA j := by
    rcases hj with hj | rfl
    · rw [rowA_lt hj]
      omega
    · decide
  refine h.city ?_ (fun a h1 _ => ⟨si_oth (by omega), rfl⟩) (fun a h1 _ _ _ _ => si_oth h1) rfl (fun j _ _ => by rw [si_oth (by omega)])
  have := h.1.put (o := rowA j) (i := c) (x := x) (loc_row hc hj15) (plainK_cell hc hj15) (h.1.2.2.cell hj hc hA)
  rw [Nat.zero_add] at this
  rw [si_row]
  exact this
theorem YC.row {w : Wd} {n c j : Nat} {S : Nat → Int32} (h : YC w 0 S n) (hc : c < 100) (hj : j < 15) : w.1 (rowA j) c = S (15 * c + j) := by
  have := h.1 (15 * c + j) (by omega) (val_row hc hj)
  unfold V at this
  rw [loc_row hc hj, Nat.zero_add] at this
  exact this
def cellA (c : Nat) (g : Nat → Int32) : Prop := (bt 0 300 (g 0) ∧ bt 0 3 (g 1) ∧ bt 0 9999 (g 2) ∧ bt 0 99 (g 3) ∧ bt 0 1 (g 4) ∧ bt 0 1 (g 5)) ∧ dn c (g 6) ∧ bt 0 300 (g 7) ∧ bt 0 9 (g 8) ∧ bt 0 1 (g 13)
theorem cellA.cong {c : Nat} {g g' : Nat → Int32} (h : cellA c g) (e : ∀ k, k < 15 → g' k = g k) : cellA c g' := by
  unfold cellA
  rw [e 0 (by omega), e 1 (by omega), e 2 (by omega), e 3 (by omega), e 4 (by omega), e 5 (by omega), e 6 (by omega), e 7 (by omega), e 8 (by omega), e 13 (by omega)]
  exact h
theorem IA.put {S : Nat → Int32} {c j : Nat} {x : Int32} (h : IA S) (hc : c < 100) (hx : cellA c (fun k => S (15 * c + k)) → cellA c (upd (fun k => S (15 * c + k)) j x)) (hj : j < 15) : IA (upd S (15 * c + j) x) := by
  intro c' hc'
  have h1 : cellA c' (fun k => S (15 * c' + k)) := h c' hc'
  show cellA c' (fun k => upd S (15 * c + j) x (15 * c' + k))
  by_cases e : c' = c
  · subst e
    refine (hx h1).cong (fun k hk => ?_)
    by_cases e2 : k = j
    · rw [e2, upd_eq, upd_eq]
    · rw [upd_ne (by omega), upd_ne e2]
  · refine h1.cong (fun k hk => ?_)
    rw [upd_ne (by omega)]
def mxA (j : Nat) : Int := if j = 0 then 300 else if j = 1 then 3 else if j = 2 then 9999 else if j = 3 then 99 else 1
theorem cellA.set {c j : Nat} {g : Nat → Int32} {x : Int32} (h : cellA c g) (hj : j < 6) (hx : bt 0 (mxA j) x) : cellA c (upd g j x) := by
  obtain ⟨⟨h0, h1, h2, h3, h4, h5⟩, h6⟩ := h
  have h9 : j = 0 ∨ j = 1 ∨ j = 2 ∨ j = 3 ∨ j = 4 ∨ j = 5 := by omega
  rcases h9 with rfl | rfl | rfl | rfl | rfl | rfl
  · exact ⟨⟨hx, h1, h2, h3, h4, h5⟩, h6⟩
  · exact ⟨⟨h0, hx, h2, h3, h4, h5⟩, h6⟩
  · exact ⟨⟨h0, h1, hx, h3, h4, h5⟩, h6⟩
  · exact ⟨⟨h0, h1, h2, hx, h4, h5⟩, h6⟩
  · exact ⟨⟨h0, h1, h2, h3, hx, h5⟩, h6⟩
  · exact ⟨⟨h0, h1, h2, h3, h4, hx⟩, h6⟩
theorem int_cases {v : Int32} (m : Nat) (h : 0 ≤ v.toInt ∧ v.toInt ≤ m) (hm : m < 1000000) : ∃ c, c ≤ m ∧ v = iN c := by
  obtain ⟨c, hc, e⟩ := of_range (v := v) (m + 1) h.1 (by omega)
  exact ⟨c, by omega, e⟩
theorem row_lt6 {j : Nat} {w : Wd} (hj : j < 6) : fX2_rowToSet (iN j) w = some (some (3 + j)) := by
  have h9 : j = 0 ∨ j = 1 ∨ j = 2 ∨ j = 3 ∨ j = 4 ∨ j = 5 := by omega
  rcases h9 with rfl | rfl | rfl | rfl | rfl | rfl <;> rfl
theorem mostOf_eq {j : Nat} {w : Wd} (hj : j < 6) : ∃ x, fX11_mostOf (iN j) w = some x ∧ x.toInt = mxA j := by
  have h9 : j = 0 ∨ j = 1 ∨ j = 2 ∨ j = 3 ∨ j = 4 ∨ j = 5 := by omega
  rcases h9 with rfl | rfl | rfl | rfl | rfl | rfl <;> exact ⟨_, rfl, by decide⟩
theorem row_no {v : Int32} {w : Wd} (h : ¬ (0 ≤ v.toInt ∧ v.toInt ≤ 5)) : fX2_rowToSet v w = some none := by
  have e : ∀ k : Int32, 0 ≤ k.toInt ∧ k.toInt ≤ 5 → ¬ v = k := fun k hk e => h (e ▸ hk)
  unfold fX2_rowToSet
  rw [if_neg (e 0 (by decide)), if_neg (e 1 (by decide)), if_neg (e 2 (by decide)), if_neg (e 3 (by decide)), if_neg (e 4 (by decide)), if_neg (e 5 (by decide))]
theorem set71 {c j : Nat} {v3 : Int32} {s2 : Int64} {w : Wd} (hc : c < 100) (hj : j < 6) (hs : s2.toInt = mxA j) : fX12_set_71 (iN c) (iN j) v3 v3.toInt64 0 s2 w = if 0 ≤ v3.toInt ∧ v3.toInt ≤ mxA j then some (w.1 149 (15 * c + j), si w 149 (15 * c + j) v3) else some (-1, w) := by
  unfold fX12_set_71
  rw [in_eq, hs, Int32.toInt_toInt64, show (0 : Int64).toInt = 0 from rfl, Option.bind_some, mc_eq hc (by omega)]
  simp only [Option.bind_some, nw_eq]
  rw [lit_mul, iN_add, inb_iN (by omega), wi_iN (by omega), if_pos (c := decide (15 * c + j < 4340) = true) (by simp; omega)]
  by_cases h : 0 ≤ v3.toInt ∧ v3.toInt ≤ mxA j
  · rw [if_pos (by simpa using h), if_pos h]
  · rw [if_neg (by simpa using h), if_neg h]
theorem set_m {c j : Nat} {v3 : Int32} {w : Wd} (hc : c < 100) (hj : j < 6) : fX12_set (iN c) (iN j) v3 w = if 0 ≤ v3.toInt ∧ v3.toInt ≤ mxA j then some ((si w 148 0 0).1 149 (15 * c + j), si (si w 148 0 0) 149 (15 * c + j) v3) else some (-1, si w 148 0 0) := by
  unfold fX12_set
  have h9 : j = 0 ∨ j = 1 ∨ j = 2 ∨ j = 3 ∨ j = 4 ∨ j = 5 := by omega
  rw [nw_eq, isCell_m, in_eq, Int32.toInt_toInt64, iN_toInt (by omega), iN_toInt (by omega)]
  simp only [Option.bind_some]
  rw [if_pos (by simp; omega), if_pos (c := decide _ = true) (by rw [decide_eq_true_iff]; show (0 : Int) ≤ j ∧ (j : Int) ≤ 5; omega)]
  rcases h9 with rfl | rfl | rfl | rfl | rfl | rfl
  · rw [if_pos (by decide)]; exact set71 hc (by omega) (by decide)
  · rw [if_neg (by decide), if_pos (by decide)]; exact set71 hc (by omega) (by decide)
  · rw [if_neg (by decide), if_neg (by decide), if_pos (by decide)]; exact set71 hc (by omega) (by decide)
  · rw [if_neg (by decide), if_neg (by decide), if_neg (by decide), if_pos (by decide)]; exact set71 hc (by omega) (by decide)
  · rw [if_neg (by decide), if_neg (by decide), if_neg (by decide), if_neg (by decide)]; exact set71 hc (by omega) (by decide)
  · rw [if_neg (by decide), if_neg (by decide), if_neg (by decide), if_neg (by decide)]; exact set71 hc (by omega) (by decide)
theorem set_ok {n : Nat} {wc wm : Wd} {v1 v2 v3 : Int32} (h : YY n wc wm) : ∃ r wc' wm', fX11_set v1 v2 v3 wc = some (r, wc') ∧ fX12_set v1 v2 v3 wm = some (r, wm') ∧ YY n wc' wm' := by
  have h0 := h.thr (x := 0)
  by_cases h1 : 0 ≤ v1.toInt ∧ v1.toInt ≤ 99
  · obtain ⟨c, hc, rfl⟩ := int_cases 99 h1 (by omega)
    by_cases h2 : 0 ≤ v2.toInt ∧ v2.toInt ≤ 5
    · obtain ⟨j, hj, rfl⟩ := int_cases 5 h2 (by omega)
      rw [set_m (by omega) (by omega)]
      unfold fX11_set
      obtain ⟨x, hx1, hx2⟩ := mostOf_eq (w := wc) (show j < 6 by omega)
      rw [row_lt6 (by omega), isCell_c, hx1]
      simp only [Option.bind_some, within_eq, hx2]
      rw [if_pos (by simpa using h1), show (0 : Int32).toInt = 0 from rfl, inb_iN (by omega), if_pos (c := decide (c < 100) = true) (by simp; omega), ri_iN (by omega), wi_iN (by omega)]
      by_cases h3 : 0 ≤ v3.toInt ∧ v3.toInt ≤ mxA j
      · rw [if_pos (by simpa using h3), if_pos h3]
        have hr := h0.1.row (c := c) (j := j) (by omega) (by omega)
        rw [rowA_lt (by omega)] at hr
        have := h0.cell (c := c) (j := j) (x := v3) (by omega) (by omega) (h0.1.2.2.1.put (by omega) (fun g => g.set (by omega) h3) (by omega))
        rw [rowA_lt (by omega)] at this
        exact ⟨_, _, _, rfl, by rw [hr], this⟩
      · rw [if_neg (by simpa using h3), if_neg h3]
        exact ⟨_, _, _, rfl, rfl, h0⟩
    · refine ⟨-1, wc, si wm 148 0 0, ?_, ?_, h0⟩
      · unfold fX11_set
        rw [row_no h2, isCell_c]
        simp only [Option.bind_some]
        split <;> rfl
      · unfold fX12_set
        rw [nw_eq, isCell_m, in_eq, Int32.toInt_toInt64]
        simp only [Option.bind_some]
        rw [if_pos (by simpa using h1), if_neg (by simpa using h2)]
  · refine ⟨-1, wc, si wm 148 0 0, ?_, ?_, h0⟩
    · unfold fX11_set
      rw [isCell_c]
      by_cases h2 : 0 ≤ v2.toInt ∧ v2.toInt ≤ 5
      · obtain ⟨j, hj, rfl⟩ := int_cases 5 h2 (by omega)
        rw [row_lt6 (by omega)]
        simp only [Option.bind_some]
        rw [if_neg (by simpa using h1)]
      · rw [row_no h2]
        simp only [Option.bind_some]
        split <;> rfl
    · unfold fX12_set
      rw [nw_eq, isCell_m]
      simp only [Option.bind_some]
      rw [if_neg (by simpa using h1)]
-- MATHEMATICS: m7
theorem tn128 : (-128 : Int32).toInt = -128 := rfl
theorem tm128 : (-128 : Int64).toInt = -128 := rfl
theorem inb_lt2 {c m : Nat} (h : c < m) (hm : m < 1000000) : inb (iN c) m = true := by
  rw [inb_iN (by omega)]
  exact decide_eq_true h
theorem mg_0 {w : Wd} : fX12_g 0 w = some (w.1 149 4300) := mg_eq (j := 0) (by omega)
theorem mg_1 {w : Wd} : fX12_g 1 w = some (w.1 149 4301) := mg_eq (j := 1) (by omega)
theorem mg_2 {w : Wd} : fX12_g 2 w = some (w.1 149 4302) := mg_eq (j := 2) (by omega)
theorem mg_3 {w : Wd} : fX12_g 3 w = some (w.1 149 4303) := mg_eq (j := 3) (by omega)
theorem mg_4 {w : Wd} : fX12_g 4 w = some (w.1 149 4304) := mg_eq (j := 4) (by omega)
theorem mg_15 {w : Wd} : fX12_g 15 w = some (w.1 149 4315) := mg_eq (j := 15) (by omega)
theorem mg_16 {w : Wd} : fX12_g 16 w = some (w.1 149 4316) := mg_eq (j := 16) (by omega)
theorem mg_17 {w : Wd} : fX12_g 17 w = some (w.1 149 4317) := mg_eq (j := 17) (by omega)
theorem ml_0 {w : Wd} {n : Nat} (hn : n < 8) : fX12_l (iN n) 0 w = some (w.1 149 (3300 + 125 * n)) := ml_eq (j := 0) hn (by omega)
theorem ml_1 {w : Wd} {n : Nat} (hn : n < 8) : fX12_l (iN n) 1 w = some (w.1 149 (3301 + 125 * n)) := by
  have := ml_eq (w := w) (n := n) (j := 1) hn (by omega)
  rwa [show 3300 + 125 * n + 1 = 3301 + 125 * n by omega] at this
theorem ml_2 {w : Wd} {n : Nat} (hn : n < 8) : fX12_l (iN n) 2 w = some (w.1 149 (3302 + 125 * n)) := by
  have := ml_eq (w := w) (n := n) (j := 2) hn (by omega)
  rwa [show 3300 + 125 * n + 2 = 3302 + 125 * n by omega] at this
theorem ml_3 {w : Wd} {n : Nat} (hn : n < 8) : fX12_l (iN n) 3 w = some (w.1 149 (3303 + 125 * n)) := by
  have := ml_eq (w := w) (n := n) (j := 3) hn (by omega)
  rwa [show 3300 + 125 * n + 3 = 3303 + 125 * n by omega] at this
theorem YC.scal {w : Wd} {n j : Nat} {S : Nat → Int32} (h : YC w 0 S n) (hj : j < 18 ∧ j ≠ 14 ∧ j ≠ 17) : w.1 (scA j).1 (scA j).2 = S (4300 + j) := by
  have := h.1 (4300 + j) (by omega) (val_sc (by omega) (by omega) (by omega))
  unfold V at this
  rwa [loc_sc (by omega), Nat.zero_add] at this
theorem YC.hour {w : Wd} {n : Nat} {S : Nat → Int32} (h : YC w 0 S n) : w.1 1 6 = S 4300 := h.scal (j := 0) (by omega)
theorem YC.many {w : Wd} {n : Nat} {S : Nat → Int32} (h : YC w 0 S n) : w.1 1 5 = S 4315 := h.scal (j := 15) (by omega)
theorem YC.told {w : Wd} {n : Nat} {S : Nat → Int32} (h : YC w 0 S n) : w.1 30 0 = S 4316 := h.scal (j := 16) (by omega)
theorem cl_nat {x : Int32} (h : 0 ≤ x.toInt) : (x.toNatClampNeg : Int) = x.toInt := by
  rw [clamp_eq]
  omega
theorem YC.lnH {w : Wd} {n m r : Nat} {S : Nat → Int32} (h : YC w 0 S n) (hm : (m : Int) < (S 4315).toInt) (hr : r < 4) : w.1 (lnA m r).1 (lnA m r).2 = S (3300 + 125 * m + r) := by
  have hm8 := h.2.2.2.2.1.lt hm
  have := h.1 (3300 + 125 * m + r) (by omega) ((val_lnH hm8 hr).mpr (by have := cl_nat h.2.2.2.2.1.1.1; omega))
  unfold V at this
  rwa [loc_lnH hm8 (by omega), Nat.zero_add] at this
theorem YC.len {w : Wd} {n m : Nat} {S : Nat → Int32} (h : YC w 0 S n) (hm : (m : Int) < (S 4315).toInt) : w.1 (36 + 7 * m) 3 = S (3300 + 125 * m) := h.lnH (r := 0) hm (by omega)
theorem YC.width {w : Wd} {n m : Nat} {S : Nat → Int32} (h : YC w 0 S n) (hm : (m : Int) < (S 4315).toInt) : w.1 (36 + 7 * m) 0 = S (3301 + 125 * m) := by
  have := h.lnH (r := 1) hm (by omega)
  rwa [show 3300 + 125 * m + 1 = 3301 + 125 * m by omega] at this
theorem YC.cem {w : Wd} {n m : Nat} {S : Nat → Int32} (h : YC w 0 S n) (hm : (m : Int) < (S 4315).toInt) : w.1 (36 + 7 * m) 1 = S (3302 + 125 * m) := by
  have := h.lnH (r := 2) hm (by omega)
  rwa [show 3300 + 125 * m + 2 = 3302 + 125 * m by omega] at this
theorem YC.gangs {w : Wd} {n m : Nat} {S : Nat → Int32} (h : YC w 0 S n) (hm : (m : Int) < (S 4315).toInt) : w.1 (36 + 7 * m) 2 = S (3303 + 125 * m) := by
  have := h.lnH (r := 3) hm (by omega)
  rwa [show 3300 + 125 * m + 3 = 3303 + 125 * m by omega] at this
theorem YC.lnI {w : Wd} {n m i j : Nat} {S : Nat → Int32} (h : YC w 0 S n) (hm : (m : Int) < (S 4315).toInt) (hi : (i : Int) < (S (3300 + 125 * m)).toInt) (hj : j < 6) : w.1 (37 + 7 * m + j) i = S (3304 + 125 * m + 6 * i + j) := by
  have hm8 := h.2.2.2.2.1.lt hm
  have hl := (h.2.2.2.2.1.2 m hm).1.1
  have hl2 : (S (3300 + 125 * m)).toInt ≤ 19 := hl.2
  have hl1 : 2 ≤ (S (3300 + 125 * m)).toInt := hl.1
  have := h.1 (3304 + 125 * m + 6 * i + j) (by omega) ((val_lnI hm8 (by omega) hj).mpr ⟨by have := cl_nat h.2.2.2.2.1.1.1; omega, by have := cl_nat (x := S (3300 + 125 * m)) (by omega); omega⟩)
  unfold V at this
  rwa [loc_lnI hm8 (by omega) hj, Nat.zero_add] at this
theorem one_I : (1 : Int32).toInt = 1 := rfl
theorem sub1_I {x : Int32} (h : -2147483648 < x.toInt) : (x - 1).toInt = x.toInt - 1 := by
  have := toInt_lt x
  rw [sub_I (by rw [one_I]; omega) (by rw [one_I]; omega), one_I]
theorem isLine_c {w : Wd} {v : Int32} (h : 0 ≤ (w.1 1 5).toInt) : fX11_isLine v w = some (decide (0 ≤ v.toInt ∧ v.toInt < (w.1 1 5).toInt)) := by
  unfold fX11_isLine
  rw [within_eq, sub1_I (by omega), Option.bind_some]
  refine congrArg some (decide_eq_decide.mpr ?_)
  rw [show (0 : Int32).toInt = 0 from rfl]
  omega
theorem isLine_m {w : Wd} {v : Int32} (h : 0 ≤ (w.1 149 4315).toInt) : fX12_isLine v w = some (decide (0 ≤ v.toInt ∧ v.toInt < (w.1 149 4315).toInt)) := by
  unfold fX12_isLine
  rw [mg_15, Option.bind_some, in_eq, Int32.toInt_toInt64, Int32.toInt_toInt64, sub1_I (by omega), Option.bind_some]
  refine congrArg some (decide_eq_decide.mpr ?_)
  rw [show (0 : Int64).toInt = 0 from rfl]
  omega
theorem YY.many0 {n : Nat} {wc wm : Wd} (h : YY n wc wm) : 0 ≤ (wc.1 1 5).toInt ∧ 0 ≤ (wm.1 149 4315).toInt ∧ (wc.1 1 5).toInt ≤ 8 := by
  rw [h.1.many]
  have := h.1.2.2.2.2.1.1
  exact ⟨this.1, this.1, this.2⟩
theorem line_cases {v x : Int32} (h : 0 ≤ v.toInt ∧ v.toInt < x.toInt) (hx : x.toInt ≤ 8) : ∃ m : Nat, m < 8 ∧ v = iN m ∧ (m : Int) < x.toInt := by
  obtain ⟨c, hc, e⟩ := of_range (v := v) 8 h.1 (by omega)
  refine ⟨c, hc, e, ?_⟩
  rw [e, iN_toInt (by omega)] at h
  exact h.2
theorem size_ok {n : Nat} {wc wm : Wd} {v1 : Int32} (h : YY n wc wm) : ∃ r wm', fX11_size v1 wc = some r ∧ fX12_size v1 wm = some (r, wm') ∧ YY n wc wm' := by
  have h0 := h.thr (x := 0)
  obtain ⟨m1, m2, m3⟩ := h0.many0
  unfold fX11_size fX12_size
  rw [nw_eq, isLine_c m1, isLine_m m2, h0.1.many]
  simp only [nw_eq, Option.bind_some, isCell_c, isCell_m, isTape_c, isTape_m, within_eq, in_eq, Int32.toInt_toInt64, decide_eq_true_eq, Int32.reduceToInt, Int64.reduceToInt, tn128, tm128]
  by_cases h1 : 0 ≤ v1.toInt ∧ v1.toInt < ((si wm 148 0 0).1 149 4315).toInt
  · rw [if_pos h1, if_pos h1]
    obtain ⟨m, hm, rfl, hm2⟩ := line_cases h1 (by rw [← h0.1.many]; exact m3)
    rw [ml_0 hm, inb_lt2 hm (by omega), iN_clamp (by omega), if_pos rfl]
    simp only [nw_eq, Option.bind_some, isCell_c, isCell_m, isTape_c, isTape_m, within_eq, in_eq, Int32.toInt_toInt64, decide_eq_true_eq, Int32.reduceToInt, Int64.reduceToInt, tn128, tm128]
    exact ⟨_, _, rfl, by rw [h0.1.len hm2], h0⟩
  · rw [if_neg h1, if_neg h1]
    exact ⟨_, _, rfl, rfl, h0⟩
theorem way_ok {n : Nat} {wc wm : Wd} {v1 : Int32} (h : YY n wc wm) : ∃ r wm', fX11_way v1 wc = some r ∧ fX12_way v1 wm = some (r, wm') ∧ YY n wc wm' := by
  have h0 := h.thr (x := 0)
  obtain ⟨o1, o2, o3, -⟩ := h0.2.2.2.2.1
  have hb : 0 ≤ ((si wm 148 0 0).1 148 6).toInt ∧ ((si wm 148 0 0).1 148 6).toInt ≤ 19 := by
    rcases o2 with e | e
    · rw [e]
      decide
    · have := e.1
      exact ⟨by omega, e.2⟩
  unfold fX11_way fX12_way
  rw [nw_eq, o1]
  simp only [nw_eq, Option.bind_some, isCell_c, isCell_m, isTape_c, isTape_m, within_eq, in_eq, Int32.toInt_toInt64, decide_eq_true_eq, Int32.reduceToInt, Int64.reduceToInt, tn128, tm128, sub1_I (x := (si wm 148 0 0).1 148 6) (by omega)]
  by_cases h1 : 0 ≤ v1.toInt ∧ v1.toInt ≤ ((si wm 148 0 0).1 148 6).toInt - 1
  · rw [if_pos h1, if_pos h1]
    obtain ⟨c, hc, rfl⟩ := of_range (v := v1) 19 h1.1 (by omega)
    rw [iN_toInt (by omega)] at h1
    rw [inb_lt2 hc (by omega), ri_iN (by omega), ri_iN (by omega), if_pos rfl, if_pos rfl]
    exact ⟨_, _, rfl, by rw [(o3 c (by omega)).2.1], h0⟩
  · rw [if_neg h1, if_neg h1]
    exact ⟨_, _, rfl, rfl, h0⟩
theorem YY.scal {n j : Nat} {wc wm : Wd} {x : Int32} (h : YY n wc wm) (hj : (2 ≤ j ∧ j ≤ 4)) (hG : IG (upd (wm.1 149) (4300 + j) x)) : YY n (si wc (scA j).1 (scA j).2 x) (si wm 149 (4300 + j) x) := by
  have hr : 1 ≤ (scA j).1 ∧ (scA j).1 ≤ 14 := by
    have h9 : j = 2 ∨ j = 3 ∨ j = 4 := by omega
    rcases h9 with rfl | rfl | rfl <;> decide
  refine h.city ?_ (fun a h1 _ => ⟨si_oth (by omega), rfl⟩) (fun a h1 _ _ _ _ => si_oth h1) rfl (fun j _ _ => by rw [si_oth (by omega)])
  obtain ⟨i1, i2, i3, i4, i5⟩ := h.1.2.2
  have := h.1.put (k0 := 4300 + j) (o := (scA j).1) (i := (scA j).2) (x := x) (loc_sc (by omega)) ⟨by omega, fun c _ => by omega, fun m _ => ⟨by omega, fun i _ => by omega⟩, by omega, by omega⟩
    ⟨i1.cong (fun c j _ _ => upd_ne (by omega)), i2.cong (fun k _ _ => upd_ne (by omega)) (upd_ne (by omega)), i3.cong (fun k _ _ => upd_ne (by omega)) (upd_ne (by omega)) (upd_ne (by omega)), hG, i5.cong (fun c j _ _ _ => upd_ne (by omega)) (fun k _ _ => upd_ne (by omega)) (upd_ne (by omega))⟩
  rw [Nat.zero_add] at this
  rw [si_row]
  exact this
theorem IG.put {S : Nat → Int32} {j : Nat} {x : Int32} (h : IG S) (hj : 2 ≤ j ∧ j ≤ 4) (hx : (j = 2 → bt 0 9999 x) ∧ (j = 3 → bt 0 200 x) ∧ (j = 4 → ∃ b, b < 100 ∧ x = iN b)) : IG (upd S (4300 + j) x) := by
  obtain ⟨g0, g2, g3, g4, g16, g14⟩ := h
  have e : ∀ c, upd S (4300 + j) x (15 * c + 14) = if 15 * c + 14 = 4300 + j then x else S (15 * c + 14) := fun c => rfl
  have es : sumN (fun c => upd S (4300 + j) x (15 * c + 14)) 100 = sumN (fun c => S (15 * c + 14)) 100 := sumN_cong 100 (fun c hc => upd_ne (by omega))
  have h9 : j = 2 ∨ j = 3 ∨ j = 4 := by omega
  unfold IG
  rw [es, upd_ne (show 4300 ≠ 4300 + j by omega), upd_ne (show 4316 ≠ 4300 + j by omega), upd_ne (show 4314 ≠ 4300 + j by omega)]
  rcases h9 with rfl | rfl | rfl
  · exact ⟨g0, hx.1 rfl, g3, g4, g16, g14⟩
  · exact ⟨g0, g2, hx.2.1 rfl, g4, g16, g14⟩
  · exact ⟨g0, g2, g3, hx.2.2 rfl, g16, g14⟩
theorem wi_lit {w : Wd} {a k : Nat} {x : Int32} (hk : (OfNat.ofNat k : Nat) < 100000) : wi w a (OfNat.ofNat k : Int32) x = si w a (OfNat.ofNat k : Nat) x := wi_iN (n := (OfNat.ofNat k : Nat)) (by omega)
theorem kiln_ok {n : Nat} {wc wm : Wd} {v1 : Int32} (h : YY n wc wm) : ∃ r wc' wm', fX11_kiln v1 wc = some (r, wc') ∧ fX12_kiln v1 wm = some (r, wm') ∧ YY n wc' wm' := by
  have h0 := h.thr (x := 0)
  unfold fX11_kiln fX12_kiln
  simp only [nw_eq, Option.bind_some, isCell_c, isCell_m, isTape_c, isTape_m, within_eq, in_eq, Int32.toInt_toInt64, decide_eq_true_eq, Int32.reduceToInt, Int64.reduceToInt, tn128, tm128, mg_2]
  by_cases h1 : 0 ≤ v1.toInt ∧ v1.toInt ≤ 9999
  · rw [if_pos h1, if_pos h1, wi_lit (by omega)]
    exact ⟨_, _, _, rfl, by rw [show wc.1 1 8 = _ from h0.1.scal (j := 2) (by omega)], h0.scal (j := 2) (by omega) (h0.1.2.2.2.2.2.1.put (by omega) ⟨fun _ => h1, by omega, by omega⟩)⟩
  · rw [if_neg h1, if_neg h1]
    exact ⟨_, _, _, rfl, rfl, h0⟩
theorem rain_ok {n : Nat} {wc wm : Wd} {v1 : Int32} (h : YY n wc wm) : ∃ r wc' wm', fX11_rain v1 wc = some (r, wc') ∧ fX12_rain v1 wm = some (r, wm') ∧ YY n wc' wm' := by
  have h0 := h.thr (x := 0)
  unfold fX11_rain fX12_rain
  simp only [nw_eq, Option.bind_some, isCell_c, isCell_m, isTape_c, isTape_m, within_eq, in_eq, Int32.toInt_toInt64, decide_eq_true_eq, Int32.reduceToInt, Int64.reduceToInt, tn128, tm128, mg_3]
  by_cases h1 : 0 ≤ v1.toInt ∧ v1.toInt ≤ 200
  · rw [if_pos h1, if_pos h1, wi_lit (by omega)]
    exact ⟨_, _, _, rfl, by rw [show wc.1 14 4 = _ from h0.1.scal (j := 3) (by omega)], h0.scal (j := 3) (by omega) (h0.1.2.2.2.2.2.1.put (by omega) ⟨by omega, fun _ => h1, by omega⟩)⟩
  · rw [if_neg h1, if_neg h1]
    exact ⟨_, _, _, rfl, rfl, h0⟩
theorem bridge_ok {n : Nat} {wc wm : Wd} {v1 : Int32} (h : YY n wc wm) : ∃ r wc' wm', fX11_bridge v1 wc = some (r, wc') ∧ fX12_bridge v1 wm = some (r, wm') ∧ YY n wc' wm' := by
  have h0 := h.thr (x := 0)
  unfold fX11_bridge fX12_bridge
  simp only [nw_eq, Option.bind_some, isCell_c, isCell_m, isTape_c, isTape_m, within_eq, in_eq, Int32.toInt_toInt64, decide_eq_true_eq, Int32.reduceToInt, Int64.reduceToInt, tn128, tm128, mg_4]
  by_cases h1 : 0 ≤ v1.toInt ∧ v1.toInt ≤ 99
  · rw [if_pos h1, if_pos h1, wi_lit (by omega)]
    obtain ⟨b, hb, e⟩ := int_cases 99 h1 (by omega)
    exact ⟨_, _, _, rfl, by rw [show wc.1 1 9 = _ from h0.1.scal (j := 4) (by omega)], h0.scal (j := 4) (by omega) (h0.1.2.2.2.2.2.1.put (by omega) ⟨by omega, by omega, fun _ => ⟨b, by omega, e⟩⟩)⟩
  · rw [if_neg h1, if_neg h1]
    exact ⟨_, _, _, rfl, rfl, h0⟩
-- MATHEMATICS: m8
theorem div_I {a b : Int32} (ha : 0 ≤ a.toInt) (hb : 0 < b.toInt) : (a / b).toInt = a.toInt / b.toInt := by
  have h1 := toInt_lt a
  have h2 : a.toInt.tdiv b.toInt = a.toInt / b.toInt := Int.tdiv_eq_ediv_of_nonneg ha
  have h3 : 0 ≤ a.toInt / b.toInt := Int.ediv_nonneg ha (by omega)
  have h4 : a.toInt / b.toInt ≤ a.toInt := Int.ediv_le_self _ ha
  rw [Int32.toInt_div, h2]
  exact Int.bmod_eq_of_le (by omega) (by omega)
theorem div_iN {a b : Nat} (ha : a < 2147483648) (hb : b < 2147483648) (h0 : 0 < b) : iN a / iN b = iN (a / b) := by
  have h1 : a / b ≤ a := Nat.div_le_self _ _
  rw [eq_I, div_I (by rw [iN_toInt ha]; omega) (by rw [iN_toInt hb]; omega), iN_toInt ha, iN_toInt hb, iN_toInt (by omega)]
  exact (Int.natCast_ediv a b).symm
theorem div10 {c : Nat} (hc : c < 100000) : iN c / (10 : Int32) = iN (c / 10) := div_iN (b := 10) (by omega) (by omega) (by omega)
theorem jrm10 {c : Nat} (hc : c < 100000) : jrm (iN c) (10 : Int32) = iN (c % 10) := by
  unfold jrm
  rw [div10 hc, mul_lit, iN_sub (by omega)]
  congr 1
  omega
def ds (a b : Nat) : Nat := if a < b then b - a else a - b
def nr (a b : Nat) : Nat := ds (a % 10) (b % 10) + ds (a / 10) (b / 10)
theorem off_eq {a b : Nat} {w : Wd} (ha : a < 100000) (hb : b < 100000) : fX12_off (iN a) (iN b) w = some (iN (ds a b)) := by
  unfold fX12_off ds
  by_cases h : a < b
  · rw [if_pos ((iN_lt (by omega) (by omega)).mpr h), if_pos h, iN_sub (by omega)]
  · rw [if_neg (fun q => h ((iN_lt (by omega) (by omega)).mp q)), if_neg h, iN_sub (by omega)]
theorem mabs_eq {a b : Nat} (ha : a < 100000) (hb : b < 100000) : mabs (iN a - iN b) = iN (ds a b) := by
  unfold mabs ds
  have h1 : (iN a - iN b).toInt = (a : Int) - b := by
    rw [sub_I (by rw [iN_toInt (by omega), iN_toInt (by omega)]; omega) (by rw [iN_toInt (by omega), iN_toInt (by omega)]; omega), iN_toInt (by omega), iN_toInt (by omega)]
  by_cases h : a < b
  · rw [if_neg (by rw [le_I, h1, show (0 : Int32).toInt = 0 from rfl]; omega), if_pos h]
    rw [eq_I, sub_I (by rw [h1, show (0 : Int32).toInt = 0 from rfl]; omega) (by rw [h1, show (0 : Int32).toInt = 0 from rfl]; omega), h1, show (0 : Int32).toInt = 0 from rfl, iN_toInt (by omega)]
    omega
  · rw [if_pos (by rw [le_I, h1, show (0 : Int32).toInt = 0 from rfl]; omega), if_neg h, iN_sub (by omega)]
theorem near_m {a b : Nat} {w : Wd} (ha : a < 100) (hb : b < 100) : fX12_near (iN a) (iN b) w = some (iN (nr a b)) := by
  unfold fX12_near
  rw [jrm10 (by omega), jrm10 (by omega), div10 (by omega), div10 (by omega), off_eq (by omega) (by omega), Option.bind_some, off_eq (by omega) (by omega), Option.bind_some, iN_add]
  rfl
theorem near_c {a b : Nat} {w : Wd} (ha : a < 100) (hb : b < 100) : fX11_near (iN a) (iN b) w = some (iN (nr a b)) := by
  unfold fX11_near
  rw [jrm10 (by omega), jrm10 (by omega), div10 (by omega), div10 (by omega), mabs_eq (by omega) (by omega), mabs_eq (by omega) (by omega), iN_add]
  rfl
theorem nr_lt {a b : Nat} (ha : a < 100) (hb : b < 100) : nr a b ≤ 18 := by
  unfold nr ds
  split <;> split <;> omega
theorem nr_adj {a b : Nat} (ha : a < 100) (hb : b < 100) : nr a b = 1 ↔ adj a b := by
  unfold nr ds adj
  split <;> split <;> omega
def downOk (c : Nat) (v : Int32) : Prop := v = -1 ∨ ∃ d, d < 100 ∧ v = iN d ∧ adj c d
theorem neg1_I : (-1 : Int32).toInt = -1 := rfl
theorem iN_ne1 {d : Nat} (hd : d < 100000) : ¬ iN d = -1 := by
  rw [eq_I, iN_toInt (by omega), neg1_I]
  omega
theorem isDown_c {c : Nat} {v : Int32} {w : Wd} (hc : c < 100) : (downOk c v ∧ fX11_isDown (iN c) v w = some true) ∨ (¬ downOk c v ∧ fX11_isDown (iN c) v w = some false) := by
  unfold fX11_isDown
  by_cases h1 : v = -1
  · rw [if_pos h1]
    exact Or.inl ⟨Or.inl h1, rfl⟩
  rw [if_neg h1]
  simp only [nw_eq, Option.bind_some, isCell_c, isCell_m, isTape_c, isTape_m, within_eq, in_eq, Int32.toInt_toInt64, decide_eq_true_eq, Int32.reduceToInt, Int64.reduceToInt, tn128, tm128]
  by_cases h2 : 0 ≤ v.toInt ∧ v.toInt ≤ 99
  · rw [if_pos h2]
    obtain ⟨d, hd, rfl⟩ := int_cases 99 h2 (by omega)
    rw [near_c hc (by omega)]
    simp only [nw_eq, Option.bind_some, isCell_c, isCell_m, isTape_c, isTape_m, within_eq, in_eq, Int32.toInt_toInt64, decide_eq_true_eq, Int32.reduceToInt, Int64.reduceToInt, tn128, tm128]
    by_cases h3 : nr c d = 1
    · rw [if_pos (by rw [h3]; rfl)]
      exact Or.inl ⟨Or.inr ⟨d, by omega, rfl, (nr_adj hc (by omega)).mp h3⟩, rfl⟩
    · have := nr_lt hc (show d < 100 by omega)
      rw [if_neg (show ¬ iN (nr c d) = 1 from fun e => h3 ((iN_inj (b := 1) (by omega) (by omega)).mp e))]
      refine Or.inr ⟨?_, rfl⟩
      rintro (e | ⟨d', a1, a2, a3⟩)
      · exact h1 e
      · rw [(iN_inj (by omega) (by omega)).mp a2] at h3
        exact h3 ((nr_adj hc a1).mpr a3)
  · rw [if_neg h2]
    refine Or.inr ⟨?_, rfl⟩
    rintro (e | ⟨d', a1, rfl, a3⟩)
    · exact h1 e
    · exact h2 (by rw [iN_toInt (by omega)]; omega)
theorem isDown_m {α : Type} {c : Nat} {v : Int32} {w : Wd} {A B : Option α} (hc : c < 100) : (downOk c v → (if v = (-1 : Int32) then A else (fX12_isBeside (iN c) v w).bind fun b => if b = true then A else B) = A) ∧ (¬ downOk c v → (if v = (-1 : Int32) then A else (fX12_isBeside (iN c) v w).bind fun b => if b = true then A else B) = B) := by
  unfold fX12_isBeside
  by_cases h1 : v = -1
  · rw [if_pos h1]
    exact ⟨fun _ => rfl, fun h => absurd (Or.inl h1) h⟩
  rw [if_neg h1]
  simp only [nw_eq, Option.bind_some, isCell_c, isCell_m, isTape_c, isTape_m, within_eq, in_eq, Int32.toInt_toInt64, decide_eq_true_eq, Int32.reduceToInt, Int64.reduceToInt, tn128, tm128]
  by_cases h2 : 0 ≤ v.toInt ∧ v.toInt ≤ 99
  · rw [if_pos h2]
    obtain ⟨d, hd, rfl⟩ := int_cases 99 h2 (by omega)
    rw [near_m hc (by omega)]
    simp only [nw_eq, Option.bind_some, isCell_c, isCell_m, isTape_c, isTape_m, within_eq, in_eq, Int32.toInt_toInt64, decide_eq_true_eq, Int32.reduceToInt, Int64.reduceToInt, tn128, tm128]
    have hl := nr_lt hc (show d < 100 by omega)
    by_cases h3 : nr c d = 1
    · rw [if_pos (show iN (nr c d) = 1 by rw [h3]; rfl)]
      exact ⟨fun _ => rfl, fun h => absurd (Or.inr ⟨d, by omega, rfl, (nr_adj hc (by omega)).mp h3⟩) h⟩
    · rw [if_neg (show ¬ iN (nr c d) = 1 from fun e => h3 ((iN_inj (b := 1) (by omega) (by omega)).mp e))]
      refine ⟨?_, fun _ => rfl⟩
      rintro (e | ⟨d', a1, a2, a3⟩)
      · exact absurd e h1
      · rw [(iN_inj (by omega) (by omega)).mp a2] at h3
        exact absurd ((nr_adj hc a1).mpr a3) h3
  · rw [if_neg h2]
    refine ⟨?_, fun _ => rfl⟩
    rintro (e | ⟨d', a1, rfl, a3⟩)
    · exact absurd e h1
    · exact absurd (by rw [iN_toInt (by omega)]; omega) h2
theorem cellA.put6 {c : Nat} {g : Nat → Int32} {x y z : Int32} (h : cellA c g) (h1 : dn c x) (h2 : bt 0 300 y) (h3 : bt 0 9 z) : cellA c (upd (upd (upd g 6 x) 7 y) 8 z) := by
  obtain ⟨h0, -, -, -, h4⟩ := h
  exact ⟨h0, h1, h2, h3, h4⟩
theorem IA.putc {S S' : Nat → Int32} {c : Nat} (h : IA S) (hx : cellA c (fun k => S (15 * c + k)) → cellA c (fun k => S' (15 * c + k))) (e : ∀ c' j, c' < 100 → ¬ c' = c → j < 15 → S' (15 * c' + j) = S (15 * c' + j)) : IA S' := by
  intro c' hc'
  have h1 : cellA c' (fun k => S (15 * c' + k)) := h c' hc'
  show cellA c' (fun k => S' (15 * c' + k))
  by_cases e2 : c' = c
  · subst e2
    exact hx h1
  · exact h1.cong (fun k hk => e c' k hc' e2 hk)
theorem cellA.p6 {c : Nat} {g : Nat → Int32} {x : Int32} (h : cellA c g) (h1 : dn c x) : cellA c (upd g 6 x) := ⟨h.1, h1, h.2.2⟩
theorem cellA.p7 {c : Nat} {g : Nat → Int32} {x : Int32} (h : cellA c g) (h1 : bt 0 300 x) : cellA c (upd g 7 x) := ⟨h.1, h.2.1, h1, h.2.2.2⟩
theorem cellA.p8 {c : Nat} {g : Nat → Int32} {x : Int32} (h : cellA c g) (h1 : bt 0 9 x) : cellA c (upd g 8 x) := ⟨h.1, h.2.1, h.2.2.1, h1, h.2.2.2.2⟩
theorem YY.cellp {n c j : Nat} {wc wm : Wd} {x : Int32} (h : YY n wc wm) (hc : c < 100) (hj : j < 9 ∨ j = 13) (hA : ∀ g, cellA c g → cellA c (upd g j x)) : YY n (si wc (rowA j) c x) (si wm 149 (15 * c + j) x) := h.cell hc hj (h.1.2.2.1.put hc (fun g => hA _ g) (by omega))
theorem old_ok {n : Nat} {wc wm : Wd} {v1 v2 v3 v4 : Int32} (h : YY n wc wm) : ∃ r wc' wm', fX11_old v1 v2 v3 v4 wc = some (r, wc') ∧ fX12_old v1 v2 v3 v4 wm = some (r, wm') ∧ YY n wc' wm' := by
  have h0 := h.thr (x := 0)
  unfold fX11_old fX12_old fX12_old_25
  simp only [nw_eq, Option.bind_some, isCell_c, isCell_m, isTape_c, isTape_m, within_eq, in_eq, Int32.toInt_toInt64, decide_eq_true_eq, Int32.reduceToInt, Int64.reduceToInt, tn128, tm128]
  by_cases h1 : 0 ≤ v1.toInt ∧ v1.toInt ≤ 99
  · rw [if_pos h1, if_pos h1]
    obtain ⟨c, hc, rfl⟩ := int_cases 99 h1 (by omega)
    have hc : c < 100 := by omega
    rcases isDown_c (v := v2) (w := wc) hc with ⟨d1, d2⟩ | ⟨d1, d2⟩
    · rw [d2, (isDown_m (w := si wm 148 0 0) hc).1 d1]
      simp only [nw_eq, Option.bind_some, isCell_c, isCell_m, isTape_c, isTape_m, within_eq, in_eq, Int32.toInt_toInt64, decide_eq_true_eq, Int32.reduceToInt, Int64.reduceToInt, tn128, tm128]
      rw [if_pos trivial]
      by_cases h3 : 0 ≤ v3.toInt ∧ v3.toInt ≤ 300
      · rw [if_pos h3, if_pos h3]
        by_cases h4 : 0 ≤ v4.toInt ∧ v4.toInt ≤ 9
        · rw [if_pos h4, if_pos h4, lit_mul, add_lit, add_lit, add_lit, inb_lt2 hc (by omega), inb_lt2 (by omega) (by omega), inb_lt2 (by omega) (by omega), inb_lt2 (by omega) (by omega)]
          simp only [if_true, wi_iN (show c < 2147483648 by omega)]
          rw [wi_iN (by omega), wi_iN (by omega), wi_iN (by omega)]
          have y1 := h0.cellp (x := v2) hc (j := 6) (by omega) (fun g hg => hg.p6 d1)
          have y2 := y1.cellp (x := v3) hc (j := 7) (by omega) (fun g hg => hg.p7 h3)
          have y3 := y2.cellp (x := v4) hc (j := 8) (by omega) (fun g hg => hg.p8 h4)
          exact ⟨_, _, _, rfl, rfl, y3⟩
        · rw [if_neg h4, if_neg h4]
          exact ⟨_, _, _, rfl, rfl, h0⟩
      · rw [if_neg h3, if_neg h3]
        exact ⟨_, _, _, rfl, rfl, h0⟩
    · rw [d2, (isDown_m (w := si wm 148 0 0) hc).2 d1]
      simp only [nw_eq, Option.bind_some, isCell_c, isCell_m, isTape_c, isTape_m, within_eq, in_eq, Int32.toInt_toInt64, decide_eq_true_eq, Int32.reduceToInt, Int64.reduceToInt, tn128, tm128]
      simp only [Bool.false_eq_true, if_false]
      exact ⟨_, _, _, rfl, rfl, h0⟩
  · rw [if_neg h1, if_neg h1]
    exact ⟨_, _, _, rfl, rfl, h0⟩
-- MATHEMATICS: m9
theorem YC.tel {w : Wd} {n t j : Nat} {S : Nat → Int32} (h : YC w 0 S n) (ht : (t : Int) < (S 4316).toInt) (hj : j < 4) : w.1 (31 + j) t = S (2500 + 4 * t + j) := by
  have hb := h.2.2.2.2.2.1.2.2.2.2.1
  have h1 : (S 4316).toInt ≤ 200 := hb.2
  have := h.1 (2500 + 4 * t + j) (by omega) ((val_tel (by omega) hj).mpr (by have := cl_nat hb.1; omega))
  unfold V at this
  rwa [loc_tel (by omega) hj, Nat.zero_add] at this
def lastT (S : Nat → Int32) (c a : Int32) : Nat → Option Nat
  | 0 => none
  | t + 1 => if S (2500 + 4 * t) = c ∧ ¬ a < S (2503 + 4 * t) then some t else lastT S c a t
theorem lastT_lt {S : Nat → Int32} {c a : Int32} : ∀ {t k : Nat}, lastT S c a t = some k → k < t
  | 0, k, h => by cases h
  | t + 1, k, h => by
    unfold lastT at h
    split at h
    · cases h
      exact Nat.lt_succ_self _
    · exact Nat.lt_succ_of_lt (lastT_lt h)
def enc1 (o : Option Nat) : Int32 := match o with
  | none => -1
  | some k => iN k
def encM (o : Option Nat) : Int32 := match o with
  | none => -1
  | some k => iN (2500 + 4 * k)
theorem add_neg1 (x : Int32) : x + (-1 : Int32) = x - 1 := (Int32.sub_eq_add_neg x 1).symm
theorem iN_s1 (t : Nat) : iN (t + 1) - 1 = iN t := by
  have := iN_sub (a := t + 1) (b := 1) (by omega)
  rwa [Nat.add_sub_cancel] at this
theorem latest_loop {w : Wd} {n : Nat} {S : Nat → Int32} (h : YC w 0 S n) {c a : Int32} : ∀ (t fuel : Nat), (t : Int) ≤ (S 4316).toInt → t < fuel → fX6_latest_7 w fuel c a (iN t - 1) = some (enc1 (lastT S c a t))
  | 0, fuel + 1, _, _ => by
    unfold fX6_latest_7
    rw [if_pos (by decide)]
    rfl
  | t + 1, fuel + 1, ht, hf => by
    have h1 : (S 4316).toInt ≤ 200 := h.2.2.2.2.2.1.2.2.2.2.1.2
    have e1 := h.tel (t := t) (j := 0) (by omega) (by omega)
    have e2 := h.tel (t := t) (j := 3) (by omega) (by omega)
    have ih := latest_loop h (c := c) (a := a) t fuel (by omega) (by omega)
    unfold fX6_latest_7
    rw [iN_s1, if_neg (iN_nneg (by omega)), inb_lt2 (by omega) (by omega), if_pos rfl, ri_iN (by omega), ri_iN (by omega), show w.1 31 t = _ from e1, show w.1 34 t = _ from e2, add_neg1, ih]
    rw [show lastT S c a (t + 1) = if S (2500 + 4 * t) = c ∧ ¬ a < S (2503 + 4 * t) then some t else lastT S c a t from rfl]
    rw [show 2500 + 4 * t + 0 = 2500 + 4 * t from rfl, show 2500 + 4 * t + 3 = 2503 + 4 * t by omega]
    by_cases c1 : S (2500 + 4 * t) = c
    · rw [if_pos c1]
      by_cases c2 : a < S (2503 + 4 * t)
      · rw [if_pos c2, if_neg (fun q => q.2 c2)]
      · rw [if_neg c2, if_pos ⟨c1, c2⟩]
        rfl
    · rw [if_neg c1, if_neg (fun q => c1 q.1)]
theorem latest_c {w : Wd} {n : Nat} {S : Nat → Int32} (h : YC w 0 S n) {c a : Int32} : fX6_latest c a w = some (enc1 (lastT S c a (S 4316).toNatClampNeg)) := by
  have h1 := h.2.2.2.2.2.1.2.2.2.2.1
  have h2 : (S 4316).toInt ≤ 200 := h1.2
  have h3 := cl_nat h1.1
  unfold fX6_latest
  rw [h.told]
  have e : S 4316 = iN (S 4316).toNatClampNeg := by rw [eq_I, iN_toInt (by omega)]; exact h3.symm
  have := latest_loop h (c := c) (a := a) (S 4316).toNatClampNeg FU (by omega) (by unfold FU; omega)
  rwa [← e] at this
theorem telling_loop {w : Wd} {c a : Int32} {T : Nat} (hT : w.1 149 4316 = iN T) (hT2 : T ≤ 200) : ∀ (m t fuel : Nat), t + m = T → m < fuel → fX12_telling_5 w fuel c a (encM (lastT (w.1 149) c a t)) (iN t) = some (encM (lastT (w.1 149) c a T))
  | 0, t, fuel + 1, ht, _ => by
    unfold fX12_telling_5
    rw [mg_16, Option.bind_some, hT, if_neg (by rw [iN_lt (by omega) (by omega)]; omega), show t = T by omega]
  | m + 1, t, fuel + 1, ht, hf => by
    have ih := telling_loop (c := c) (a := a) hT hT2 m (t + 1) fuel (by omega) (by omega)
    unfold fX12_telling_5
    rw [mg_16, Option.bind_some, hT, if_pos ((iN_lt (by omega) (by omega)).mpr (by omega)), lit_mul, lit_add, add_lit, add_lit, inb_lt2 (by omega) (by omega), inb_lt2 (by omega) (by omega), if_pos rfl, if_pos rfl, ri_iN (by omega), ri_iN (by omega)]
    rw [show lastT (w.1 149) c a (t + 1) = if w.1 149 (2500 + 4 * t) = c ∧ ¬ a < w.1 149 (2503 + 4 * t) then some t else lastT (w.1 149) c a t from rfl] at ih
    rw [show 2500 + 4 * t + 3 = 2503 + 4 * t by omega]
    by_cases c1 : w.1 149 (2500 + 4 * t) = c
    · rw [if_pos c1]
      by_cases c2 : a < w.1 149 (2503 + 4 * t)
      · rw [if_neg (fun q => q.2 c2)] at ih
        rw [if_pos c2]
        exact ih
      · rw [if_pos ⟨c1, c2⟩] at ih
        rw [if_neg c2]
        exact ih
    · rw [if_neg (fun q => c1 q.1)] at ih
      rw [if_neg c1]
      exact ih
theorem telling_m {w : Wd} {c a : Int32} (h : bt 0 200 (w.1 149 4316)) : fX12_telling c a w = some (encM (lastT (w.1 149) c a (w.1 149 4316).toNatClampNeg)) := by
  have h2 : (w.1 149 4316).toInt ≤ 200 := h.2
  have h3 := cl_nat h.1
  have e : w.1 149 4316 = iN (w.1 149 4316).toNatClampNeg := by rw [eq_I, iN_toInt (by omega)]; exact h3.symm
  exact telling_loop e (by omega) (w.1 149 4316).toNatClampNeg 0 FU (by omega) (by unfold FU; omega)
theorem lastT_none {S : Nat → Int32} {c a : Int32} {T : Nat} (h : lastT S c a T = none) : enc1 (lastT S c a T) = -1 ∧ encM (lastT S c a T) = -1 := by
  rw [h]
  exact ⟨rfl, rfl⟩
theorem enc1_some {k : Nat} (hk : k < 200) : ¬ enc1 (some k) < 0 ∧ ¬ encM (some k) = -1 := ⟨iN_nneg (by omega), iN_ne1 (by omega)⟩
theorem mapOf_ok {n : Nat} {wc wm : Wd} {v1 v2 v3 : Int32} (h : YY n wc wm) : ∃ r wm', fX11_mapOf v1 v2 v3 wc = some r ∧ fX12_mapOf v1 v2 v3 wm = some (r, wm') ∧ YY n wc wm' := by
  have h0 := h.thr (x := 0)
  have hT := h0.1.2.2.2.2.2.1.2.2.2.2.1
  unfold fX11_mapOf fX12_mapOf
  rw [nw_eq, telling_m hT, latest_c h0.1]
  simp only [nw_eq, Option.bind_some, isCell_c, isCell_m, isTape_c, isTape_m, within_eq, in_eq, Int32.toInt_toInt64, decide_eq_true_eq, Int32.reduceToInt, Int64.reduceToInt, tn128, tm128]
  by_cases h1 : 0 ≤ v1.toInt ∧ v1.toInt ≤ 99
  · rw [if_pos h1, if_pos h1]
    by_cases h2 : 0 ≤ v2.toInt ∧ v2.toInt ≤ 1
    · rw [if_pos h2, if_pos h2]
      obtain ⟨j, hj, rfl⟩ := int_cases 1 h2 (by omega)
      by_cases h3 : 0 ≤ v3.toInt ∧ v3.toInt ≤ 4999
      · rw [if_pos h3, if_pos h3]
        cases hl : lastT ((si wm 148 0 0).1 149) v1 v3 ((si wm 148 0 0).1 149 4316).toNatClampNeg with
        | none =>
          rw [if_pos (by decide), if_pos (by decide)]
          exact ⟨_, _, rfl, rfl, h0⟩
        | some k =>
          have hk := lastT_lt hl
          have hT2 : ((si wm 148 0 0).1 149 4316).toInt ≤ 200 := hT.2
          have hT3 := cl_nat hT.1
          rw [if_neg (enc1_some (by omega)).1, if_neg (enc1_some (by omega)).2]
          unfold enc1 encM
          simp only []
          rw [add_lit, iN_add, inb_lt2 (c := k) (by omega) (by omega), inb_lt2 (by omega) (by omega), if_pos rfl, if_pos rfl, ri_iN (by omega), ri_iN (by omega), ri_iN (by omega)]
          have e := h0.1.tel (t := k) (j := 1 + j) (by omega) (by omega)
          have hj2 : j = 0 ∨ j = 1 := by omega
          rcases hj2 with rfl | rfl
          · rw [if_pos (by decide)]
            refine ⟨_, _, rfl, ?_, h0⟩
            rw [show wc.1 32 k = _ from e]
            rfl
          · rw [if_neg (by decide)]
            refine ⟨_, _, rfl, ?_, h0⟩
            rw [show wc.1 33 k = _ from e]
            rfl
      · rw [if_neg h3, if_neg h3]
        exact ⟨_, _, rfl, rfl, h0⟩
    · rw [if_neg h2, if_neg h2]
      exact ⟨_, _, rfl, rfl, h0⟩
  · rw [if_neg h1, if_neg h1]
    exact ⟨_, _, rfl, rfl, h0⟩
-- MATHEMATICS: m10
theorem si_at {w : Wd} {a i : Nat} {x : Int32} : (si w a i x).1 a i = x := by rw [si_1, if_pos ⟨rfl, rfl⟩]
theorem V_note {w : Wd} {T k : Nat} (hT : T < 200) (hk : k < 4340) (a b c d e : Int32) : V (si (si (si (si (si w 31 T a) 32 T b) 33 T c) 34 T d) 30 0 e) 0 k = upd (upd (upd (upd (upd (V w 0) (2500 + 4 * T) a) (2501 + 4 * T) b) (2502 + 4 * T) c) (2503 + 4 * T) d) 4316 e k := by
  rw [V_si0 (k0 := 4316) (by decide) (by omega) hk]
  have l0 := loc_tel (t := T) (j := 0) hT (by omega)
  have l1 := loc_tel (t := T) (j := 1) hT (by omega)
  have l2 := loc_tel (t := T) (j := 2) hT (by omega)
  have l3 := loc_tel (t := T) (j := 3) hT (by omega)
  rw [show 2500 + 4 * T + 1 = 2501 + 4 * T by omega] at l1
  rw [show 2500 + 4 * T + 2 = 2502 + 4 * T by omega] at l2
  rw [show 2500 + 4 * T + 3 = 2503 + 4 * T by omega] at l3
  have e3 := V_si0 (w := si (si (si w 31 T a) 32 T b) 33 T c) (x := d) l3 (by omega) hk
  have e2 := V_si0 (w := si (si w 31 T a) 32 T b) (x := c) l2 (by omega) hk
  have e1 := V_si0 (w := si w 31 T a) (x := b) l1 (by omega) hk
  have e0 := V_si0 (w := w) (x := a) l0 (by omega) hk
  unfold upd at e0 e1 e2 e3 ⊢
  rw [show 31 + 3 = 34 from rfl] at e3
  rw [show 31 + 2 = 33 from rfl] at e2
  rw [show 31 + 1 = 32 from rfl] at e1
  rw [show 31 + 0 = 31 from rfl, show 2500 + 4 * T + 0 = 2500 + 4 * T from rfl] at e0
  rw [e3, e2, e1, e0]
theorem val_cong2 {S S' : Nat → Int32} {k : Nat} (hk : k < 4340) (h0 : ¬ (2500 ≤ k ∧ k < 3300)) (h1 : ∀ c, c < 100 → S' (1500 + 10 * c) = S (1500 + 10 * c)) (h2 : ∀ n, n < 8 → S' (3300 + 125 * n) = S (3300 + 125 * n)) (h3 : S' 4315 = S 4315) : val S' k ↔ val S k := by
  unfold val
  by_cases c1 : k < 1500
  · rw [if_pos c1, if_pos c1]
  · rw [if_neg c1, if_neg c1]
    by_cases c2 : k < 2500
    · rw [if_pos c2, if_pos c2]
      have e : S' (k - (k - 1500) % 10) = S (k - (k - 1500) % 10) := by
        have := h1 ((k - 1500) / 10) (by omega)
        rwa [show 1500 + 10 * ((k - 1500) / 10) = k - (k - 1500) % 10 by omega] at this
      rw [e]
    · rw [if_neg c2, if_neg c2]
      have c3 : ¬ k < 3300 := by omega
      · rw [if_neg c3, if_neg c3]
        by_cases c4 : k < 4300
        · rw [if_pos c4, if_pos c4, h3, h2 _ (by omega)]
        · rw [if_neg c4, if_neg c4]
theorem YC.note {w : Wd} {n T : Nat} {S : Nat → Int32} (h : YC w 0 S n) (hT : S 4316 = iN T) (hT2 : T < 200) (a b c d : Int32) : YC (si (si (si (si (si w 31 T a) 32 T b) 33 T c) 34 T d) 30 0 (iN (T + 1))) 0 (upd (upd (upd (upd (upd S (2500 + 4 * T) a) (2501 + 4 * T) b) (2502 + 4 * T) c) (2503 + 4 * T) d) 4316 (iN (T + 1))) n := by
  obtain ⟨h1, h2, h3⟩ := h
  generalize hS' : upd (upd (upd (upd (upd S (2500 + 4 * T) a) (2501 + 4 * T) b) (2502 + 4 * T) c) (2503 + 4 * T) d) 4316 (iN (T + 1)) = S'
  have ne : ∀ k, ¬ (2500 + 4 * T ≤ k ∧ k ≤ 2503 + 4 * T) → ¬ k = 4316 → S' k = S k := fun k ha hb => by
    rw [← hS', upd_ne hb, upd_ne (by omega), upd_ne (by omega), upd_ne (by omega), upd_ne (by omega)]
  have e16 : S' 4316 = iN (T + 1) := by rw [← hS', upd_eq]
  refine ⟨fun k hk hv => ?_, fun m hm => ?_, ?_⟩
  · rw [V_note hT2 hk, ← hS']
    unfold upd
    by_cases k5 : k = 4316
    · rw [if_pos k5, if_pos k5]
    rw [if_neg k5, if_neg k5]
    by_cases k4 : k = 2503 + 4 * T
    · rw [if_pos k4, if_pos k4]
    rw [if_neg k4, if_neg k4]
    by_cases k3 : k = 2502 + 4 * T
    · rw [if_pos k3, if_pos k3]
    rw [if_neg k3, if_neg k3]
    by_cases k2 : k = 2501 + 4 * T
    · rw [if_pos k2, if_pos k2]
    rw [if_neg k2, if_neg k2]
    by_cases k1 : k = 2500 + 4 * T
    · rw [if_pos k1, if_pos k1]
    rw [if_neg k1, if_neg k1]
    refine h1 k hk ?_
    by_cases c3 : 2500 ≤ k ∧ k < 3300
    · have e9 : k = 2500 + 4 * ((k - 2500) / 4) + (k - 2500) % 4 := by omega
      rw [e9] at hv ⊢
      rw [val_tel (by omega) (by omega), e16, iN_clamp (by omega)] at hv
      rw [val_tel (by omega) (by omega), hT, iN_clamp (by omega)]
      omega
    · exact (val_cong2 hk c3 (fun c hc => ne _ (by omega) (by omega)) (fun n hn => ne _ (by omega) (by omega)) (ne _ (by omega) (by omega))).mp hv
  · rw [ne _ (by omega) (by omega)] at hm
    have hm8 := IL.lt h3.2.2.1 hm
    have hl := (h3.2.2.1.2 m hm).1.1.2
    have hl : (S (3300 + 125 * m)).toInt ≤ 19 := hl
    obtain ⟨u, u1, u2, u3, u4⟩ := h2 m hm
    refine ⟨u, by rw [ne _ (by omega) (by omega)]; exact u1, ?_, fun i hi => by rw [ne _ (by omega) (by omega)]; exact u3 i hi, fun i hi hi2 => ?_⟩
    · rw [si_oth (by omega), si_oth (by omega), si_oth (by omega), si_oth (by omega), si_oth (by omega)]
      exact u2
    · rw [ne _ (by omega) (by omega)] at hi2
      rw [ne _ (by omega) (by omega)]
      exact u4 i hi hi2
  · obtain ⟨i1, i2, i3, i4, i5⟩ := h3
    refine ⟨i1.cong (fun c j _ _ => ne _ (by omega) (by omega)), i2.cong (fun k _ _ => ne _ (by omega) (by omega)) (ne _ (by omega) (by omega)), i3.cong (fun k _ _ => ne _ (by omega) (by omega)) (ne _ (by omega) (by omega)) (ne _ (by omega) (by omega)), ?_, i5.cong (fun c j _ _ _ => ne _ (by omega) (by omega)) (fun k _ _ => ne _ (by omega) (by omega)) (ne _ (by omega) (by omega))⟩
    obtain ⟨g0, g2, g3, g4, g16, g14⟩ := i4
    unfold IG
    rw [e16, ne 4300 (by omega) (by omega), ne 4302 (by omega) (by omega), ne 4303 (by omega) (by omega), ne 4304 (by omega) (by omega), ne 4314 (by omega) (by omega), sumN_cong 100 (fun c hc => ne (15 * c + 14) (by omega) (by omega))]
    refine ⟨g0, g2, g3, g4, ⟨?_, ?_⟩, g14⟩
    · rw [iN_toInt (by omega)]; omega
    · rw [iN_toInt (by omega)]; omega
theorem note_c {w : Wd} {T : Nat} (hT : w.1 30 0 = iN T) (hT2 : T < 200) (a b c d : Int32) : fX6_note a b c d w = some (si (si (si (si (si w 31 T a) 32 T b) 33 T c) 34 T d) 30 0 (iN (T + 1))) := by
  unfold fX6_note
  have e1 : ∀ (w : Wd) (x : Nat) (y : Int32), (si w (31 + x) T y).1 30 0 = w.1 30 0 := fun w x y => by rw [si_oth (by omega)]
  have f1 : ∀ (w : Wd) (y : Int32), (si w 31 T y).1 30 0 = w.1 30 0 := fun w y => e1 w 0 y
  have f2 : ∀ (w : Wd) (y : Int32), (si w 32 T y).1 30 0 = w.1 30 0 := fun w y => e1 w 1 y
  have f3 : ∀ (w : Wd) (y : Int32), (si w 33 T y).1 30 0 = w.1 30 0 := fun w y => e1 w 2 y
  have f4 : ∀ (w : Wd) (y : Int32), (si w 34 T y).1 30 0 = w.1 30 0 := fun w y => e1 w 3 y
  simp only [nw_eq, hT, wi_iN (show T < 2147483648 by omega), f1, f2, f3, f4, inb_lt2 hT2 (by omega), if_true]
  rw [if_pos (show iN T < 200 from (iN_lt (b := 200) (by omega) (by omega)).mpr hT2), add_lit]
theorem tells_m {w : Wd} {T : Nat} (hT : w.1 149 4316 = iN T) (hT2 : T < 200) (a b c : Int32) : fX12_tells a b c w = some (iN (T + 1), si (si (si (si (si w 149 (2500 + 4 * T) a) 149 (2501 + 4 * T) b) 149 (2502 + 4 * T) c) 149 (2503 + 4 * T) (w.1 149 4300 / 24)) 149 4316 (iN (T + 1))) := by
  unfold fX12_tells
  rw [mg_16, Option.bind_some, hT, lit_mul, lit_add, add_lit, add_lit, add_lit, inb_lt2 (by omega) (by omega), inb_lt2 (by omega) (by omega), inb_lt2 (by omega) (by omega), inb_lt2 (by omega) (by omega)]
  simp only [if_true, nw_eq]
  rw [wi_iN (by omega), wi_iN (by omega), wi_iN (by omega), show 2500 + 4 * T + 1 = 2501 + 4 * T by omega, show 2500 + 4 * T + 2 = 2502 + 4 * T by omega, show 2500 + 4 * T + 3 = 2503 + 4 * T by omega]
  unfold fX12_day
  rw [mg_0]
  simp only [Option.bind_some]
  rw [wi_iN (by omega)]
  have r0 : (si (si (si w 149 (2500 + 4 * T) a) 149 (2501 + 4 * T) b) 149 (2502 + 4 * T) c).1 149 4300 = w.1 149 4300 := by
    rw [si_1, if_neg (by omega), si_1, if_neg (by omega), si_1, if_neg (by omega)]
  rw [r0]
  have r1 : ri (si (si (si (si w 149 (2500 + 4 * T) a) 149 (2501 + 4 * T) b) 149 (2502 + 4 * T) c) 149 (2503 + 4 * T) (w.1 149 4300 / 24)) 149 (4316 : Int32) = iN T := by
    rw [show (4316 : Int32) = iN 4316 from rfl, ri_iN (by omega), si_1, if_neg (by omega), si_1, if_neg (by omega), si_1, if_neg (by omega), si_1, if_neg (by omega)]
    exact hT
  rw [r1, wi_lit (by omega), mg_16, Option.bind_some, si_1, if_pos ⟨rfl, rfl⟩, add_lit]
theorem told_iN {S : Nat → Int32} (h : bt 0 200 (S 4316)) : ∃ T, T ≤ 200 ∧ S 4316 = iN T := by
  obtain ⟨T, h1, h2⟩ := of_range (v := S 4316) 201 h.1 (by have : (S 4316).toInt ≤ 200 := h.2; omega)
  exact ⟨T, by omega, h2⟩
theorem YY.note {n T : Nat} {wc wm : Wd} (h : YY n wc wm) (hT : wm.1 149 4316 = iN T) (hT2 : T < 200) (a b c d : Int32) : YY n (si (si (si (si (si wc 31 T a) 32 T b) 33 T c) 34 T d) 30 0 (iN (T + 1))) (si (si (si (si (si wm 149 (2500 + 4 * T) a) 149 (2501 + 4 * T) b) 149 (2502 + 4 * T) c) 149 (2503 + 4 * T) d) 149 4316 (iN (T + 1))) := by
  refine h.city ?_ (fun a h1 _ => ⟨by rw [si_oth (by omega), si_oth (by omega), si_oth (by omega), si_oth (by omega), si_oth (by omega)], rfl⟩) (fun a h1 _ _ _ _ => by rw [si_oth (by omega), si_oth (by omega), si_oth (by omega), si_oth (by omega), si_oth (by omega)]) rfl (fun j _ _ => by rw [si_oth (by omega), si_oth (by omega), si_oth (by omega), si_oth (by omega), si_oth (by omega)])
  rw [si_row, si_row, si_row, si_row, si_row]
  exact h.1.note hT hT2 a b c d
theorem today_c {w : Wd} {n : Nat} {S : Nat → Int32} (h : YC w 0 S n) : fX0_today w = some (S 4300 / 24) := by
  unfold fX0_today
  rw [h.hour]
theorem day_m {w : Wd} : fX12_day w = some (w.1 149 4300 / 24) := by
  unfold fX12_day
  rw [mg_0]
  rfl
theorem map_ok {n : Nat} {wc wm : Wd} {v1 v2 v3 : Int32} (h : YY n wc wm) : ∃ r wc' wm', fX11_map v1 v2 v3 wc = some (r, wc') ∧ fX12_map v1 v2 v3 wm = some (r, wm') ∧ YY n wc' wm' := by
  have h0 := h.thr (x := 0)
  obtain ⟨T, hT2, hT⟩ := told_iN h0.1.2.2.2.2.2.1.2.2.2.2.1
  unfold fX11_map fX12_map fX12_map_25
  rw [h0.1.told, today_c h0.1]
  simp only [nw_eq, Option.bind_some, isCell_c, isCell_m, isTape_c, isTape_m, within_eq, in_eq, Int32.toInt_toInt64, decide_eq_true_eq, Int32.reduceToInt, Int64.reduceToInt, tn128, tm128, mg_16, hT]
  by_cases h1 : 0 ≤ v1.toInt ∧ v1.toInt ≤ 99
  · rw [if_pos h1, if_pos h1]
    obtain ⟨c, hc, rfl⟩ := int_cases 99 h1 (by omega)
    have hc : c < 100 := by omega
    rcases isDown_c (v := v2) (w := wc) hc with ⟨d1, d2⟩ | ⟨d1, d2⟩
    · rw [d2, (isDown_m (w := si wm 148 0 0) hc).1 d1]
      simp only [nw_eq, Option.bind_some, isCell_c, isCell_m, isTape_c, isTape_m, within_eq, in_eq, Int32.toInt_toInt64, decide_eq_true_eq, Int32.reduceToInt, Int64.reduceToInt, tn128, tm128]
      rw [if_pos trivial]
      by_cases h3 : 0 ≤ v3.toInt ∧ v3.toInt ≤ 300
      · rw [if_pos h3, if_pos h3]
        by_cases h4 : T < 200
        · rw [if_pos (show iN T < 200 from (iN_lt (b := 200) (by omega) (by omega)).mpr h4), if_neg (show ¬ iN T = 200 from fun e => by have := (iN_inj (b := 200) (by omega) (by omega)).mp e; omega), note_c (by rw [h0.1.told]; exact hT) h4, tells_m hT h4]
          simp only [nw_eq, Option.bind_some, isCell_c, isCell_m, isTape_c, isTape_m, within_eq, in_eq, Int32.toInt_toInt64, decide_eq_true_eq, Int32.reduceToInt, Int64.reduceToInt, tn128, tm128]
          exact ⟨iN (T + 1), _, _, by rw [si_at], rfl, h0.note hT h4 _ _ _ _⟩
        · rw [if_neg (show ¬ iN T < 200 from fun e => h4 ((iN_lt (b := 200) (by omega) (by omega)).mp e)), if_pos (show iN T = 200 by rw [show T = 200 by omega]; rfl)]
          exact ⟨_, _, _, rfl, rfl, h0⟩
      · rw [if_neg h3, if_neg h3]
        exact ⟨_, _, _, rfl, rfl, h0⟩
    · rw [d2, (isDown_m (w := si wm 148 0 0) hc).2 d1]
      simp only [nw_eq, Option.bind_some, isCell_c, isCell_m, isTape_c, isTape_m, within_eq, in_eq, Int32.toInt_toInt64, decide_eq_true_eq, Int32.reduceToInt, Int64.reduceToInt, tn128, tm128]
      simp only [Bool.false_eq_true, if_false]
      exact ⟨_, _, _, rfl, rfl, h0⟩
  · rw [if_neg h1, if_neg h1]
    exact ⟨_, _, _, rfl, rfl, h0⟩
theorem cut_ok {n : Nat} {wc wm : Wd} {v1 : Int32} (h : YY n wc wm) : ∃ r wc' wm', fX11_cut v1 wc = some (r, wc') ∧ fX12_cut v1 wm = some (r, wm') ∧ YY n wc' wm' := by
  have h0 := h.thr (x := 0)
  have hb := h0.1.2.2.2.2.2.1.2.2.2.2.1
  obtain ⟨T, hT2, hT⟩ := told_iN hb
  unfold fX11_cut fX12_cut
  rw [nw_eq, today_c h0.1, day_m]
  simp only [nw_eq, Option.bind_some, isCell_c, isCell_m, isTape_c, isTape_m, within_eq, in_eq, Int32.toInt_toInt64, decide_eq_true_eq, Int32.reduceToInt, Int64.reduceToInt, tn128, tm128, latest_c h0.1, telling_m hb]
  by_cases h1 : 0 ≤ v1.toInt ∧ v1.toInt ≤ 99
  · rw [if_pos h1, if_pos h1]
    obtain ⟨c, hc, rfl⟩ := int_cases 99 h1 (by omega)
    have hc : c < 100 := by omega
    have r6 : wc.1 9 c = (si wm 148 0 0).1 149 (15 * c + 6) := h0.1.row (j := 6) hc (by omega)
    have r7 : wc.1 10 c = (si wm 148 0 0).1 149 (15 * c + 7) := h0.1.row (j := 7) hc (by omega)
    have m6 : fX12_c (iN c) 6 (si wm 148 0 0) = _ := mc_eq (j := 6) hc (by omega)
    have m7 : fX12_c (iN c) 7 (si wm 148 0 0) = _ := mc_eq (j := 7) hc (by omega)
    have end8 : ∃ r wc' wm', fX11_cut_88 (iN c) ((si wm 148 0 0).1 149 (15 * c + 6)) ((si wm 148 0 0).1 149 (15 * c + 7)) wc = some (r, wc') ∧ fX12_cut_67 (iN c) (si wm 148 0 0) = some (r, wm') ∧ YY n wc' wm' := by
      unfold fX11_cut_88 fX12_cut_67
      rw [h0.1.told, today_c h0.1, mg_16, m6, m7, hT]
      simp only [nw_eq, Option.bind_some, isCell_c, isCell_m, isTape_c, isTape_m, within_eq, in_eq, Int32.toInt_toInt64, decide_eq_true_eq, Int32.reduceToInt, Int64.reduceToInt, tn128, tm128]
      by_cases h4 : T < 200
      · rw [if_pos (show iN T < 200 from (iN_lt (b := 200) (by omega) (by omega)).mpr h4), if_neg (show ¬ iN T = 200 from fun e => by have := (iN_inj (b := 200) (by omega) (by omega)).mp e; omega), note_c (by rw [h0.1.told]; exact hT) h4, tells_m hT h4]
        simp only [nw_eq, Option.bind_some, isCell_c, isCell_m, isTape_c, isTape_m, within_eq, in_eq, Int32.toInt_toInt64, decide_eq_true_eq, Int32.reduceToInt, Int64.reduceToInt, tn128, tm128]
        exact ⟨1, _, _, rfl, rfl, h0.note hT h4 _ _ _ _⟩
      · rw [if_neg (show ¬ iN T < 200 from fun e => h4 ((iN_lt (b := 200) (by omega) (by omega)).mp e)), if_pos (show iN T = 200 by rw [show T = 200 by omega]; rfl)]
        exact ⟨_, _, _, rfl, rfl, h0⟩
    rw [inb_lt2 hc (by omega), if_pos rfl, ri_iN (by omega), ri_iN (by omega), r6, r7, m6, m7]
    simp only [nw_eq, Option.bind_some, isCell_c, isCell_m, isTape_c, isTape_m, within_eq, in_eq, Int32.toInt_toInt64, decide_eq_true_eq, Int32.reduceToInt, Int64.reduceToInt, tn128, tm128]
    rw [hT, iN_clamp (by omega)]
    cases hl : lastT ((si wm 148 0 0).1 149) (iN c) ((si wm 148 0 0).1 149 4300 / 24) T with
    | none =>
      rw [if_pos (by decide), if_pos (by decide)]
      exact end8
    | some k =>
      have hk := lastT_lt hl
      rw [if_neg (enc1_some (by omega)).1, if_neg (enc1_some (by omega)).2]
      unfold enc1 encM
      simp only []
      rw [add_lit, add_lit, inb_lt2 (c := k) (by omega) (by omega), inb_lt2 (by omega) (by omega), inb_lt2 (by omega) (by omega), if_pos rfl, if_pos rfl, ri_iN (by omega), ri_iN (by omega), ri_iN (by omega), ri_iN (by omega)]
      have e1 : wc.1 32 k = (si wm 148 0 0).1 149 (2500 + 4 * k + 1) := h0.1.tel (t := k) (j := 1) (by rw [hT, iN_toInt (by omega)]; omega) (by omega)
      have e2 : wc.1 33 k = (si wm 148 0 0).1 149 (2500 + 4 * k + 2) := h0.1.tel (t := k) (j := 2) (by rw [hT, iN_toInt (by omega)]; omega) (by omega)
      rw [e1, e2]
      by_cases c1 : (si wm 148 0 0).1 149 (2500 + 4 * k + 1) = (si wm 148 0 0).1 149 (15 * c + 6)
      · rw [if_pos c1, if_pos c1, if_pos rfl]
        by_cases c2 : (si wm 148 0 0).1 149 (2500 + 4 * k + 2) = (si wm 148 0 0).1 149 (15 * c + 7)
        · rw [if_pos c2, if_pos c2]
          exact ⟨_, _, _, rfl, rfl, h0⟩
        · rw [if_neg c2, if_neg c2]
          exact end8
      · rw [if_neg c1, if_neg c1]
        exact end8
  · rw [if_neg h1, if_neg h1]
    exact ⟨_, _, _, rfl, rfl, h0⟩
