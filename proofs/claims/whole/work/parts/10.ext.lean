-- the JDK's fill, arraycopy, indexOf as rows
theorem dJ7_fill_53178_0 : decode cJ7_fill_53178 0 = .ok (.iconst 0, 1) := by decide +kernel
theorem dJ7_fill_53178_1 : decode cJ7_fill_53178 1 = .ok (.istore_n 2, 1) := by decide +kernel
theorem dJ7_fill_53178_2 : decode cJ7_fill_53178 2 = .ok (.aload_n 0, 1) := by decide +kernel
theorem dJ7_fill_53178_3 : decode cJ7_fill_53178 3 = .ok (.arraylength, 1) := by decide +kernel
theorem dJ7_fill_53178_4 : decode cJ7_fill_53178 4 = .ok (.istore_n 3, 1) := by decide +kernel
theorem dJ7_fill_53178_5 : decode cJ7_fill_53178 5 = .ok (.iload_n 2, 1) := by decide +kernel
theorem dJ7_fill_53178_6 : decode cJ7_fill_53178 6 = .ok (.iload_n 3, 1) := by decide +kernel
theorem dJ7_fill_53178_7 : decode cJ7_fill_53178 7 = .ok (.if_icmp .ge 13, 3) := by decide +kernel
theorem dJ7_fill_53178_10 : decode cJ7_fill_53178 10 = .ok (.aload_n 0, 1) := by decide +kernel
theorem dJ7_fill_53178_11 : decode cJ7_fill_53178 11 = .ok (.iload_n 2, 1) := by decide +kernel
theorem dJ7_fill_53178_12 : decode cJ7_fill_53178 12 = .ok (.iload_n 1, 1) := by decide +kernel
theorem dJ7_fill_53178_13 : decode cJ7_fill_53178 13 = .ok (.iastore, 1) := by decide +kernel
theorem dJ7_fill_53178_14 : decode cJ7_fill_53178 14 = .ok (.iinc 2 1, 3) := by decide +kernel
theorem dJ7_fill_53178_17 : decode cJ7_fill_53178 17 = .ok (.goto (-12), 3) := by decide +kernel
theorem dJ7_fill_53178_20 : decode cJ7_fill_53178 20 = .ok (.return_, 1) := by decide +kernel
theorem dJ7_fill_d0a16_0 : decode cJ7_fill_d0a16 0 = .ok (.iconst 0, 1) := by decide +kernel
theorem dJ7_fill_d0a16_1 : decode cJ7_fill_d0a16 1 = .ok (.istore_n 3, 1) := by decide +kernel
theorem dJ7_fill_d0a16_2 : decode cJ7_fill_d0a16 2 = .ok (.aload_n 0, 1) := by decide +kernel
theorem dJ7_fill_d0a16_3 : decode cJ7_fill_d0a16 3 = .ok (.arraylength, 1) := by decide +kernel
theorem dJ7_fill_d0a16_4 : decode cJ7_fill_d0a16 4 = .ok (.istore 4, 2) := by decide +kernel
theorem dJ7_fill_d0a16_6 : decode cJ7_fill_d0a16 6 = .ok (.iload_n 3, 1) := by decide +kernel
theorem dJ7_fill_d0a16_7 : decode cJ7_fill_d0a16 7 = .ok (.iload 4, 2) := by decide +kernel
theorem dJ7_fill_d0a16_9 : decode cJ7_fill_d0a16 9 = .ok (.if_icmp .ge 13, 3) := by decide +kernel
theorem dJ7_fill_d0a16_12 : decode cJ7_fill_d0a16 12 = .ok (.aload_n 0, 1) := by decide +kernel
theorem dJ7_fill_d0a16_13 : decode cJ7_fill_d0a16 13 = .ok (.iload_n 3, 1) := by decide +kernel
theorem dJ7_fill_d0a16_14 : decode cJ7_fill_d0a16 14 = .ok (.lload_n 1, 1) := by decide +kernel
theorem dJ7_fill_d0a16_15 : decode cJ7_fill_d0a16 15 = .ok (.lastore, 1) := by decide +kernel
theorem dJ7_fill_d0a16_16 : decode cJ7_fill_d0a16 16 = .ok (.iinc 3 1, 3) := by decide +kernel
theorem dJ7_fill_d0a16_19 : decode cJ7_fill_d0a16 19 = .ok (.goto (-13), 3) := by decide +kernel
theorem dJ7_fill_d0a16_22 : decode cJ7_fill_d0a16 22 = .ok (.return_, 1) := by decide +kernel
theorem flI_0 (w : Wd) (a : Nat) (x : Int32) : flI w a 0 x = w := by
  obtain ⟨f, g⟩ := w
  unfold flI
  congr 1
  funext b
  by_cases e : b = a
  · subst e; simp
  · simp [e]
theorem flJ_0 (w : Wd) (a : Nat) (x : Int64) : flJ w a 0 x = w := by
  obtain ⟨f, g⟩ := w
  unfold flJ
  congr 1
  funext b
  by_cases e : b = a
  · subst e; simp
  · simp [e]
theorem flI_s (w : Wd) (a i : Nat) (x : Int32) : si (flI w a i x) a i x = flI w a (i + 1) x := by
  unfold flI si
  refine Prod.ext ?_ rfl
  funext b
  by_cases e : b = a
  · subst e
    simp only [if_true]
    funext j
    unfold upd
    by_cases h : j = i
    · subst h; simp
    · by_cases h2 : j < i
      · have : j < i + 1 := by omega
        simp [h, h2, this]
      · have : ¬ j < i + 1 := by omega
        simp [h, h2, this]
  · simp [e]
theorem flJ_s (w : Wd) (a i : Nat) (x : Int64) : sl (flJ w a i x) a i x = flJ w a (i + 1) x := by
  unfold flJ sl
  refine Prod.ext rfl ?_
  funext b
  by_cases e : b = a
  · subst e
    simp only [if_true]
    funext j
    unfold vp_updL
    by_cases h : j = i
    · subst h; simp
    · by_cases h2 : j < i
      · have : j < i + 1 := by omega
        simp [h, h2, this]
      · have : ¬ j < i + 1 := by omega
        simp [h, h2, this]
  · simp [e]
theorem inb_nI {i n : Nat} (h : i < n) (hn : n < 2 ^ 31) : inb (nI i) n = true := by
  have := vp_in_nI h hn
  unfold vp_in at this
  exact decide_eq_true this
theorem if_same {α : Type} {c : Prop} [Decidable c] {A : α} : (if c then A else A) = A := by split <;> rfl
set_option maxHeartbeats 4000000 in
theorem xFillI_5 {K : KT} {a n : Nat} {t : Nat → Option Nat} {v : Int32} {w : Wd} (G : GK K cJ7_fill_53178 RJ7 4 1) (hk : KD K.ks a (.inr (0, n, t))) (hn : n < 2 ^ 31) (hr : RV K (flI w a n v)) : ∀ (k i : Nat), i + k = n → XW K 5 [some (.ref a), some (.int v), some (.int (nI i)), some (.int (nI n))] [] (flI w a i v) := by
  intro k
  induction k with
  | zero =>
    intro i hi
    have hi : i = n := by omega
    subst hi
    refine x_iload_n G dJ7_fill_53178_5 rfl rfl ?_
    refine x_iload_n G dJ7_fill_53178_6 rfl rfl ?_
    refine x_icmpge (r := ()) (A := some ()) (B := some ()) G (tgt := 20) dJ7_fill_53178_7 (by decide) if_same (fun c _ => ?_) (fun c _ => ?_)
    · exact absurd c (nI_nlt (Nat.le_refl _) hn)
    · exact x_vret G hr dJ7_fill_53178_20
  | succ k ih =>
    intro i hi
    have hi2 : i < n := by omega
    refine x_iload_n G dJ7_fill_53178_5 rfl rfl ?_
    refine x_iload_n G dJ7_fill_53178_6 rfl rfl ?_
    refine x_icmpge (r := ()) (A := some ()) (B := some ()) G (tgt := 20) dJ7_fill_53178_7 (by decide) if_same (fun c _ => ?_) (fun c _ => ?_)
    · refine x_aload_n G dJ7_fill_53178_10 rfl rfl ?_
      refine x_iload_n G dJ7_fill_53178_11 rfl rfl ?_
      refine x_iload_n G dJ7_fill_53178_12 rfl rfl ?_
      refine x_iast0 G hk dJ7_fill_53178_13 (inb_nI hi2 hn) ?_
      unfold wi
      rw [nI_clamp (by omega), flI_s]
      refine x_iinc G (lv' := [some (.ref a), some (.int v), some (.int (nI i + 1)), some (.int (nI n))]) (v := 1) dJ7_fill_53178_14 rfl (by decide) rfl rfl rfl ?_
      rw [nI_1]
      refine x_goto G (tgt := 5) dJ7_fill_53178_17 (by decide) ?_
      exact ih (i + 1) (by omega)
    · exact absurd (nI_lt hi2 hn) c
theorem mFillI {l : Launch} {S : KS} (hI : Inj S) {a n : Nat} {t : Nat → Option Nat} {v : Int32} {w : Wd} (hk : KD S a (.inr (0, n, t))) (hn : Nat.blt n 2147483648 = true := by rfl) : CV l yJ7_fill_53178 cJ7_fill_53178 4 none 1 S [.ref a, .int v] w (flI w a n v) := by
  intro sz
  have hn : n < 2 ^ 31 := Nat.le_of_ble_eq_true hn
  refine mk_entry (own := RJ7) (lv := [some (.ref a), some (.int v), none, none]) rfl (by decide +kernel) hI 2 rfl rfl (fun K h1 h2 h3 h4 h5 h6 G => ?_)
  subst h2
  refine x_iconst G (v := 0) dJ7_fill_53178_0 (by decide) ?_
  refine x_istore_n G (lv' := [some (.ref a), some (.int v), some (.int 0), none]) dJ7_fill_53178_1 rfl rfl rfl rfl ?_
  refine x_aload_n G dJ7_fill_53178_2 rfl rfl ?_
  refine x_alenI G hk dJ7_fill_53178_3 rfl ?_
  refine x_istore_n G (lv' := [some (.ref a), some (.int v), some (.int 0), some (.int (nI n))]) dJ7_fill_53178_4 rfl rfl rfl rfl ?_
  have h := xFillI_5 (v := v) (w := w) G hk hn ⟨h3, by rw [h4, h6], h5⟩ n 0 (by omega)
  rwa [flI_0, nI_0] at h
set_option maxHeartbeats 4000000 in
theorem xFillJ_6 {K : KT} {a n : Nat} {t : Nat → Option Nat} {v : Int64} {w : Wd} (G : GK K cJ7_fill_d0a16 RJ7 5 1) (hk : KD K.ks a (.inr (1, n, t))) (hn : n < 2 ^ 31) (hr : RV K (flJ w a n v)) : ∀ (k i : Nat), i + k = n → XW K 6 [some (.ref a), some (.long v), none, some (.int (nI i)), some (.int (nI n))] [] (flJ w a i v) := by
  intro k
  induction k with
  | zero =>
    intro i hi
    have hi : i = n := by omega
    subst hi
    refine x_iload_n G dJ7_fill_d0a16_6 rfl rfl ?_
    refine x_iload G dJ7_fill_d0a16_7 rfl ?_
    refine x_icmpge (r := ()) (A := some ()) (B := some ()) G (tgt := 22) dJ7_fill_d0a16_9 (by decide) if_same (fun c _ => ?_) (fun c _ => ?_)
    · exact absurd c (nI_nlt (Nat.le_refl _) hn)
    · exact x_vret G hr dJ7_fill_d0a16_22
  | succ k ih =>
    intro i hi
    have hi2 : i < n := by omega
    refine x_iload_n G dJ7_fill_d0a16_6 rfl rfl ?_
    refine x_iload G dJ7_fill_d0a16_7 rfl ?_
    refine x_icmpge (r := ()) (A := some ()) (B := some ()) G (tgt := 22) dJ7_fill_d0a16_9 (by decide) if_same (fun c _ => ?_) (fun c _ => ?_)
    · refine x_aload_n G dJ7_fill_d0a16_12 rfl rfl ?_
      refine x_iload_n G dJ7_fill_d0a16_13 rfl rfl ?_
      refine x_lload_n G dJ7_fill_d0a16_14 rfl rfl ?_
      refine x_last0 G hk dJ7_fill_d0a16_15 (inb_nI hi2 hn) ?_
      unfold wl
      rw [nI_clamp (by omega), flJ_s]
      refine x_iinc G (lv' := [some (.ref a), some (.long v), none, some (.int (nI i + 1)), some (.int (nI n))]) (v := 1) dJ7_fill_d0a16_16 rfl (by decide) rfl rfl rfl ?_
      rw [nI_1]
      refine x_goto G (tgt := 6) dJ7_fill_d0a16_19 (by decide) ?_
      exact ih (i + 1) (by omega)
    · exact absurd (nI_lt hi2 hn) c
theorem mFillJ {l : Launch} {S : KS} (hI : Inj S) {a n : Nat} {t : Nat → Option Nat} {v : Int64} {w : Wd} (hk : KD S a (.inr (1, n, t))) (hn : Nat.blt n 2147483648 = true := by rfl) : CV l yJ7_fill_d0a16 cJ7_fill_d0a16 5 none 1 S [.ref a, .long v] w (flJ w a n v) := by
  intro sz
  have hn : n < 2 ^ 31 := Nat.le_of_ble_eq_true hn
  refine mk_entry (own := RJ7) (lv := [some (.ref a), some (.long v), none, none, none]) rfl (by decide +kernel) hI 2 rfl rfl (fun K h1 h2 h3 h4 h5 h6 G => ?_)
  subst h2
  refine x_iconst G (v := 0) dJ7_fill_d0a16_0 (by decide) ?_
  refine x_istore_n G (lv' := [some (.ref a), some (.long v), none, some (.int 0), none]) dJ7_fill_d0a16_1 rfl rfl rfl rfl ?_
  refine x_aload_n G dJ7_fill_d0a16_2 rfl rfl ?_
  refine x_alenJ G hk dJ7_fill_d0a16_3 rfl ?_
  refine x_istore G (lv' := [some (.ref a), some (.long v), none, some (.int 0), some (.int (nI n))]) dJ7_fill_d0a16_4 rfl rfl rfl ?_
  have h := xFillJ_6 (v := v) (w := w) G hk hn ⟨h3, by rw [h4, h6], h5⟩ n 0 (by omega)
  rwa [flJ_0, nI_0] at h
section CPY
variable {K : KT} {cc : ByteArray} {own : String} {nL d pc : Nat} {lv : List (Option Value)} {st : List Value} {w : Wd} {α : Type} {r : α} {a b i m0 m1 : Nat} {t0 t1 : Nat → Option Nat}
theorem va_P_two {S : KS} {w : Wd} {H : Heap} (h : HH S w H) {a b : Nat} {k0 k1 : Kd} (h0 : KD S a k0) (h1 : KD S b k1) : va_P S.G vwCl [(S.ad a, cellOf S.ad S.cA w a k0), (S.ad b, cellOf S.ad S.cA w b k1)] H := by
  intro j q hq
  rcases j with _ | _ | j
  · exact HH.one h h0 0 q hq
  · exact HH.one h h1 0 q hq
  · simp at hq
theorem fv_cpI {ad : Nat → Nat} {w : Wd} {a b q j : Nat} {sp dp n : Int32} {d : Nat × Nat} (h : q ≠ b) : fv ad (cpI w a sp b dp n) q j d = fv ad w q j d := by
  obtain ⟨k, t⟩ := d
  rcases k with _ | _ | _ | k <;> simp [fv, cpI, h]
theorem fv_cpJ {ad : Nat → Nat} {w : Wd} {a b q j : Nat} {sp dp n : Int32} {d : Nat × Nat} : fv ad (cpJ w a sp b dp n) q j d = fv ad w q j d := by
  obtain ⟨k, t⟩ := d
  rcases k with _ | _ | _ | k <;> rfl
theorem cellOf_cpI {ad : Nat → Nat} {cA : Nat → ClassId} {w : Wd} {a b q : Nat} {sp dp n : Int32} {d : Kd} (h : q ≠ b) : cellOf ad cA (cpI w a sp b dp n) q d = cellOf ad cA w q d := by
  rcases d with ⟨ci, ds⟩ | ⟨k, m, t⟩
  · show (Sum.inr (ci, fvs ad (cpI w a sp b dp n) q 0 ds) : va_E) = Sum.inr (ci, fvs ad w q 0 ds)
    rw [fvs_ext ds 0 (fun k d _ => fv_cpI h)]
  · rcases k with _ | _ | _ | k <;> simp [cellOf, cpI, h]
theorem cellOf_cpJ {ad : Nat → Nat} {cA : Nat → ClassId} {w : Wd} {a b q : Nat} {sp dp n : Int32} {d : Kd} (h : q ≠ b) : cellOf ad cA (cpJ w a sp b dp n) q d = cellOf ad cA w q d := by
  rcases d with ⟨ci, ds⟩ | ⟨k, m, t⟩
  · show (Sum.inr (ci, fvs ad (cpJ w a sp b dp n) q 0 ds) : va_E) = Sum.inr (ci, fvs ad w q 0 ds)
    rw [fvs_ext ds 0 (fun k d _ => fv_cpJ)]
  · rcases k with _ | _ | _ | k <;> simp [cellOf, cpJ, h]
theorem x_cpyI (G : GK K cc own nL d) (h0 : KD K.ks a (.inr (0, m0, t0))) (h1 : KD K.ks b (.inr (0, m1, t1))) (hl : Cond.methodLink own i arraycopyName ∈ gtbl) (hd : decode cc pc = .ok (.invokestatic i, 3)) (hd1 : Nat.blt 0 d = true) (h8 : Nat.ble (st.map fun v => v.category).sum 8 = true) {sp dp n : Int32} {A : Option α} (hf : (if cpok sp dp n m0 m1 = true then A else none) = some r) (kk : A = some r → XW K (pc + 3) lv st (cpI w a sp b dp n)) : XW K pc lv (.int n :: .int dp :: .ref b :: .int sp :: .ref a :: st) w := fun H locs ls hH hS hL => by
  by_cases c : cpok sp dp n m0 m1 = true
  · rw [if_pos c] at hf
    obtain ⟨c1, c2, c3, c4, c5⟩ := of_decide_eq_true c
    have hd0 : 0 < d := Nat.le_of_ble_eq_true hd1
    obtain ⟨r1, r2, r3, r4⟩ := G.2.2.2.2.2.2.2.2.2.2
    have h8' : ((st.map (cv K.ks.ad)).map fun v => v.category).sum ≤ 8 := by rw [cv_cats]; exact Nat.le_of_ble_eq_true h8
    have hK : va_K K.ks.G vwCl (tysK K.ks.cA) K.s := G.2.2.2.2.2.1.1
    have nn : ∀ z : Int32, ¬ z < 0 → z.toInt = (z.toNatClampNeg : Int) := by
      intro z hz
      have hz0 : (0 : Int) ≤ z.toInt := by
        have := Int32.not_lt.mp hz
        simpa using Int32.le_iff_toInt_le.mp this
      show z.toInt = ((z.toInt.toNat : Nat) : Int)
      omega
    have hc0 : H[K.ks.ad a]? = some (vp_cell (K.ks.cA 0) (m0, .inl (w.1 a))) := hH.one h0 0 _ rfl
    have hc1 : H[K.ks.ad b]? = some (vp_cell (K.ks.cA 0) (m1, .inl (w.1 b))) := hH.one h1 0 _ rfl
    obtain ⟨-, k0, hk0, cm0, hkk0⟩ := (hK.2 0 _ rfl).1 m0 (fun j => .int (w.1 a j))
    obtain ⟨-, k1, hk1, cm1, hkk1⟩ := (hK.2 0 _ rfl).1 m1 (fun j => .int (w.1 b j))
    have hnw : nativeFrameWords "java/lang/System" "arraycopy" 5 + 11 ≤ 50 := by decide +kernel
    intro T hT X
    obtain ⟨vm', X', step⟩ := X.arraycopy G.1 G.2.2.2.1 (G.2.2.2.2.1 _ hl) (G.2.2.2.2.1 _ wcpy_1) (G.2.2.2.2.1 _ wcpy_2) (G.2.2.2.2.1 _ wcpy_3) (src := K.ks.ad a) (dst := K.ks.ad b) (cs := vp_cell (K.ks.cA 0) (m0, .inl (w.1 a))) (cd := vp_cell (K.ks.cA 0) (m1, .inl (w.1 b))) (srcPos := sp) (destPos := dp) (n := n) (by rw [hT]; exact hc0) (by rw [hT]; exact hc1)
      (fun _ h => by cases h) (fun _ h => by cases h) (fun h => by cases h) (fun h => by cases h) hk0 hk1 hkk0 hkk1 (by simp [refKind]) c1 c2 c3
      (by rw [nn sp c1, nn n c3]; show ¬ _ > ((arrV _ m0 (fun j => .int (w.1 a j))).slots.size : Int); rw [arrV_size]; omega)
      (by rw [nn dp c2, nn n c3]; show ¬ _ > ((arrV _ m1 (fun j => .int (w.1 b j))).slots.size : Int); rw [arrV_size]; omega)
      (fun vm₁ _ q hq => by
        have e : (vp_cell (K.ks.cA 0) (m0, .inl (w.1 a))).slots.getD (sp.toNatClampNeg + q) .null = .int (w.1 a (sp.toNatClampNeg + q)) := by
          show (arrV _ m0 (fun j => .int (w.1 a j))).slots.getD _ _ = _
          rw [Array.getD_eq_getD_getElem?, arrV_read _ _ (by omega)]
          rfl
        refine ⟨?_, ?_⟩
        · rw [e]
          rfl
        · rw [e]
          exact trivial)
      (g := F0 K.m pc ls (.int n :: .int dp :: .ref (K.ks.ad b) :: .int sp :: .ref (K.ks.ad a) :: st.map (cv K.ks.ad))) rfl (by rw [hL.1]) (rest := st.map (cv K.ks.ad)) rfl (by rw [G.2.1]; exact hd) (by omega) (by show 2 * 0 + _ + _ ≤ _; omega)
    have e1 : copied (vp_cell (K.ks.cA 0) (m0, .inl (w.1 a))) (vp_cell (K.ks.cA 0) (m1, .inl (w.1 b))) sp dp n = vp_cell (K.ks.cA 0) (m1, .inl (va_cpy (w.1 a) (w.1 b) sp.toNatClampNeg dp.toNatClampNeg n.toNatClampNeg)) := va_copied (fun z => .int z) _ _ (w.1 a) (w.1 b) c4
    rw [e1] at X' step
    have hl' : K.ks.ad b < H.size := (Array.getElem?_eq_some_iff.mp hc1).1
    have hheap : ((T.setVm vm').setCell (K.ks.ad b) (vp_cell (K.ks.cA 0) (m1, .inl (va_cpy (w.1 a) (w.1 b) sp.toNatClampNeg dp.toNatClampNeg n.toNatClampNeg)))).heap = H.setIfInBounds (K.ks.ad b) (vp_cell (K.ks.cA 0) (m1, .inl (va_cpy (w.1 a) (w.1 b) sp.toNatClampNeg dp.toNatClampNeg n.toNatClampNeg))) := by rw [← hT]; rfl
    generalize hce : vp_cell (K.ks.cA 0) (m1, .inl (va_cpy (w.1 a) (w.1 b) sp.toNatClampNeg dp.toNatClampNeg n.toNatClampNeg)) = ce at X' step hheap
    have oq : ∀ q : Nat, q ≠ K.ks.ad b → (H.setIfInBounds (K.ks.ad b) ce)[q]? = H[q]? := fun q hq => by simp [Array.getElem?_setIfInBounds, Ne.symm hq]
    have hHn : HH K.ks (cpI w a sp b dp n) (H.setIfInBounds (K.ks.ad b) ce) := by
      refine hH.put G.2.2.2.2.2.2.1 h1 oq ?_ (fun q hq => cellOf_cpI hq)
      show (H.setIfInBounds (K.ks.ad b) ce)[K.ks.ad b]? = some (vp_cell (K.ks.cA 0) (m1, .inl ((cpI w a sp b dp n).1 b)))
      rw [show (cpI w a sp b dp n).1 b = va_cpy (w.1 a) (w.1 b) sp.toNatClampNeg dp.toNatClampNeg n.toNatClampNeg by simp [cpI], hce]
      simp [Array.getElem?_setIfInBounds, hl']
    obtain ⟨t, a1, b1⟩ := kk hf _ _ ls hHn ⟨by simp; exact hS.1, fun q g1 g2 => by
        rw [oq q (fun e => g2 (by rw [e]; exact G.2.2.2.2.2.2.2.1 b h1.1))]
        exact hS.2.1 q g1 g2, fun q hq => by
        rcases List.mem_append.mp hq with h | h
        · exact hS.2.2 q h
        · obtain ⟨z, -, hz⟩ := List.mem_map.mp h
          rw [← hz]
          exact G.2.2.2.2.2.2.2.1 b h1.1⟩ hL _ hheap X'
    exact ⟨t, step t a1, b1⟩
  · rw [if_neg c] at hf; cases hf
theorem x_cpyJ (G : GK K cc own nL d) (h0 : KD K.ks a (.inr (1, m0, t0))) (h1 : KD K.ks b (.inr (1, m1, t1))) (hl : Cond.methodLink own i arraycopyName ∈ gtbl) (hd : decode cc pc = .ok (.invokestatic i, 3)) (hd1 : Nat.blt 0 d = true) (h8 : Nat.ble (st.map fun v => v.category).sum 8 = true) {sp dp n : Int32} {A : Option α} (hf : (if cpok sp dp n m0 m1 = true then A else none) = some r) (kk : A = some r → XW K (pc + 3) lv st (cpJ w a sp b dp n)) : XW K pc lv (.int n :: .int dp :: .ref b :: .int sp :: .ref a :: st) w := fun H locs ls hH hS hL => by
  by_cases c : cpok sp dp n m0 m1 = true
  · rw [if_pos c] at hf
    obtain ⟨c1, c2, c3, c4, c5⟩ := of_decide_eq_true c
    have hd0 : 0 < d := Nat.le_of_ble_eq_true hd1
    obtain ⟨r1, r2, r3, r4⟩ := G.2.2.2.2.2.2.2.2.2.2
    have h8' : ((st.map (cv K.ks.ad)).map fun v => v.category).sum ≤ 8 := by rw [cv_cats]; exact Nat.le_of_ble_eq_true h8
    have hK : va_K K.ks.G vwCl (tysK K.ks.cA) K.s := G.2.2.2.2.2.1.1
    have nn : ∀ z : Int32, ¬ z < 0 → z.toInt = (z.toNatClampNeg : Int) := by
      intro z hz
      have hz0 : (0 : Int) ≤ z.toInt := by
        have := Int32.not_lt.mp hz
        simpa using Int32.le_iff_toInt_le.mp this
      show z.toInt = ((z.toInt.toNat : Nat) : Int)
      omega
    have hc0 : H[K.ks.ad a]? = some (vp_cell (K.ks.cA 1) (m0, .inr (.inl (w.2 a)))) := hH.one h0 0 _ rfl
    have hc1 : H[K.ks.ad b]? = some (vp_cell (K.ks.cA 1) (m1, .inr (.inl (w.2 b)))) := hH.one h1 0 _ rfl
    obtain ⟨-, k0, hk0, cm0, hkk0⟩ := (hK.2 1 _ rfl).1 m0 (fun j => .long (w.2 a j))
    obtain ⟨-, k1, hk1, cm1, hkk1⟩ := (hK.2 1 _ rfl).1 m1 (fun j => .long (w.2 b j))
    have hnw : nativeFrameWords "java/lang/System" "arraycopy" 5 + 11 ≤ 50 := by decide +kernel
    intro T hT X
    obtain ⟨vm', X', step⟩ := X.arraycopy G.1 G.2.2.2.1 (G.2.2.2.2.1 _ hl) (G.2.2.2.2.1 _ wcpy_1) (G.2.2.2.2.1 _ wcpy_2) (G.2.2.2.2.1 _ wcpy_3) (src := K.ks.ad a) (dst := K.ks.ad b) (cs := vp_cell (K.ks.cA 1) (m0, .inr (.inl (w.2 a)))) (cd := vp_cell (K.ks.cA 1) (m1, .inr (.inl (w.2 b)))) (srcPos := sp) (destPos := dp) (n := n) (by rw [hT]; exact hc0) (by rw [hT]; exact hc1)
      (fun _ h => by cases h) (fun _ h => by cases h) (fun h => by cases h) (fun h => by cases h) hk0 hk1 hkk0 hkk1 (by simp [refKind]) c1 c2 c3
      (by rw [nn sp c1, nn n c3]; show ¬ _ > ((arrV _ m0 (fun j => .long (w.2 a j))).slots.size : Int); rw [arrV_size]; omega)
      (by rw [nn dp c2, nn n c3]; show ¬ _ > ((arrV _ m1 (fun j => .long (w.2 b j))).slots.size : Int); rw [arrV_size]; omega)
      (fun vm₁ _ q hq => by
        have e : (vp_cell (K.ks.cA 1) (m0, .inr (.inl (w.2 a)))).slots.getD (sp.toNatClampNeg + q) .null = .long (w.2 a (sp.toNatClampNeg + q)) := by
          show (arrV _ m0 (fun j => .long (w.2 a j))).slots.getD _ _ = _
          rw [Array.getD_eq_getD_getElem?, arrV_read _ _ (by omega)]
          rfl
        refine ⟨?_, ?_⟩
        · rw [e]
          rfl
        · rw [e]
          exact trivial)
      (g := F0 K.m pc ls (.int n :: .int dp :: .ref (K.ks.ad b) :: .int sp :: .ref (K.ks.ad a) :: st.map (cv K.ks.ad))) rfl (by rw [hL.1]) (rest := st.map (cv K.ks.ad)) rfl (by rw [G.2.1]; exact hd) (by omega) (by show 2 * 0 + _ + _ ≤ _; omega)
    have e1 : copied (vp_cell (K.ks.cA 1) (m0, .inr (.inl (w.2 a)))) (vp_cell (K.ks.cA 1) (m1, .inr (.inl (w.2 b)))) sp dp n = vp_cell (K.ks.cA 1) (m1, .inr (.inl (va_cpy (w.2 a) (w.2 b) sp.toNatClampNeg dp.toNatClampNeg n.toNatClampNeg))) := va_copied (fun z => .long z) _ _ (w.2 a) (w.2 b) c4
    rw [e1] at X' step
    have hl' : K.ks.ad b < H.size := (Array.getElem?_eq_some_iff.mp hc1).1
    have hheap : ((T.setVm vm').setCell (K.ks.ad b) (vp_cell (K.ks.cA 1) (m1, .inr (.inl (va_cpy (w.2 a) (w.2 b) sp.toNatClampNeg dp.toNatClampNeg n.toNatClampNeg))))).heap = H.setIfInBounds (K.ks.ad b) (vp_cell (K.ks.cA 1) (m1, .inr (.inl (va_cpy (w.2 a) (w.2 b) sp.toNatClampNeg dp.toNatClampNeg n.toNatClampNeg)))) := by rw [← hT]; rfl
    generalize hce : vp_cell (K.ks.cA 1) (m1, .inr (.inl (va_cpy (w.2 a) (w.2 b) sp.toNatClampNeg dp.toNatClampNeg n.toNatClampNeg))) = ce at X' step hheap
    have oq : ∀ q : Nat, q ≠ K.ks.ad b → (H.setIfInBounds (K.ks.ad b) ce)[q]? = H[q]? := fun q hq => by simp [Array.getElem?_setIfInBounds, Ne.symm hq]
    have hHn : HH K.ks (cpJ w a sp b dp n) (H.setIfInBounds (K.ks.ad b) ce) := by
      refine hH.put G.2.2.2.2.2.2.1 h1 oq ?_ (fun q hq => cellOf_cpJ hq)
      show (H.setIfInBounds (K.ks.ad b) ce)[K.ks.ad b]? = some (vp_cell (K.ks.cA 1) (m1, .inr (.inl ((cpJ w a sp b dp n).2 b))))
      rw [show (cpJ w a sp b dp n).2 b = va_cpy (w.2 a) (w.2 b) sp.toNatClampNeg dp.toNatClampNeg n.toNatClampNeg by simp [cpJ], hce]
      simp [Array.getElem?_setIfInBounds, hl']
    obtain ⟨t, a1, b1⟩ := kk hf _ _ ls hHn ⟨by simp; exact hS.1, fun q g1 g2 => by
        rw [oq q (fun e => g2 (by rw [e]; exact G.2.2.2.2.2.2.2.1 b h1.1))]
        exact hS.2.1 q g1 g2, fun q hq => by
        rcases List.mem_append.mp hq with h | h
        · exact hS.2.2 q h
        · obtain ⟨z, -, hz⟩ := List.mem_map.mp h
          rw [← hz]
          exact G.2.2.2.2.2.2.2.1 b h1.1⟩ hL _ hheap X'
    exact ⟨t, step t a1, b1⟩
  · rw [if_neg c] at hf; cases hf
end CPY
theorem dJ0_length_8abf5_0 : decode cJ0_length_8abf5 0 = .ok (.aload_n 0, 1) := by decide +kernel
theorem dJ0_length_8abf5_1 : decode cJ0_length_8abf5 1 = .ok (.getfield 9, 3) := by decide +kernel
theorem dJ0_length_8abf5_4 : decode cJ0_length_8abf5 4 = .ok (.arraylength, 1) := by decide +kernel
theorem dJ0_length_8abf5_5 : decode cJ0_length_8abf5 5 = .ok (.aload_n 0, 1) := by decide +kernel
theorem dJ0_length_8abf5_6 : decode cJ0_length_8abf5 6 = .ok (.invokevirtual 335, 3) := by decide +kernel
theorem dJ0_length_8abf5_9 : decode cJ0_length_8abf5 9 = .ok (.ishr, 1) := by decide +kernel
theorem dJ0_length_8abf5_10 : decode cJ0_length_8abf5 10 = .ok (.ireturn, 1) := by decide +kernel
theorem dJ0_indexOf_0f7a4_0 : decode cJ0_indexOf_0f7a4 0 = .ok (.aload_n 0, 1) := by decide +kernel
theorem dJ0_indexOf_0f7a4_1 : decode cJ0_indexOf_0f7a4 1 = .ok (.iload_n 1, 1) := by decide +kernel
theorem dJ0_indexOf_0f7a4_2 : decode cJ0_indexOf_0f7a4 2 = .ok (.iconst 0, 1) := by decide +kernel
theorem dJ0_indexOf_0f7a4_3 : decode cJ0_indexOf_0f7a4 3 = .ok (.invokevirtual 633, 3) := by decide +kernel
theorem dJ0_indexOf_0f7a4_6 : decode cJ0_indexOf_0f7a4 6 = .ok (.ireturn, 1) := by decide +kernel
theorem dJ0_indexOf_7cf53_0 : decode cJ0_indexOf_7cf53 0 = .ok (.aload_n 0, 1) := by decide +kernel
theorem dJ0_indexOf_7cf53_1 : decode cJ0_indexOf_7cf53 1 = .ok (.invokevirtual 492, 3) := by decide +kernel
theorem dJ0_indexOf_7cf53_4 : decode cJ0_indexOf_7cf53 4 = .ok (.ifCond .eq 19, 3) := by decide +kernel
theorem dJ0_indexOf_7cf53_7 : decode cJ0_indexOf_7cf53 7 = .ok (.aload_n 0, 1) := by decide +kernel
theorem dJ0_indexOf_7cf53_8 : decode cJ0_indexOf_7cf53 8 = .ok (.getfield 9, 3) := by decide +kernel
theorem dJ0_indexOf_7cf53_11 : decode cJ0_indexOf_7cf53 11 = .ok (.iload_n 1, 1) := by decide +kernel
theorem dJ0_indexOf_7cf53_12 : decode cJ0_indexOf_7cf53 12 = .ok (.iload_n 2, 1) := by decide +kernel
theorem dJ0_indexOf_7cf53_13 : decode cJ0_indexOf_7cf53 13 = .ok (.aload_n 0, 1) := by decide +kernel
theorem dJ0_indexOf_7cf53_14 : decode cJ0_indexOf_7cf53 14 = .ok (.invokevirtual 505, 3) := by decide +kernel
theorem dJ0_indexOf_7cf53_17 : decode cJ0_indexOf_7cf53 17 = .ok (.invokestatic 637, 3) := by decide +kernel
theorem dJ0_indexOf_7cf53_20 : decode cJ0_indexOf_7cf53 20 = .ok (.goto 16, 3) := by decide +kernel
theorem dJ0_indexOf_7cf53_23 : decode cJ0_indexOf_7cf53 23 = .ok (.aload_n 0, 1) := by decide +kernel
theorem dJ0_indexOf_7cf53_24 : decode cJ0_indexOf_7cf53 24 = .ok (.getfield 9, 3) := by decide +kernel
theorem dJ0_indexOf_7cf53_27 : decode cJ0_indexOf_7cf53 27 = .ok (.iload_n 1, 1) := by decide +kernel
theorem dJ0_indexOf_7cf53_28 : decode cJ0_indexOf_7cf53 28 = .ok (.iload_n 2, 1) := by decide +kernel
theorem dJ0_indexOf_7cf53_29 : decode cJ0_indexOf_7cf53 29 = .ok (.aload_n 0, 1) := by decide +kernel
theorem dJ0_indexOf_7cf53_30 : decode cJ0_indexOf_7cf53 30 = .ok (.invokevirtual 505, 3) := by decide +kernel
theorem dJ0_indexOf_7cf53_33 : decode cJ0_indexOf_7cf53 33 = .ok (.invokestatic 640, 3) := by decide +kernel
theorem dJ0_indexOf_7cf53_36 : decode cJ0_indexOf_7cf53 36 = .ok (.ireturn, 1) := by decide +kernel
theorem dJ0_coder_7d493_0 : decode cJ0_coder_7d493 0 = .ok (.getstatic 38, 3) := by decide +kernel
theorem dJ0_coder_7d493_3 : decode cJ0_coder_7d493 3 = .ok (.ifCond .eq 10, 3) := by decide +kernel
theorem dJ0_coder_7d493_6 : decode cJ0_coder_7d493 6 = .ok (.aload_n 0, 1) := by decide +kernel
theorem dJ0_coder_7d493_7 : decode cJ0_coder_7d493 7 = .ok (.getfield 15, 3) := by decide +kernel
theorem dJ0_coder_7d493_10 : decode cJ0_coder_7d493 10 = .ok (.goto 4, 3) := by decide +kernel
theorem dJ0_coder_7d493_13 : decode cJ0_coder_7d493 13 = .ok (.iconst 1, 1) := by decide +kernel
theorem dJ0_coder_7d493_14 : decode cJ0_coder_7d493 14 = .ok (.ireturn, 1) := by decide +kernel
theorem dJ0_isLatin1_aae02_0 : decode cJ0_isLatin1_aae02 0 = .ok (.getstatic 38, 3) := by decide +kernel
theorem dJ0_isLatin1_aae02_3 : decode cJ0_isLatin1_aae02 3 = .ok (.ifCond .eq 14, 3) := by decide +kernel
theorem dJ0_isLatin1_aae02_6 : decode cJ0_isLatin1_aae02 6 = .ok (.aload_n 0, 1) := by decide +kernel
theorem dJ0_isLatin1_aae02_7 : decode cJ0_isLatin1_aae02 7 = .ok (.getfield 15, 3) := by decide +kernel
theorem dJ0_isLatin1_aae02_10 : decode cJ0_isLatin1_aae02 10 = .ok (.ifCond .ne 7, 3) := by decide +kernel
theorem dJ0_isLatin1_aae02_13 : decode cJ0_isLatin1_aae02 13 = .ok (.iconst 1, 1) := by decide +kernel
theorem dJ0_isLatin1_aae02_14 : decode cJ0_isLatin1_aae02 14 = .ok (.goto 4, 3) := by decide +kernel
theorem dJ0_isLatin1_aae02_17 : decode cJ0_isLatin1_aae02 17 = .ok (.iconst 0, 1) := by decide +kernel
theorem dJ0_isLatin1_aae02_18 : decode cJ0_isLatin1_aae02 18 = .ok (.ireturn, 1) := by decide +kernel
theorem dJ1_canEncode_9a6ad_0 : decode cJ1_canEncode_9a6ad 0 = .ok (.iload_n 0, 1) := by decide +kernel
theorem dJ1_canEncode_9a6ad_1 : decode cJ1_canEncode_9a6ad 1 = .ok (.ifCond .lt 14, 3) := by decide +kernel
theorem dJ1_canEncode_9a6ad_4 : decode cJ1_canEncode_9a6ad 4 = .ok (.iload_n 0, 1) := by decide +kernel
theorem dJ1_canEncode_9a6ad_5 : decode cJ1_canEncode_9a6ad 5 = .ok (.sipush 255, 3) := by decide +kernel
theorem dJ1_canEncode_9a6ad_8 : decode cJ1_canEncode_9a6ad 8 = .ok (.if_icmp .gt 7, 3) := by decide +kernel
theorem dJ1_canEncode_9a6ad_11 : decode cJ1_canEncode_9a6ad 11 = .ok (.iconst 1, 1) := by decide +kernel
theorem dJ1_canEncode_9a6ad_12 : decode cJ1_canEncode_9a6ad 12 = .ok (.goto 4, 3) := by decide +kernel
theorem dJ1_canEncode_9a6ad_15 : decode cJ1_canEncode_9a6ad 15 = .ok (.iconst 0, 1) := by decide +kernel
theorem dJ1_canEncode_9a6ad_16 : decode cJ1_canEncode_9a6ad 16 = .ok (.ireturn, 1) := by decide +kernel
theorem dJ1_indexOf_4cfef_0 : decode cJ1_indexOf_4cfef 0 = .ok (.iload_n 1, 1) := by decide +kernel
theorem dJ1_indexOf_4cfef_1 : decode cJ1_indexOf_4cfef 1 = .ok (.invokestatic 88, 3) := by decide +kernel
theorem dJ1_indexOf_4cfef_4 : decode cJ1_indexOf_4cfef 4 = .ok (.ifCond .ne 5, 3) := by decide +kernel
theorem dJ1_indexOf_4cfef_7 : decode cJ1_indexOf_4cfef 7 = .ok (.iconst (-1), 1) := by decide +kernel
theorem dJ1_indexOf_4cfef_8 : decode cJ1_indexOf_4cfef 8 = .ok (.ireturn, 1) := by decide +kernel
theorem dJ1_indexOf_4cfef_9 : decode cJ1_indexOf_4cfef 9 = .ok (.iload_n 2, 1) := by decide +kernel
theorem dJ1_indexOf_4cfef_10 : decode cJ1_indexOf_4cfef 10 = .ok (.iconst 0, 1) := by decide +kernel
theorem dJ1_indexOf_4cfef_11 : decode cJ1_indexOf_4cfef 11 = .ok (.invokestatic 92, 3) := by decide +kernel
theorem dJ1_indexOf_4cfef_14 : decode cJ1_indexOf_4cfef 14 = .ok (.istore_n 2, 1) := by decide +kernel
theorem dJ1_indexOf_4cfef_15 : decode cJ1_indexOf_4cfef 15 = .ok (.iload_n 3, 1) := by decide +kernel
theorem dJ1_indexOf_4cfef_16 : decode cJ1_indexOf_4cfef 16 = .ok (.aload_n 0, 1) := by decide +kernel
theorem dJ1_indexOf_4cfef_17 : decode cJ1_indexOf_4cfef 17 = .ok (.arraylength, 1) := by decide +kernel
theorem dJ1_indexOf_4cfef_18 : decode cJ1_indexOf_4cfef 18 = .ok (.invokestatic 38, 3) := by decide +kernel
theorem dJ1_indexOf_4cfef_21 : decode cJ1_indexOf_4cfef 21 = .ok (.istore_n 3, 1) := by decide +kernel
theorem dJ1_indexOf_4cfef_22 : decode cJ1_indexOf_4cfef 22 = .ok (.iload_n 2, 1) := by decide +kernel
theorem dJ1_indexOf_4cfef_23 : decode cJ1_indexOf_4cfef 23 = .ok (.iload_n 3, 1) := by decide +kernel
theorem dJ1_indexOf_4cfef_24 : decode cJ1_indexOf_4cfef 24 = .ok (.if_icmp .lt 5, 3) := by decide +kernel
theorem dJ1_indexOf_4cfef_27 : decode cJ1_indexOf_4cfef 27 = .ok (.iconst (-1), 1) := by decide +kernel
theorem dJ1_indexOf_4cfef_28 : decode cJ1_indexOf_4cfef 28 = .ok (.ireturn, 1) := by decide +kernel
theorem dJ1_indexOf_4cfef_29 : decode cJ1_indexOf_4cfef 29 = .ok (.aload_n 0, 1) := by decide +kernel
theorem dJ1_indexOf_4cfef_30 : decode cJ1_indexOf_4cfef 30 = .ok (.iload_n 1, 1) := by decide +kernel
theorem dJ1_indexOf_4cfef_31 : decode cJ1_indexOf_4cfef 31 = .ok (.iload_n 2, 1) := by decide +kernel
theorem dJ1_indexOf_4cfef_32 : decode cJ1_indexOf_4cfef 32 = .ok (.iload_n 3, 1) := by decide +kernel
theorem dJ1_indexOf_4cfef_33 : decode cJ1_indexOf_4cfef 33 = .ok (.invokestatic 95, 3) := by decide +kernel
theorem dJ1_indexOf_4cfef_36 : decode cJ1_indexOf_4cfef 36 = .ok (.ireturn, 1) := by decide +kernel
theorem dJ1_indexOfChar_4cfef_0 : decode cJ1_indexOfChar_4cfef 0 = .ok (.iload_n 1, 1) := by decide +kernel
theorem dJ1_indexOfChar_4cfef_1 : decode cJ1_indexOfChar_4cfef 1 = .ok (.i2b, 1) := by decide +kernel
theorem dJ1_indexOfChar_4cfef_2 : decode cJ1_indexOfChar_4cfef 2 = .ok (.istore 4, 2) := by decide +kernel
theorem dJ1_indexOfChar_4cfef_4 : decode cJ1_indexOfChar_4cfef 4 = .ok (.iload_n 2, 1) := by decide +kernel
theorem dJ1_indexOfChar_4cfef_5 : decode cJ1_indexOfChar_4cfef 5 = .ok (.istore 5, 2) := by decide +kernel
theorem dJ1_indexOfChar_4cfef_7 : decode cJ1_indexOfChar_4cfef 7 = .ok (.iload 5, 2) := by decide +kernel
theorem dJ1_indexOfChar_4cfef_9 : decode cJ1_indexOfChar_4cfef 9 = .ok (.iload_n 3, 1) := by decide +kernel
theorem dJ1_indexOfChar_4cfef_10 : decode cJ1_indexOfChar_4cfef 10 = .ok (.if_icmp .ge 21, 3) := by decide +kernel
theorem dJ1_indexOfChar_4cfef_13 : decode cJ1_indexOfChar_4cfef 13 = .ok (.aload_n 0, 1) := by decide +kernel
theorem dJ1_indexOfChar_4cfef_14 : decode cJ1_indexOfChar_4cfef 14 = .ok (.iload 5, 2) := by decide +kernel
theorem dJ1_indexOfChar_4cfef_16 : decode cJ1_indexOfChar_4cfef 16 = .ok (.baload, 1) := by decide +kernel
theorem dJ1_indexOfChar_4cfef_17 : decode cJ1_indexOfChar_4cfef 17 = .ok (.iload 4, 2) := by decide +kernel
theorem dJ1_indexOfChar_4cfef_19 : decode cJ1_indexOfChar_4cfef 19 = .ok (.if_icmp .ne 6, 3) := by decide +kernel
theorem dJ1_indexOfChar_4cfef_22 : decode cJ1_indexOfChar_4cfef 22 = .ok (.iload 5, 2) := by decide +kernel
theorem dJ1_indexOfChar_4cfef_24 : decode cJ1_indexOfChar_4cfef 24 = .ok (.ireturn, 1) := by decide +kernel
theorem dJ1_indexOfChar_4cfef_25 : decode cJ1_indexOfChar_4cfef 25 = .ok (.iinc 5 1, 3) := by decide +kernel
theorem dJ1_indexOfChar_4cfef_28 : decode cJ1_indexOfChar_4cfef 28 = .ok (.goto (-21), 3) := by decide +kernel
theorem dJ1_indexOfChar_4cfef_31 : decode cJ1_indexOfChar_4cfef 31 = .ok (.iconst (-1), 1) := by decide +kernel
theorem dJ1_indexOfChar_4cfef_32 : decode cJ1_indexOfChar_4cfef 32 = .ok (.ireturn, 1) := by decide +kernel
section STR
variable {K : KT} {cc : ByteArray} {own : String} {nL d pc i : Nat} {lv : List (Option Value)} {st : List Value} {w : Wd}
-- the constant "hsptdkowfcmu": String.indexOf on it
theorem gX (G : GK K cc own nL d) (M : Main K.ks) : XG K.ks K.A K.s K.s.heap := by
  have h := M.1.2 _ _ _ G.2.2.2.2.2.1.2.2.1
  rw [G.2.2.2.2.2.1.2.2.2] at h
  exact h
theorem gS (G : GK K cc own nL d) {H : Heap} {locs : List Loc} (hS : va_S K.A K.H0 H locs) : va_S K.A K.s.heap H locs := by
  rw [G.2.2.2.2.2.1.2.2.2] at hS
  exact hS
theorem xs_gets (G : GK K cc own nL d) (M : Main K.ks) (hl : Cond.fieldLink own i "java/lang/String" "COMPACT_STRINGS" "Z" ∈ gtbl) (hd : decode cc pc = .ok (.getstatic i, 3)) (kk : XW K (pc + 3) lv (.int 1 :: st) w) : XW K pc lv st w := fun H locs ls hH hS hL => va_gets G.1 G.2.1 (gX G M).1.1 (gS G hS) G.2.2.2.1 (G.2.2.2.2.1 _ hl) (fun _ h => h) hd (kk H locs ls hH hS hL)
theorem xs_coder (G : GK K cc own nL d) (M : Main K.ks) (hl : Cond.fieldLink own i "java/lang/String" "coder" "B" ∈ gtbl) (hd : decode cc pc = .ok (.getfield i, 3)) (kk : XW K (pc + 3) lv (.int 0 :: st) w) : XW K pc lv (.ref 9000 :: st) w := fun H locs ls hH hS hL => vk_getf G.1 G.2.1 ((gX G M).1.2.1.1 0 (by decide)).2.1 (gS G hS) G.2.2.2.1 (G.2.2.2.2.1 _ hl) (fun _ h => h) hd (kk H locs ls hH hS hL)
theorem xs_value (G : GK K cc own nL d) (M : Main K.ks) (hl : Cond.fieldLink own i "java/lang/String" "value" "[B" ∈ gtbl) (hd : decode cc pc = .ok (.getfield i, 3)) (kk : XW K (pc + 3) lv (.ref 9001 :: st) w) : XW K pc lv (.ref 9000 :: st) w := fun H locs ls hH hS hL => vk_getf G.1 G.2.1 ((gX G M).1.2.1.1 0 (by decide)).2.2.1 (gS G hS) G.2.2.2.1 (G.2.2.2.2.1 _ hl) (fun _ h => h) hd (kk H locs ls hH hS hL)
theorem xs_len (G : GK K cc own nL d) (M : Main K.ks) (hd : decode cc pc = .ok (.arraylength, 1)) (kk : XW K (pc + 1) lv (.int 12 :: st) w) : XW K pc lv (.ref 9001 :: st) w := fun H locs ls hH hS hL => va_tlen G.1 G.2.1 ((gX G M).1.2.1.1 0 (by decide)).2.2.2 (gS G hS) (v := 12) (by decide +kernel) hd (kk H locs ls hH hS hL)
def ixB : List Int32 := [104, 115, 112, 116, 100, 107, 111, 119, 102, 99, 109, 117]
theorem xs_byte (G : GK K cc own nL d) (M : Main K.ks) {j : Nat} (hj : j < 12) (hd : decode cc pc = .ok (.baload, 1)) (kk : XW K (pc + 1) lv (.int (ixB.getD j 0) :: st) w) : XW K pc lv (.int (nI j) :: .ref 9001 :: st) w := fun H locs ls hH hS hL => va_tb G.1 G.2.1 ((gX G M).1.2.1.1 0 (by decide)).2.2.2 (gS G hS) (vp_in_nI hj (by decide)) (v := .int (ixB.getD j 0)) (by rw [nI_clamp (by omega)]; rfl) hd (kk H locs ls hH hS hL)
theorem xs_recv (G : GK K cc own nL d) (M : Main K.ks) {H : Heap} {locs : List Loc} (hS : va_S K.A K.H0 H locs) : ∃ cell : Cell, H[K.ks.ad 9000]? = some cell ∧ cell.vm.isStatics = false ∧ K.s.vm.findClass "java/lang/String" = some cell.cls := vk_recv (gX G M).1.2.1 (i := 0) (by decide) (gS G hS)
theorem xs_virI {y : MethodName} {b : ByteArray} {n k d' : Nat} {ret : Option FieldType} {As : List Value} {w' : Wd} (G : GK K cc own nL d) (M : Main K.ks) {r0 : Int32} (hM : CI K.l y b n ret d' K.ks (.ref 9000 :: As) w r0 w') (hv : MV own i y b n ret "java/lang/String" k) {st0 : List Value} (hst : st0 = As.reverse ++ .ref 9000 :: st) (hl : As.length = k) (hdd : Nat.blt d' d = true) (hn : Nat.ble n 41 = true) (h8 : Nat.ble (st.map fun v => v.category).sum 8 = true) (hd : decode cc pc = .ok (.invokevirtual i, 3)) (kk : XW K (pc + 3) lv (.int r0 :: st) w') : XW K pc lv st0 w := fun H locs ls hH hS hL => by
  subst hst
  have hA := g_inA G hS
  have h8' : (st.map fun v => v.category).sum ≤ 8 := Nat.le_of_ble_eq_true h8
  refine va_calli (va_runV (As := As.map (cv K.ks.ad)) (rest := st.map (cv K.ks.ad)) (b := K.ks.ad 9000) (g_fix G) (hM H.size) (g_cwV G hv hdd hn) ⟨pc_blind G.2.2.2.2.2.2.1, xs_recv G M hS, g_pre G hS hH (.ref 9000 :: As)⟩ rfl (by rw [List.length_map]; exact hl) (hL.1.trans G.2.2.1) (by show List.map _ _ = _; simp [cv]) (lv_room (by rw [cv_cats]; exact h8')) hd ⟨G.2.2.2.2.2.2.2.2.2.2.2.2.1, G.2.2.2.2.2.2.2.2.2.2.2.2.2⟩) hS hA.1 hA.2 (fun r u t H1 locs1 ht hvm hp hB hz hk1 hS1 => ?_)
  subst hp
  exact kk H1 locs1 ls (by rw [← ht]; exact hB) hS1 hL
theorem xs_ldc (G : GK K cc own nL d) (M : Main K.ks) (ho : own = RX4) (hd : decode cc pc = .ok (.ldc 187, 2)) (kk : XW K (pc + 2) lv (.ref 9000 :: st) w) : XW K pc lv st w := fun H locs ls hH hS hL => va_ldcS G.1 G.2.1 G.2.2.2.1 (by rw [ho]; exact (gX G M).1.2.2) hd (kk H locs ls hH hS hL)
theorem xs_max (G : GK K cc own nL d) {x y : Int32} (hl : Cond.methodLink own i Lib.Math.max.name ∈ gtbl) (h1 : Cond.static Lib.Math.max.name ∈ gtbl) (h2 : Cond.initialized "java/lang/Math" ∈ gtbl) (h3 : Cond.code Lib.Math.max.name Lib.Math.max.code 2 (some .int) ∈ gtbl) (hd0 : Nat.blt 0 d = true) (h8 : Nat.ble (st.map fun v => v.category).sum 8 = true) (hd : decode cc pc = .ok (.invokestatic i, 3)) (kk : XW K (pc + 3) lv (.int (if x < y then y else x) :: st) w) : XW K pc lv (.int y :: .int x :: st) w := fun H locs ls hH hS hL => by
  have hd0 : 0 < d := Nat.le_of_ble_eq_true hd0
  obtain ⟨r1, r2, r3, r4⟩ := G.2.2.2.2.2.2.2.2.2.2
  have h8' : ((st.map (cv K.ks.ad)).map fun v => v.category).sum ≤ 8 := by rw [cv_cats]; exact Nat.le_of_ble_eq_true h8
  exact va_mmax G.1 G.2.1 hL.1.symm G.2.2.2.1 (G.2.2.2.2.1 _ hl) (G.2.2.2.2.1 _ h1) (G.2.2.2.2.1 _ h2) (G.2.2.2.2.1 _ h3) (by omega) (by omega) r3 r4 hd (kk H locs ls hH hS hL)
end STR
theorem wjF1 : Cond.fieldLink RJ0 38 "java/lang/String" "COMPACT_STRINGS" "Z" ∈ gtbl := gq (by decide +kernel) (by decide +kernel)
theorem wjF2 : Cond.fieldLink RJ0 15 "java/lang/String" "coder" "B" ∈ gtbl := gq (by decide +kernel) (by decide +kernel)
theorem wjF3 : Cond.fieldLink RJ0 9 "java/lang/String" "value" "[B" ∈ gtbl := gq (by decide +kernel) (by decide +kernel)
theorem wjI0 : Cond.initialized "java/lang/String" ∈ gtbl := gq (by decide +kernel) (by decide +kernel)
theorem wjM189 : MV RX4 189 yJ0_indexOf_0f7a4 cJ0_indexOf_0f7a4 2 (some .int) "java/lang/String" 1 := ⟨⟨gq (by decide +kernel) (by decide +kernel), gq (by decide +kernel) (by decide +kernel), gq (by decide +kernel) (by decide +kernel), wjI0, gq (by decide +kernel) (by decide +kernel)⟩, by decide +kernel⟩
theorem wjM633 : MV RJ0 633 yJ0_indexOf_7cf53 cJ0_indexOf_7cf53 3 (some .int) "java/lang/String" 2 := ⟨⟨gq (by decide +kernel) (by decide +kernel), gq (by decide +kernel) (by decide +kernel), gq (by decide +kernel) (by decide +kernel), wjI0, gq (by decide +kernel) (by decide +kernel)⟩, by decide +kernel⟩
theorem wjM492 : MV RJ0 492 yJ0_isLatin1_aae02 cJ0_isLatin1_aae02 1 (some .boolean) "java/lang/String" 0 := ⟨⟨gq (by decide +kernel) (by decide +kernel), gq (by decide +kernel) (by decide +kernel), gq (by decide +kernel) (by decide +kernel), wjI0, gq (by decide +kernel) (by decide +kernel)⟩, by decide +kernel⟩
theorem wjM505 : MV RJ0 505 yJ0_length_8abf5 cJ0_length_8abf5 1 (some .int) "java/lang/String" 0 := ⟨⟨gq (by decide +kernel) (by decide +kernel), gq (by decide +kernel) (by decide +kernel), gq (by decide +kernel) (by decide +kernel), wjI0, gq (by decide +kernel) (by decide +kernel)⟩, by decide +kernel⟩
theorem wjM335 : MV RJ0 335 yJ0_coder_7d493 cJ0_coder_7d493 1 (some .byte) "java/lang/String" 0 := ⟨⟨gq (by decide +kernel) (by decide +kernel), gq (by decide +kernel) (by decide +kernel), gq (by decide +kernel) (by decide +kernel), wjI0, gq (by decide +kernel) (by decide +kernel)⟩, by decide +kernel⟩
theorem wjS637 : MS RJ0 637 yJ1_indexOf_4cfef cJ1_indexOf_4cfef 4 (some .int) 4 := ⟨⟨gq (by decide +kernel) (by decide +kernel), gq (by decide +kernel) (by decide +kernel), gq (by decide +kernel) (by decide +kernel), gq (by decide +kernel) (by decide +kernel)⟩, by decide +kernel⟩
theorem wjS88 : MS RJ1 88 yJ1_canEncode_9a6ad cJ1_canEncode_9a6ad 1 (some .boolean) 1 := ⟨⟨gq (by decide +kernel) (by decide +kernel), gq (by decide +kernel) (by decide +kernel), gq (by decide +kernel) (by decide +kernel), gq (by decide +kernel) (by decide +kernel)⟩, by decide +kernel⟩
theorem wjS95 : MS RJ1 95 yJ1_indexOfChar_4cfef cJ1_indexOfChar_4cfef 6 (some .int) 4 := ⟨⟨gq (by decide +kernel) (by decide +kernel), gq (by decide +kernel) (by decide +kernel), gq (by decide +kernel) (by decide +kernel), gq (by decide +kernel) (by decide +kernel)⟩, by decide +kernel⟩
theorem wjX1 : Cond.methodLink RJ1 92 Lib.Math.max.name ∈ gtbl := gq (by decide +kernel) (by decide +kernel)
theorem wjX2 : Cond.static Lib.Math.max.name ∈ gtbl := gq (by decide +kernel) (by decide +kernel)
theorem wjX3 : Cond.initialized "java/lang/Math" ∈ gtbl := gq (by decide +kernel) (by decide +kernel)
theorem wjX4 : Cond.code Lib.Math.max.name Lib.Math.max.code 2 (some .int) ∈ gtbl := gq (by decide +kernel) (by decide +kernel)
theorem wjN1 : Cond.methodLink RJ1 38 Lib.Math.min.name ∈ gtbl := gq (by decide +kernel) (by decide +kernel)
theorem wjN2 : Cond.static Lib.Math.min.name ∈ gtbl := gq (by decide +kernel) (by decide +kernel)
theorem wjN4 : Cond.code Lib.Math.min.name Lib.Math.min.code 2 (some .int) ∈ gtbl := gq (by decide +kernel) (by decide +kernel)
section
variable {l : Launch} {S : KS} {w : Wd}
theorem ms_isLatin1 (hI : Inj S) (M : Main S) : CI l yJ0_isLatin1_aae02 cJ0_isLatin1_aae02 1 (some .boolean) 1 S [.ref 9000] w 1 w := by
  intro sz
  refine mk_entry (own := RJ0) rfl (by decide +kernel) hI 0 rfl rfl (fun K h1 h2 h3 h4 h5 h6 G => ?_)
  subst h2
  refine xs_gets G M wjF1 dJ0_isLatin1_aae02_0 ?_
  refine x_ifeq (r := ()) (A := some ()) (B := some ()) G (tgt := 17) dJ0_isLatin1_aae02_3 (by decide) if_same (fun c _ => absurd c (by decide)) (fun _ _ => ?_)
  refine x_aload_n G dJ0_isLatin1_aae02_6 rfl rfl ?_
  refine xs_coder G M wjF2 dJ0_isLatin1_aae02_7 ?_
  refine x_ifne (r := ()) (A := some ()) (B := some ()) G (tgt := 17) dJ0_isLatin1_aae02_10 (by decide) if_same (fun _ _ => ?_) (fun c _ => absurd rfl c)
  refine x_iconst G (v := 1) dJ0_isLatin1_aae02_13 (by decide) ?_
  refine x_goto G (tgt := 18) dJ0_isLatin1_aae02_14 (by decide) ?_
  exact x_iret G (rt := .boolean) ⟨h3, by rw [h4, h6], h5⟩ (by decide +kernel) dJ0_isLatin1_aae02_18
theorem ms_coder (hI : Inj S) (M : Main S) : CI l yJ0_coder_7d493 cJ0_coder_7d493 1 (some .byte) 1 S [.ref 9000] w 0 w := by
  intro sz
  refine mk_entry (own := RJ0) rfl (by decide +kernel) hI 0 rfl rfl (fun K h1 h2 h3 h4 h5 h6 G => ?_)
  subst h2
  refine xs_gets G M wjF1 dJ0_coder_7d493_0 ?_
  refine x_ifeq (r := ()) (A := some ()) (B := some ()) G (tgt := 13) dJ0_coder_7d493_3 (by decide) if_same (fun c _ => absurd c (by decide)) (fun _ _ => ?_)
  refine x_aload_n G dJ0_coder_7d493_6 rfl rfl ?_
  refine xs_coder G M wjF2 dJ0_coder_7d493_7 ?_
  refine x_goto G (tgt := 14) dJ0_coder_7d493_10 (by decide) ?_
  exact x_iret G (rt := .byte) ⟨h3, by rw [h4, h6], h5⟩ (by decide +kernel) dJ0_coder_7d493_14
theorem ms_length (hI : Inj S) (M : Main S) : CI l yJ0_length_8abf5 cJ0_length_8abf5 1 (some .int) 2 S [.ref 9000] w 12 w := by
  intro sz
  refine mk_entry (own := RJ0) rfl (by decide +kernel) hI 0 rfl rfl (fun K h1 h2 h3 h4 h5 h6 G => ?_)
  subst h2
  refine x_aload_n G dJ0_length_8abf5_0 rfl rfl ?_
  refine xs_value G M wjF3 dJ0_length_8abf5_1 ?_
  refine xs_len G M dJ0_length_8abf5_4 ?_
  refine x_aload_n G dJ0_length_8abf5_5 rfl rfl ?_
  refine xs_virI G M (As := []) (ms_coder G.2.2.2.2.2.2.1 M) wjM335 rfl rfl rfl rfl rfl dJ0_length_8abf5_6 ?_
  refine x_ishr G dJ0_length_8abf5_9 ?_
  exact x_iretP G (r := 12) (by decide +kernel) ⟨h3, by rw [h4, h6], h5⟩ dJ0_length_8abf5_10
theorem ms_can (hI : Inj S) {c r : Int32} (hf : (if c < 0 then some 0 else if 255 < c then some 0 else some (1 : Int32)) = some r) : CI l yJ1_canEncode_9a6ad cJ1_canEncode_9a6ad 1 (some .boolean) 1 S [.int c] w r w := by
  intro sz
  refine mk_entry (own := RJ1) rfl (by decide +kernel) hI 0 rfl rfl (fun K h1 h2 h3 h4 h5 h6 G => ?_)
  subst h2
  refine x_iload_n G dJ1_canEncode_9a6ad_0 rfl rfl ?_
  refine x_iflt G (tgt := 15) dJ1_canEncode_9a6ad_1 (by decide) hf (fun _ hf => ?_) (fun _ hf => ?_)
  · cases hf
    refine x_iconst G (v := 0) dJ1_canEncode_9a6ad_15 (by decide) ?_
    exact x_iret G (rt := .boolean) ⟨h3, by rw [h4, h6], h5⟩ (by decide +kernel) dJ1_canEncode_9a6ad_16
  refine x_iload_n G dJ1_canEncode_9a6ad_4 rfl rfl ?_
  refine x_sipush G (v := 255) dJ1_canEncode_9a6ad_5 (by decide) ?_
  refine x_icmpgt G (tgt := 15) dJ1_canEncode_9a6ad_8 (by decide) hf (fun _ hf => ?_) (fun _ hf => ?_)
  · cases hf
    refine x_iconst G (v := 0) dJ1_canEncode_9a6ad_15 (by decide) ?_
    exact x_iret G (rt := .boolean) ⟨h3, by rw [h4, h6], h5⟩ (by decide +kernel) dJ1_canEncode_9a6ad_16
  cases hf
  refine x_iconst G (v := 1) dJ1_canEncode_9a6ad_11 (by decide) ?_
  refine x_goto G (tgt := 16) dJ1_canEncode_9a6ad_12 (by decide) ?_
  exact x_iret G (rt := .boolean) ⟨h3, by rw [h4, h6], h5⟩ (by decide +kernel) dJ1_canEncode_9a6ad_16
def ixF (c : Int32) : List Int32 → Nat → Int32
  | [], _ => -1
  | b :: l, k => if b = c then nI k else ixF c l (k + 1)
theorem xs_char7 {K : KT} {c c8 : Int32} (G : GK K cJ1_indexOfChar_4cfef RJ1 6 1) (M : Main K.ks) {r : Int32} (hr : RI K .int r w) : ∀ (l : List Int32) (k : Nat), ixB.drop k = l → k ≤ 12 → ixF c8 l k = r → XW K 7 [some (.ref 9001), some (.int c), some (.int 0), some (.int 12), some (.int c8), some (.int (nI k))] [] w := by
  intro l
  induction l with
  | nil =>
    intro k hk h12 hf
    have : k = 12 := by
      have := List.drop_eq_nil_iff.mp hk
      have h3 : ixB.length = 12 := rfl
      omega
    subst this
    refine x_iload G dJ1_indexOfChar_4cfef_7 rfl ?_
    refine x_iload_n G dJ1_indexOfChar_4cfef_9 rfl rfl ?_
    refine x_icmpge (r := ()) (A := some ()) (B := some ()) G (tgt := 31) dJ1_indexOfChar_4cfef_10 (by decide) if_same (fun c _ => absurd c (by decide)) (fun _ _ => ?_)
    refine x_iconst G (v := -1) dJ1_indexOfChar_4cfef_31 (by decide) ?_
    exact x_iretP G (congrArg some hf) hr dJ1_indexOfChar_4cfef_32
  | cons b l ih =>
    intro k hk h12 hf
    have hlt : k < 12 := by
      rcases Nat.lt_or_ge k 12 with h | h
      · exact h
      · rw [List.drop_eq_nil_iff.mpr h] at hk; cases hk
    have hb : ixB.getD k 0 = b := by
      have h2 := congrArg (fun l : List Int32 => l[0]?) hk
      simp only [List.getElem?_drop, Nat.add_zero, List.getElem?_cons_zero] at h2
      rw [List.getD_eq_getElem?_getD, h2]; rfl
    have hk2 : ixB.drop (k + 1) = l := by
      have h2 := congrArg List.tail hk
      rw [List.tail_drop] at h2
      exact h2
    refine x_iload G dJ1_indexOfChar_4cfef_7 rfl ?_
    refine x_iload_n G dJ1_indexOfChar_4cfef_9 rfl rfl ?_
    refine x_icmpge (r := ()) (A := some ()) (B := some ()) G (tgt := 31) dJ1_indexOfChar_4cfef_10 (by decide) if_same (fun _ _ => ?_) (fun c _ => absurd (nI_lt (b := 12) hlt (by decide)) c)
    refine x_aload_n G dJ1_indexOfChar_4cfef_13 rfl rfl ?_
    refine x_iload G dJ1_indexOfChar_4cfef_14 rfl ?_
    refine xs_byte G M hlt dJ1_indexOfChar_4cfef_16 ?_
    rw [hb]
    refine x_iload G dJ1_indexOfChar_4cfef_17 rfl ?_
    have hf2 : (if b = c8 then some (nI k) else some (ixF c8 l (k + 1))) = some r := by
      rw [← hf, ixF]
      split <;> rfl
    refine x_icmpne G (tgt := 25) dJ1_indexOfChar_4cfef_19 (by decide) hf2 (fun _ hf => ?_) (fun _ hf => ?_)
    · refine x_iload G dJ1_indexOfChar_4cfef_22 rfl ?_
      exact x_iretP G hf hr dJ1_indexOfChar_4cfef_24
    · refine x_iinc G (lv' := [some (.ref 9001), some (.int c), some (.int 0), some (.int 12), some (.int c8), some (.int (nI k + 1))]) (v := 1) dJ1_indexOfChar_4cfef_25 rfl (by decide) rfl rfl rfl ?_
      rw [nI_1]
      refine x_goto G (tgt := 7) dJ1_indexOfChar_4cfef_28 (by decide) ?_
      exact ih (k + 1) hk2 (by omega) (Option.some.inj hf)
theorem ms_char (hI : Inj S) (M : Main S) {c r : Int32} (hf : ixF c.toInt8.toInt32 ixB 0 = r) : CI l yJ1_indexOfChar_4cfef cJ1_indexOfChar_4cfef 6 (some .int) 1 S [.ref 9001, .int c, .int 0, .int 12] w r w := by
  intro sz
  refine mk_entry (own := RJ1) rfl (by decide +kernel) hI 2 rfl rfl (fun K h1 h2 h3 h4 h5 h6 G => ?_)
  subst h2
  refine x_iload_n G dJ1_indexOfChar_4cfef_0 rfl rfl ?_
  refine x_i2b G dJ1_indexOfChar_4cfef_1 ?_
  refine x_istore G (lv' := [some (.ref 9001), some (.int c), some (.int 0), some (.int 12), some (.int c.toInt8.toInt32), none]) dJ1_indexOfChar_4cfef_2 rfl rfl rfl ?_
  refine x_iload_n G dJ1_indexOfChar_4cfef_4 rfl rfl ?_
  refine x_istore G (lv' := [some (.ref 9001), some (.int c), some (.int 0), some (.int 12), some (.int c.toInt8.toInt32), some (.int 0)]) dJ1_indexOfChar_4cfef_5 rfl rfl rfl ?_
  exact xs_char7 G M ⟨h3, by rw [h4, h6], h5⟩ ixB 0 rfl (by decide) hf
theorem ms_lat (hI : Inj S) (M : Main S) {c r : Int32} (hf : (if c < 0 then -1 else if 255 < c then -1 else ixF c.toInt8.toInt32 ixB 0) = r) : CI l yJ1_indexOf_4cfef cJ1_indexOf_4cfef 4 (some .int) 2 S [.ref 9001, .int c, .int 0, .int 12] w r w := by
  intro sz
  refine mk_entry (own := RJ1) rfl (by decide +kernel) hI 0 rfl rfl (fun K h1 h2 h3 h4 h5 h6 G => ?_)
  subst h2
  refine x_iload_n G dJ1_indexOf_4cfef_0 rfl rfl ?_
  refine x_staI G (As := [.int c]) (ms_can G.2.2.2.2.2.2.1 (r := if c < 0 then 0 else if 255 < c then 0 else 1) (by split <;> (try split) <;> rfl)) wjS88 rfl rfl rfl rfl rfl dJ1_indexOf_4cfef_1 ?_
  refine x_ifne (r := ()) (A := some ()) (B := some ()) G (tgt := 9) dJ1_indexOf_4cfef_4 (by decide) if_same (fun h _ => ?_) (fun h _ => ?_)
  · refine x_iconst G (v := -1) dJ1_indexOf_4cfef_7 (by decide) ?_
    refine x_iretP G (r := r) ?_ ⟨h3, by rw [h4, h6], h5⟩ dJ1_indexOf_4cfef_8
    rw [← hf]
    by_cases c1 : c < 0
    · rw [if_pos c1]
    · by_cases c2 : 255 < c
      · rw [if_neg c1, if_pos c2]
      · rw [if_neg c1, if_neg c2] at h
        exact absurd h (by decide)
  have c1 : ¬ c < 0 := fun c1 => h (by rw [if_pos c1])
  have c2 : ¬ 255 < c := fun c2 => h (by rw [if_neg c1, if_pos c2])
  rw [if_neg c1, if_neg c2] at hf
  refine x_iload_n G dJ1_indexOf_4cfef_9 rfl rfl ?_
  refine x_iconst G (v := 0) dJ1_indexOf_4cfef_10 (by decide) ?_
  refine xs_max G wjX1 wjX2 wjX3 wjX4 rfl rfl dJ1_indexOf_4cfef_11 ?_
  refine x_istore_n G (lv' := [some (.ref 9001), some (.int c), some (.int 0), some (.int 12)]) dJ1_indexOf_4cfef_14 rfl rfl rfl rfl ?_
  refine x_iload_n G dJ1_indexOf_4cfef_15 rfl rfl ?_
  refine x_aload_n G dJ1_indexOf_4cfef_16 rfl rfl ?_
  refine xs_len G M dJ1_indexOf_4cfef_17 ?_
  refine x_min G wjN1 wjN2 wjX3 wjN4 rfl rfl dJ1_indexOf_4cfef_18 ?_
  refine x_istore_n G (lv' := [some (.ref 9001), some (.int c), some (.int 0), some (.int 12)]) dJ1_indexOf_4cfef_21 rfl rfl rfl rfl ?_
  refine x_iload_n G dJ1_indexOf_4cfef_22 rfl rfl ?_
  refine x_iload_n G dJ1_indexOf_4cfef_23 rfl rfl ?_
  refine x_icmplt (r := ()) (A := some ()) (B := some ()) G (tgt := 29) dJ1_indexOf_4cfef_24 (by decide) if_same (fun _ _ => ?_) (fun h _ => absurd (by decide) h)
  refine x_aload_n G dJ1_indexOf_4cfef_29 rfl rfl ?_
  refine x_iload_n G dJ1_indexOf_4cfef_30 rfl rfl ?_
  refine x_iload_n G dJ1_indexOf_4cfef_31 rfl rfl ?_
  refine x_iload_n G dJ1_indexOf_4cfef_32 rfl rfl ?_
  refine x_staI G (As := [.ref 9001, .int c, .int 0, .int 12]) (ms_char G.2.2.2.2.2.2.1 M hf) wjS95 rfl rfl rfl rfl rfl dJ1_indexOf_4cfef_33 ?_
  exact x_iretP G rfl ⟨h3, by rw [h4, h6], h5⟩ dJ1_indexOf_4cfef_36
theorem ms_index2 (hI : Inj S) (M : Main S) {c r : Int32} (hf : (if c < 0 then -1 else if 255 < c then -1 else ixF c.toInt8.toInt32 ixB 0) = r) : CI l yJ0_indexOf_7cf53 cJ0_indexOf_7cf53 3 (some .int) 3 S [.ref 9000, .int c, .int 0] w r w := by
  intro sz
  refine mk_entry (own := RJ0) rfl (by decide +kernel) hI 0 rfl rfl (fun K h1 h2 h3 h4 h5 h6 G => ?_)
  subst h2
  refine x_aload_n G dJ0_indexOf_7cf53_0 rfl rfl ?_
  refine xs_virI G M (As := []) (ms_isLatin1 G.2.2.2.2.2.2.1 M) wjM492 rfl rfl rfl rfl rfl dJ0_indexOf_7cf53_1 ?_
  refine x_ifeq (r := ()) (A := some ()) (B := some ()) G (tgt := 23) dJ0_indexOf_7cf53_4 (by decide) if_same (fun c _ => absurd c (by decide)) (fun _ _ => ?_)
  refine x_aload_n G dJ0_indexOf_7cf53_7 rfl rfl ?_
  refine xs_value G M wjF3 dJ0_indexOf_7cf53_8 ?_
  refine x_iload_n G dJ0_indexOf_7cf53_11 rfl rfl ?_
  refine x_iload_n G dJ0_indexOf_7cf53_12 rfl rfl ?_
  refine x_aload_n G dJ0_indexOf_7cf53_13 rfl rfl ?_
  refine xs_virI G M (As := []) (ms_length G.2.2.2.2.2.2.1 M) wjM505 rfl rfl rfl rfl rfl dJ0_indexOf_7cf53_14 ?_
  refine x_staI G (As := [.ref 9001, .int c, .int 0, .int 12]) (ms_lat G.2.2.2.2.2.2.1 M hf) wjS637 rfl rfl rfl rfl rfl dJ0_indexOf_7cf53_17 ?_
  refine x_goto G (tgt := 36) dJ0_indexOf_7cf53_20 (by decide) ?_
  exact x_iretP G rfl ⟨h3, by rw [h4, h6], h5⟩ dJ0_indexOf_7cf53_36
theorem ms_index (hI : Inj S) (M : Main S) {c r : Int32} (hf : (if c < 0 then -1 else if 255 < c then -1 else ixF c.toInt8.toInt32 ixB 0) = r) : CI l yJ0_indexOf_0f7a4 cJ0_indexOf_0f7a4 2 (some .int) 4 S [.ref 9000, .int c] w r w := by
  intro sz
  refine mk_entry (own := RJ0) rfl (by decide +kernel) hI 0 rfl rfl (fun K h1 h2 h3 h4 h5 h6 G => ?_)
  subst h2
  refine x_aload_n G dJ0_indexOf_0f7a4_0 rfl rfl ?_
  refine x_iload_n G dJ0_indexOf_0f7a4_1 rfl rfl ?_
  refine x_iconst G (v := 0) dJ0_indexOf_0f7a4_2 (by decide) ?_
  refine xs_virI G M (As := [.int c, .int 0]) (ms_index2 G.2.2.2.2.2.2.1 M hf) wjM633 rfl rfl rfl rfl rfl dJ0_indexOf_0f7a4_3 ?_
  exact x_iretP G rfl ⟨h3, by rw [h4, h6], h5⟩ dJ0_indexOf_0f7a4_6
end
def ixN (c : Int32) : Int32 := if c = 104 then 0 else if c = 115 then 1 else if c = 112 then 2 else if c = 116 then 3 else if c = 100 then 4 else if c = 107 then 5 else if c = 111 then 6 else if c = 119 then 7 else if c = 102 then 8 else if c = 99 then 9 else if c = 109 then 10 else if c = 117 then 11 else -1
theorem ixN_all : ∀ n : Nat, n < 256 → ixF (nI n).toInt8.toInt32 ixB 0 = ixN (nI n) := by decide +kernel
theorem ix_fact (x : Int32) : (if (x.toUInt32 % 65536).toInt32 < 0 then -1 else if 255 < (x.toUInt32 % 65536).toInt32 then -1 else ixF (x.toUInt32 % 65536).toInt32.toInt8.toInt32 ixB 0) = factIx x := by
  have e : factIx x = ixN (x.toUInt32 % 65536).toInt32 := rfl
  rw [e]
  generalize (x.toUInt32 % 65536).toInt32 = c
  by_cases h0 : c < 0
  · rw [if_pos h0]
    have hne : ∀ k : Int32, ¬ k < 0 → c ≠ k := fun k hk e => hk (e ▸ h0)
    unfold ixN
    rw [if_neg (hne _ (by decide)), if_neg (hne _ (by decide)), if_neg (hne _ (by decide)), if_neg (hne _ (by decide)), if_neg (hne _ (by decide)), if_neg (hne _ (by decide)), if_neg (hne _ (by decide)), if_neg (hne _ (by decide)), if_neg (hne _ (by decide)), if_neg (hne _ (by decide)), if_neg (hne _ (by decide)), if_neg (hne _ (by decide))]
  by_cases h1 : 255 < c
  · rw [if_neg h0, if_pos h1]
    have hne : ∀ k : Int32, ¬ 255 < k → c ≠ k := fun k hk e => hk (e ▸ h1)
    unfold ixN
    rw [if_neg (hne _ (by decide)), if_neg (hne _ (by decide)), if_neg (hne _ (by decide)), if_neg (hne _ (by decide)), if_neg (hne _ (by decide)), if_neg (hne _ (by decide)), if_neg (hne _ (by decide)), if_neg (hne _ (by decide)), if_neg (hne _ (by decide)), if_neg (hne _ (by decide)), if_neg (hne _ (by decide)), if_neg (hne _ (by decide))]
  rw [if_neg h0, if_neg h1]
  obtain ⟨n, hn, rfl⟩ := nI_of h0
  exact ixN_all n (by
    rcases Nat.lt_or_ge n 256 with q | q
    · exact q
    · exact absurd (nI_lt (a := 255) (b := n) (by omega) hn) h1)
-- FACTS.indexOf((char) c)
theorem x_facts {K : KT} {nL d pc : Nat} {lv : List (Option Value)} {st : List Value} {w : Wd} (G : GK K cX4_readUnit RX4 nL d) (M : Main K.ks) {k : Fin 4} {x : Int32} (hd1 : decode cX4_readUnit pc = .ok (.ldc 187, 2)) (hi : (k : Nat) = 1) (hl : lv[1]? = some (some (.int x))) (hd2 : decode cX4_readUnit (pc + 2) = .ok (.iload_n k, 1)) (hd3 : decode cX4_readUnit (pc + 3) = .ok (.i2c, 1)) (hd4 : decode cX4_readUnit (pc + 4) = .ok (.invokevirtual 189, 3)) (hdd : Nat.blt 4 d = true) (h8 : Nat.ble (st.map fun v => v.category).sum 8 = true) (kk : XW K (pc + 7) lv (.int (factIx x) :: st) w) : XW K pc lv st w := by
  refine xs_ldc G M rfl hd1 ?_
  refine x_iload_n G hd2 hi hl ?_
  refine x_i2c G hd3 ?_
  exact xs_virI G M (As := [.int _]) (ms_index G.2.2.2.2.2.2.1 M (ix_fact x)) wjM189 rfl rfl hdd rfl h8 hd4 kk
