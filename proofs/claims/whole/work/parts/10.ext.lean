-- the JDK's fill, arraycopy, indexOf as rows
theorem dJ7_fill_53178_0 : decode cJ7_fill_53178 0 = .ok (.iconst 0, 1) := by decide +kernel
theorem dJ7_fill_53178_1 : decode cJ7_fill_53178 1 = .ok (.istore_n 2, 1) := by decide +kernel
theorem dJ7_fill_53178_2 : decode cJ7_fill_53178 2 = .ok (.aload_n 0, 1) := by decide +kernel
theorem dJ7_fill_53178_3 : decode cJ7_fill_53178 3 = .ok (.arraylength, 1) := by decide +kernel
theorem dJ7_fill_53178_4 : decode cJ7_fill_53178 4 = .ok (.istore_n 3, 1) := by decide +kernel
theorem dJ7_fill_53178_5 : decode cJ7_fill_53178 5 = .ok (.iload_n 2, 1) := by decide +kernel
theorem dJ7_fill_53178_6 : decode cJ7_fill_53178 6 = .ok (.iload_n 3, 1) := by decide +kernel
theorem dJ7_fill_53178_7 : decode cJ7_fill_53178 7 = .ok (.if_icmp .ge 13, 3) := by decide +kernel
theorem dJ7_fill_53178_10 : decode cJ7_fill_53178 10 = .ok (.aload_n 0, 1) := by decide +kernel
theorem dJ7_fill_53178_11 : decode cJ7_fill_53178 11 = .ok (.iload_n 2, 1) := by decide +kernel
theorem dJ7_fill_53178_12 : decode cJ7_fill_53178 12 = .ok (.iload_n 1, 1) := by decide +kernel
theorem dJ7_fill_53178_13 : decode cJ7_fill_53178 13 = .ok (.iastore, 1) := by decide +kernel
theorem dJ7_fill_53178_14 : decode cJ7_fill_53178 14 = .ok (.iinc 2 1, 3) := by decide +kernel
theorem dJ7_fill_53178_17 : decode cJ7_fill_53178 17 = .ok (.goto (-12), 3) := by decide +kernel
theorem dJ7_fill_53178_20 : decode cJ7_fill_53178 20 = .ok (.return_, 1) := by decide +kernel
theorem dJ7_fill_d0a16_0 : decode cJ7_fill_d0a16 0 = .ok (.iconst 0, 1) := by decide +kernel
theorem dJ7_fill_d0a16_1 : decode cJ7_fill_d0a16 1 = .ok (.istore_n 3, 1) := by decide +kernel
theorem dJ7_fill_d0a16_2 : decode cJ7_fill_d0a16 2 = .ok (.aload_n 0, 1) := by decide +kernel
theorem dJ7_fill_d0a16_3 : decode cJ7_fill_d0a16 3 = .ok (.arraylength, 1) := by decide +kernel
theorem dJ7_fill_d0a16_4 : decode cJ7_fill_d0a16 4 = .ok (.istore 4, 2) := by decide +kernel
theorem dJ7_fill_d0a16_6 : decode cJ7_fill_d0a16 6 = .ok (.iload_n 3, 1) := by decide +kernel
theorem dJ7_fill_d0a16_7 : decode cJ7_fill_d0a16 7 = .ok (.iload 4, 2) := by decide +kernel
theorem dJ7_fill_d0a16_9 : decode cJ7_fill_d0a16 9 = .ok (.if_icmp .ge 13, 3) := by decide +kernel
theorem dJ7_fill_d0a16_12 : decode cJ7_fill_d0a16 12 = .ok (.aload_n 0, 1) := by decide +kernel
theorem dJ7_fill_d0a16_13 : decode cJ7_fill_d0a16 13 = .ok (.iload_n 3, 1) := by decide +kernel
theorem dJ7_fill_d0a16_14 : decode cJ7_fill_d0a16 14 = .ok (.lload_n 1, 1) := by decide +kernel
theorem dJ7_fill_d0a16_15 : decode cJ7_fill_d0a16 15 = .ok (.lastore, 1) := by decide +kernel
theorem dJ7_fill_d0a16_16 : decode cJ7_fill_d0a16 16 = .ok (.iinc 3 1, 3) := by decide +kernel
theorem dJ7_fill_d0a16_19 : decode cJ7_fill_d0a16 19 = .ok (.goto (-13), 3) := by decide +kernel
theorem dJ7_fill_d0a16_22 : decode cJ7_fill_d0a16 22 = .ok (.return_, 1) := by decide +kernel
theorem flI_0 (w : Wd) (a : Nat) (x : Int32) : flI w a 0 x = w := by
  obtain ⟨f, g⟩ := w
  unfold flI
  congr 1
  funext b
  by_cases e : b = a
  · subst e; simp
  · simp [e]
theorem flJ_0 (w : Wd) (a : Nat) (x : Int64) : flJ w a 0 x = w := by
  obtain ⟨f, g⟩ := w
  unfold flJ
  congr 1
  funext b
  by_cases e : b = a
  · subst e; simp
  · simp [e]
theorem flI_s (w : Wd) (a i : Nat) (x : Int32) : si (flI w a i x) a i x = flI w a (i + 1) x := by
  unfold flI si
  refine Prod.ext ?_ rfl
  funext b
  by_cases e : b = a
  · subst e
    simp only [if_true]
    funext j
    unfold upd
    by_cases h : j = i
    · subst h; simp
    · by_cases h2 : j < i
      · have : j < i + 1 := by omega
        simp [h, h2, this]
      · have : ¬ j < i + 1 := by omega
        simp [h, h2, this]
  · simp [e]
theorem flJ_s (w : Wd) (a i : Nat) (x : Int64) : sl (flJ w a i x) a i x = flJ w a (i + 1) x := by
  unfold flJ sl
  refine Prod.ext rfl ?_
  funext b
  by_cases e : b = a
  · subst e
    simp only [if_true]
    funext j
    unfold vp_updL
    by_cases h : j = i
    · subst h; simp
    · by_cases h2 : j < i
      · have : j < i + 1 := by omega
        simp [h, h2, this]
      · have : ¬ j < i + 1 := by omega
        simp [h, h2, this]
  · simp [e]
theorem inb_nI {i n : Nat} (h : i < n) (hn : n < 2 ^ 31) : inb (nI i) n = true := by
  have := vp_in_nI h hn
  unfold vp_in at this
  exact decide_eq_true this
theorem if_same {α : Type} {c : Prop} [Decidable c] {A : α} : (if c then A else A) = A := by split <;> rfl
set_option maxHeartbeats 4000000 in
theorem xFillI_5 {K : KT} {a n : Nat} {t : Nat → Option Nat} {v : Int32} {w : Wd} (G : GK K cJ7_fill_53178 RJ7 4 1) (hk : KD K.ks a (.inr (0, n, t))) (hn : n < 2 ^ 31) (hr : RV K (flI w a n v)) : ∀ (k i : Nat), i + k = n → XW K 5 [some (.ref a), some (.int v), some (.int (nI i)), some (.int (nI n))] [] (flI w a i v) := by
  intro k
  induction k with
  | zero =>
    intro i hi
    have hi : i = n := by omega
    subst hi
    refine x_iload_n G dJ7_fill_53178_5 rfl rfl ?_
    refine x_iload_n G dJ7_fill_53178_6 rfl rfl ?_
    refine x_icmpge (r := ()) (A := some ()) (B := some ()) G (tgt := 20) dJ7_fill_53178_7 (by decide) if_same (fun c _ => ?_) (fun c _ => ?_)
    · exact absurd c (nI_nlt (Nat.le_refl _) hn)
    · exact x_vret G hr dJ7_fill_53178_20
  | succ k ih =>
    intro i hi
    have hi2 : i < n := by omega
    refine x_iload_n G dJ7_fill_53178_5 rfl rfl ?_
    refine x_iload_n G dJ7_fill_53178_6 rfl rfl ?_
    refine x_icmpge (r := ()) (A := some ()) (B := some ()) G (tgt := 20) dJ7_fill_53178_7 (by decide) if_same (fun c _ => ?_) (fun c _ => ?_)
    · refine x_aload_n G dJ7_fill_53178_10 rfl rfl ?_
      refine x_iload_n G dJ7_fill_53178_11 rfl rfl ?_
      refine x_iload_n G dJ7_fill_53178_12 rfl rfl ?_
      refine x_iast0 G hk dJ7_fill_53178_13 (inb_nI hi2 hn) ?_
      unfold wi
      rw [nI_clamp (by omega), flI_s]
      refine x_iinc G (lv' := [some (.ref a), some (.int v), some (.int (nI i + 1)), some (.int (nI n))]) (v := 1) dJ7_fill_53178_14 rfl (by decide) rfl rfl rfl ?_
      rw [nI_1]
      refine x_goto G (tgt := 5) dJ7_fill_53178_17 (by decide) ?_
      exact ih (i + 1) (by omega)
    · exact absurd (nI_lt hi2 hn) c
theorem mFillI {l : Launch} {S : KS} (hI : Inj S) {a n : Nat} {t : Nat → Option Nat} {v : Int32} {w : Wd} (hk : KD S a (.inr (0, n, t))) (hn : Nat.blt n 2147483648 = true := by rfl) : CV l yJ7_fill_53178 cJ7_fill_53178 4 none 1 S [.ref a, .int v] w (flI w a n v) := by
  intro sz
  have hn : n < 2 ^ 31 := Nat.le_of_ble_eq_true hn
  refine mk_entry (own := RJ7) (lv := [some (.ref a), some (.int v), none, none]) rfl (by decide +kernel) hI 2 rfl rfl (fun K h1 h2 h3 h4 h5 h6 G => ?_)
  subst h2
  refine x_iconst G (v := 0) dJ7_fill_53178_0 (by decide) ?_
  refine x_istore_n G (lv' := [some (.ref a), some (.int v), some (.int 0), none]) dJ7_fill_53178_1 rfl rfl rfl rfl ?_
  refine x_aload_n G dJ7_fill_53178_2 rfl rfl ?_
  refine x_alenI G hk dJ7_fill_53178_3 rfl ?_
  refine x_istore_n G (lv' := [some (.ref a), some (.int v), some (.int 0), some (.int (nI n))]) dJ7_fill_53178_4 rfl rfl rfl rfl ?_
  have h := xFillI_5 (v := v) (w := w) G hk hn ⟨h3, by rw [h4, h6], h5⟩ n 0 (by omega)
  rwa [flI_0, nI_0] at h
set_option maxHeartbeats 4000000 in
theorem xFillJ_6 {K : KT} {a n : Nat} {t : Nat → Option Nat} {v : Int64} {w : Wd} (G : GK K cJ7_fill_d0a16 RJ7 5 1) (hk : KD K.ks a (.inr (1, n, t))) (hn : n < 2 ^ 31) (hr : RV K (flJ w a n v)) : ∀ (k i : Nat), i + k = n → XW K 6 [some (.ref a), some (.long v), none, some (.int (nI i)), some (.int (nI n))] [] (flJ w a i v) := by
  intro k
  induction k with
  | zero =>
    intro i hi
    have hi : i = n := by omega
    subst hi
    refine x_iload_n G dJ7_fill_d0a16_6 rfl rfl ?_
    refine x_iload G dJ7_fill_d0a16_7 rfl ?_
    refine x_icmpge (r := ()) (A := some ()) (B := some ()) G (tgt := 22) dJ7_fill_d0a16_9 (by decide) if_same (fun c _ => ?_) (fun c _ => ?_)
    · exact absurd c (nI_nlt (Nat.le_refl _) hn)
    · exact x_vret G hr dJ7_fill_d0a16_22
  | succ k ih =>
    intro i hi
    have hi2 : i < n := by omega
    refine x_iload_n G dJ7_fill_d0a16_6 rfl rfl ?_
    refine x_iload G dJ7_fill_d0a16_7 rfl ?_
    refine x_icmpge (r := ()) (A := some ()) (B := some ()) G (tgt := 22) dJ7_fill_d0a16_9 (by decide) if_same (fun c _ => ?_) (fun c _ => ?_)
    · refine x_aload_n G dJ7_fill_d0a16_12 rfl rfl ?_
      refine x_iload_n G dJ7_fill_d0a16_13 rfl rfl ?_
      refine x_lload_n G dJ7_fill_d0a16_14 rfl rfl ?_
      refine x_last0 G hk dJ7_fill_d0a16_15 (inb_nI hi2 hn) ?_
      unfold wl
      rw [nI_clamp (by omega), flJ_s]
      refine x_iinc G (lv' := [some (.ref a), some (.long v), none, some (.int (nI i + 1)), some (.int (nI n))]) (v := 1) dJ7_fill_d0a16_16 rfl (by decide) rfl rfl rfl ?_
      rw [nI_1]
      refine x_goto G (tgt := 6) dJ7_fill_d0a16_19 (by decide) ?_
      exact ih (i + 1) (by omega)
    · exact absurd (nI_lt hi2 hn) c
theorem mFillJ {l : Launch} {S : KS} (hI : Inj S) {a n : Nat} {t : Nat → Option Nat} {v : Int64} {w : Wd} (hk : KD S a (.inr (1, n, t))) (hn : Nat.blt n 2147483648 = true := by rfl) : CV l yJ7_fill_d0a16 cJ7_fill_d0a16 5 none 1 S [.ref a, .long v] w (flJ w a n v) := by
  intro sz
  have hn : n < 2 ^ 31 := Nat.le_of_ble_eq_true hn
  refine mk_entry (own := RJ7) (lv := [some (.ref a), some (.long v), none, none, none]) rfl (by decide +kernel) hI 2 rfl rfl (fun K h1 h2 h3 h4 h5 h6 G => ?_)
  subst h2
  refine x_iconst G (v := 0) dJ7_fill_d0a16_0 (by decide) ?_
  refine x_istore_n G (lv' := [some (.ref a), some (.long v), none, some (.int 0), none]) dJ7_fill_d0a16_1 rfl rfl rfl rfl ?_
  refine x_aload_n G dJ7_fill_d0a16_2 rfl rfl ?_
  refine x_alenJ G hk dJ7_fill_d0a16_3 rfl ?_
  refine x_istore G (lv' := [some (.ref a), some (.long v), none, some (.int 0), some (.int (nI n))]) dJ7_fill_d0a16_4 rfl rfl rfl ?_
  have h := xFillJ_6 (v := v) (w := w) G hk hn ⟨h3, by rw [h4, h6], h5⟩ n 0 (by omega)
  rwa [flJ_0, nI_0] at h
section CPY
variable {K : KT} {cc : ByteArray} {own : String} {nL d pc : Nat} {lv : List (Option Value)} {st : List Value} {w : Wd} {α : Type} {r : α} {a b i m0 m1 : Nat} {t0 t1 : Nat → Option Nat}
theorem va_P_two {S : KS} {w : Wd} {H : Heap} (h : HH S w H) {a b : Nat} {k0 k1 : Kd} (h0 : KD S a k0) (h1 : KD S b k1) : va_P S.G vwCl [(S.ad a, cellOf S.ad S.cA w a k0), (S.ad b, cellOf S.ad S.cA w b k1)] H := by
  intro j q hq
  rcases j with _ | _ | j
  · exact HH.one h h0 0 q hq
  · exact HH.one h h1 0 q hq
  · simp at hq
theorem fv_cpI {ad : Nat → Nat} {w : Wd} {a b q j : Nat} {sp dp n : Int32} {d : Nat × Nat} (h : q ≠ b) : fv ad (cpI w a sp b dp n) q j d = fv ad w q j d := by
  obtain ⟨k, t⟩ := d
  rcases k with _ | _ | _ | k <;> simp [fv, cpI, h]
theorem fv_cpJ {ad : Nat → Nat} {w : Wd} {a b q j : Nat} {sp dp n : Int32} {d : Nat × Nat} : fv ad (cpJ w a sp b dp n) q j d = fv ad w q j d := by
  obtain ⟨k, t⟩ := d
  rcases k with _ | _ | _ | k <;> rfl
theorem cellOf_cpI {ad : Nat → Nat} {cA : Nat → ClassId} {w : Wd} {a b q : Nat} {sp dp n : Int32} {d : Kd} (h : q ≠ b) : cellOf ad cA (cpI w a sp b dp n) q d = cellOf ad cA w q d := by
  rcases d with ⟨ci, ds⟩ | ⟨k, m, t⟩
  · show (Sum.inr (ci, fvs ad (cpI w a sp b dp n) q 0 ds) : va_E) = Sum.inr (ci, fvs ad w q 0 ds)
    rw [fvs_ext ds 0 (fun k d _ => fv_cpI h)]
  · rcases k with _ | _ | _ | k <;> simp [cellOf, cpI, h]
theorem cellOf_cpJ {ad : Nat → Nat} {cA : Nat → ClassId} {w : Wd} {a b q : Nat} {sp dp n : Int32} {d : Kd} (h : q ≠ b) : cellOf ad cA (cpJ w a sp b dp n) q d = cellOf ad cA w q d := by
  rcases d with ⟨ci, ds⟩ | ⟨k, m, t⟩
  · show (Sum.inr (ci, fvs ad (cpJ w a sp b dp n) q 0 ds) : va_E) = Sum.inr (ci, fvs ad w q 0 ds)
    rw [fvs_ext ds 0 (fun k d _ => fv_cpJ)]
  · rcases k with _ | _ | _ | k <;> simp [cellOf, cpJ, h]
theorem x_cpyI (G : GK K cc own nL d) (h0 : KD K.ks a (.inr (0, m0, t0))) (h1 : KD K.ks b (.inr (0, m1, t1))) (hl : Cond.methodLink own i arraycopyName ∈ gtbl) (hd : decode cc pc = .ok (.invokestatic i, 3)) (hd1 : Nat.blt 0 d = true) (h8 : Nat.ble (st.map fun v => v.category).sum 8 = true) {sp dp n : Int32} {A : Option α} (hf : (if cpok sp dp n m0 m1 = true then A else none) = some r) (kk : A = some r → XW K (pc + 3) lv st (cpI w a sp b dp n)) : XW K pc lv (.int n :: .int dp :: .ref b :: .int sp :: .ref a :: st) w := fun H locs ls hH hS hL => by
  by_cases c : cpok sp dp n m0 m1 = true
  · rw [if_pos c] at hf
    obtain ⟨c1, c2, c3, c4, c5⟩ := of_decide_eq_true c
    have hd0 : 0 < d := Nat.le_of_ble_eq_true hd1
    obtain ⟨r1, r2, r3, r4⟩ := G.2.2.2.2.2.2.2.2.2.2
    have h8' : ((st.map (cv K.ks.ad)).map fun v => v.category).sum ≤ 8 := by rw [cv_cats]; exact Nat.le_of_ble_eq_true h8
    have hK : va_K K.ks.G vwCl (tysK K.ks.cA) K.s := G.2.2.2.2.2.1.1
    have nn : ∀ z : Int32, ¬ z < 0 → z.toInt = (z.toNatClampNeg : Int) := by
      intro z hz
      have hz0 : (0 : Int) ≤ z.toInt := by
        have := Int32.not_lt.mp hz
        simpa using Int32.le_iff_toInt_le.mp this
      show z.toInt = ((z.toInt.toNat : Nat) : Int)
      omega
    have hc0 : H[K.ks.ad a]? = some (vp_cell (K.ks.cA 0) (m0, .inl (w.1 a))) := hH.one h0 0 _ rfl
    have hc1 : H[K.ks.ad b]? = some (vp_cell (K.ks.cA 0) (m1, .inl (w.1 b))) := hH.one h1 0 _ rfl
    obtain ⟨-, k0, hk0, cm0, hkk0⟩ := (hK.2 0 _ rfl).1 m0 (fun j => .int (w.1 a j))
    obtain ⟨-, k1, hk1, cm1, hkk1⟩ := (hK.2 0 _ rfl).1 m1 (fun j => .int (w.1 b j))
    have hnw : nativeFrameWords "java/lang/System" "arraycopy" 5 + 11 ≤ 50 := by decide +kernel
    intro T hT X
    obtain ⟨vm', X', step⟩ := X.arraycopy G.1 G.2.2.2.1 (G.2.2.2.2.1 _ hl) (G.2.2.2.2.1 _ wcpy_1) (G.2.2.2.2.1 _ wcpy_2) (G.2.2.2.2.1 _ wcpy_3) (src := K.ks.ad a) (dst := K.ks.ad b) (cs := vp_cell (K.ks.cA 0) (m0, .inl (w.1 a))) (cd := vp_cell (K.ks.cA 0) (m1, .inl (w.1 b))) (srcPos := sp) (destPos := dp) (n := n) (by rw [hT]; exact hc0) (by rw [hT]; exact hc1)
      (fun _ h => by cases h) (fun _ h => by cases h) (fun h => by cases h) (fun h => by cases h) hk0 hk1 hkk0 hkk1 (by simp [refKind]) c1 c2 c3
      (by rw [nn sp c1, nn n c3]; show ¬ _ > ((arrV _ m0 (fun j => .int (w.1 a j))).slots.size : Int); rw [arrV_size]; omega)
      (by rw [nn dp c2, nn n c3]; show ¬ _ > ((arrV _ m1 (fun j => .int (w.1 b j))).slots.size : Int); rw [arrV_size]; omega)
      (fun vm₁ _ q hq => by
        have e : (vp_cell (K.ks.cA 0) (m0, .inl (w.1 a))).slots.getD (sp.toNatClampNeg + q) .null = .int (w.1 a (sp.toNatClampNeg + q)) := by
          show (arrV _ m0 (fun j => .int (w.1 a j))).slots.getD _ _ = _
          rw [Array.getD_eq_getD_getElem?, arrV_read _ _ (by omega)]
          rfl
        refine ⟨?_, ?_⟩
        · rw [e]
          rfl
        · rw [e]
          exact trivial)
      (g := F0 K.m pc ls (.int n :: .int dp :: .ref (K.ks.ad b) :: .int sp :: .ref (K.ks.ad a) :: st.map (cv K.ks.ad))) rfl (by rw [hL.1]) (rest := st.map (cv K.ks.ad)) rfl (by rw [G.2.1]; exact hd) (by omega) (by show 2 * 0 + _ + _ ≤ _; omega)
    have e1 : copied (vp_cell (K.ks.cA 0) (m0, .inl (w.1 a))) (vp_cell (K.ks.cA 0) (m1, .inl (w.1 b))) sp dp n = vp_cell (K.ks.cA 0) (m1, .inl (va_cpy (w.1 a) (w.1 b) sp.toNatClampNeg dp.toNatClampNeg n.toNatClampNeg)) := va_copied (fun z => .int z) _ _ (w.1 a) (w.1 b) c4
    rw [e1] at X' step
    have hl' : K.ks.ad b < H.size := (Array.getElem?_eq_some_iff.mp hc1).1
    have hheap : ((T.setVm vm').setCell (K.ks.ad b) (vp_cell (K.ks.cA 0) (m1, .inl (va_cpy (w.1 a) (w.1 b) sp.toNatClampNeg dp.toNatClampNeg n.toNatClampNeg)))).heap = H.setIfInBounds (K.ks.ad b) (vp_cell (K.ks.cA 0) (m1, .inl (va_cpy (w.1 a) (w.1 b) sp.toNatClampNeg dp.toNatClampNeg n.toNatClampNeg))) := by rw [← hT]; rfl
    generalize hce : vp_cell (K.ks.cA 0) (m1, .inl (va_cpy (w.1 a) (w.1 b) sp.toNatClampNeg dp.toNatClampNeg n.toNatClampNeg)) = ce at X' step hheap
    have oq : ∀ q : Nat, q ≠ K.ks.ad b → (H.setIfInBounds (K.ks.ad b) ce)[q]? = H[q]? := fun q hq => by simp [Array.getElem?_setIfInBounds, Ne.symm hq]
    have hHn : HH K.ks (cpI w a sp b dp n) (H.setIfInBounds (K.ks.ad b) ce) := by
      refine hH.put G.2.2.2.2.2.2.1 h1 oq ?_ (fun q hq => cellOf_cpI hq)
      show (H.setIfInBounds (K.ks.ad b) ce)[K.ks.ad b]? = some (vp_cell (K.ks.cA 0) (m1, .inl ((cpI w a sp b dp n).1 b)))
      rw [show (cpI w a sp b dp n).1 b = va_cpy (w.1 a) (w.1 b) sp.toNatClampNeg dp.toNatClampNeg n.toNatClampNeg by simp [cpI], hce]
      simp [Array.getElem?_setIfInBounds, hl']
    obtain ⟨t, a1, b1⟩ := kk hf _ _ ls hHn ⟨by simp; exact hS.1, fun q g1 g2 => by
        rw [oq q (fun e => g2 (by rw [e]; exact G.2.2.2.2.2.2.2.1 b h1.1))]
        exact hS.2.1 q g1 g2, fun q hq => by
        rcases List.mem_append.mp hq with h | h
        · exact hS.2.2 q h
        · obtain ⟨z, -, hz⟩ := List.mem_map.mp h
          rw [← hz]
          exact G.2.2.2.2.2.2.2.1 b h1.1⟩ hL _ hheap X'
    exact ⟨t, step t a1, b1⟩
  · rw [if_neg c] at hf; cases hf
theorem x_cpyJ (G : GK K cc own nL d) (h0 : KD K.ks a (.inr (1, m0, t0))) (h1 : KD K.ks b (.inr (1, m1, t1))) (hl : Cond.methodLink own i arraycopyName ∈ gtbl) (hd : decode cc pc = .ok (.invokestatic i, 3)) (hd1 : Nat.blt 0 d = true) (h8 : Nat.ble (st.map fun v => v.category).sum 8 = true) {sp dp n : Int32} {A : Option α} (hf : (if cpok sp dp n m0 m1 = true then A else none) = some r) (kk : A = some r → XW K (pc + 3) lv st (cpJ w a sp b dp n)) : XW K pc lv (.int n :: .int dp :: .ref b :: .int sp :: .ref a :: st) w := fun H locs ls hH hS hL => by
  by_cases c : cpok sp dp n m0 m1 = true
  · rw [if_pos c] at hf
    obtain ⟨c1, c2, c3, c4, c5⟩ := of_decide_eq_true c
    have hd0 : 0 < d := Nat.le_of_ble_eq_true hd1
    obtain ⟨r1, r2, r3, r4⟩ := G.2.2.2.2.2.2.2.2.2.2
    have h8' : ((st.map (cv K.ks.ad)).map fun v => v.category).sum ≤ 8 := by rw [cv_cats]; exact Nat.le_of_ble_eq_true h8
    have hK : va_K K.ks.G vwCl (tysK K.ks.cA) K.s := G.2.2.2.2.2.1.1
    have nn : ∀ z : Int32, ¬ z < 0 → z.toInt = (z.toNatClampNeg : Int) := by
      intro z hz
      have hz0 : (0 : Int) ≤ z.toInt := by
        have := Int32.not_lt.mp hz
        simpa using Int32.le_iff_toInt_le.mp this
      show z.toInt = ((z.toInt.toNat : Nat) : Int)
      omega
    have hc0 : H[K.ks.ad a]? = some (vp_cell (K.ks.cA 1) (m0, .inr (.inl (w.2 a)))) := hH.one h0 0 _ rfl
    have hc1 : H[K.ks.ad b]? = some (vp_cell (K.ks.cA 1) (m1, .inr (.inl (w.2 b)))) := hH.one h1 0 _ rfl
    obtain ⟨-, k0, hk0, cm0, hkk0⟩ := (hK.2 1 _ rfl).1 m0 (fun j => .long (w.2 a j))
    obtain ⟨-, k1, hk1, cm1, hkk1⟩ := (hK.2 1 _ rfl).1 m1 (fun j => .long (w.2 b j))
    have hnw : nativeFrameWords "java/lang/System" "arraycopy" 5 + 11 ≤ 50 := by decide +kernel
    intro T hT X
    obtain ⟨vm', X', step⟩ := X.arraycopy G.1 G.2.2.2.1 (G.2.2.2.2.1 _ hl) (G.2.2.2.2.1 _ wcpy_1) (G.2.2.2.2.1 _ wcpy_2) (G.2.2.2.2.1 _ wcpy_3) (src := K.ks.ad a) (dst := K.ks.ad b) (cs := vp_cell (K.ks.cA 1) (m0, .inr (.inl (w.2 a)))) (cd := vp_cell (K.ks.cA 1) (m1, .inr (.inl (w.2 b)))) (srcPos := sp) (destPos := dp) (n := n) (by rw [hT]; exact hc0) (by rw [hT]; exact hc1)
      (fun _ h => by cases h) (fun _ h => by cases h) (fun h => by cases h) (fun h => by cases h) hk0 hk1 hkk0 hkk1 (by simp [refKind]) c1 c2 c3
      (by rw [nn sp c1, nn n c3]; show ¬ _ > ((arrV _ m0 (fun j => .long (w.2 a j))).slots.size : Int); rw [arrV_size]; omega)
      (by rw [nn dp c2, nn n c3]; show ¬ _ > ((arrV _ m1 (fun j => .long (w.2 b j))).slots.size : Int); rw [arrV_size]; omega)
      (fun vm₁ _ q hq => by
        have e : (vp_cell (K.ks.cA 1) (m0, .inr (.inl (w.2 a)))).slots.getD (sp.toNatClampNeg + q) .null = .long (w.2 a (sp.toNatClampNeg + q)) := by
          show (arrV _ m0 (fun j => .long (w.2 a j))).slots.getD _ _ = _
          rw [Array.getD_eq_getD_getElem?, arrV_read _ _ (by omega)]
          rfl
        refine ⟨?_, ?_⟩
        · rw [e]
          rfl
        · rw [e]
          exact trivial)
      (g := F0 K.m pc ls (.int n :: .int dp :: .ref (K.ks.ad b) :: .int sp :: .ref (K.ks.ad a) :: st.map (cv K.ks.ad))) rfl (by rw [hL.1]) (rest := st.map (cv K.ks.ad)) rfl (by rw [G.2.1]; exact hd) (by omega) (by show 2 * 0 + _ + _ ≤ _; omega)
    have e1 : copied (vp_cell (K.ks.cA 1) (m0, .inr (.inl (w.2 a)))) (vp_cell (K.ks.cA 1) (m1, .inr (.inl (w.2 b)))) sp dp n = vp_cell (K.ks.cA 1) (m1, .inr (.inl (va_cpy (w.2 a) (w.2 b) sp.toNatClampNeg dp.toNatClampNeg n.toNatClampNeg))) := va_copied (fun z => .long z) _ _ (w.2 a) (w.2 b) c4
    rw [e1] at X' step
    have hl' : K.ks.ad b < H.size := (Array.getElem?_eq_some_iff.mp hc1).1
    have hheap : ((T.setVm vm').setCell (K.ks.ad b) (vp_cell (K.ks.cA 1) (m1, .inr (.inl (va_cpy (w.2 a) (w.2 b) sp.toNatClampNeg dp.toNatClampNeg n.toNatClampNeg))))).heap = H.setIfInBounds (K.ks.ad b) (vp_cell (K.ks.cA 1) (m1, .inr (.inl (va_cpy (w.2 a) (w.2 b) sp.toNatClampNeg dp.toNatClampNeg n.toNatClampNeg)))) := by rw [← hT]; rfl
    generalize hce : vp_cell (K.ks.cA 1) (m1, .inr (.inl (va_cpy (w.2 a) (w.2 b) sp.toNatClampNeg dp.toNatClampNeg n.toNatClampNeg))) = ce at X' step hheap
    have oq : ∀ q : Nat, q ≠ K.ks.ad b → (H.setIfInBounds (K.ks.ad b) ce)[q]? = H[q]? := fun q hq => by simp [Array.getElem?_setIfInBounds, Ne.symm hq]
    have hHn : HH K.ks (cpJ w a sp b dp n) (H.setIfInBounds (K.ks.ad b) ce) := by
      refine hH.put G.2.2.2.2.2.2.1 h1 oq ?_ (fun q hq => cellOf_cpJ hq)
      show (H.setIfInBounds (K.ks.ad b) ce)[K.ks.ad b]? = some (vp_cell (K.ks.cA 1) (m1, .inr (.inl ((cpJ w a sp b dp n).2 b))))
      rw [show (cpJ w a sp b dp n).2 b = va_cpy (w.2 a) (w.2 b) sp.toNatClampNeg dp.toNatClampNeg n.toNatClampNeg by simp [cpJ], hce]
      simp [Array.getElem?_setIfInBounds, hl']
    obtain ⟨t, a1, b1⟩ := kk hf _ _ ls hHn ⟨by simp; exact hS.1, fun q g1 g2 => by
        rw [oq q (fun e => g2 (by rw [e]; exact G.2.2.2.2.2.2.2.1 b h1.1))]
        exact hS.2.1 q g1 g2, fun q hq => by
        rcases List.mem_append.mp hq with h | h
        · exact hS.2.2 q h
        · obtain ⟨z, -, hz⟩ := List.mem_map.mp h
          rw [← hz]
          exact G.2.2.2.2.2.2.2.1 b h1.1⟩ hL _ hheap X'
    exact ⟨t, step t a1, b1⟩
  · rw [if_neg c] at hf; cases hf
end CPY
-- FACTS.indexOf((char) c)
theorem x_facts {K : KT} {nL d pc : Nat} {lv : List (Option Value)} {st : List Value} {w : Wd} (G : GK K cX4_readUnit RX4 nL d) {k : Fin 4} {x : Int32} (hd1 : decode cX4_readUnit pc = .ok (.ldc 187, 2)) (hi : (k : Nat) = 1) (hl : lv[1]? = some (some (.int x))) (hd2 : decode cX4_readUnit (pc + 2) = .ok (.iload_n k, 1)) (hd3 : decode cX4_readUnit (pc + 3) = .ok (.i2c, 1)) (hd4 : decode cX4_readUnit (pc + 4) = .ok (.invokevirtual 189, 3)) (kk : XW K (pc + 7) lv (.int (factIx x) :: st) w) : XW K pc lv st w := by
  sorry
