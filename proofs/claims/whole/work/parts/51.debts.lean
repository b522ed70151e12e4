-- MATHEMATICS: m40
theorem YY.mcong {n : Nat} {wc wm wm' : Wd} (h : YY n wc wm) (e : ∀ a, 148 ≤ a → a ≤ 168 → wm'.1 a = wm.1 a ∧ wm'.2 a = wm.2 a) : YY n wc wm' := by
  have e1 : ∀ a, 148 ≤ a → a ≤ 168 → wm'.1 a = wm.1 a := fun a h1 h2 => (e a h1 h2).1
  obtain ⟨a, b, c, d, f, g, i⟩ := h
  refine ⟨by rw [e1 149 (by omega) (by omega)]; exact a, b.cong (fun _ _ => rfl) (e1 _ (by omega) (by omega)) (e1 _ (by omega) (by omega)), c.cong (fun _ _ => ⟨rfl, rfl⟩) (e1 _ (by omega) (by omega)) (e1 _ (by omega) (by omega)) (e _ (by omega) (by omega)).2, d.cong rfl rfl (by rw [e1 148 (by omega) (by omega)]) (e1 _ (by omega) (by omega)), f.cong (fun _ _ => rfl) (fun j _ => by rw [e1 148 (by omega) (by omega)]) (e1 _ (by omega) (by omega)), g.cong rfl (fun _ _ => rfl) (fun _ _ => rfl) (by rw [e1 148 (by omega) (by omega)]) (fun a _ => e1 a (by omega) (by omega)), by rw [e1 148 (by omega) (by omega)]; exact i⟩
theorem YY.ccong {n : Nat} {wc wc' wm : Wd} (h : YY n wc wm) (e : ∀ a, ¬ (148 ≤ a ∧ a ≤ 169) → wc'.1 a = wc.1 a ∧ wc'.2 a = wc.2 a) : YY n wc' wm := by
  have e1 : ∀ a, ¬ (148 ≤ a ∧ a ≤ 169) → wc'.1 a = wc.1 a := fun a h1 => (e a h1).1
  obtain ⟨a, b, c, d, f, g, i⟩ := h
  exact ⟨a.cong (fun q hq => e1 q (by omega)), b.cong (fun q hq => e1 q (by omega)) rfl rfl, c.cong (fun q hq => e q (by omega)) rfl rfl rfl, d.cong (e1 _ (by omega)) (e1 _ (by omega)) rfl rfl, f.cong (fun q hq => e1 q (by omega)) (fun _ _ => rfl) rfl, g.cong (by rw [e1 106 (by omega)]) (fun q hq => e1 q (by omega)) (fun q hq => e1 q (by omega)) rfl (fun _ _ => rfl), by rw [e1 0 (by omega)]; exact i⟩
theorem fm_cc {w w' : Wd} (h : SameX [(148, 168)] w w') : ∀ a, ¬ (148 ≤ a ∧ a ≤ 169) → w'.1 a = w.1 a ∧ w'.2 a = w.2 a := fun a ha => h a (by simp; omega)
theorem fm_FL {w w' : Wd} (h : SameX [(148, 168)] w w') : FL w w' := fun d hd => by rw [(h (135 + 2 * d) (by simp; omega)).1]
theorem lock {n n' : Nat} {C M : Wd → Option (Int32 × Wd)} (ok : ∀ wc wm, YY n wc wm → ∃ r wc' wm', C wc = some (r, wc') ∧ M wm = some (r, wm') ∧ YY n' wc' wm') (fc : ∀ w r, C w = some r → ∀ a, 148 ≤ a → a ≤ 168 → r.2.1 a = w.1 a ∧ r.2.2 a = w.2 a) (fm : ∀ w r, M w = some r → SameX [(148, 168)] w r.2) {w : Wd} (h : YY n w w) : ∃ r w1 w2, C w = some (r, w1) ∧ M w1 = some (r, w2) ∧ YY n' w2 w2 ∧ FL w1 w2 := by
  obtain ⟨r, w1, -, e1, -, -⟩ := ok w w h
  obtain ⟨r', w1', w2, a1, a2, a3⟩ := ok w w1 (h.mcong (fc w _ e1))
  rw [e1] at a1
  cases a1
  exact ⟨r, w1, w2, e1, a2, a3.ccong (fm_cc (fm _ _ a2)), fm_FL (fm _ _ a2)⟩
theorem lockP {n n' : Nat} {C : Wd → Option Int32} {M : Wd → Option (Int32 × Wd)} (ok : ∀ wc wm, YY n wc wm → ∃ r wm', C wc = some r ∧ M wm = some (r, wm') ∧ YY n' wc wm') (fm : ∀ w r, M w = some r → SameX [(148, 168)] w r.2) {w : Wd} (h : YY n w w) : ∃ r w2, C w = some r ∧ M w = some (r, w2) ∧ YY n' w2 w2 ∧ FL w w2 := by
  obtain ⟨r, w2, e1, e2, e3⟩ := ok w w h
  exact ⟨r, w2, e1, e2, e3.ccong (fm_cc (fm _ _ e2)), fm_FL (fm _ _ e2)⟩
theorem LMp_set : LM_set (fun n w => YY n w w) := fun n w v1 v2 v3 _ h => by
  obtain ⟨r, w1, w2, e1, e2, e3, e4⟩ := lock (C := fX11_set v1 v2 v3) (M := fX12_set v1 v2 v3) (fun wc wm q => set_ok (v1 := v1) (v2 := v2) (v3 := v3) q) (fun _ _ hf a h1 h2 => frfX11_set hf a (by simp; omega)) (fun _ _ hf => frfX12_set hf) h
  exact ⟨r, w1, w2, e1, e2, e3.up (Nat.le_succ n), fun d hd => by rw [(frfX11_set e1 (135 + 2 * d) (by simp; omega)).1], e4⟩
theorem LMp_kiln : LM_kiln (fun n w => YY n w w) := fun n w v1 _ h => by
  obtain ⟨r, w1, w2, e1, e2, e3, e4⟩ := lock (C := fX11_kiln v1) (M := fX12_kiln v1) (fun wc wm q => kiln_ok (v1 := v1) q) (fun _ _ hf a h1 h2 => frfX11_kiln hf a (by simp; omega)) (fun _ _ hf => frfX12_kiln hf) h
  exact ⟨r, w1, w2, e1, e2, e3.up (Nat.le_succ n), fun d hd => by rw [(frfX11_kiln e1 (135 + 2 * d) (by simp; omega)).1], e4⟩
theorem LMp_rain : LM_rain (fun n w => YY n w w) := fun n w v1 _ h => by
  obtain ⟨r, w1, w2, e1, e2, e3, e4⟩ := lock (C := fX11_rain v1) (M := fX12_rain v1) (fun wc wm q => rain_ok (v1 := v1) q) (fun _ _ hf a h1 h2 => frfX11_rain hf a (by simp; omega)) (fun _ _ hf => frfX12_rain hf) h
  exact ⟨r, w1, w2, e1, e2, e3.up (Nat.le_succ n), fun d hd => by rw [(frfX11_rain e1 (135 + 2 * d) (by simp; omega)).1], e4⟩
theorem LMp_bridge : LM_bridge (fun n w => YY n w w) := fun n w v1 _ h => by
  obtain ⟨r, w1, w2, e1, e2, e3, e4⟩ := lock (C := fX11_bridge v1) (M := fX12_bridge v1) (fun wc wm q => bridge_ok (v1 := v1) q) (fun _ _ hf a h1 h2 => frfX11_bridge hf a (by simp; omega)) (fun _ _ hf => frfX12_bridge hf) h
  exact ⟨r, w1, w2, e1, e2, e3.up (Nat.le_succ n), fun d hd => by rw [(frfX11_bridge e1 (135 + 2 * d) (by simp; omega)).1], e4⟩
theorem LMp_old : LM_old (fun n w => YY n w w) := fun n w v1 v2 v3 v4 _ h => by
  obtain ⟨r, w1, w2, e1, e2, e3, e4⟩ := lock (C := fX11_old v1 v2 v3 v4) (M := fX12_old v1 v2 v3 v4) (fun wc wm q => old_ok (v1 := v1) (v2 := v2) (v3 := v3) (v4 := v4) q) (fun _ _ hf a h1 h2 => frfX11_old hf a (by simp; omega)) (fun _ _ hf => frfX12_old hf) h
  exact ⟨r, w1, w2, e1, e2, e3.up (Nat.le_succ n), fun d hd => by rw [(frfX11_old e1 (135 + 2 * d) (by simp; omega)).1], e4⟩
theorem LMp_map : LM_map (fun n w => YY n w w) := fun n w v1 v2 v3 _ h => by
  obtain ⟨r, w1, w2, e1, e2, e3, e4⟩ := lock (C := fX11_map v1 v2 v3) (M := fX12_map v1 v2 v3) (fun wc wm q => map_ok (v1 := v1) (v2 := v2) (v3 := v3) q) (fun _ _ hf a h1 h2 => frfX11_map hf a (by simp; omega)) (fun _ _ hf => frfX12_map hf) h
  exact ⟨r, w1, w2, e1, e2, e3.up (Nat.le_succ n), fun d hd => by rw [(frfX11_map e1 (135 + 2 * d) (by simp; omega)).1], e4⟩
theorem LMp_cut : LM_cut (fun n w => YY n w w) := fun n w v1 _ h => by
  obtain ⟨r, w1, w2, e1, e2, e3, e4⟩ := lock (C := fX11_cut v1) (M := fX12_cut v1) (fun wc wm q => cut_ok (v1 := v1) q) (fun _ _ hf a h1 h2 => frfX11_cut hf a (by simp; omega)) (fun _ _ hf => frfX12_cut hf) h
  exact ⟨r, w1, w2, e1, e2, e3.up (Nat.le_succ n), fun d hd => by rw [(frfX11_cut e1 (135 + 2 * d) (by simp; omega)).1], e4⟩
theorem LMp_gangs : LM_gangs (fun n w => YY n w w) := fun n w v1 v2 _ h => by
  obtain ⟨r, w1, w2, e1, e2, e3, e4⟩ := lock (C := fX11_gangs v1 v2) (M := fX12_gangs v1 v2) (fun wc wm q => gangs_ok (v1 := v1) (v2 := v2) q) (fun _ _ hf a h1 h2 => frfX11_gangs hf a (by simp; omega)) (fun _ _ hf => frfX12_gangs hf) h
  exact ⟨r, w1, w2, e1, e2, e3.up (Nat.le_succ n), fun d hd => by rw [(frfX11_gangs e1 (135 + 2 * d) (by simp; omega)).1], e4⟩
theorem LMp_bad : LM_bad (fun n w => YY n w w) := fun n w v1 v2 v3 _ h hx => by
  obtain ⟨r, w1, w2, e1, e2, e3, e4⟩ := lock (C := fX11_bad v1 v2 v3) (M := fX12_bad v1 v2 v3) (fun wc wm q => bad_ok (v1 := v1) (v2 := v2) (v3 := v3) hx q) (fun _ _ hf a h1 h2 => frfX11_bad hf a (by simp; omega)) (fun _ _ hf => frfX12_bad hf) h
  exact ⟨r, w1, w2, e1, e2, e3.up (Nat.le_succ n), fun d hd => by rw [(frfX11_bad e1 (135 + 2 * d) (by simp; omega)).1], e4⟩
theorem LMp_tide : LM_tide (fun n w => YY n w w) := fun n w v1 _ h => by
  obtain ⟨r, w1, w2, e1, e2, e3, e4⟩ := lock (C := fX11_tide v1) (M := fX12_tide v1) (fun wc wm q => tide_ok (v1 := v1) q) (fun _ _ hf a h1 h2 => frfX11_tide hf a (by simp; omega)) (fun _ _ hf => frfX12_tide hf) h
  exact ⟨r, w1, w2, e1, e2, e3.up (Nat.le_succ n), fun d hd => by rw [(frfX11_tide e1 (135 + 2 * d) (by simp; omega)).1], e4⟩
theorem LMp_stop : LM_stop (fun n w => YY n w w) := fun n w v1 v2 _ h hx => by
  obtain ⟨r, w1, w2, e1, e2, e3, e4⟩ := lock (C := fX11_stop v1 v2) (M := fX12_stop v1 v2) (fun wc wm q => stop_ok (v1 := v1) (v2 := v2) q hx) (fun _ _ hf a h1 h2 => frfX11_stop hf a (by simp; omega)) (fun _ _ hf => frfX12_stop hf) h
  exact ⟨r, w1, w2, e1, e2, e3, fun d hd => by rw [(frfX11_stop e1 (135 + 2 * d) (by simp; omega)).1], e4⟩
theorem LMp_coal : LM_coal (fun n w => YY n w w) := fun n w v1 v2 _ h => by
  obtain ⟨r, w1, w2, e1, e2, e3, e4⟩ := lock (C := fX11_coal v1 v2) (M := fX12_coal v1 v2) (fun wc wm q => coal_ok (v1 := v1) (v2 := v2) q) (fun _ _ hf a h1 h2 => frfX11_coal hf a (by simp; omega)) (fun _ _ hf => frfX12_coal hf) h
  exact ⟨r, w1, w2, e1, e2, e3, fun d hd => by rw [(frfX11_coal e1 (135 + 2 * d) (by simp; omega)).1], e4⟩
theorem LMp_lift : LM_lift (fun n w => YY n w w) := fun n w v1 v2 v3 v4 _ h => by
  obtain ⟨r, w1, w2, e1, e2, e3, e4⟩ := lock (C := fX11_lift v1 v2 v3 v4) (M := fX12_lift v1 v2 v3 v4) (fun wc wm q => lift_ok (v1 := v1) (v2 := v2) (v3 := v3) (v4 := v4) q) (fun _ _ hf a h1 h2 => frfX11_lift hf a (by simp; omega)) (fun _ _ hf => frfX12_lift hf) h
  exact ⟨r, w1, w2, e1, e2, e3, fun d hd => by rw [(frfX11_lift e1 (135 + 2 * d) (by simp; omega)).1], e4⟩
theorem LMp_out : LM_out (fun n w => YY n w w) := fun n w v1 v2 v3 v4 _ h => by
  obtain ⟨r, w1, w2, e1, e2, e3, e4⟩ := lock (C := fX11_out v1 v2 v3 v4) (M := fX12_out v1 v2 v3 v4) (fun wc wm q => out_ok (v1 := v1) (v2 := v2) (v3 := v3) (v4 := v4) q) (fun _ _ hf a h1 h2 => frfX11_out hf a (by simp; omega)) (fun _ _ hf => frfX12_out hf) h
  exact ⟨r, w1, w2, e1, e2, e3, fun d hd => by rw [(frfX11_out e1 (135 + 2 * d) (by simp; omega)).1], e4⟩
theorem LMp_back : LM_back (fun n w => YY n w w) := fun n w v1 _ h => by
  obtain ⟨r, w1, w2, e1, e2, e3, e4⟩ := lock (C := fX11_back v1) (M := fX12_back v1) (fun wc wm q => back_ok (v1 := v1) q) (fun _ _ hf a h1 h2 => frfX11_back hf a (by simp; omega)) (fun _ _ hf => frfX12_back hf) h
  exact ⟨r, w1, w2, e1, e2, e3.up (Nat.le_succ n), fun d hd => by rw [(frfX11_back e1 (135 + 2 * d) (by simp; omega)).1], e4⟩
theorem LMp_toss : LM_toss (fun n w => YY n w w) := fun n w v1 _ h => by
  obtain ⟨r, w1, w2, e1, e2, e3, e4⟩ := lock (C := fX11_toss v1) (M := fX12_toss v1) (fun wc wm q => toss_ok (v1 := v1) q) (fun _ _ hf a h1 h2 => frfX11_toss hf a (by simp; omega)) (fun _ _ hf => frfX12_toss hf) h
  exact ⟨r, w1, w2, e1, e2, e3.up (Nat.le_succ n), fun d hd => by rw [(frfX11_toss e1 (135 + 2 * d) (by simp; omega)).1], e4⟩
theorem LMp_begin : LM_begin (fun n w => YY n w w) := fun n w _ h => by
  obtain ⟨r, w1, w2, e1, e2, e3, e4⟩ := lock (C := fX11_begin ) (M := fX12_begin ) (fun wc wm q => begin_ok  q) (fun _ _ hf a h1 h2 => frfX11_begin hf a (by simp; omega)) (fun _ _ hf => frfX12_begin hf) h
  exact ⟨r, w1, w2, e1, e2, e3.up (Nat.le_succ n), fun d hd => by rw [(frfX11_begin e1 (135 + 2 * d) (by simp; omega)).1], e4⟩
theorem LMp_share : LM_share (fun n w => YY n w w) := fun n w v1 v2 _ h => by
  obtain ⟨r, w1, w2, e1, e2, e3, e4⟩ := lock (C := fX11_share v1 v2) (M := fX12_share v1 v2) (fun wc wm q => share_ok (v1 := v1) (v2 := v2) q) (fun _ _ hf a h1 h2 => frfX11_share hf a (by simp; omega)) (fun _ _ hf => frfX12_share hf) h
  exact ⟨r, w1, w2, e1, e2, e3.up (Nat.le_succ n), fun d hd => by rw [(frfX11_share e1 (135 + 2 * d) (by simp; omega)).1], e4⟩
theorem LMp_take : LM_take (fun n w => YY n w w) := fun n w v1 v2 _ h => by
  obtain ⟨r, w1, w2, e1, e2, e3, e4⟩ := lock (C := fX11_take v1 v2) (M := fX12_take v1 v2) (fun wc wm q => take_ok (v1 := v1) (v2 := v2) q) (fun _ _ hf a h1 h2 => frfX11_take hf a (by simp; omega)) (fun _ _ hf => frfX12_take hf) h
  exact ⟨r, w1, w2, e1, e2, e3.up (Nat.le_succ n), fun d hd => by rw [(frfX11_take e1 (135 + 2 * d) (by simp; omega)).1], e4⟩
theorem LMp_lasts : LM_lasts (fun n w => YY n w w) := fun n w v1 v2 _ h => by
  obtain ⟨r, w1, w2, e1, e2, e3, e4⟩ := lock (C := fX11_lasts v1 v2) (M := fX12_lasts v1 v2) (fun wc wm q => lasts_ok (v1 := v1) (v2 := v2) q) (fun _ _ hf a h1 h2 => frfX11_lasts hf a (by simp; omega)) (fun _ _ hf => frfX12_lasts hf) h
  exact ⟨r, w1, w2, e1, e2, e3.up (Nat.le_succ n), fun d hd => by rw [(frfX11_lasts e1 (135 + 2 * d) (by simp; omega)).1], e4⟩
theorem LMp_size : LM_size (fun n w => YY n w w) := fun n w v1 _ h => by
  obtain ⟨r, w2, e1, e2, e3, e4⟩ := lockP (C := fX11_size v1) (M := fX12_size v1) (fun wc wm q => size_ok (v1 := v1) q) (fun _ _ hf => frfX12_size hf) h
  exact ⟨r, w2, e1, e2, e3.up (Nat.le_succ n), e4⟩
theorem LMp_way : LM_way (fun n w => YY n w w) := fun n w v1 _ h => by
  obtain ⟨r, w2, e1, e2, e3, e4⟩ := lockP (C := fX11_way v1) (M := fX12_way v1) (fun wc wm q => way_ok (v1 := v1) q) (fun _ _ hf => frfX12_way hf) h
  exact ⟨r, w2, e1, e2, e3.up (Nat.le_succ n), e4⟩
theorem LMp_mapOf : LM_mapOf (fun n w => YY n w w) := fun n w v1 v2 v3 _ h => by
  obtain ⟨r, w2, e1, e2, e3, e4⟩ := lockP (C := fX11_mapOf v1 v2 v3) (M := fX12_mapOf v1 v2 v3) (fun wc wm q => mapOf_ok (v1 := v1) (v2 := v2) (v3 := v3) q) (fun _ _ hf => frfX12_mapOf hf) h
  exact ⟨r, w2, e1, e2, e3.up (Nat.le_succ n), e4⟩
theorem LMp_cross : LM_cross (fun n w => YY n w w) := fun n w v1 v2 v3 _ h => by
  obtain ⟨r, w2, e1, e2, e3, e4⟩ := lockP (C := fX11_cross v1 v2 v3) (M := fX12_cross v1 v2 v3) (fun wc wm q => cross_ok (v1 := v1) (v2 := v2) (v3 := v3) q) (fun _ _ hf => frfX12_cross hf) h
  exact ⟨r, w2, e1, e2, e3.up (Nat.le_succ n), e4⟩
theorem LMp_comesBack : LM_comesBack (fun n w => YY n w w) := fun n w v1 _ h => by
  obtain ⟨r, w2, e1, e2, e3, e4⟩ := lockP (C := fX11_comesBack v1) (M := fX12_comesBack v1) (fun wc wm q => comesBack_ok (v1 := v1) q) (fun _ _ hf => frfX12_comesBack hf) h
  exact ⟨r, w2, e1, e2, e3.up (Nat.le_succ n), e4⟩
theorem LMp_window : LM_window (fun n w => YY n w w) := fun n w v1 v2 _ h => by
  obtain ⟨r, w2, e1, e2, e3, e4⟩ := lockP (C := fX11_window v1 v2) (M := fX12_window v1 v2) (fun wc wm q => window_ok (v1 := v1) (v2 := v2) q) (fun _ _ hf => frfX12_window hf) h
  exact ⟨r, w2, e1, e2, e3.up (Nat.le_succ n), e4⟩
theorem LMp_count : LM_count (fun n w => YY n w w) := fun n w v1 _ h => by
  obtain ⟨r, w2, e1, e2, e3, e4⟩ := lockP (C := fX11_count v1) (M := fX12_count v1) (fun wc wm q => count_ok (v1 := v1) q) (fun _ _ hf => frfX12_count hf) h
  exact ⟨r, w2, e1, e2, e3.up (Nat.le_succ n), e4⟩
theorem LMp_carries : LM_carries (fun n w => YY n w w) := fun n w v1 _ h => by
  obtain ⟨r, w2, e1, e2, e3, e4⟩ := lockP (C := fX11_carries v1) (M := fX12_carries v1) (fun wc wm q => carries_ok (v1 := v1) q) (fun _ _ hf => frfX12_carries hf) h
  exact ⟨r, w2, e1, e2, e3.up (Nat.le_succ n), e4⟩
theorem LMp_bears : LM_bears (fun n w => YY n w w) := fun n w v1 v2 _ h => by
  obtain ⟨r, w2, e1, e2, e3, e4⟩ := lockP (C := fX11_bears v1 v2) (M := fX12_bears v1 v2) (fun wc wm q => bears_ok (v1 := v1) (v2 := v2) q) (fun _ _ hf => frfX12_bears hf) h
  exact ⟨r, w2, e1, e2, e3.up (Nat.le_succ n), e4⟩
theorem LMp_inForce : LM_inForce (fun n w => YY n w w) := fun n w v1 v2 _ h => by
  obtain ⟨r, w2, e1, e2, e3, e4⟩ := lockP (C := fX11_inForce v1 v2) (M := fX12_inForce v1 v2) (fun wc wm q => inForce_ok (v1 := v1) (v2 := v2) q) (fun _ _ hf => frfX12_inForce hf) h
  exact ⟨r, w2, e1, e2, e3.up (Nat.le_succ n), e4⟩
-- MATHEMATICS: m41
theorem oI_2 {o : Int32 ⊕ Bool} {w : Wd} {a : Nat} (h : ¬ a = 169) : (oI (o, w)).2.1 a = w.1 a ∧ (oI (o, w)).2.2 a = w.2 a := by
  rcases o with v | b
  · exact ⟨rfl, by show (wl w 169 0 v.toInt64).2 a = _; simp [wl, sl, h]⟩
  · cases b <;> exact ⟨rfl, rfl⟩
theorem oI_1 {o : Int32 ⊕ Bool} {w w' : Wd} : (oI (o, w)).1 = (oI (o, w')).1 := by
  rcases o with v | b
  · rfl
  · cases b <;> rfl
theorem oI_v {x : Int32} {w : Wd} : (oI (.inl x, w)).2.2 169 0 = x.toInt64 := rfl
theorem oJ_2 {o : Int64 ⊕ Bool} {w : Wd} {a : Nat} (h : ¬ a = 169) : (oJ (o, w)).2.1 a = w.1 a ∧ (oJ (o, w)).2.2 a = w.2 a := by
  rcases o with v | b
  · exact ⟨rfl, by show (wl w 169 0 v).2 a = _; simp [wl, sl, h]⟩
  · cases b <;> exact ⟨rfl, rfl⟩
theorem oJ_1 {o : Int64 ⊕ Bool} {w w' : Wd} : (oJ (o, w)).1 = (oJ (o, w')).1 := by
  rcases o with v | b
  · rfl
  · cases b <;> rfl
theorem oJ_v {x : Int64} {w : Wd} : (oJ (.inl x, w)).2.2 169 0 = x := rfl
theorem lockT {n n' : Nat} {C : Wd → Option ((Int32 ⊕ Bool) × Wd)} {M : Wd → Option (Int32 × Wd)} (ok : ∀ wc wm, YY n wc wm → ∃ (o : Int32 ⊕ Bool) (r : Int32) (wm' : Wd), C wc = some (o, wc) ∧ M wm = some (r, wm') ∧ YY n' wc wm' ∧ wm'.1 148 0 = (oI (o, wc)).1 ∧ (∀ x, o = .inl x → r = x)) (fm : ∀ w r, M w = some r → SameX [(148, 168)] w r.2) {w : Wd} (h : YY n w w) : ∃ (o : (Int32 ⊕ Bool) × Wd) (r : Int32) (w2 : Wd), C w = some o ∧ M (oI o).2 = some (r, w2) ∧ w2.1 148 0 = (oI o).1 ∧ (∀ x, o.1 = .inl x → w2.2 169 0 = x.toInt64 ∧ r = x) ∧ YY n' w2 w2 ∧ FL w w2 := by
  obtain ⟨o, -, -, e1, -, -⟩ := ok w w h
  obtain ⟨o', r, w2, a1, a2, a3, a4, a5⟩ := ok w (oI (o, w)).2 (h.mcong (fun a q1 q2 => oI_2 (by omega)))
  rw [e1] at a1
  cases a1
  have hf := fm _ _ a2
  refine ⟨(o, w), r, w2, e1, a2, a4, fun x hx => ⟨?_, a5 x hx⟩, a3.ccong (fun a ha => ?_), fun d hd => ?_⟩
  · rw [(hf 169 (by simp)).2]
    obtain rfl : o = .inl x := hx
    rfl
  · have q1 := fm_cc hf a ha
    have q2 := oI_2 (o := o) (w := w) (a := a) (by omega)
    exact ⟨q1.1.trans q2.1, q1.2.trans q2.2⟩
  · have q1 := fm_FL hf d hd
    rw [q1, (oI_2 (o := o) (w := w) (a := 135 + 2 * d) (by omega)).1]
theorem lockJ {n n' : Nat} {C : Wd → Option ((Int64 ⊕ Bool) × Wd)} {M : Wd → Option (Int64 × Wd)} (ok : ∀ wc wm, YY n wc wm → ∃ (o : Int64 ⊕ Bool) (r : Int64) (wm' : Wd), C wc = some (o, wc) ∧ M wm = some (r, wm') ∧ YY n' wc wm' ∧ wm'.1 148 0 = (oJ (o, wc)).1 ∧ (∀ x, o = .inl x → r = x)) (fm : ∀ w r, M w = some r → SameX [(148, 168)] w r.2) {w : Wd} (h : YY n w w) : ∃ (o : (Int64 ⊕ Bool) × Wd) (r : Int64) (w2 : Wd), C w = some o ∧ M (oJ o).2 = some (r, w2) ∧ w2.1 148 0 = (oJ o).1 ∧ (∀ x, o.1 = .inl x → w2.2 169 0 = x ∧ r = x) ∧ YY n' w2 w2 ∧ FL w w2 := by
  obtain ⟨o, -, -, e1, -, -⟩ := ok w w h
  obtain ⟨o', r, w2, a1, a2, a3, a4, a5⟩ := ok w (oJ (o, w)).2 (h.mcong (fun a q1 q2 => oJ_2 (by omega)))
  rw [e1] at a1
  cases a1
  have hf := fm _ _ a2
  refine ⟨(o, w), r, w2, e1, a2, a4, fun x hx => ⟨?_, a5 x hx⟩, a3.ccong (fun a ha => ?_), fun d hd => ?_⟩
  · rw [(hf 169 (by simp)).2]
    obtain rfl : o = .inl x := hx
    rfl
  · have q1 := fm_cc hf a ha
    have q2 := oJ_2 (o := o) (w := w) (a := a) (by omega)
    exact ⟨q1.1.trans q2.1, q1.2.trans q2.2⟩
  · have q1 := fm_FL hf d hd
    rw [q1, (oJ_2 (o := o) (w := w) (a := 135 + 2 * d) (by omega)).1]
theorem LMp_level : LM_level (fun n w => YY n w w) := fun n w v1 _ h => by
  obtain ⟨o, r, w2, a, b, c, d, e, f⟩ := lockT (C := fX11_level v1) (M := fX12_level v1) (fun wc wm q => level_ok (v1 := v1) q) (fun _ _ hf => frfX12_level hf) h
  exact ⟨o, r, w2, a, b, c, d, e.up (Nat.le_succ n), f⟩
theorem LMp_lineOf : LM_lineOf (fun n w => YY n w w) := fun n w v1 v2 v3 _ h => by
  obtain ⟨o, r, w2, a, b, c, d, e, f⟩ := lockT (C := fX11_lineOf v1 v2 v3) (M := fX12_lineOf v1 v2 v3) (fun wc wm q => lineOf_ok (v1 := v1) (v2 := v2) (v3 := v3) q) (fun _ _ hf => frfX12_lineOf hf) h
  exact ⟨o, r, w2, a, b, c, d, e.up (Nat.le_succ n), f⟩
theorem LMp_house : LM_house (fun n w => YY n w w) := fun n w v1 v2 _ h => by
  obtain ⟨o, r, w2, a, b, c, d, e, f⟩ := lockT (C := fX11_house v1 v2) (M := fX12_house v1 v2) (fun wc wm q => house_ok (v1 := v1) (v2 := v2) q) (fun _ _ hf => frfX12_house hf) h
  exact ⟨o, r, w2, a, b, c, d, e.up (Nat.le_succ n), f⟩
theorem LMp_at : LM_at (fun n w => YY n w w) := fun n w v1 v2 _ h => by
  obtain ⟨o, r, w2, a, b, c, d, e, f⟩ := lockJ (C := fX11_at v1 v2) (M := fX12_at v1 v2) (fun wc wm q => at_ok (v1 := v1) (v2 := v2) q) (fun _ _ hf => frfX12_at hf) h
  exact ⟨o, r, w2, a, b, c, d, e.up (Nat.le_succ n), f⟩
-- MATHEMATICS: m42
theorem fl_refuse {x : Int32} {w : Wd} {r : Int32 × Wd} (hf : ((fX11_refuse x w).bind fun v => some (v.1, v.2)) = some r) : ∀ a, r.2.1 a 3 = w.1 a 3 := by
  cases hf
  intro a
  show (si w 0 7 (w.1 0 7 + 1)).1 a 3 = _
  rw [si_1, if_neg (by omega)]
theorem fl_clear {v1 : Int32} {w : Wd} {r : Int32 × Wd} (hf : fX11_clear v1 w = some r) : ∀ a, r.2.1 a 3 = w.1 a 3 := by
  unfold fX11_clear at hf
  obtain ⟨_, -, hf⟩ := bnd hf
  rcases ite_or hf with ⟨-, hf⟩ | ⟨-, hf⟩
  · obtain ⟨-, hf⟩ := itn hf
    cases hf
    intro a
    show (si (si w (135 + 2 * v1.toNatClampNeg) 0 0) (135 + 2 * v1.toNatClampNeg) 1 0).1 a 3 = _
    rw [si_1, if_neg (by omega), si_1, if_neg (by omega)]
  · cases hf
    exact fun _ => rfl
theorem fl_tape {v1 v2 v3 : Int32} {w : Wd} {r : Int32 × Wd} (hf : fX11_tape v1 v2 v3 w = some r) : ∀ a, r.2.1 a 3 = w.1 a 3 := by
  unfold fX11_tape at hf
  obtain ⟨_, -, hf⟩ := bnd hf
  rcases ite_or hf with ⟨-, hf⟩ | ⟨-, hf⟩
  · obtain ⟨_, -, hf⟩ := bnd hf
    rcases ite_or hf with ⟨-, hf⟩ | ⟨-, hf⟩
    · rcases ite_or hf with ⟨-, hf⟩ | ⟨-, hf⟩
      · cases hf
        exact fun _ => rfl
      · rcases ite_or hf with ⟨-, hf⟩ | ⟨-, hf⟩
        · exact fl_refuse hf
        · obtain ⟨-, hf⟩ := itn hf
          cases hf
          intro a
          show (si (si w (135 + 2 * v1.toNatClampNeg) 0 v2) (135 + 2 * v1.toNatClampNeg) 1 v3).1 a 3 = _
          rw [si_1, if_neg (by omega), si_1, if_neg (by omega)]
    · cases hf
      exact fun _ => rfl
  · cases hf
    exact fun _ => rfl
theorem fl_put {v1 v2 : Int32} {v3 : Int64} {w : Wd} {r : Int32 × Wd} (hf : fX11_put v1 v2 v3 w = some r) : ∀ a, r.2.1 a 3 = w.1 a 3 := by
  unfold fX11_put at hf
  obtain ⟨_, -, hf⟩ := bnd hf
  rcases ite_or hf with ⟨-, hf⟩ | ⟨-, hf⟩
  · obtain ⟨-, hf⟩ := itn hf
    rcases ite_or hf with ⟨-, hf⟩ | ⟨-, hf⟩
    · exact fl_refuse hf
    · rcases ite_or hf with ⟨-, hf⟩ | ⟨-, hf⟩
      · exact fl_refuse hf
      · obtain ⟨_, -, hf⟩ := bnd hf
        rcases ite_or hf with ⟨-, hf⟩ | ⟨-, hf⟩
        · obtain ⟨_, -, hf⟩ := bnd hf
          obtain ⟨-, hf⟩ := itn hf
          cases hf
          exact fun _ => rfl
        · exact fl_refuse hf
  · cases hf
    exact fun _ => rfl
theorem fl_copy {v1 v2 v3 v4 v5 : Int32} {w : Wd} {r : Int32 × Wd} (hf : fX11_copy v1 v2 v3 v4 v5 w = some r) : ∀ a, r.2.1 a 3 = w.1 a 3 := by
  unfold fX11_copy fX11_copy_48 fX11_copy_76 fX11_copy_122 at hf
  obtain ⟨_, -, hf⟩ := bnd hf
  rcases ite_or hf with ⟨-, hf⟩ | ⟨-, hf⟩
  · obtain ⟨_, -, hf⟩ := bnd hf
    rcases ite_or hf with ⟨-, hf⟩ | ⟨-, hf⟩
    · obtain ⟨-, hf⟩ := itn hf
      obtain ⟨-, hf⟩ := itn hf
      rcases ite_or hf with ⟨-, hf⟩ | ⟨-, hf⟩
      · exact fl_refuse hf
      · rcases ite_or hf with ⟨-, hf⟩ | ⟨-, hf⟩
        · exact fl_refuse hf
        · obtain ⟨_, -, hf⟩ := bnd hf
          rcases ite_or hf with ⟨-, hf⟩ | ⟨-, hf⟩
          · rcases ite_or hf with ⟨-, hf⟩ | ⟨-, hf⟩
            · rcases ite_or hf with ⟨-, hf⟩ | ⟨-, hf⟩
              · exact fl_refuse hf
              · rcases ite_or hf with ⟨-, hf⟩ | ⟨-, hf⟩
                · exact fl_refuse hf
                · rcases ite_or hf with ⟨-, hf⟩ | ⟨-, hf⟩
                  · exact fl_refuse hf
                  · rcases ite_or hf with ⟨-, hf⟩ | ⟨-, hf⟩
                    · exact fl_refuse hf
                    · rcases ite_or hf with ⟨-, hf⟩ | ⟨-, hf⟩
                      · exact fl_refuse hf
                      · obtain ⟨-, hf⟩ := itn hf
                        cases hf
                        exact fun _ => rfl
            · exact fl_refuse hf
          · exact fl_refuse hf
    · cases hf
      exact fun _ => rfl
  · cases hf
    exact fun _ => rfl
theorem LMp_clear : LM_clear (fun n w => YY n w w) := fun n w v1 _ h => by
  obtain ⟨r, w1, w2, e1, e2, e3, e4⟩ := lock (C := fX11_clear v1) (M := fX12_clear v1) (fun wc wm q => clear_ok (v1 := v1) q) (fun _ _ hf a h1 h2 => frfX11_clear hf a (by simp; omega)) (fun _ _ hf => frfX12_clear hf) h
  exact ⟨r, w1, w2, e1, e2, e3.up (Nat.le_succ n), fun d _ => fl_clear e1 _, e4⟩
theorem LMp_tape : LM_tape (fun n w => YY n w w) := fun n w v1 v2 v3 _ h => by
  obtain ⟨r, w1, w2, e1, e2, e3, e4⟩ := lock (C := fX11_tape v1 v2 v3) (M := fX12_tape v1 v2 v3) (fun wc wm q => tape_ok (v1 := v1) (v2 := v2) (v3 := v3) q) (fun _ _ hf a h1 h2 => frfX11_tape hf a (by simp; omega)) (fun _ _ hf => frfX12_tape hf) h
  exact ⟨r, w1, w2, e1, e2, e3.up (Nat.le_succ n), fun d _ => fl_tape e1 _, e4⟩
theorem LMp_put : LM_put (fun n w => YY n w w) := fun n w v1 v2 v3 _ h => by
  obtain ⟨r, w1, w2, e1, e2, e3, e4⟩ := lock (C := fX11_put v1 v2 v3) (M := fX12_put v1 v2 v3) (fun wc wm q => put_ok (v1 := v1) (v2 := v2) (v3 := v3) q) (fun _ _ hf a h1 h2 => frfX11_put hf a (by simp; omega)) (fun _ _ hf => frfX12_put hf) h
  exact ⟨r, w1, w2, e1, e2, e3.up (Nat.le_succ n), fun d _ => fl_put e1 _, e4⟩
theorem LMp_copy : LM_copy (fun n w => YY n w w) := fun n w v1 v2 v3 v4 v5 _ h => by
  obtain ⟨r, w1, w2, e1, e2, e3, e4⟩ := lock (C := fX11_copy v1 v2 v3 v4 v5) (M := fX12_copy v1 v2 v3 v4 v5) (fun wc wm q => copy_ok (v1 := v1) (v2 := v2) (v3 := v3) (v4 := v4) (v5 := v5) q) (fun _ _ hf a h1 h2 => frfX11_copy hf a (by simp; omega)) (fun _ _ hf => frfX12_copy hf) h
  exact ⟨r, w1, w2, e1, e2, e3.up (Nat.le_succ n), fun d _ => fl_copy e1 _, e4⟩
theorem fc_keep {v1 : Int32} {w : Wd} {r : Int32 × Wd} (hf : fX11_keep v1 w = some r) : ∀ a, 148 ≤ a → a ≤ 168 → r.2.1 a = w.1 a ∧ r.2.2 a = w.2 a := by
  unfold fX11_keep at hf
  rw [isTape_c, Option.bind_some] at hf
  rcases ite_or hf with ⟨h1, hf⟩ | ⟨-, hf⟩
  · obtain ⟨-, hf⟩ := itn hf
    obtain ⟨d, hd, rfl⟩ := tape_cases (of_decide_eq_true h1)
    rw [iN_clamp (by omega)] at hf
    obtain ⟨k1, k2, k3⟩ := keepN_eq (w := w) hd
    unfold fX11_keepC at hf
    obtain ⟨w1, e1, hf⟩ := bnd hf
    rw [imZ_d'] at e1
    have hfr := frfX0_become e1
    cases hf
    intro a h1 h2
    have q := hfr a (by simp; omega)
    refine ⟨?_, ?_⟩
    · show (si (si w1 (135 + 2 * d) 0 6) (135 + 2 * d) 1 0).1 a = _
      rw [si_oth (by omega), si_oth (by omega), q.1, k1 a (by omega) (by omega)]
    · show w1.2 a = _
      rw [q.2, k3 a (by omega)]
  · cases hf
    exact fun _ _ _ => ⟨rfl, rfl⟩
theorem LMp_keep : LM_keep (fun n w => YY n w w) := fun n w v1 _ h => by
  obtain ⟨r, w1, w2, e1, e2, e3, e4⟩ := lock (C := fX11_keep v1) (M := fX12_keep v1) (fun wc wm q => keep_ok (v1 := v1) q) (fun _ _ hf => fc_keep hf) (fun _ _ hf => frfX12_keep hf) h
  exact ⟨r, w1, w2, e1, e2, e3.up (Nat.le_succ n), e4⟩
theorem YY_up : ∀ n w, (fun n w => YY n w w) n w → (fun n w => YY n w w) (n + 1) w := fun n _ h => h.up (Nat.le_succ n)
-- MATHEMATICS: m51
theorem fr_of {v1 v2 : Int32} {w : Wd} {r : (Int32 ⊕ Bool) × Wd} (hf : fX11_of v1 v2 w = some r) : SameX [(92, 99)] w r.2 := by
  have rf : SameX [(92, 99)] w w := SameX.refl _ _
  unfold fX11_of at hf
  obtain ⟨_, -, hf⟩ := bnd hf
  rcases ite_or hf with ⟨-, hf⟩ | ⟨-, hf⟩
  · obtain ⟨_, -, hf⟩ := bnd hf
    rcases ite_or hf with ⟨-, hf⟩ | ⟨-, hf⟩
    · rcases ite_or hf with ⟨-, hf⟩ | ⟨-, hf⟩
      · rcases ite_or hf with ⟨-, hf⟩ | ⟨-, hf⟩
        · obtain ⟨-, hf⟩ := itn hf
          cases hf
          exact rf
        rcases ite_or hf with ⟨-, hf⟩ | ⟨-, hf⟩
        · obtain ⟨-, hf⟩ := itn hf
          cases hf
          exact rf
        rcases ite_or hf with ⟨-, hf⟩ | ⟨-, hf⟩
        · obtain ⟨-, hf⟩ := itn hf
          cases hf
          exact rf
        rcases ite_or hf with ⟨-, hf⟩ | ⟨-, hf⟩
        · obtain ⟨-, hf⟩ := itn hf
          cases hf
          exact rf
        rcases ite_or hf with ⟨-, hf⟩ | ⟨-, hf⟩
        · obtain ⟨p, hp, hf⟩ := bnd hf
          cases hf
          exact frfX11_holdNow hp
        rcases ite_or hf with ⟨-, hf⟩ | ⟨-, hf⟩
        · obtain ⟨-, hf⟩ := itn hf
          cases hf
          exact rf
        rcases ite_or hf with ⟨-, hf⟩ | ⟨-, hf⟩
        · obtain ⟨_, -, hf⟩ := bnd hf
          rcases ite_or hf with ⟨-, hf⟩ | ⟨-, hf⟩
          · cases hf
            exact rf
          · cases hf
            exact rf
        · obtain ⟨-, hf⟩ := itn hf
          cases hf
          exact rf
      · obtain ⟨_, -, hf⟩ := bnd hf
        cases hf
        exact rf
    · cases hf
      exact rf
  · cases hf
    exact rf
theorem LMp_of : LM_of (fun n w => YY n w w) := fun n w v1 v2 _ h => by
  obtain ⟨o, -, w1, -, e1, -, -⟩ := of_ok (v1 := v1) (v2 := v2) h
  have f1 := fr_of e1
  obtain ⟨o', r, w1', w2, a1, a2, a3, a4, a5⟩ := of_ok (v1 := v1) (v2 := v2) (h.mcong (wm' := (oI (o, w1)).2) (fun a q1 q2 => by
    have q3 := oI_2 (o := o) (w := w1) (a := a) (by omega)
    have q4 := f1 a (by simp; omega)
    exact ⟨q3.1.trans q4.1, q3.2.trans q4.2⟩))
  rw [e1] at a1
  cases a1
  have hf := frfX12_of a2
  refine ⟨(o, w1), r, w2, e1, a2, a4, fun x hx => ⟨?_, a5 x hx⟩, (a3.ccong (fun a ha => ?_)).up (Nat.le_succ n), fun d hd => ?_⟩
  · rw [(hf 169 (by simp)).2]
    obtain rfl : o = .inl x := hx
    rfl
  · have q1 := fm_cc hf a ha
    have q2 := oI_2 (o := o) (w := w1) (a := a) (by omega)
    exact ⟨q1.1.trans q2.1, q1.2.trans q2.2⟩
  · have q1 := fm_FL hf d hd
    rw [q1, (oI_2 (o := o) (w := w1) (a := 135 + 2 * d) (by omega)).1, (f1 (135 + 2 * d) (by simp; omega)).1]
-- MATHEMATICS: m90
theorem LMp_route : LM_route (fun n w => YY n w w) := fun n w v1 v2 v3 v4 hn h => by
  obtain ⟨r, w1, w2, e1, e2, e3, e4⟩ := lock (C := fX11_route v1 v2 v3 v4) (M := fX12_route v1 v2 v3 v4) (fun wc wm q => route_ok q) (fun _ _ hf a h1 h2 => frfX11_route hf a (by simp; omega)) (fun _ _ hf => frfX12_route hf) h
  exact ⟨r, w1, w2, e1, e2, e3.up (Nat.le_succ n), fun d hd => by rw [(frfX11_route e1 (135 + 2 * d) (by simp; omega)).1], e4⟩
theorem LMp_cutOff : LM_cutOff (fun n w => YY n w w) := fun n w hn h => by
  obtain ⟨r, w1, w2, e1, e2, e3, e4⟩ := lock (C := fX11_cutOff) (M := fX12_cutOff) (fun wc wm q => cutOff_ok q) (fun _ _ hf a h1 h2 => frfX11_cutOff hf a (by simp; omega)) (fun _ _ hf => frfX12_cutOff hf) h
  exact ⟨r, w1, w2, e1, e2, e3.up (Nat.le_succ n), fun d hd => by rw [(frfX11_cutOff e1 (135 + 2 * d) (by simp; omega)).1], e4⟩
theorem LMp_best : LM_best (fun n w => YY n w w) := fun n w v1 v2 hn h => by
  obtain ⟨r, w1, w2, e1, e2, e3, e4⟩ := lock (C := fX11_best v1 v2) (M := fX12_best v1 v2) (fun wc wm q => best_ok q) (fun _ _ hf a h1 h2 => frfX11_best hf a (by simp; omega)) (fun _ _ hf => frfX12_best hf) h
  exact ⟨r, w1, w2, e1, e2, e3.up (Nat.le_succ n), fun d hd => by rw [(frfX11_best e1 (135 + 2 * d) (by simp; omega)).1], e4⟩
theorem LMp_judge : LM_judge (fun n w => YY n w w) := fun n w v1 v2 hn h => by
  obtain ⟨r, w1, w2, e1, e2, e3, e4⟩ := lock (C := fX11_judge v1 v2) (M := fX12_judge v1 v2) (fun wc wm q => judge_ok q) (fun _ _ hf a h1 h2 => frfX11_judge hf a (by simp; omega)) (fun _ _ hf => frfX12_judge hf) h
  exact ⟨r, w1, w2, e1, e2, e3.up (Nat.le_succ n), fun d hd => by rw [(frfX11_judge e1 (135 + 2 * d) (by simp; omega)).1], e4⟩
theorem LMp_holds : LM_holds (fun n w => YY n w w) := fun n w v1 v2 hn h => by
  obtain ⟨r, w1, w2, e1, e2, e3, e4⟩ := lock (C := fX11_holds v1 v2) (M := fX12_holds v1 v2) (fun wc wm q => holds_ok q (Nat.le_of_lt hn)) (fun _ _ hf a h1 h2 => frfX11_holds hf a (by simp; omega)) (fun _ _ hf => frfX12_holds hf) h
  exact ⟨r, w1, w2, e1, e2, e3.up (Nat.le_succ n), fun d hd => by rw [(frfX11_holds e1 (135 + 2 * d) (by simp; omega)).1], e4⟩
theorem LMp_law : LM_law (fun n w => YY n w w) := fun n w v1 v2 v3 hn h => by
  obtain ⟨r, w1, w2, e1, e2, e3, e4⟩ := lock (C := fX11_law v1 v2 v3) (M := fX12_law v1 v2 v3) (fun wc wm q => law_ok q (Nat.le_of_lt hn)) (fun _ _ hf a h1 h2 => frfX11_law hf a (by simp; omega)) (fun _ _ hf => frfX12_law hf) h
  exact ⟨r, w1, w2, e1, e2, e3.up (Nat.le_succ n), fun d hd => by rw [(frfX11_law e1 (135 + 2 * d) (by simp; omega)).1], e4⟩
theorem LMp_hours : LM_hours (fun n w => YY n w w) := fun n w v1 hn h => by
  obtain ⟨r, w1, w2, e1, e2, e3, e4⟩ := lock (C := fX11_hours v1) (M := fX12_hours v1) (fun wc wm q => hours_ok q (Nat.le_of_lt hn)) (fun _ _ hf a h1 h2 => frfX11_hours hf a (by simp; omega)) (fun _ _ hf => frfX12_hours hf) h
  exact ⟨r, w1, w2, e1, e2, e3.up (Nat.le_succ n), fun d hd => by rw [(frfX11_hours e1 (135 + 2 * d) (by simp; omega)).1], e4⟩
theorem LMath_YY : LMath (fun n w => YY n w w) := ⟨LMp_begin, LMp_set, LMp_of, LMp_tide, LMp_level, LMp_comesBack, LMp_window, LMp_old, LMp_map, LMp_cut, LMp_mapOf, LMp_route, LMp_way, LMp_take, LMp_lineOf, LMp_size, LMp_gangs, LMp_kiln, LMp_bad, LMp_bears, LMp_carries, LMp_cross, LMp_rain, LMp_lift, LMp_coal, LMp_stop, LMp_lasts, LMp_out, LMp_house, LMp_hours, LMp_bridge, LMp_cutOff, LMp_law, LMp_inForce, LMp_holds, LMp_best, LMp_judge, LMp_share, LMp_tape, LMp_keep, LMp_back, LMp_toss, LMp_clear, LMp_put, LMp_at, LMp_copy, LMp_count⟩
