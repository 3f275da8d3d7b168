/-! the calls that ask -/
theorem chk_iff {p n : Int32} : (¬ (¬ p < 0 ∧ ¬ n < p)) ↔ (p < 0 ∨ n < p) := by
  by_cases c : p < 0
  · simp [c]
  · by_cases d : n < p
    · simp [d]
    · simp [c, d]
theorem in_cnt {p n : Int32} {m : Nat} (h : cnt n m) (hm : m < 999) (c : ¬ (p < 0 ∨ n - 1 < p)) : ∃ k, k < ix n ∧ k < m ∧ p = nI k := by
  obtain ⟨j, hj, rfl⟩ := h
  have c1 : ¬ p < 0 := fun z => c (Or.inl z)
  have c2 : ¬ nI j - 1 < p := fun z => c (Or.inr z)
  rw [Int32.lt_iff_toInt_lt, show (0 : Int32).toInt = 0 from rfl] at c1
  rcases Nat.eq_zero_or_pos j with rfl | q
  · rw [Int32.lt_iff_toInt_lt, show (nI 0 - 1).toInt = -1 by decide] at c2
    omega
  · obtain ⟨i, rfl⟩ : ∃ i, j = i + 1 := ⟨j - 1, by omega⟩
    rw [nI_pred, Int32.lt_iff_toInt_lt, nI_toInt' (by omega)] at c2
    refine ⟨p.toInt.toNat, ?_, by omega, ?_⟩
    · rw [nI_ix (by omega)]; omega
    · apply Int32.toInt_inj.mp
      rw [nI_toInt (by omega)]
      omega
theorem st_hung : St_hung Rel := fun sg ⟨L, h⟩ => ⟨h.di, h.mi, h.rp.1.1.trans h.rt.1.symm, Rel.up34 ⟨L, h⟩⟩
theorem st_end : St_end Rel := fun sg ⟨L, h⟩ => ⟨h.di, h.mi, (s_end h.rp).trans (rep_end h.rt).symm, Rel.up34 ⟨L, h⟩⟩
theorem st_work : St_work Rel := fun sg ⟨L, h⟩ => ⟨h.di, h.mi, (s_work h.rp).trans (rep_work h.rt).symm, Rel.up34 ⟨L, h⟩⟩
theorem told_eq {sg : Sg} {L : Rg} (h : Rl sg sg L) : fr_X5_told sg = Int32.toInt64 (aCost sg L) := by
  unfold fr_X5_told
  have r := h.up34 (v := 0)
  rw [r.rt.1, nI_ix (by have := r.rt.2.1; omega), costs_rep r.rt.2.2.1, sa_cost (t := sg) (rs_of fun c k hc => up_ne _ _ (by omega))]
theorem st_cost : St_cost Rel := fun sg ⟨L, h⟩ => by
  refine ⟨h.di, h.mi, h.ri, ?_, Rel.up34 ⟨L, h⟩⟩
  unfold fr_X4_cost fr_X5_cost
  rw [told_eq h, s_cost h.st h.ms h.nb h.ok h.rp]
theorem st_costByMinutes : St_costByMinutes Rel := fun sg ⟨L, h⟩ => by
  refine ⟨h.di, h.mi, h.ri, ?_, Rel.up34 ⟨L, h⟩⟩
  unfold fr_X4_costByMinutes fr_X5_costByMinutes
  rw [told_eq h, s_cmm h.st h.ms h.nb h.ok h.rp]
theorem wc_town_NSE : wC wf_town (some eNSE) = 1 := by decide
theorem st_town : St_town Rel := fun sg ⟨L, h⟩ => by
  rw [wS_same]
  refine ⟨h.di, h.mi, ?_⟩
  have et : sg 0 10 = sg 41 23 := h.st.1.2.2.2
  unfold fe_X4_town fs_X5_town fr_X5_town fr_X5_thrown fr_X4_town
  rw [et]
  by_cases c : sg 41 23 < 0
  · rw [if_pos c, if_pos c, if_pos c]
    exact ⟨up_at.trans wc_town_NSE.symm, some_no, Rel.up34 ⟨L, h⟩⟩
  · rw [if_neg c, if_neg c, if_neg c]
    refine ⟨up_at, fun _ => ?_, Rel.up34 ⟨L, h⟩⟩
    rw [(h.st.2.2.2.2 _ (h.ms.tn c)).1]
    exact nI_in8 (h.ms.2.1.resolve_left c) (by decide)
theorem wc_loadOn_NSE : wC wf_loadOn (some eNSE) = 1 := by decide
theorem wc_loadOn_IOB : wC wf_loadOn (some eIOB) = 2 := by decide
theorem s_loadAt {s t : Sg} {L : Rg} (h : Rl s t L) {p : Nat} (hp : p < 6) {q : Nat} (hq : q < 8) : fr_X0_loadAt s p (nI q) = fr_X5_load t (nI p) (nI q) := by
  obtain ⟨-, hu, hf⟩ := h.st.2.2.1 p hp
  have ei : ix (nI p) = p := nI_ix (by omega)
  unfold fr_X0_loadAt
  by_cases c : t 48 p = 0
  · have n4 := hu c
    have n5 := (h.rn p hp).1 c
    have e1 : ¬ nI q = s (31 + p) 4 := fun z => by rw [← z] at n4; exact nI_nn (by omega) n4
    have e2 : ¬ nI q = s (31 + p) 5 := fun z => by rw [← z] at n5; exact nI_nn (by omega) n5
    unfold fr_X5_load
    rw [if_neg e1, if_neg e2, ei, if_pos c]
  · obtain ⟨f4, f5, f45, f6, f7⟩ := hf c
    rw [f4, f5, f6, f7]
    by_cases e1 : nI q = t 49 p
    · rw [if_pos e1, e1]
    · rw [if_neg e1]
      by_cases e2 : nI q = t 50 p
      · rw [if_pos e2, e2]
      · rw [if_neg e2]
        unfold fr_X5_load
        rw [ei, if_neg c, if_neg e1, if_neg e2]
theorem st_loadOn : St_loadOn Rel := fun sg p q ⟨L, h⟩ => by
  rw [wS_same]
  refine ⟨h.di, h.mi, ?_⟩
  have e8 : sg 0 8 = sg 41 3 := h.st.1.2.1
  have e7 : sg 0 7 = sg 41 0 := h.st.1.1
  unfold fe_X4_loadOn fe_X4_checkPiece fe_X4_checkPoint fs_X5_loadOn fr_X5_loadOn fr_X5_thrown fr_X4_loadOn
  simp only [chk_iff, e8, e7]
  by_cases c1 : p < 0 ∨ sg 41 3 - 1 < p
  · simp only [if_pos c1]
    exact ⟨up_at.trans wc_loadOn_NSE.symm, some_no, Rel.up34 ⟨L, h⟩⟩
  simp only [if_neg c1]
  by_cases c2 : q < 0 ∨ sg 41 0 - 1 < q
  · simp only [if_pos c2]
    exact ⟨up_at.trans wc_loadOn_IOB.symm, some_no, Rel.up34 ⟨L, h⟩⟩
  simp only [if_neg c2]
  refine ⟨up_at, fun _ => ?_, Rel.up34 ⟨L, h⟩⟩
  obtain ⟨k, k1, k2, rfl⟩ := in_cnt h.ms.1.2.1 (by decide) c1
  obtain ⟨j, j1, j2, rfl⟩ := in_cnt h.ms.1.1 (by decide) c2
  rw [nI_ix (by omega)]
  exact s_loadAt h k2 j2
theorem wc_mayBear_IOB : wC wf_mayBear (some eIOB) = 1 := by decide
theorem wc_mayBear_ISE : wC wf_mayBear (some eISE) = 2 := by decide
theorem st_mayBear : St_mayBear Rel := fun sg q ⟨L, h⟩ => by
  rw [wS_same]
  refine ⟨h.di, h.mi, ?_⟩
  have e7 : sg 0 7 = sg 41 0 := h.st.1.1
  have et : sg 0 10 = sg 41 23 := h.st.1.2.2.2
  unfold fe_X4_mayBear fe_X4_checkPoint fs_X5_mayBear fr_X5_mayBear fr_X5_thrown fr_X4_mayBear
  simp only [chk_iff, et, e7]
  by_cases c2 : q < 0 ∨ sg 41 0 - 1 < q
  · simp only [if_pos c2]
    exact ⟨up_at.trans wc_mayBear_IOB.symm, some_no, Rel.up34 ⟨L, h⟩⟩
  simp only [if_neg c2]
  by_cases c : sg 41 23 < 0
  · simp only [if_pos c]
    exact ⟨up_at.trans wc_mayBear_ISE.symm, some_no, Rel.up34 ⟨L, h⟩⟩
  simp only [if_neg c]
  refine ⟨up_at, fun _ => ?_, Rel.up34 ⟨L, h⟩⟩
  obtain ⟨j, j1, j2, rfl⟩ := in_cnt h.ms.1.1 (by decide) c2
  exact s_allows h.st (h.ms.tn c) (by rw [nI_ix (by omega)]; exact j2)
theorem wc_bears_IOB : wC wf_bears (some eIOB) = 1 := by decide
theorem bears_eq {s t : Sg} {L : Rg} (h : Rl s t L) {q : Nat} (hq : q < 8) : s 10 q = fl_X5_borne t (nI q) (ix (t 41 24)) 0 0 := by
  rw [h.rt.1, nI_ix (by have := h.rt.2.1; omega), borne_rep h.rt.2.2.1]
  exact h.rp.2.2.2.2 q hq
theorem st_bears : St_bears Rel := fun sg q ⟨L, h⟩ => by
  rw [wS_same]
  refine ⟨h.di, h.mi, ?_⟩
  have e7 : sg 0 7 = sg 41 0 := h.st.1.1
  unfold fe_X4_bears fe_X4_checkPoint fs_X5_bears fr_X5_bears fr_X5_thrown fr_X4_bears
  simp only [chk_iff, e7]
  by_cases c2 : q < 0 ∨ sg 41 0 - 1 < q
  · simp only [if_pos c2]
    exact ⟨up_at.trans wc_bears_IOB.symm, some_no, Rel.up34 ⟨L, h⟩⟩
  simp only [if_neg c2]
  refine ⟨up_at, fun _ => ?_, Rel.up34 ⟨L, h⟩⟩
  obtain ⟨j, j1, j2, rfl⟩ := in_cnt h.ms.1.1 (by decide) c2
  rw [nI_ix (by omega)]
  exact bears_eq h j2
theorem wc_reason_NSE : wC wf_reason (some eNSE) = 1 := by decide
theorem why_eq {s t : Sg} {L : Rg} (h : Rl s t L) {p : Nat} (hp : p < 6) : fr_X4_reasonAgainst s 5 (nI p) = fr_X5_why t (nI p) := by
  rw [s_why h.st h.ms h.nb h.rp (h.ok.endb h.ms h.nb) hp, t_why h.ms h.nb h.rt hp]
theorem st_reason : St_reason Rel := fun sg p ⟨L, h⟩ => by
  rw [wS_same]
  refine ⟨h.di, h.mi, ?_⟩
  have e8 : sg 0 8 = sg 41 3 := h.st.1.2.1
  unfold fe_X4_reason fe_X4_checkPiece fs_X5_reason fr_X5_reason fr_X5_thrown fr_X4_reason
  simp only [chk_iff, e8]
  by_cases c1 : p < 0 ∨ sg 41 3 - 1 < p
  · simp only [if_pos c1]
    exact ⟨up_at.trans wc_reason_NSE.symm, some_no, Rel.up34 ⟨L, h⟩⟩
  simp only [if_neg c1]
  refine ⟨up_at, fun _ => ?_, Rel.up34 ⟨L, h⟩⟩
  obtain ⟨k, k1, k2, rfl⟩ := in_cnt h.ms.1.2.1 (by decide) c1
  exact why_eq h k2
theorem wc_hungAt_IOB : wC wf_hungAt (some eIOB) = 1 := by decide
theorem st_hungAt : St_hungAt Rel := fun sg p ⟨L, h⟩ => by
  rw [wS_same]
  refine ⟨h.di, h.mi, ?_⟩
  have e5 : sg 5 5 = sg 41 24 := h.rp.1.1.trans h.rt.1.symm
  unfold fe_X4_hungAt fe_X4_pieceAt fs_X5_hungAt fr_X5_hungAt fr_X5_thrown fr_X4_hungAt fr_X4_pieceAt
  rw [e5]
  by_cases c1 : p < 0 ∨ sg 41 24 - 1 < p
  · simp only [if_pos c1, if_neg (chk_iff.mpr c1)]
    exact ⟨up_at.trans wc_hungAt_IOB.symm, some_no, Rel.up34 ⟨L, h⟩⟩
  · have c' : ¬ p < 0 ∧ ¬ sg 41 24 - 1 < p := ⟨fun z => c1 (Or.inl z), fun z => c1 (Or.inr z)⟩
    simp only [if_neg c1, if_pos c']
    refine ⟨up_at, fun _ => ?_, Rel.up34 ⟨L, h⟩⟩
    obtain ⟨k, k1, k2, rfl⟩ := in_cnt (n := sg 41 24) ⟨L.length, h.rt.2.1, h.rt.1⟩ (by decide) c1
    rw [h.rt.1, nI_ix (by have := h.rt.2.1; omega)] at k1
    rw [nI_ix (by omega)]
    exact (row_rep h.rp.1.2.2.1 h.rt.2.2.1 k k1).1
theorem idx_eq {s t : Sg} {r : Nat} {p : Int32} : ∀ (n k : Nat), (∀ j, k ≤ j → j < k + n → s (r + 1) j = t 62 j) → fl_X2_indexOf s r p n k = fl_X5_inRig t p n k
  | 0, _, _ => rfl
  | n + 1, k, h => by
    unfold fl_X2_indexOf fl_X5_inRig
    rw [h k (Nat.le_refl _) (by omega), idx_eq n (k + 1) (fun j h1 h2 => h j (by omega) (by omega))]
theorem inRig_at {t : Sg} {p : Int32} : ∀ (n k : Nat), n + k < 900 → ¬ fl_X5_inRig t p n k < 0 → ∃ j, k ≤ j ∧ j < k + n ∧ fl_X5_inRig t p n k = nI j
  | 0, _, _, h => absurd (show ((-1 : Int32) < 0) by decide) h
  | n + 1, k, hk, h => by
    unfold fl_X5_inRig at h ⊢
    by_cases c : t 62 k = p
    · rw [if_pos c]
      exact ⟨k, Nat.le_refl _, by omega, rfl⟩
    · rw [if_neg c] at h ⊢
      obtain ⟨j, h1, h2, h3⟩ := inRig_at n (k + 1) (by omega) h
      exact ⟨j, by omega, by omega, h3⟩
theorem wc_beginOf_NSE : wC wf_beginOf (some eNSE) = 1 := by decide
theorem st_beginOf : St_beginOf Rel := fun sg p ⟨L, h⟩ => by
  rw [wS_same]
  refine ⟨h.di, h.mi, ?_⟩
  have hl := h.rt.2.1
  have e5 : ix (sg 5 5) = ix (sg 41 24) := by rw [h.rp.1.1, h.rt.1]
  have e24 : ix (sg 41 24) = L.length := by rw [h.rt.1, nI_ix (by omega)]
  have ei : fl_X2_indexOf sg 5 p (ix (sg 41 24)) 0 = fl_X5_inRig sg p (ix (sg 41 24)) 0 := idx_eq _ 0 fun j h1 h2 => (row_rep h.rp.1.2.2.1 h.rt.2.2.1 j (by omega)).1
  unfold fe_X4_beginOf fs_X5_beginOf fr_X5_beginOf fr_X5_thrown fr_X4_beginOf
  rw [e5, ei]
  simp only [chk_iff]
  by_cases c1 : p < 0 ∨ sg 41 3 - 1 < p
  · have cc : fl_X5_inRig sg p (ix (sg 41 24)) 0 < 0 := by
      rw [inRig_neg (by omega)]
      intro j h1 h2 z
      obtain ⟨x, x1, x2⟩ := rep_at h.rt.2.2.1 j (by omega)
      have x3 := Ok.lt h.ms h.ok x x1
      have hc := h.ms.nc
      have ec : sg 41 3 = nI (ix (sg 41 3)) := h.ms.1.2.1.ixe
      rw [← z, x2] at c1
      rcases c1 with c1 | c1
      · exact nI_nn (by omega) c1
      · rw [ec] at c1
        obtain ⟨m, hm⟩ : ∃ m, ix (sg 41 3) = m + 1 := ⟨ix (sg 41 3) - 1, by omega⟩
        rw [hm, nI_pred, nI_lt_iff (by omega) (by omega)] at c1
        omega
    simp only [if_pos c1, if_pos cc]
    exact ⟨up_at.trans wc_beginOf_NSE.symm, some_no, Rel.up34 ⟨L, h⟩⟩
  simp only [if_neg c1]
  by_cases c2 : fl_X5_inRig sg p (ix (sg 41 24)) 0 < 0
  · simp only [if_pos c2]
    exact ⟨up_at.trans wc_beginOf_NSE.symm, some_no, Rel.up34 ⟨L, h⟩⟩
  simp only [if_neg c2]
  refine ⟨up_at, fun _ => ?_, Rel.up34 ⟨L, h⟩⟩
  obtain ⟨j, j1, j2, j3⟩ := inRig_at _ 0 (by omega) c2
  rw [j3, nI_ix (by omega)]
  exact (row_rep h.rp.1.2.2.1 h.rt.2.2.1 j (by omega)).2.1
theorem wc_tightest_ISE : wC wf_tightest (some eISE) = 1 := by decide
theorem wc_tightest_NSE : wC wf_tightest (some eNSE) = 2 := by decide
theorem left_eq {s t u : Sg} {L : Rg} (h : Rl s t L) (hu : Rl s u L) (hs : rs u = rs t) (ht : ix (t 41 23) < 4) {q : Nat} (hq : q < 8) : fr_X4_leftAt s (nI q) (ix (t 41 23)) = fr_X5_may u (nI q) - fl_X5_borne u (nI q) (ix (u 41 24)) 0 0 := by
  unfold fr_X4_leftAt
  rw [s_allows h.st ht (by rw [nI_ix (by omega)]; exact hq), nI_ix (by omega), bears_eq hu hq, sa_may hs]
theorem tig_eq {s t u : Sg} {L : Rg} (h : Rl s t L) (hu : Rl s u L) (hs : rs u = rs t) (ht : ix (t 41 23) < 4) : ∀ (n k z : Nat), n + k ≤ 8 → z < 8 → fl_tig s (ix (t 41 23)) n k (nI z) = fl_X5_tightest u n k (nI z)
  | 0, _, _, _, _ => rfl
  | n + 1, k, z, hk, hz => by
    unfold fl_tig fl_X5_tightest
    rw [left_eq h hu hs ht (show k < 8 by omega), left_eq h hu hs ht hz]
    by_cases c : fr_X5_may u (nI k) - fl_X5_borne u (nI k) (ix (u 41 24)) 0 0 < fr_X5_may u (nI z) - fl_X5_borne u (nI z) (ix (u 41 24)) 0 0
    · rw [if_pos c, if_pos c]
      exact tig_eq h hu hs ht n (k + 1) k (by omega) (by omega)
    · rw [if_neg c, if_neg c]
      exact tig_eq h hu hs ht n (k + 1) z (by omega) hz
theorem st_tightest : St_tightest Rel := fun sg ⟨L, h⟩ => by
  rw [wS_same]
  refine ⟨h.di, h.mi, ?_⟩
  have e7 : sg 0 7 = sg 41 0 := h.st.1.1
  have et : sg 0 10 = sg 41 23 := h.st.1.2.2.2
  unfold fe_X4_tightest fs_X5_tightest fr_X5_tightest fr_X5_thrown fr_X4_tightest
  rw [e7, et]
  by_cases c : sg 41 23 < 0
  · rw [if_pos c, if_pos c, if_pos c]
    exact ⟨up_at.trans wc_tightest_ISE.symm, some_no, Rel.up34 ⟨L, h⟩⟩
  rw [if_neg c, if_neg c, if_neg c]
  by_cases c2 : sg 41 0 = 0
  · rw [if_pos c2, if_pos c2, if_pos c2]
    exact ⟨up_at.trans wc_tightest_NSE.symm, some_no, Rel.up34 ⟨L, h⟩⟩
  rw [if_neg c2, if_neg c2, if_neg c2]
  refine ⟨up_at, fun _ => ?_, Rel.up34 ⟨L, h⟩⟩
  have n8 : ix (sg 41 0) ≤ 8 := h.ms.1.1.ixl
  have n0 := cnt_pos h.ms.1.1 c2
  exact tig_eq h h.up34 (rs_of fun c k hc => up_ne _ _ (by omega)) (h.ms.tn c) _ 1 0 (by omega) (by omega)
theorem wc_hungShare_AE : wC wf_hungShare (some eAE) = 1 := by decide
theorem st_hungShare : St_hungShare Rel := fun sg ⟨L, h⟩ => by
  rw [wS_same]
  have e8 : sg 0 8 = sg 41 3 := h.st.1.2.1
  have e5 : sg 5 5 = sg 41 24 := h.rp.1.1.trans h.rt.1.symm
  obtain ⟨m, hm, em⟩ := h.ms.1.2.1
  have hl := h.rt.2.1
  have ok : ¬ sg 41 3 = 0 → vf_n32 (FP.fdiv (FP.i2f (sg 41 24)) (FP.i2f (sg 41 3))) ∧ vf_n64 (FP.f2d (FP.fdiv (FP.i2f (sg 41 24)) (FP.i2f (sg 41 3)))) := fun z => by
    rw [h.rt.1, em]
    refine share_ok (by omega) (by omega) (fun w => z ?_)
    rw [em, w]; rfl
  refine ⟨h.di, ?_, ?_, h.mi, fun z => (ok z).1, ?_⟩
  · rw [e8, e5]; exact fun z => (ok z).1
  · unfold fe_X4_hungShare fr_X4_hungShare
    rw [e8, e5]
    by_cases c : sg 41 3 = 0
    · rw [if_pos c]; exact some_no
    · exact fun _ => (ok c).2
  unfold fe_X4_hungShare fs_X5_hungShare fr_X5_hungShare fr_X5_thrown fr_X4_hungShare
  rw [e8, e5]
  by_cases c : sg 41 3 = 0
  · rw [if_pos c, if_pos c, if_pos c]
    exact ⟨up_at.trans wc_hungShare_AE.symm, some_no, Rel.up34 ⟨L, h⟩⟩
  · rw [if_neg c, if_neg c, if_neg c]
    exact ⟨up_at, fun _ => rfl, Rel.up34 ⟨L, h⟩⟩
theorem wc_meanLoad_AE : wC wf_meanLoad (some eAE) = 1 := by decide
theorem ml_eq {s t : Sg} {L : Rg} (h : Rl s t L) : ∀ (n k : Nat) (z : Int32), n + k ≤ 8 → fl_ml s n k z = fl_X5_sum t n k z
  | 0, _, _, _ => rfl
  | n + 1, k, z, hk => by
    unfold fl_ml fl_X5_sum
    rw [bears_eq h (show k < 8 by omega), ml_eq h n (k + 1) _ (by omega)]
theorem st_meanLoad : St_meanLoad Rel := fun sg ⟨L, h⟩ => by
  rw [wS_same]
  have e7 : sg 0 7 = sg 41 0 := h.st.1.1
  obtain ⟨m, hm, em⟩ := h.ms.1.1
  have ok : ∀ z, ¬ sg 41 0 = 0 → vf_n64 (FP.ddiv (FP.i2d z) (FP.i2d (sg 41 0))) := fun z w => by
    rw [em]
    refine mean_ok z hm (fun v => w ?_)
    rw [em, v]; rfl
  refine ⟨h.di, ?_, h.mi, fun z => ok _ z, ?_⟩
  · rw [e7]; exact fun z => ok _ z
  have n8 : ix (sg 41 0) ≤ 8 := h.ms.1.1.ixl
  unfold fe_X4_meanLoad fs_X5_meanLoad fr_X5_meanLoad fr_X5_thrown fr_X4_meanLoad
  rw [e7]
  by_cases c : sg 41 0 = 0
  · rw [if_pos c, if_pos c, if_pos c]
    exact ⟨up_at.trans wc_meanLoad_AE.symm, some_no, Rel.up34 ⟨L, h⟩⟩
  · rw [if_neg c, if_neg c, if_neg c]
    refine ⟨up_at, fun _ => ?_, Rel.up34 ⟨L, h⟩⟩
    rw [ml_eq (h.up34 (v := 0)) _ 0 0 (by omega)]
