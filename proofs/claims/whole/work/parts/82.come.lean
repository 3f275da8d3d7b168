theorem empt_at : ∀ (n k : Nat) (s : Sg) (r c j : Nat), fl_empt r n k s c j = if c = r + 5 ∧ k ≤ j ∧ j < k + n then 0 else s c j
  | 0, k, s, r, c, j => by rw [if_neg (by omega)]; rfl
  | n + 1, k, s, r, c, j => by
    show fl_empt r n (k + 1) (up s (r + 5) k 0) c j = _
    rw [empt_at n (k + 1)]
    by_cases h : c = r + 5 ∧ k + 1 ≤ j ∧ j < k + 1 + n
    · rw [if_pos h, if_pos (by omega)]
    · rw [if_neg h]
      by_cases h2 : c = r + 5 ∧ j = k
      · rw [if_pos (by omega), h2.1, h2.2, up_at]
      · rw [if_neg (by omega), up_ne _ _ (by omega)]
theorem rl_come {sg v : Sg} {L : Rg} (h : Rl sg sg L) {p : Int32} (hp : vp_in p 4) (hc : ix p < ix (sg 41 15)) (ev : ∀ c k, ¬ ((c = 0 ∧ k = 10) ∨ (c = 5 ∧ 5 ≤ k ∧ k ≤ 7) ∨ (c = 10 ∧ k < 8) ∨ (c = 41 ∧ (k = 23 ∨ k = 24 ∨ k = 34))) → v c k = sg c k) (v1 : v 0 10 = p) (v2 : v 41 23 = p) (v3 : v 41 24 = 0) (v4 : v 5 5 = 0) (v5 : v 5 6 = 0) (v6 : v 5 7 = 0) (v7 : ∀ q, q < 8 → v 10 q = 0) : Rl v v [] := by
  have ld : ∀ q, q < 6 → ∀ y, fr_X5_load v (nI q) y = fr_X5_load sg (nI q) y := fun q hq y => load_cg hq y (ev 44 q (by omega)) (ev 48 q (by omega)) (ev 49 q (by omega)) (ev 50 q (by omega)) (ev 51 q (by omega)) (ev 52 q (by omega)) (fun _ => ⟨ev 42 _ (by omega), ev 42 _ (by omega)⟩)
  refine Rl.of ?_ ⟨⟨?_, ?_, ?_⟩, ?_, ?_, ?_⟩ ?_ ⟨⟨?_, ?_, ?_, ?_⟩, ?_, ?_, ?_, ?_⟩ ⟨?_, ?_, ?_, ?_, ?_⟩ ?_ ?_ ?_ ?_
  · exact (fun r hr => by
      rcases hr with rfl | rfl | rfl
      · rw [v4]; exact ⟨⟨0, by decide, rfl⟩, fun k hk hl => absurd hl (nI_nn (by omega))⟩
      · rw [ev 11 5 (by omega)]
        exact ⟨(h.di.r 11 isR11).1, fun k hk hl => by rw [ev 12 k (by omega)]; exact (h.di.r 11 isR11).2 k hk hl⟩
      · rw [ev 17 5 (by omega)]
        exact ⟨(h.di.r 17 isR17).1, fun k hk hl => by rw [ev 18 k (by omega)]; exact (h.di.r 17 isR17).2 k hk hl⟩)
  · exact by rw [ev 41 0 (by omega)]; exact h.ms.1.1
  · exact by rw [ev 41 3 (by omega)]; exact h.ms.1.2.1
  · exact by rw [ev 41 15 (by omega)]; exact h.ms.1.2.2
  · exact by rw [v2]; exact Or.inr hp
  · exact fun q hq c => by
      rw [ev 48 q (by omega)] at c
      unfold FxOk
      rw [ev 49 q (by omega), ev 50 q (by omega), ev 42 (ix (sg 49 q)) (by omega), ev 42 (ix (sg 50 q)) (by omega)]
      exact h.ms.2.2.1 q hq c
  · exact fun q hq => by rw [ev 47 q (by omega)]; exact h.ms.2.2.2 q hq
  · exact h.ac.of53 fun q hq => ev 53 q (by omega)
  · exact by rw [ev 0 7 (by omega), ev 41 0 (by omega)]; exact h.st.1.1
  · exact by rw [ev 0 8 (by omega), ev 41 3 (by omega)]; exact h.st.1.2.1
  · exact by rw [ev 0 9 (by omega), ev 41 15 (by omega)]; exact h.st.1.2.2.1
  · exact v1.trans v2.symm
  · exact fun i hi => by rw [ev (23 + i) 0 (by omega), ev (23 + i) 1 (by omega), ev 42 i (by omega), ev 43 i (by omega)]; exact h.st.2.1 i hi
  · exact fun q hq => by
      unfold Pcs
      rw [ev (31 + q) 0 (by omega), ev (31 + q) 1 (by omega), ev (31 + q) 2 (by omega), ev (31 + q) 3 (by omega), ev (31 + q) 4 (by omega), ev (31 + q) 5 (by omega), ev (31 + q) 6 (by omega), ev (31 + q) 7 (by omega), ev (31 + q) 8 (by omega), ev 44 q (by omega), ev 45 q (by omega), ev 46 q (by omega), ev 47 q (by omega), ev 53 q (by omega), ev 48 q (by omega), ev 49 q (by omega), ev 50 q (by omega), ld q hq, ld q hq]
      exact h.st.2.2.1 q hq
  · exact fun i hi => by rw [ev 4 i (by omega), ev 54 i (by omega)]; exact h.st.2.2.2.1 i hi
  · exact fun i hi => by
      unfold Twn
      rw [ev (37 + i) 0 (by omega), ev (37 + i) 1 (by omega), ev (37 + i) 2 (by omega), ev (37 + i) 3 (by omega), ev (37 + i) 4 (by omega), ev (37 + i) 5 (by omega), ev (37 + i) 6 (by omega), ev (37 + i) 7 (by omega), ev 55 i (by omega), ev 56 i (by omega), ev 57 i (by omega), ev 58 i (by omega), ev 59 i (by omega), ev 60 i (by omega), ev 61 i (by omega)]
      exact h.st.2.2.2.2 i hi
  · exact fun q hq => by
      unfold NbP LdOk
      rw [ev 44 q (by omega), ev 45 q (by omega), ev 46 q (by omega), ev 53 q (by omega), ev 48 q (by omega), ev 49 q (by omega), ev 50 q (by omega), ld q hq, ld q hq, ev 41 3 (by omega), ev 41 0 (by omega)]
      exact h.nb.1 q hq
  · exact fun i hi => by rw [ev 54 i (by omega)]; exact h.nb.2.1 i hi
  · exact fun i hi => by
      unfold NbT
      rw [ev 55 i (by omega), ev 56 i (by omega), ev 57 i (by omega), ev 58 i (by omega), ev 59 i (by omega), ev 60 i (by omega), ev 61 i (by omega), ev 41 15 (by omega)]
      exact h.nb.2.2.1 i hi
  · exact fun i hi => by rw [ev 42 i (by omega), ev 43 i (by omega)]; exact h.nb.2.2.2.1 i hi
  · exact fun _ => by rw [v2, ev 41 15 (by omega)]; exact hc
  · exact ⟨⟨v4, Nat.zero_le _, trivial, fun x hx => nomatch hx⟩, by rw [v5]; exact ⟨0, by decide, rfl⟩, fun j hj => by
      rw [v5, bits_zero ⟨j, hj⟩]
      exact ⟨fun y => absurd y (by decide), fun ⟨x, hx, _⟩ => nomatch hx⟩, v6, v7⟩
  · exact ⟨v3, Nat.zero_le _, trivial, fun x hx => nomatch hx⟩
  · exact trivial
  · exact fun q hq => by rw [ev (31 + q) 5 (by omega), ev 48 q (by omega), ev 41 3 (by omega)]; exact h.rn q hq
theorem wc_come_NSE : wC wf_come (some eNSE) = 1 := by decide
theorem st_come : St_come Rel := fun sg p ⟨L, h⟩ => by
  have e9 : sg 0 9 = sg 41 15 := h.st.1.2.2.1
  by_cases c0 : p < 0 ∨ sg 41 15 - 1 < p
  · have ef : fe_X4_come sg p = some eNSE := by unfold fe_X4_come fe_X4_checkTown; simp only [e9, if_pos c0]
    rw [ef]
    exact thrown_case h (fun s => fs_X5_come s p) (by show fs_X5_come sg p = _; unfold fs_X5_come; rw [if_pos (chk_iff.mpr c0)]) wc_come_NSE
  obtain ⟨i, i1, i2, rfl⟩ := in_cnt h.ms.1.2.2 (by decide) c0
  have ef : fe_X4_come sg (nI i) = none := by unfold fe_X4_come fe_X4_checkTown; simp only [e9, if_neg c0]
  rw [ef]
  show DI sg ∧ MI (fs_X4_come sg (nI i)) ∧ fr_X5_thrown (fs_X5_come (fs_X4_come sg (nI i)) (nI i)) = 0 ∧ (none = none → fr_X4_come sg (nI i) = fr_X5_come (fs_X4_come sg (nI i)) (nI i)) ∧ Rel (fs_X5_come (fs_X4_come sg (nI i)) (nI i))
  have at0 : ∀ c k, ¬ (c = 0 ∧ k = 10) → ¬ (c = 5 ∧ 5 ≤ k ∧ k ≤ 7) → ¬ (c = 10 ∧ k < 8) → fs_X4_come sg (nI i) c k = sg c k := fun c k h1 h2 h3 => by
    unfold fs_X4_come fs_empt
    rw [up_ne _ _ (by omega), empt_at, if_neg (by omega), up_ne _ _ (by omega), up_ne _ _ (by omega), up_ne _ _ (by omega)]
  have hi : ∀ c k, 41 ≤ c → fs_X4_come sg (nI i) c k = sg c k := fun c k hc => at0 c k (by omega) (by omega) (by omega)
  have es : fs_X5_come (fs_X4_come sg (nI i)) (nI i) = up (up (up (fs_X4_come sg (nI i)) 41 34 0) 41 23 (nI i)) 41 24 0 := by
    unfold fs_X5_come
    rw [hi 41 15 (by omega), if_neg (fun y => c0 (chk_iff.mp y))]
  refine ⟨h.di, (h.hi hi).mi, ?_, fun _ => ?_, [], ?_⟩
  · rw [es]; unfold fr_X5_thrown
    rw [up_ne _ _ (by omega), up_ne _ _ (by omega), up_at]
  · unfold fr_X4_come fr_X5_come
    rw [hi 41 15 (by omega), if_neg (fun y => c0 (chk_iff.mp y)), hi 41 24 (by omega), h.rt.1]
    exact h.rp.1.1
  · rw [es]
    refine rl_come h (p := nI i) (in_nI i2 (by decide)) (by rw [nI_ix (by omega)]; exact i1) (fun c k hc => ?_) ?_ ?_ ?_ ?_ ?_ ?_ (fun q hq => ?_)
    · rw [up_ne _ _ (by omega), up_ne _ _ (by omega), up_ne _ _ (by omega)]
      exact at0 c k (by omega) (by omega) (by omega)
    · rw [up_ne _ _ (by omega), up_ne _ _ (by omega), up_ne _ _ (by omega)]
      unfold fs_X4_come
      rw [up_at]
    · rw [up_ne _ _ (by omega), up_at]
    · rw [up_at]
    · rw [up_ne _ _ (by omega), up_ne _ _ (by omega), up_ne _ _ (by omega)]
      unfold fs_X4_come fs_empt
      rw [up_ne _ _ (by omega), empt_at, if_neg (by omega), up_ne _ _ (by omega), up_ne _ _ (by omega), up_at]
    · rw [up_ne _ _ (by omega), up_ne _ _ (by omega), up_ne _ _ (by omega)]
      unfold fs_X4_come fs_empt
      rw [up_ne _ _ (by omega), empt_at, if_neg (by omega), up_ne _ _ (by omega), up_at]
    · rw [up_ne _ _ (by omega), up_ne _ _ (by omega), up_ne _ _ (by omega)]
      unfold fs_X4_come fs_empt
      rw [up_ne _ _ (by omega), empt_at, if_neg (by omega), up_at]
    · rw [up_ne _ _ (by omega), up_ne _ _ (by omega), up_ne _ _ (by omega)]
      unfold fs_X4_come fs_empt
      rw [up_ne _ _ (by omega), empt_at, if_pos (by omega)]
