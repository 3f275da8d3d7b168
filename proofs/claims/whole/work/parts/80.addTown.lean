theorem rl_addTown {sg v : Sg} {L : Rg} (h : Rl sg sg L) {n : Nat} (hn : n < 4) (en : sg 41 15 = nI n) {p z w t : Int32} (hp : bnd p 0 100) (hz : bnd z 0 480) (hw : bnd w 5 120) (ht : bnd t 0 1440) (ev : ∀ c k, ¬ ((c = 37 + n ∧ 1 ≤ k ∧ k ≤ 4) ∨ (c = 0 ∧ k = 9) ∨ (c = 55 ∧ k = n) ∨ (c = 56 ∧ k = n) ∨ (c = 57 ∧ k = n) ∨ (c = 58 ∧ k = n) ∨ (c = 41 ∧ (k = 15 ∨ k = 34))) → v c k = sg c k) (v1 : v (37 + n) 1 = p) (v2 : v (37 + n) 2 = z) (v3 : v (37 + n) 3 = w) (v4 : v (37 + n) 4 = t) (v0 : v 0 9 = nI (n + 1)) (w1 : v 55 n = p) (w2 : v 56 n = z) (w3 : v 57 n = w) (w4 : v 58 n = t) (v6 : v 41 15 = nI (n + 1)) : Rl v v L := by
  have ixn : ix (sg 41 15) = n := by rw [en, nI_ix (by omega)]
  have ixv : ix (v 41 15) = n + 1 := by rw [v6, nI_ix (by omega)]
  have hT : ¬ sg 41 23 < 0 → ix (sg 41 23) < n := fun c => by
    have := h.nb.2.2.2.2 c
    omega
  have ld : ∀ q, q < 6 → ∀ y, fr_X5_load v (nI q) y = fr_X5_load sg (nI q) y := fun q hq y => load_cg hq y (ev 44 q (by omega)) (ev 48 q (by omega)) (ev 49 q (by omega)) (ev 50 q (by omega)) (ev 51 q (by omega)) (ev 52 q (by omega)) (fun _ => ⟨ev 42 _ (by omega), ev 42 _ (by omega)⟩)
  have my : ¬ sg 41 23 < 0 → ∀ x, fr_X5_may v x = fr_X5_may sg x := fun ht x => by
    have g := hT ht
    unfold fr_X5_may
    rw [ev 41 23 (by omega), ev 43 (ix x) (by omega), ev 55 (ix (sg 41 23)) (by omega)]
  have sm : ∀ q, has L q → Sm sg v q := fun q hq => by
    obtain ⟨f1, f2, f3, f4⟩ := h.ok.fx h.ms q hq
    exact ⟨⟨ev 45 q (by omega), ev 46 q (by omega), ev 47 q (by omega), ev 48 q (by omega), ev 49 q (by omega), ev 50 q (by omega), ev 53 q (by omega)⟩, ld q f3, ev 54 _ (by omega), my f4 _, my f4 _⟩
  have tm : ¬ sg 41 23 < 0 → Tm sg v := fun ht => by
    have g := hT ht
    exact ⟨ev 41 23 (by omega), ev 56 _ (by omega), ev 57 _ (by omega), ev 58 _ (by omega)⟩
  refine Rl.of ?_ ⟨⟨?_, ?_, ?_⟩, ?_, ?_, ?_⟩ ?_ ⟨⟨?_, ?_, ?_, ?_⟩, ?_, ?_, ?_, ?_⟩ ⟨?_, ?_, ?_, ?_, ?_⟩ ?_ ?_ ?_ ?_
  · exact h.di.r.cong fun r hr => by
      unfold isR at hr
      exact ⟨ev r 5 (by omega), fun k => ev (r + 1) k (by omega)⟩
  · exact by rw [ev 41 0 (by omega)]; exact h.ms.1.1
  · exact by rw [ev 41 3 (by omega)]; exact h.ms.1.2.1
  · exact ⟨n + 1, by omega, v6⟩
  · exact by rw [ev 41 23 (by omega)]; exact h.ms.2.1
  · exact fun q hq c => by
      rw [ev 48 q (by omega)] at c
      unfold FxOk
      rw [ev 49 q (by omega), ev 50 q (by omega), ev 42 (ix (sg 49 q)) (by omega), ev 42 (ix (sg 50 q)) (by omega)]
      exact h.ms.2.2.1 q hq c
  · exact fun q hq => by rw [ev 47 q (by omega)]; exact h.ms.2.2.2 q hq
  · exact h.ac.of53 fun q hq => ev 53 q (by omega)
  · exact by rw [ev 0 7 (by omega), ev 41 0 (by omega)]; exact h.st.1.1
  · exact by rw [ev 0 8 (by omega), ev 41 3 (by omega)]; exact h.st.1.2.1
  · exact v0.trans v6.symm
  · exact by rw [ev 0 10 (by omega), ev 41 23 (by omega)]; exact h.st.1.2.2.2
  · exact fun i hi => by rw [ev (23 + i) 0 (by omega), ev (23 + i) 1 (by omega), ev 42 i (by omega), ev 43 i (by omega)]; exact h.st.2.1 i hi
  · exact fun q hq => by
      unfold Pcs
      rw [ev (31 + q) 0 (by omega), ev (31 + q) 1 (by omega), ev (31 + q) 2 (by omega), ev (31 + q) 3 (by omega), ev (31 + q) 4 (by omega), ev (31 + q) 5 (by omega), ev (31 + q) 6 (by omega), ev (31 + q) 7 (by omega), ev (31 + q) 8 (by omega), ev 44 q (by omega), ev 45 q (by omega), ev 46 q (by omega), ev 47 q (by omega), ev 53 q (by omega), ev 48 q (by omega), ev 49 q (by omega), ev 50 q (by omega), ld q hq, ld q hq]
      exact h.st.2.2.1 q hq
  · exact fun i hi => by rw [ev 4 i (by omega), ev 54 i (by omega)]; exact h.st.2.2.2.1 i hi
  · exact fun i hi => by
      by_cases e : i = n
      · subst e
        obtain ⟨a0, a1, a2, a3, a4, a5, a6, a7⟩ := h.st.2.2.2.2 i hi
        refine ⟨?_, v1.trans w1.symm, v2.trans w2.symm, v3.trans w3.symm, v4.trans w4.symm, ?_, ?_, ?_⟩
        · rw [ev (37 + i) 0 (by omega)]; exact a0
        · rw [ev (37 + i) 5 (by omega), ev 59 i (by omega)]; exact a5
        · rw [ev (37 + i) 6 (by omega), ev 60 i (by omega)]; exact a6
        · rw [ev (37 + i) 7 (by omega), ev 61 i (by omega)]; exact a7
      · unfold Twn
        rw [ev (37 + i) 0 (by omega), ev (37 + i) 1 (by omega), ev (37 + i) 2 (by omega), ev (37 + i) 3 (by omega), ev (37 + i) 4 (by omega), ev (37 + i) 5 (by omega), ev (37 + i) 6 (by omega), ev (37 + i) 7 (by omega), ev 55 i (by omega), ev 56 i (by omega), ev 57 i (by omega), ev 58 i (by omega), ev 59 i (by omega), ev 60 i (by omega), ev 61 i (by omega)]
        exact h.st.2.2.2.2 i hi
  · exact fun q hq => by
      unfold NbP LdOk
      rw [ev 44 q (by omega), ev 45 q (by omega), ev 46 q (by omega), ev 53 q (by omega), ev 48 q (by omega), ev 49 q (by omega), ev 50 q (by omega), ld q hq, ld q hq, ev 41 3 (by omega), ev 41 0 (by omega)]
      exact h.nb.1 q hq
  · exact fun i hi => by rw [ev 54 i (by omega)]; exact h.nb.2.1 i hi
  · exact fun i hi => by
      obtain ⟨a1, a2, a3⟩ := h.nb.2.2.1 i hi
      unfold NbT
      rw [ev 59 i (by omega), ev 60 i (by omega), ev 61 i (by omega), ixv]
      rw [ixn] at a3
      by_cases e : i = n
      · subst e
        rw [w1, w2, w3, w4]
        exact ⟨⟨hp, hz, hw.le (by decide) (by decide), ht⟩, a2, fun _ => hw.1⟩
      · rw [ev 55 i (by omega), ev 56 i (by omega), ev 57 i (by omega), ev 58 i (by omega)]
        exact ⟨a1, a2, fun x => a3 (by omega)⟩
  · exact fun i hi => by rw [ev 42 i (by omega), ev 43 i (by omega)]; exact h.nb.2.2.2.1 i hi
  · exact fun c => by
      rw [ev 41 23 (by omega)] at c ⊢
      have := hT c
      rw [ixv]; omega
  · exact (h.rp.cong fun c k h1 h2 => ev c k (by omega)).cg sm
  · exact h.rt.cong (ev 41 24 (by omega)) fun c k h1 h2 h3 => ev c k (by omega)
  · exact (by
      by_cases c : sg 41 23 < 0
      · rw [h.ok.town c]; trivial
      · exact h.ok.cg (tm c) (by rw [ev 41 3 (by omega)]; exact Nat.le_refl _) sm)
  · exact fun q hq => by rw [ev (31 + q) 5 (by omega), ev 48 q (by omega), ev 41 3 (by omega)]; exact h.rn q hq
theorem wc_addTown_IAE : wC wf_addTown (some eIAE) = 1 := by decide
theorem wc_addTown_ISE : wC wf_addTown (some eISE) = 2 := by decide
theorem st_addTown : St_addTown Rel := fun sg p z w t ⟨L, h⟩ => by
  have e7 : sg 0 9 = sg 41 15 := h.st.1.2.2.1
  by_cases c1 : p < 10 ∨ 100 < p
  · have ef : fe_X4_addTown sg p z w t = some eIAE := by unfold fe_X4_addTown; rw [if_pos c1]
    rw [ef]
    exact thrown_case h (fun s => fs_X5_addTown s p z w t) (by show fs_X5_addTown sg p z w t = _; unfold fs_X5_addTown; rw [if_neg (or_nn c1)]) wc_addTown_IAE
  by_cases c2 : z < 30 ∨ 480 < z
  · have ef : fe_X4_addTown sg p z w t = some eIAE := by unfold fe_X4_addTown; rw [if_neg c1, if_pos c2]
    rw [ef]
    exact thrown_case h (fun s => fs_X5_addTown s p z w t) (by show fs_X5_addTown sg p z w t = _; unfold fs_X5_addTown; rw [if_pos (nn_and c1), if_neg (or_nn c2)]) wc_addTown_IAE
  by_cases c3 : w < 5 ∨ 120 < w
  · have ef : fe_X4_addTown sg p z w t = some eIAE := by unfold fe_X4_addTown; rw [if_neg c1, if_neg c2, if_pos c3]
    rw [ef]
    exact thrown_case h (fun s => fs_X5_addTown s p z w t) (by show fs_X5_addTown sg p z w t = _; unfold fs_X5_addTown; rw [if_pos (nn_and c1), if_pos (nn_and c2), if_neg (or_nn c3)]) wc_addTown_IAE
  by_cases c4 : t < 60 ∨ 1440 < t
  · have ef : fe_X4_addTown sg p z w t = some eIAE := by unfold fe_X4_addTown; rw [if_neg c1, if_neg c2, if_neg c3, if_pos c4]
    rw [ef]
    exact thrown_case h (fun s => fs_X5_addTown s p z w t) (by show fs_X5_addTown sg p z w t = _; unfold fs_X5_addTown; rw [if_pos (nn_and c1), if_pos (nn_and c2), if_pos (nn_and c3), if_neg (or_nn c4)]) wc_addTown_IAE
  rcases cnt_at h.ms.1.2.2 (by decide) with ⟨cl, n, hn, en⟩ | cl
  · have ixn : ix (sg 41 15) = n := by rw [en, nI_ix (by omega)]
    have n8 : ¬ sg 41 15 = 4 := fun w => by rw [w] at cl; exact Int32.lt_irrefl cl
    have ef : fe_X4_addTown sg p z w t = none := by unfold fe_X4_addTown; rw [if_neg c1, if_neg c2, if_neg c3, if_neg c4, e7, if_pos (show sg 41 15 < 4 from cl)]
    rw [ef]
    show DI sg ∧ MI (fs_X4_addTown sg p z w t) ∧ fr_X5_thrown (fs_X5_addTown (fs_X4_addTown sg p z w t) p z w t) = 0 ∧ (none = none → fr_X4_addTown sg p z w t = fr_X5_addTown (fs_X4_addTown sg p z w t) p z w t) ∧ Rel (fs_X5_addTown (fs_X4_addTown sg p z w t) p z w t)
    have hi : ∀ c k, 41 ≤ c → fs_X4_addTown sg p z w t c k = sg c k := fun c k hc => by
      unfold fs_X4_addTown
      rw [e7, ixn]
      repeat rw [up_ne _ _ (by omega)]
    have es : fs_X5_addTown (fs_X4_addTown sg p z w t) p z w t = up (up (up (up (up (up (fs_X4_addTown sg p z w t) 41 34 0) 55 n p) 56 n z) 57 n w) 58 n t) 41 15 (nI (n + 1)) := by
      unfold fs_X5_addTown
      rw [if_pos (nn_and c1), if_pos (nn_and c2), if_pos (nn_and c3), if_pos (nn_and c4), hi 41 15 (by omega), if_neg n8, ixn, en, show nI n + 1 = nI (n + 1) from nI_add1 n]
    refine ⟨h.di, (h.hi hi).mi, ?_, fun _ => ?_, L, ?_⟩
    · rw [es]; unfold fr_X5_thrown
      repeat rw [up_ne _ _ (by omega)]
      rw [up_at]
    · unfold fr_X4_addTown fr_X5_addTown
      rw [if_pos (nn_and c1), if_pos (nn_and c2), if_pos (nn_and c3), if_pos (nn_and c4), hi 41 15 (by omega), if_neg n8, i32_back, e7]
    · rw [es]
      refine rl_addTown h hn en (p := p) (z := z) (w := w) (t := t) ((bnd_of 10 100 rfl rfl c1).le (by decide) (by decide)) ((bnd_of 30 480 rfl rfl c2).le (by decide) (by decide)) (bnd_of 5 120 rfl rfl c3) ((bnd_of 60 1440 rfl rfl c4).le (by decide) (by decide)) (fun c k hc => ?_) ?_ ?_ ?_ ?_ ?_ ?_ ?_ ?_ ?_ ?_
      · repeat rw [up_ne _ _ (by omega)]
        unfold fs_X4_addTown
        rw [e7, ixn]
        repeat rw [up_ne _ _ (by omega)]
      · repeat rw [up_ne _ _ (by omega)]
        unfold fs_X4_addTown
        rw [e7, ixn]
        repeat rw [up_ne _ _ (by omega)]
        rw [up_at]
      · repeat rw [up_ne _ _ (by omega)]
        unfold fs_X4_addTown
        rw [e7, ixn]
        repeat rw [up_ne _ _ (by omega)]
        rw [up_at]
      · repeat rw [up_ne _ _ (by omega)]
        unfold fs_X4_addTown
        rw [e7, ixn]
        repeat rw [up_ne _ _ (by omega)]
        rw [up_at]
      · repeat rw [up_ne _ _ (by omega)]
        unfold fs_X4_addTown
        rw [e7, ixn]
        repeat rw [up_ne _ _ (by omega)]
        rw [up_at]
      · repeat rw [up_ne _ _ (by omega)]
        unfold fs_X4_addTown
        rw [e7, ixn]
        rw [up_at, en]; exact nI_add1 n
      · repeat rw [up_ne _ _ (by omega)]
        rw [up_at]
      · repeat rw [up_ne _ _ (by omega)]
        rw [up_at]
      · repeat rw [up_ne _ _ (by omega)]
        rw [up_at]
      · repeat rw [up_ne _ _ (by omega)]
        rw [up_at]
      · rw [up_at]
  · have ef : fe_X4_addTown sg p z w t = some eISE := by unfold fe_X4_addTown; rw [if_neg c1, if_neg c2, if_neg c3, if_neg c4, e7, cl, if_neg (show ¬ nI 4 < 4 from Int32.lt_irrefl)]
    rw [ef]
    exact thrown_case h (fun s => fs_X5_addTown s p z w t) (by show fs_X5_addTown sg p z w t = _; unfold fs_X5_addTown; rw [if_pos (nn_and c1), if_pos (nn_and c2), if_pos (nn_and c3), if_pos (nn_and c4), if_pos (show sg 41 15 = 4 from cl)]) wc_addTown_ISE
