theorem rl_addPiece {sg v : Sg} {L : Rg} (h : Rl sg sg L) {n : Nat} (hn : n < 6) (en : sg 41 3 = nI n) {p z w t : Int32} (hp : bnd p 0 2000) (hz : bnd z 5 240) (hw : bnd w 1 99) (ht : vp_in t 3) (ev : ∀ c k, ¬ ((c = 31 + n ∧ k ≤ 3) ∨ (c = 0 ∧ k = 8) ∨ (c = 44 ∧ k = n) ∨ (c = 45 ∧ k = n) ∨ (c = 46 ∧ k = n) ∨ (c = 47 ∧ k = n) ∨ (c = 41 ∧ (k = 3 ∨ k = 34))) → v c k = sg c k) (v1 : v (31 + n) 0 = p) (v2 : v (31 + n) 1 = z) (v3 : v (31 + n) 2 = w) (v4 : v (31 + n) 3 = t) (v0 : v 0 8 = nI (n + 1)) (w1 : v 44 n = p) (w2 : v 45 n = z) (w3 : v 46 n = w) (w4 : v 47 n = t) (v6 : v 41 3 = nI (n + 1)) : Rl v v L := by
  have ixn : ix (sg 41 3) = n := by rw [en, nI_ix (by omega)]
  have ixv : ix (v 41 3) = n + 1 := by rw [v6, nI_ix (by omega)]
  have z48 : sg 48 n = 0 := Classical.byContradiction fun c => by
    have := (h.rn n hn).2 c
    omega
  have ld : ∀ q, q < 6 → ∀ y, fr_X5_load v (nI q) y = fr_X5_load sg (nI q) y := fun q hq y => by
    by_cases e : q = n
    · unfold fr_X5_load
      rw [nI_ix (by omega), e, ev 48 n (by omega), if_pos z48, if_pos z48]
    · exact load_cg hq y (ev 44 q (by omega)) (ev 48 q (by omega)) (ev 49 q (by omega)) (ev 50 q (by omega)) (ev 51 q (by omega)) (ev 52 q (by omega)) (fun _ => ⟨ev 42 _ (by omega), ev 42 _ (by omega)⟩)
  have my : ∀ x, True → fr_X5_may v x = fr_X5_may sg x := fun x hx => by
    unfold fr_X5_may
    rw [ev 41 23 (by omega), ev 43 (ix x) (by omega), ev 55 (ix (sg 41 23)) (by omega)]
  have sm : ∀ q, has L q → Sm sg v q := fun q hq => by
    obtain ⟨f1, f2, f3, f4⟩ := h.ok.fx h.ms q hq
    rw [ixn] at f2
    exact ⟨⟨ev 45 q (by omega), ev 46 q (by omega), ev 47 q (by omega), ev 48 q (by omega), ev 49 q (by omega), ev 50 q (by omega), ev 53 q (by omega)⟩, ld q f3, ev 54 _ (by omega), my _ trivial, my _ trivial⟩
  have tm : Tm sg v := ⟨ev 41 23 (by omega), ev 56 _ (by omega), ev 57 _ (by omega), ev 58 _ (by omega)⟩
  refine Rl.of ?_ ⟨⟨?_, ?_, ?_⟩, ?_, ?_, ?_⟩ ?_ ⟨⟨?_, ?_, ?_, ?_⟩, ?_, ?_, ?_, ?_⟩ ⟨?_, ?_, ?_, ?_, ?_⟩ ?_ ?_ ?_ ?_
  · exact h.di.r.cong fun r hr => by
      unfold isR at hr
      exact ⟨ev r 5 (by omega), fun k => ev (r + 1) k (by omega)⟩
  · exact by rw [ev 41 0 (by omega)]; exact h.ms.1.1
  · exact ⟨n + 1, by omega, v6⟩
  · exact by rw [ev 41 15 (by omega)]; exact h.ms.1.2.2
  · exact by rw [ev 41 23 (by omega)]; exact h.ms.2.1
  · exact fun q hq c => by
      rw [ev 48 q (by omega)] at c
      unfold FxOk
      rw [ev 49 q (by omega), ev 50 q (by omega), ev 42 (ix (sg 49 q)) (by omega), ev 42 (ix (sg 50 q)) (by omega)]
      exact h.ms.2.2.1 q hq c
  · exact fun q hq => by
      by_cases e : q = n
      · rw [e, w4]; exact ht
      · rw [ev 47 q (by omega)]; exact h.ms.2.2.2 q hq
  · exact h.ac.of53 fun q hq => ev 53 q (by omega)
  · exact by rw [ev 0 7 (by omega), ev 41 0 (by omega)]; exact h.st.1.1
  · exact v0.trans v6.symm
  · exact by rw [ev 0 9 (by omega), ev 41 15 (by omega)]; exact h.st.1.2.2.1
  · exact by rw [ev 0 10 (by omega), ev 41 23 (by omega)]; exact h.st.1.2.2.2
  · exact fun i hi => by rw [ev (23 + i) 0 (by omega), ev (23 + i) 1 (by omega), ev 42 i (by omega), ev 43 i (by omega)]; exact h.st.2.1 i hi
  · exact fun q hq => by
      obtain ⟨⟨a0, a1, a2, a3, a8, a9⟩, b, c⟩ := h.st.2.2.1 q hq
      by_cases e : q = n
      · subst e
        refine ⟨⟨v1.trans w1.symm, v2.trans w2.symm, v3.trans w3.symm, v4.trans w4.symm, ?_, ?_⟩, fun _ => ?_, fun x => ?_⟩
        · rw [ev (31 + q) 8 (by omega), ev 53 q (by omega)]; exact a8
        · rw [ev 53 q (by omega)]; exact a9
        · rw [ev (31 + q) 4 (by omega)]; exact b z48
        · rw [ev 48 q (by omega)] at x; exact absurd z48 x
      · unfold Pcs
        rw [ev (31 + q) 0 (by omega), ev (31 + q) 1 (by omega), ev (31 + q) 2 (by omega), ev (31 + q) 3 (by omega), ev (31 + q) 4 (by omega), ev (31 + q) 5 (by omega), ev (31 + q) 6 (by omega), ev (31 + q) 7 (by omega), ev (31 + q) 8 (by omega), ev 44 q (by omega), ev 45 q (by omega), ev 46 q (by omega), ev 47 q (by omega), ev 53 q (by omega), ev 48 q (by omega), ev 49 q (by omega), ev 50 q (by omega), ld q hq, ld q hq]
        exact h.st.2.2.1 q hq
  · exact fun i hi => by rw [ev 4 i (by omega), ev 54 i (by omega)]; exact h.st.2.2.2.1 i hi
  · exact fun i hi => by
      unfold Twn
      rw [ev (37 + i) 0 (by omega), ev (37 + i) 1 (by omega), ev (37 + i) 2 (by omega), ev (37 + i) 3 (by omega), ev (37 + i) 4 (by omega), ev (37 + i) 5 (by omega), ev (37 + i) 6 (by omega), ev (37 + i) 7 (by omega), ev 55 i (by omega), ev 56 i (by omega), ev 57 i (by omega), ev 58 i (by omega), ev 59 i (by omega), ev 60 i (by omega), ev 61 i (by omega)]
      exact h.st.2.2.2.2 i hi
  · exact fun q hq => by
      obtain ⟨a1, a2, a3, a4⟩ := h.nb.1 q hq
      unfold NbP LdOk
      rw [ev 53 q (by omega), ev 48 q (by omega), ev 49 q (by omega), ev 50 q (by omega), ld q hq, ld q hq, ixv, ev 41 0 (by omega)]
      rw [ixn] at a2 a3
      by_cases e : q = n
      · subst e
        rw [w1, w2, w3]
        exact ⟨⟨hz.le (by decide) (by decide), hw.le (by decide) (by decide), hp⟩, fun _ => ⟨hz.1, hw.1⟩, ⟨a3.1, fun j hj hb => by have := a3.2 j hj hb; omega⟩, a4⟩
      · rw [ev 44 q (by omega), ev 45 q (by omega), ev 46 q (by omega)]
        exact ⟨a1, fun x => a2 (by omega), ⟨a3.1, fun j hj hb => by have := a3.2 j hj hb; omega⟩, a4⟩
  · exact fun i hi => by rw [ev 54 i (by omega)]; exact h.nb.2.1 i hi
  · exact fun i hi => by
      unfold NbT
      rw [ev 55 i (by omega), ev 56 i (by omega), ev 57 i (by omega), ev 58 i (by omega), ev 59 i (by omega), ev 60 i (by omega), ev 61 i (by omega), ev 41 15 (by omega)]
      exact h.nb.2.2.1 i hi
  · exact fun i hi => by rw [ev 42 i (by omega), ev 43 i (by omega)]; exact h.nb.2.2.2.1 i hi
  · exact by rw [ev 41 23 (by omega), ev 41 15 (by omega)]; exact h.nb.2.2.2.2
  · exact (h.rp.cong fun c k h1 h2 => ev c k (by omega)).cg sm
  · exact h.rt.cong (ev 41 24 (by omega)) fun c k h1 h2 h3 => ev c k (by omega)
  · exact h.ok.cg tm (by rw [ixn, ixv]; omega) sm
  · exact fun q hq => by
      rw [ev (31 + q) 5 (by omega), ev 48 q (by omega), ixv]
      have := h.rn q hq
      rw [ixn] at this
      exact ⟨this.1, fun c => by have := this.2 c; omega⟩
theorem wc_addPiece_IAE : wC wf_addPiece (some eIAE) = 1 := by decide
theorem wc_addPiece_ISE : wC wf_addPiece (some eISE) = 2 := by decide
theorem st_addPiece : St_addPiece Rel := fun sg p z w t ⟨L, h⟩ => by
  have e7 : sg 0 8 = sg 41 3 := h.st.1.2.1
  by_cases c1 : p < 10 ∨ 2000 < p
  · have ef : fe_X4_addPiece sg p z w t = some eIAE := by unfold fe_X4_addPiece; rw [if_pos c1]
    rw [ef]
    exact thrown_case h (fun s => fs_X5_addPiece s p z w t) (by show fs_X5_addPiece sg p z w t = _; unfold fs_X5_addPiece; rw [if_neg (or_nn c1)]) wc_addPiece_IAE
  by_cases c2 : z < 5 ∨ 240 < z
  · have ef : fe_X4_addPiece sg p z w t = some eIAE := by unfold fe_X4_addPiece; rw [if_neg c1, if_pos c2]
    rw [ef]
    exact thrown_case h (fun s => fs_X5_addPiece s p z w t) (by show fs_X5_addPiece sg p z w t = _; unfold fs_X5_addPiece; rw [if_pos (nn_and c1), if_neg (or_nn c2)]) wc_addPiece_IAE
  by_cases c3 : w < 1 ∨ 99 < w
  · have ef : fe_X4_addPiece sg p z w t = some eIAE := by unfold fe_X4_addPiece; rw [if_neg c1, if_neg c2, if_pos c3]
    rw [ef]
    exact thrown_case h (fun s => fs_X5_addPiece s p z w t) (by show fs_X5_addPiece sg p z w t = _; unfold fs_X5_addPiece; rw [if_pos (nn_and c1), if_pos (nn_and c2), if_neg (or_nn c3)]) wc_addPiece_IAE
  by_cases c4 : t < 0 ∨ 2 < t
  · have ef : fe_X4_addPiece sg p z w t = some eIAE := by unfold fe_X4_addPiece; rw [if_neg c1, if_neg c2, if_neg c3, if_pos c4]
    rw [ef]
    exact thrown_case h (fun s => fs_X5_addPiece s p z w t) (by show fs_X5_addPiece sg p z w t = _; unfold fs_X5_addPiece; rw [if_pos (nn_and c1), if_pos (nn_and c2), if_pos (nn_and c3), if_neg (or_nn c4)]) wc_addPiece_IAE
  rcases cnt_at h.ms.1.2.1 (by decide) with ⟨cl, n, hn, en⟩ | cl
  · have ixn : ix (sg 41 3) = n := by rw [en, nI_ix (by omega)]
    have n8 : ¬ sg 41 3 = 6 := fun w => by rw [w] at cl; exact Int32.lt_irrefl cl
    have ef : fe_X4_addPiece sg p z w t = none := by unfold fe_X4_addPiece; rw [if_neg c1, if_neg c2, if_neg c3, if_neg c4, e7, if_pos (show sg 41 3 < 6 from cl)]
    rw [ef]
    show DI sg ∧ MI (fs_X4_addPiece sg p z w t) ∧ fr_X5_thrown (fs_X5_addPiece (fs_X4_addPiece sg p z w t) p z w t) = 0 ∧ (none = none → fr_X4_addPiece sg p z w t = fr_X5_addPiece (fs_X4_addPiece sg p z w t) p z w t) ∧ Rel (fs_X5_addPiece (fs_X4_addPiece sg p z w t) p z w t)
    have hi : ∀ c k, 41 ≤ c → fs_X4_addPiece sg p z w t c k = sg c k := fun c k hc => by
      unfold fs_X4_addPiece
      rw [e7, ixn]
      repeat rw [up_ne _ _ (by omega)]
    have es : fs_X5_addPiece (fs_X4_addPiece sg p z w t) p z w t = up (up (up (up (up (up (fs_X4_addPiece sg p z w t) 41 34 0) 44 n p) 45 n z) 46 n w) 47 n t) 41 3 (nI (n + 1)) := by
      unfold fs_X5_addPiece
      rw [if_pos (nn_and c1), if_pos (nn_and c2), if_pos (nn_and c3), if_pos (nn_and c4), hi 41 3 (by omega), if_neg n8, ixn, en, show nI n + 1 = nI (n + 1) from nI_add1 n]
    refine ⟨h.di, (h.hi hi).mi, ?_, fun _ => ?_, L, ?_⟩
    · rw [es]; unfold fr_X5_thrown
      repeat rw [up_ne _ _ (by omega)]
      rw [up_at]
    · unfold fr_X4_addPiece fr_X5_addPiece
      rw [if_pos (nn_and c1), if_pos (nn_and c2), if_pos (nn_and c3), if_pos (nn_and c4), hi 41 3 (by omega), if_neg n8, i32_back, e7]
    · rw [es]
      refine rl_addPiece h hn en (p := p) (z := z) (w := w) (t := t) ((bnd_of 10 2000 rfl rfl c1).le (by decide) (by decide)) (bnd_of 5 240 rfl rfl c2) (bnd_of 1 99 rfl rfl c3) (in_lit (n := 2) rfl (nn_and c4)) (fun c k hc => ?_) ?_ ?_ ?_ ?_ ?_ ?_ ?_ ?_ ?_ ?_
      · repeat rw [up_ne _ _ (by omega)]
        unfold fs_X4_addPiece
        rw [e7, ixn]
        repeat rw [up_ne _ _ (by omega)]
      · repeat rw [up_ne _ _ (by omega)]
        unfold fs_X4_addPiece
        rw [e7, ixn]
        repeat rw [up_ne _ _ (by omega)]
        rw [up_at]
      · repeat rw [up_ne _ _ (by omega)]
        unfold fs_X4_addPiece
        rw [e7, ixn]
        repeat rw [up_ne _ _ (by omega)]
        rw [up_at]
      · repeat rw [up_ne _ _ (by omega)]
        unfold fs_X4_addPiece
        rw [e7, ixn]
        repeat rw [up_ne _ _ (by omega)]
        rw [up_at]
      · repeat rw [up_ne _ _ (by omega)]
        unfold fs_X4_addPiece
        rw [e7, ixn]
        repeat rw [up_ne _ _ (by omega)]
        rw [up_at]
      · repeat rw [up_ne _ _ (by omega)]
        unfold fs_X4_addPiece
        rw [e7, ixn]
        rw [up_at, en]; exact nI_add1 n
      · repeat rw [up_ne _ _ (by omega)]
        rw [up_at]
      · repeat rw [up_ne _ _ (by omega)]
        rw [up_at]
      · repeat rw [up_ne _ _ (by omega)]
        rw [up_at]
      · repeat rw [up_ne _ _ (by omega)]
        rw [up_at]
      · rw [up_at]
  · have ef : fe_X4_addPiece sg p z w t = some eISE := by unfold fe_X4_addPiece; rw [if_neg c1, if_neg c2, if_neg c3, if_neg c4, e7, cl, if_neg (show ¬ nI 6 < 6 from Int32.lt_irrefl)]
    rw [ef]
    exact thrown_case h (fun s => fs_X5_addPiece s p z w t) (by show fs_X5_addPiece sg p z w t = _; unfold fs_X5_addPiece; rw [if_pos (nn_and c1), if_pos (nn_and c2), if_pos (nn_and c3), if_pos (nn_and c4), if_pos (show sg 41 3 = 6 from cl)]) wc_addPiece_ISE
