theorem rl_setRates {sg v : Sg} {L : Rg} (h : Rl sg sg L) {i : Nat} (hi : i < 4) {z w t : Int32} (hz : bnd z 0 99) (hw : bnd w 0 1440) (ht : bnd t 0 99) (ev : ∀ c k, ¬ ((c = 37 + i ∧ 5 ≤ k ∧ k ≤ 7) ∨ (c = 59 ∧ k = i) ∨ (c = 60 ∧ k = i) ∨ (c = 61 ∧ k = i) ∨ (c = 41 ∧ k = 34)) → v c k = sg c k) (v1 : v (37 + i) 5 = z) (v2 : v (37 + i) 6 = w) (v3 : v (37 + i) 7 = t) (w1 : v 59 i = z) (w2 : v 60 i = w) (w3 : v 61 i = t) : Rl v v L := by
  have ld : ∀ q, q < 6 → ∀ y, fr_X5_load v (nI q) y = fr_X5_load sg (nI q) y := fun q hq y => load_cg hq y (ev 44 q (by omega)) (ev 48 q (by omega)) (ev 49 q (by omega)) (ev 50 q (by omega)) (ev 51 q (by omega)) (ev 52 q (by omega)) (fun _ => ⟨ev 42 _ (by omega), ev 42 _ (by omega)⟩)
  have my : ∀ x, True → fr_X5_may v x = fr_X5_may sg x := fun x hx => by
    unfold fr_X5_may
    rw [ev 41 23 (by omega), ev 43 (ix x) (by omega), ev 55 (ix (sg 41 23)) (by omega)]
  have sm : ∀ q, has L q → Sm sg v q := fun q hq => by
    obtain ⟨f1, f2, f3, f4⟩ := h.ok.fx h.ms q hq
    exact ⟨⟨ev 45 q (by omega), ev 46 q (by omega), ev 47 q (by omega), ev 48 q (by omega), ev 49 q (by omega), ev 50 q (by omega), ev 53 q (by omega)⟩, ld q f3, ev 54 _ (by omega), my _ trivial, my _ trivial⟩
  have tm : Tm sg v := ⟨ev 41 23 (by omega), ev 56 _ (by omega), ev 57 _ (by omega), ev 58 _ (by omega)⟩
  refine Rl.of ?_ ⟨⟨?_, ?_, ?_⟩, ?_, ?_, ?_⟩ ?_ ⟨⟨?_, ?_, ?_, ?_⟩, ?_, ?_, ?_, ?_⟩ ⟨?_, ?_, ?_, ?_, ?_⟩ ?_ ?_ ?_ ?_
  · exact h.di.r.cong fun r hr => by
      unfold isR at hr
      exact ⟨ev r 5 (by omega), fun k => ev (r + 1) k (by omega)⟩
  · exact by rw [ev 41 0 (by omega)]; exact h.ms.1.1
  · exact by rw [ev 41 3 (by omega)]; exact h.ms.1.2.1
  · exact by rw [ev 41 15 (by omega)]; exact h.ms.1.2.2
  · exact by rw [ev 41 23 (by omega)]; exact h.ms.2.1
  · exact fun q hq c => by
      rw [ev 48 q (by omega)] at c
      unfold FxOk
      rw [ev 49 q (by omega), ev 50 q (by omega), ev 42 (ix (sg 49 q)) (by omega), ev 42 (ix (sg 50 q)) (by omega)]
      exact h.ms.2.2.1 q hq c
  · exact fun q hq => by rw [ev 47 q (by omega)]; exact h.ms.2.2.2 q hq
  · exact h.ac.of53 fun q hq => ev 53 q (by omega)
  · exact by rw [ev 0 7 (by omega), ev 41 0 (by omega)]; exact h.st.1.1
  · exact by rw [ev 0 8 (by omega), ev 41 3 (by omega)]; exact h.st.1.2.1
  · exact by rw [ev 0 9 (by omega), ev 41 15 (by omega)]; exact h.st.1.2.2.1
  · exact by rw [ev 0 10 (by omega), ev 41 23 (by omega)]; exact h.st.1.2.2.2
  · exact fun i hi => by rw [ev (23 + i) 0 (by omega), ev (23 + i) 1 (by omega), ev 42 i (by omega), ev 43 i (by omega)]; exact h.st.2.1 i hi
  · exact fun q hq => by
      unfold Pcs
      rw [ev (31 + q) 0 (by omega), ev (31 + q) 1 (by omega), ev (31 + q) 2 (by omega), ev (31 + q) 3 (by omega), ev (31 + q) 4 (by omega), ev (31 + q) 5 (by omega), ev (31 + q) 6 (by omega), ev (31 + q) 7 (by omega), ev (31 + q) 8 (by omega), ev 44 q (by omega), ev 45 q (by omega), ev 46 q (by omega), ev 47 q (by omega), ev 53 q (by omega), ev 48 q (by omega), ev 49 q (by omega), ev 50 q (by omega), ld q hq, ld q hq]
      exact h.st.2.2.1 q hq
  · exact fun i hi => by rw [ev 4 i (by omega), ev 54 i (by omega)]; exact h.st.2.2.2.1 i hi
  · exact fun j hj => by
      by_cases e : j = i
      · subst e
        obtain ⟨a0, a1, a2, a3, a4, a5, a6, a7⟩ := h.st.2.2.2.2 j hj
        refine ⟨?_, ?_, ?_, ?_, ?_, v1.trans w1.symm, v2.trans w2.symm, v3.trans w3.symm⟩
        · rw [ev (37 + j) 0 (by omega)]; exact a0
        · rw [ev (37 + j) 1 (by omega), ev 55 j (by omega)]; exact a1
        · rw [ev (37 + j) 2 (by omega), ev 56 j (by omega)]; exact a2
        · rw [ev (37 + j) 3 (by omega), ev 57 j (by omega)]; exact a3
        · rw [ev (37 + j) 4 (by omega), ev 58 j (by omega)]; exact a4
      · unfold Twn
        rw [ev (37 + j) 0 (by omega), ev (37 + j) 1 (by omega), ev (37 + j) 2 (by omega), ev (37 + j) 3 (by omega), ev (37 + j) 4 (by omega), ev (37 + j) 5 (by omega), ev (37 + j) 6 (by omega), ev (37 + j) 7 (by omega), ev 55 j (by omega), ev 56 j (by omega), ev 57 j (by omega), ev 58 j (by omega), ev 59 j (by omega), ev 60 j (by omega), ev 61 j (by omega)]
        exact h.st.2.2.2.2 j hj
  · exact fun q hq => by
      unfold NbP LdOk
      rw [ev 44 q (by omega), ev 45 q (by omega), ev 46 q (by omega), ev 53 q (by omega), ev 48 q (by omega), ev 49 q (by omega), ev 50 q (by omega), ld q hq, ld q hq, ev 41 3 (by omega), ev 41 0 (by omega)]
      exact h.nb.1 q hq
  · exact fun i hi => by rw [ev 54 i (by omega)]; exact h.nb.2.1 i hi
  · exact fun j hj => by
      obtain ⟨a1, a2, a3⟩ := h.nb.2.2.1 j hj
      unfold NbT
      rw [ev 55 j (by omega), ev 56 j (by omega), ev 57 j (by omega), ev 58 j (by omega), ev 41 15 (by omega)]
      by_cases e : j = i
      · subst e
        rw [w1, w2, w3]
        exact ⟨a1, ⟨hz, hw, ht⟩, a3⟩
      · rw [ev 59 j (by omega), ev 60 j (by omega), ev 61 j (by omega)]
        exact ⟨a1, a2, a3⟩
  · exact fun i hi => by rw [ev 42 i (by omega), ev 43 i (by omega)]; exact h.nb.2.2.2.1 i hi
  · exact by rw [ev 41 23 (by omega), ev 41 15 (by omega)]; exact h.nb.2.2.2.2
  · exact (h.rp.cong fun c k h1 h2 => ev c k (by omega)).cg sm
  · exact h.rt.cong (ev 41 24 (by omega)) fun c k h1 h2 h3 => ev c k (by omega)
  · exact h.ok.cg tm (by rw [ev 41 3 (by omega)]; exact Nat.le_refl _) sm
  · exact fun q hq => by rw [ev (31 + q) 5 (by omega), ev 48 q (by omega), ev 41 3 (by omega)]; exact h.rn q hq
theorem wc_setRates_NSE : wC wf_setRates (some eNSE) = 1 := by decide
theorem wc_setRates_IAE : wC wf_setRates (some eIAE) = 2 := by decide
theorem st_setRates : St_setRates Rel := fun sg p z w t ⟨L, h⟩ => by
  have e9 : sg 0 9 = sg 41 15 := h.st.1.2.2.1
  by_cases c0 : p < 0 ∨ sg 41 15 - 1 < p
  · have ef : fe_X4_setRates sg p z w t = some eNSE := by unfold fe_X4_setRates fe_X4_checkTown; simp only [e9, if_pos c0]
    rw [ef]
    exact thrown_case h (fun s => fs_X5_setRates s p z w t) (by show fs_X5_setRates sg p z w t = _; unfold fs_X5_setRates; rw [if_pos (chk_iff.mpr c0)]) wc_setRates_NSE
  by_cases c1 : z < 0 ∨ 99 < z
  · have ef : fe_X4_setRates sg p z w t = some eIAE := by unfold fe_X4_setRates fe_X4_checkTown; simp only [e9, if_neg c0, if_pos c1]
    rw [ef]
    exact thrown_case h (fun s => fs_X5_setRates s p z w t) (by show fs_X5_setRates sg p z w t = _; unfold fs_X5_setRates; rw [if_neg (fun y => c0 (chk_iff.mp y)), if_neg (or_nn c1)]) wc_setRates_IAE
  by_cases c2 : w < 0 ∨ 1440 < w
  · have ef : fe_X4_setRates sg p z w t = some eIAE := by unfold fe_X4_setRates fe_X4_checkTown; simp only [e9, if_neg c0, if_neg c1, if_pos c2]
    rw [ef]
    exact thrown_case h (fun s => fs_X5_setRates s p z w t) (by show fs_X5_setRates sg p z w t = _; unfold fs_X5_setRates; rw [if_neg (fun y => c0 (chk_iff.mp y)), if_pos (nn_and c1), if_neg (or_nn c2)]) wc_setRates_IAE
  by_cases c3 : t < 0 ∨ 99 < t
  · have ef : fe_X4_setRates sg p z w t = some eIAE := by unfold fe_X4_setRates fe_X4_checkTown; simp only [e9, if_neg c0, if_neg c1, if_neg c2, if_pos c3]
    rw [ef]
    exact thrown_case h (fun s => fs_X5_setRates s p z w t) (by show fs_X5_setRates sg p z w t = _; unfold fs_X5_setRates; rw [if_neg (fun y => c0 (chk_iff.mp y)), if_pos (nn_and c1), if_pos (nn_and c2), if_neg (or_nn c3)]) wc_setRates_IAE
  obtain ⟨i, i1, i2, rfl⟩ := in_cnt h.ms.1.2.2 (by decide) c0
  have ixp : ix (nI i) = i := nI_ix (by omega)
  have ef : fe_X4_setRates sg (nI i) z w t = none := by unfold fe_X4_setRates fe_X4_checkTown; simp only [e9, if_neg c0, if_neg c1, if_neg c2, if_neg c3]
  rw [ef]
  show DI sg ∧ MI (fs_X4_setRates sg (nI i) z w t) ∧ fr_X5_thrown (fs_X5_setRates (fs_X4_setRates sg (nI i) z w t) (nI i) z w t) = 0 ∧ (none = none → fr_X4_setRates sg (nI i) z w t = fr_X5_setRates (fs_X4_setRates sg (nI i) z w t) (nI i) z w t) ∧ Rel (fs_X5_setRates (fs_X4_setRates sg (nI i) z w t) (nI i) z w t)
  have hi : ∀ c k, 41 ≤ c → fs_X4_setRates sg (nI i) z w t c k = sg c k := fun c k hc => by
    unfold fs_X4_setRates
    rw [ixp]
    repeat rw [up_ne _ _ (by omega)]
  have es : fs_X5_setRates (fs_X4_setRates sg (nI i) z w t) (nI i) z w t = up (up (up (up (fs_X4_setRates sg (nI i) z w t) 41 34 0) 59 i z) 60 i w) 61 i t := by
    unfold fs_X5_setRates
    rw [hi 41 15 (by omega), if_neg (fun y => c0 (chk_iff.mp y)), if_pos (nn_and c1), if_pos (nn_and c2), if_pos (nn_and c3), ixp]
  refine ⟨h.di, (h.hi hi).mi, ?_, fun _ => ?_, L, ?_⟩
  · rw [es]; unfold fr_X5_thrown
    repeat rw [up_ne _ _ (by omega)]
    rw [up_at]
  · unfold fr_X4_setRates fr_X5_setRates
    rw [hi 41 15 (by omega), if_neg (fun y => c0 (chk_iff.mp y)), if_pos (nn_and c1), if_pos (nn_and c2), if_pos (nn_and c3), ixp, hi 59 i (by omega)]
    exact (h.st.2.2.2.2 i i2).2.2.2.2.2.1
  · rw [es]
    refine rl_setRates h i2 (z := z) (w := w) (t := t) (bnd_of 0 99 rfl rfl c1) (bnd_of 0 1440 rfl rfl c2) (bnd_of 0 99 rfl rfl c3) (fun c k hc => ?_) ?_ ?_ ?_ ?_ ?_ ?_
    · repeat rw [up_ne _ _ (by omega)]
      unfold fs_X4_setRates
      rw [ixp]
      repeat rw [up_ne _ _ (by omega)]
    · repeat rw [up_ne _ _ (by omega)]
      unfold fs_X4_setRates
      rw [ixp]
      repeat rw [up_ne _ _ (by omega)]
      rw [up_at]
    · repeat rw [up_ne _ _ (by omega)]
      unfold fs_X4_setRates
      rw [ixp]
      repeat rw [up_ne _ _ (by omega)]
      rw [up_at]
    · repeat rw [up_ne _ _ (by omega)]
      unfold fs_X4_setRates
      rw [ixp]
      rw [up_at]
    · repeat rw [up_ne _ _ (by omega)]
      rw [up_at]
    · repeat rw [up_ne _ _ (by omega)]
      rw [up_at]
    · rw [up_at]
/-- a truck that a hung piece came with -/
theorem use_iff {s t : Sg} {L : Rg} {p : Int32} (hS : Stat s t) (h : RepS s t 5 L) : ∀ (n k : Nat), n + k ≤ 6 → (fl_X4_isInUse s p n k = true ↔ ∃ j, k ≤ j ∧ j < k + n ∧ t 47 j = p ∧ has L j)
  | 0, k, _ => ⟨fun y => absurd (show false = true from y) (by decide), fun ⟨j, h1, h2, _⟩ => by omega⟩
  | n + 1, k, hk => by
    have ih := use_iff (p := p) hS h n (k + 1) (by omega)
    have e3 : s (31 + k) 3 = t 47 k := (hS.2.2.1 k (by omega)).1.2.2.2.1
    have hm : (¬ s 5 6 >>> (nI k &&& 31) &&& 1 = 0) ↔ has L k := by rw [bit_is, h.2.2.1 k (by omega)]
    have tail : (∃ j, k + 1 ≤ j ∧ j < k + 1 + n ∧ t 47 j = p ∧ has L j) → ∃ j, k ≤ j ∧ j < k + (n + 1) ∧ t 47 j = p ∧ has L j := fun ⟨j, h1, h2, h3⟩ => ⟨j, by omega, by omega, h3⟩
    have back : ¬ (t 47 k = p ∧ has L k) → (∃ j, k ≤ j ∧ j < k + (n + 1) ∧ t 47 j = p ∧ has L j) → ∃ j, k + 1 ≤ j ∧ j < k + 1 + n ∧ t 47 j = p ∧ has L j := fun hne ⟨j, h1, h2, h3⟩ => ⟨j, by
      rcases Nat.lt_or_ge k j with z | z
      · omega
      · have : j = k := by omega
        rw [this] at h3; exact absurd h3 hne, by omega, h3⟩
    unfold fl_X4_isInUse
    rw [e3]
    by_cases c : t 47 k = p
    · rw [if_pos c]
      by_cases d : has L k
      · rw [if_pos (hm.mpr d)]
        exact ⟨fun _ => ⟨k, Nat.le_refl _, by omega, c, d⟩, fun _ => rfl⟩
      · rw [if_neg (fun y => d (hm.mp y)), ih]
        exact ⟨tail, back (fun y => d y.2)⟩
    · rw [if_neg c, ih]
      exact ⟨tail, back (fun y => c y.1)⟩
theorem busy_iff {t : Sg} {p : Int32} : ∀ (n k : Nat), (fl_X5_isBusy t p n k = true ↔ ∃ j, k ≤ j ∧ j < k + n ∧ t 47 (ix (t 62 j)) = p)
  | 0, k => ⟨fun y => absurd (show false = true from y) (by decide), fun ⟨j, h1, h2, _⟩ => by omega⟩
  | n + 1, k => by
    have ih := busy_iff (t := t) (p := p) n (k + 1)
    unfold fl_X5_isBusy
    by_cases c : t 47 (ix (t 62 k)) = p
    · rw [if_pos c]
      exact ⟨fun _ => ⟨k, Nat.le_refl _, by omega, c⟩, fun _ => rfl⟩
    · rw [if_neg c, ih]
      exact ⟨fun ⟨j, h1, h2, h3⟩ => ⟨j, by omega, by omega, h3⟩, fun ⟨j, h1, h2, h3⟩ => ⟨j, by
        rcases Nat.lt_or_ge k j with z | z
        · omega
        · have : j = k := by omega
          rw [this] at h3; exact absurd h3 c, by omega, h3⟩⟩
theorem rep_has {t : Sg} : ∀ {L : Rg}, RepR t L → ∀ x, x ∈ L → ∃ k, k < L.length ∧ t 62 k = nI x.1
  | [], _, x, hx => nomatch hx
  | y :: L, h, x, hx => by
    rcases List.mem_cons.mp hx with rfl | hx
    · exact ⟨L.length, Nat.lt_succ_self _, h.1.1⟩
    · obtain ⟨k, h1, h2⟩ := rep_has h.2 x hx
      exact ⟨k, Nat.lt_succ_of_lt h1, h2⟩
theorem busy_eq {s t : Sg} {L : Rg} {p : Int32} (h : Rl s t L) : (fl_X4_isInUse s p (ix (t 41 3)) 0 = true ↔ ∃ q, has L q ∧ t 47 q = p) ∧ (fl_X5_isBusy t p (ix (t 41 24)) 0 = true ↔ ∃ q, has L q ∧ t 47 q = p) := by
  have hc := h.ms.nc
  have hl : ix (t 41 24) = L.length := by rw [h.rt.1, nI_ix (by have := h.rt.2.1; omega)]
  rw [use_iff h.st h.rp _ 0 (by omega), busy_iff, hl]
  refine ⟨⟨fun ⟨j, h1, h2, h3, h4⟩ => ⟨j, h4, h3⟩, fun ⟨q, h1, h2⟩ => ?_⟩, ⟨fun ⟨j, h1, h2, h3⟩ => ?_, fun ⟨q, ⟨x, x1, x2⟩, h2⟩ => ?_⟩⟩
  · have := h.ok.fx h.ms q h1
    exact ⟨q, Nat.zero_le _, by omega, h2, h1⟩
  · obtain ⟨x, x1, x2⟩ := rep_at h.rt.2.2.1 j (by omega)
    rw [x2, nI_ix (by have := h.rt.2.2.2 x x1; omega)] at h3
    exact ⟨x.1, ⟨x, x1, rfl⟩, h3⟩
  · obtain ⟨k, k1, k2⟩ := rep_has h.rt.2.2.1 x x1
    exact ⟨k, Nat.zero_le _, by omega, by rw [k2, nI_ix (by have := h.rt.2.2.2 x x1; omega), x2]; exact h2⟩
theorem rl_setArrival {sg v : Sg} {L : Rg} (h : Rl sg sg L) {i : Nat} (hi : i < 3) {z : Int32} (hz : bnd z 0 1440) (hb : ∀ q, has L q → ix (sg 47 q) ≠ i) (ev : ∀ c k, ¬ ((c = 4 ∧ k = i) ∨ (c = 54 ∧ k = i) ∨ (c = 41 ∧ k = 34)) → v c k = sg c k) (v1 : v 4 i = z) (w1 : v 54 i = z) : Rl v v L := by
  have ld : ∀ q, q < 6 → ∀ y, fr_X5_load v (nI q) y = fr_X5_load sg (nI q) y := fun q hq y => load_cg hq y (ev 44 q (by omega)) (ev 48 q (by omega)) (ev 49 q (by omega)) (ev 50 q (by omega)) (ev 51 q (by omega)) (ev 52 q (by omega)) (fun _ => ⟨ev 42 _ (by omega), ev 42 _ (by omega)⟩)
  have my : ∀ x, True → fr_X5_may v x = fr_X5_may sg x := fun x hx => by
    unfold fr_X5_may
    rw [ev 41 23 (by omega), ev 43 (ix x) (by omega), ev 55 (ix (sg 41 23)) (by omega)]
  have sm : ∀ q, has L q → Sm sg v q := fun q hq => by
    obtain ⟨f1, f2, f3, f4⟩ := h.ok.fx h.ms q hq
    have g := hb q hq
    exact ⟨⟨ev 45 q (by omega), ev 46 q (by omega), ev 47 q (by omega), ev 48 q (by omega), ev 49 q (by omega), ev 50 q (by omega), ev 53 q (by omega)⟩, ld q f3, ev 54 _ (by omega), my _ trivial, my _ trivial⟩
  have tm : Tm sg v := ⟨ev 41 23 (by omega), ev 56 _ (by omega), ev 57 _ (by omega), ev 58 _ (by omega)⟩
  refine Rl.of ?_ ⟨⟨?_, ?_, ?_⟩, ?_, ?_, ?_⟩ ?_ ⟨⟨?_, ?_, ?_, ?_⟩, ?_, ?_, ?_, ?_⟩ ⟨?_, ?_, ?_, ?_, ?_⟩ ?_ ?_ ?_ ?_
  · exact h.di.r.cong fun r hr => by
      unfold isR at hr
      exact ⟨ev r 5 (by omega), fun k => ev (r + 1) k (by omega)⟩
  · exact by rw [ev 41 0 (by omega)]; exact h.ms.1.1
  · exact by rw [ev 41 3 (by omega)]; exact h.ms.1.2.1
  · exact by rw [ev 41 15 (by omega)]; exact h.ms.1.2.2
  · exact by rw [ev 41 23 (by omega)]; exact h.ms.2.1
  · exact fun q hq c => by
      rw [ev 48 q (by omega)] at c
      unfold FxOk
      rw [ev 49 q (by omega), ev 50 q (by omega), ev 42 (ix (sg 49 q)) (by omega), ev 42 (ix (sg 50 q)) (by omega)]
      exact h.ms.2.2.1 q hq c
  · exact fun q hq => by rw [ev 47 q (by omega)]; exact h.ms.2.2.2 q hq
  · exact h.ac.of53 fun q hq => ev 53 q (by omega)
  · exact by rw [ev 0 7 (by omega), ev 41 0 (by omega)]; exact h.st.1.1
  · exact by rw [ev 0 8 (by omega), ev 41 3 (by omega)]; exact h.st.1.2.1
  · exact by rw [ev 0 9 (by omega), ev 41 15 (by omega)]; exact h.st.1.2.2.1
  · exact by rw [ev 0 10 (by omega), ev 41 23 (by omega)]; exact h.st.1.2.2.2
  · exact fun i hi => by rw [ev (23 + i) 0 (by omega), ev (23 + i) 1 (by omega), ev 42 i (by omega), ev 43 i (by omega)]; exact h.st.2.1 i hi
  · exact fun q hq => by
      unfold Pcs
      rw [ev (31 + q) 0 (by omega), ev (31 + q) 1 (by omega), ev (31 + q) 2 (by omega), ev (31 + q) 3 (by omega), ev (31 + q) 4 (by omega), ev (31 + q) 5 (by omega), ev (31 + q) 6 (by omega), ev (31 + q) 7 (by omega), ev (31 + q) 8 (by omega), ev 44 q (by omega), ev 45 q (by omega), ev 46 q (by omega), ev 47 q (by omega), ev 53 q (by omega), ev 48 q (by omega), ev 49 q (by omega), ev 50 q (by omega), ld q hq, ld q hq]
      exact h.st.2.2.1 q hq
  · exact fun j hj => by
      by_cases e : j = i
      · rw [e]; exact v1.trans w1.symm
      · rw [ev 4 j (by omega), ev 54 j (by omega)]; exact h.st.2.2.2.1 j hj
  · exact fun i hi => by
      unfold Twn
      rw [ev (37 + i) 0 (by omega), ev (37 + i) 1 (by omega), ev (37 + i) 2 (by omega), ev (37 + i) 3 (by omega), ev (37 + i) 4 (by omega), ev (37 + i) 5 (by omega), ev (37 + i) 6 (by omega), ev (37 + i) 7 (by omega), ev 55 i (by omega), ev 56 i (by omega), ev 57 i (by omega), ev 58 i (by omega), ev 59 i (by omega), ev 60 i (by omega), ev 61 i (by omega)]
      exact h.st.2.2.2.2 i hi
  · exact fun q hq => by
      unfold NbP LdOk
      rw [ev 44 q (by omega), ev 45 q (by omega), ev 46 q (by omega), ev 53 q (by omega), ev 48 q (by omega), ev 49 q (by omega), ev 50 q (by omega), ld q hq, ld q hq, ev 41 3 (by omega), ev 41 0 (by omega)]
      exact h.nb.1 q hq
  · exact fun j hj => by
      by_cases e : j = i
      · rw [e, w1]; exact hz
      · rw [ev 54 j (by omega)]; exact h.nb.2.1 j hj
  · exact fun i hi => by
      unfold NbT
      rw [ev 55 i (by omega), ev 56 i (by omega), ev 57 i (by omega), ev 58 i (by omega), ev 59 i (by omega), ev 60 i (by omega), ev 61 i (by omega), ev 41 15 (by omega)]
      exact h.nb.2.2.1 i hi
  · exact fun i hi => by rw [ev 42 i (by omega), ev 43 i (by omega)]; exact h.nb.2.2.2.1 i hi
  · exact by rw [ev 41 23 (by omega), ev 41 15 (by omega)]; exact h.nb.2.2.2.2
  · exact (h.rp.cong fun c k h1 h2 => ev c k (by omega)).cg sm
  · exact h.rt.cong (ev 41 24 (by omega)) fun c k h1 h2 h3 => ev c k (by omega)
  · exact h.ok.cg tm (by rw [ev 41 3 (by omega)]; exact Nat.le_refl _) sm
  · exact fun q hq => by rw [ev (31 + q) 5 (by omega), ev 48 q (by omega), ev 41 3 (by omega)]; exact h.rn q hq
theorem wc_setArrival_IOB : wC wf_setArrival (some eIOB) = 1 := by decide
theorem wc_setArrival_IAE : wC wf_setArrival (some eIAE) = 2 := by decide
theorem wc_setArrival_ISE : wC wf_setArrival (some eISE) = 3 := by decide
theorem st_setArrival : St_setArrival Rel := fun sg p z ⟨L, h⟩ => by
  have e8 : sg 0 8 = sg 41 3 := h.st.1.2.1
  have hb := busy_eq (p := p) h
  by_cases c1 : p < 0 ∨ 2 < p
  · have ef : fe_X4_setArrival sg p z = some eIOB := by unfold fe_X4_setArrival; rw [if_pos c1]
    rw [ef]
    exact thrown_case h (fun s => fs_X5_setArrival s p z) (by show fs_X5_setArrival sg p z = _; unfold fs_X5_setArrival; rw [if_neg (or_nn c1)]) wc_setArrival_IOB
  by_cases c2 : z < 0 ∨ 1440 < z
  · have ef : fe_X4_setArrival sg p z = some eIAE := by unfold fe_X4_setArrival; rw [if_neg c1, if_pos c2]
    rw [ef]
    exact thrown_case h (fun s => fs_X5_setArrival s p z) (by show fs_X5_setArrival sg p z = _; unfold fs_X5_setArrival; rw [if_pos (nn_and c1), if_neg (or_nn c2)]) wc_setArrival_IAE
  by_cases c3 : ∃ q, has L q ∧ sg 47 q = p
  · have ef : fe_X4_setArrival sg p z = some eISE := by unfold fe_X4_setArrival; rw [if_neg c1, if_neg c2, e8, if_pos (hb.1.mpr c3)]
    rw [ef]
    exact thrown_case h (fun s => fs_X5_setArrival s p z) (by show fs_X5_setArrival sg p z = _; unfold fs_X5_setArrival; rw [if_pos (nn_and c1), if_pos (nn_and c2), if_pos (hb.2.mpr c3)]) wc_setArrival_ISE
  obtain ⟨i, i2, rfl⟩ := in_nat (in_lit (n := 2) rfl (nn_and c1)) (by decide)
  have ixp : ix (nI i) = i := nI_ix (by omega)
  have ef : fe_X4_setArrival sg (nI i) z = none := by unfold fe_X4_setArrival; rw [if_neg c1, if_neg c2, e8, if_neg (fun y => c3 (hb.1.mp y))]
  rw [ef]
  show DI sg ∧ MI (fs_X4_setArrival sg (nI i) z) ∧ fr_X5_thrown (fs_X5_setArrival (fs_X4_setArrival sg (nI i) z) (nI i) z) = 0 ∧ (none = none → fr_X4_setArrival sg (nI i) z = fr_X5_setArrival (fs_X4_setArrival sg (nI i) z) (nI i) z) ∧ Rel (fs_X5_setArrival (fs_X4_setArrival sg (nI i) z) (nI i) z)
  have hi : ∀ c k, 41 ≤ c → fs_X4_setArrival sg (nI i) z c k = sg c k := fun c k hc => by
    unfold fs_X4_setArrival
    rw [up_ne _ _ (by omega)]
  have bz : ¬ fl_X5_isBusy (fs_X4_setArrival sg (nI i) z) (nI i) (ix (fs_X4_setArrival sg (nI i) z 41 24)) 0 = true := fun y => by
    obtain ⟨j, j1, j2, j3⟩ := (busy_iff _ 0).mp y
    rw [hi 41 24 (by omega)] at j2
    rw [hi 62 j (by omega), hi 47 _ (by omega)] at j3
    exact c3 (hb.2.mp ((busy_iff _ 0).mpr ⟨j, j1, j2, j3⟩))
  have es : fs_X5_setArrival (fs_X4_setArrival sg (nI i) z) (nI i) z = up (up (fs_X4_setArrival sg (nI i) z) 41 34 0) 54 i z := by
    unfold fs_X5_setArrival
    rw [if_pos (nn_and c1), if_pos (nn_and c2), if_neg bz, ixp]
  refine ⟨h.di, (h.hi hi).mi, ?_, fun _ => ?_, L, ?_⟩
  · rw [es]; unfold fr_X5_thrown
    rw [up_ne _ _ (by omega), up_at]
  · unfold fr_X4_setArrival fr_X5_setArrival
    rw [if_pos (nn_and c1), if_pos (nn_and c2), if_neg bz, ixp, hi 54 i (by omega)]
    exact h.st.2.2.2.1 i i2
  · rw [es]
    refine rl_setArrival h i2 (z := z) (bnd_of 0 1440 rfl rfl c2) (fun q hq e => c3 ⟨q, hq, ?_⟩) (fun c k hc => ?_) ?_ ?_
    · have := h.ms.2.2.2 q (h.ok.fx h.ms q hq).2.2.1
      rw [← nI_in8 this (by decide), e]
    · rw [up_ne _ _ (by omega), up_ne _ _ (by omega)]
      unfold fs_X4_setArrival
      rw [ixp, up_ne _ _ (by omega)]
    · rw [up_ne _ _ (by omega), up_ne _ _ (by omega)]
      unfold fs_X4_setArrival
      rw [ixp, up_at]
    · rw [up_at]
