theorem rl_fix {sg v : Sg} {L : Rg} (h : Rl sg sg L) {i : Nat} (hi : i < 6) (hn : ¬ has L i) (hic : i < ix (sg 41 3)) {a b : Int32} (ev : ∀ c k, ¬ ((c = 31 + i ∧ 4 ≤ k ∧ k ≤ 7) ∨ (c = 48 ∧ k = i) ∨ (c = 49 ∧ k = i) ∨ (c = 50 ∧ k = i) ∨ (c = 51 ∧ k = i) ∨ (c = 52 ∧ k = i) ∨ (c = 41 ∧ k = 34)) → v c k = sg c k) (v1 : v (31 + i) 4 = a) (v2 : v (31 + i) 5 = b) (w1 : v 48 i = 1) (w2 : v 49 i = a) (w3 : v 50 i = b) (ha : vp_in a 8) (hb : vp_in b 8) (hab : a ≠ b) (ia : ix a < ix (sg 41 0)) (ib : ix b < ix (sg 41 0)) (hd : ¬ sg 42 (ix b) - sg 42 (ix a) = 0) (v3 : v (31 + i) 6 = fr_X5_load v (nI i) a) (v4 : v (31 + i) 7 = fr_X5_load v (nI i) b) (la : bnd (fr_X5_load v (nI i) a) 0 4000) (lb : bnd (fr_X5_load v (nI i) b) 0 4000) : Rl v v L := by
  have ne : ∀ q, has L q → q ≠ i := fun q hq e => hn (e ▸ hq)
  have ld : ∀ q, q < 6 → q ≠ i → ∀ y, fr_X5_load v (nI q) y = fr_X5_load sg (nI q) y := fun q hq he y => load_cg hq y (ev 44 q (by omega)) (ev 48 q (by omega)) (ev 49 q (by omega)) (ev 50 q (by omega)) (ev 51 q (by omega)) (ev 52 q (by omega)) (fun _ => ⟨ev 42 _ (by omega), ev 42 _ (by omega)⟩)
  have my : ∀ x, True → fr_X5_may v x = fr_X5_may sg x := fun x hx => by
    unfold fr_X5_may
    rw [ev 41 23 (by omega), ev 43 (ix x) (by omega), ev 55 (ix (sg 41 23)) (by omega)]
  have sm : ∀ q, has L q → Sm sg v q := fun q hq => by
    obtain ⟨f1, f2, f3, f4⟩ := h.ok.fx h.ms q hq
    have g := ne q hq
    exact ⟨⟨ev 45 q (by omega), ev 46 q (by omega), ev 47 q (by omega), ev 48 q (by omega), ev 49 q (by omega), ev 50 q (by omega), ev 53 q (by omega)⟩, ld q f3 g, ev 54 _ (by omega), my _ trivial, my _ trivial⟩
  have tm : Tm sg v := ⟨ev 41 23 (by omega), ev 56 _ (by omega), ev 57 _ (by omega), ev 58 _ (by omega)⟩
  refine Rl.of ?_ ⟨⟨?_, ?_, ?_⟩, ?_, ?_, ?_⟩ ?_ ⟨⟨?_, ?_, ?_, ?_⟩, ?_, ?_, ?_, ?_⟩ ⟨?_, ?_, ?_, ?_, ?_⟩ ?_ ?_ ?_ ?_
  · exact h.di.r.cong fun r hr => by
      unfold isR at hr
      exact ⟨ev r 5 (by omega), fun k => ev (r + 1) k (by omega)⟩
  · exact by rw [ev 41 0 (by omega)]; exact h.ms.1.1
  · exact by rw [ev 41 3 (by omega)]; exact h.ms.1.2.1
  · exact by rw [ev 41 15 (by omega)]; exact h.ms.1.2.2
  · exact by rw [ev 41 23 (by omega)]; exact h.ms.2.1
  · exact fun q hq c => by
      by_cases e : q = i
      · subst e
        unfold FxOk
        rw [w2, w3, ev 42 (ix a) (by omega), ev 42 (ix b) (by omega)]
        exact ⟨ha, hb, hd⟩
      · rw [ev 48 q (by omega)] at c
        unfold FxOk
        rw [ev 49 q (by omega), ev 50 q (by omega), ev 42 (ix (sg 49 q)) (by omega), ev 42 (ix (sg 50 q)) (by omega)]
        exact h.ms.2.2.1 q hq c
  · exact fun q hq => by rw [ev 47 q (by omega)]; exact h.ms.2.2.2 q hq
  · exact h.ac.of53 fun q hq => ev 53 q (by omega)
  · exact by rw [ev 0 7 (by omega), ev 41 0 (by omega)]; exact h.st.1.1
  · exact by rw [ev 0 8 (by omega), ev 41 3 (by omega)]; exact h.st.1.2.1
  · exact by rw [ev 0 9 (by omega), ev 41 15 (by omega)]; exact h.st.1.2.2.1
  · exact by rw [ev 0 10 (by omega), ev 41 23 (by omega)]; exact h.st.1.2.2.2
  · exact fun i hi => by rw [ev (23 + i) 0 (by omega), ev (23 + i) 1 (by omega), ev 42 i (by omega), ev 43 i (by omega)]; exact h.st.2.1 i hi
  · exact fun q hq => by
      by_cases e : q = i
      · subst e
        obtain ⟨⟨a0, a1, a2, a3, a8, a9⟩, -, -⟩ := h.st.2.2.1 q hq
        refine ⟨⟨?_, ?_, ?_, ?_, ?_, ?_⟩, fun x => ?_, fun _ => ⟨v1.trans w2.symm, v2.trans w3.symm, by rw [w2, w3]; exact hab, by rw [w2]; exact v3, by rw [w3]; exact v4⟩⟩
        · rw [ev (31 + q) 0 (by omega), ev 44 q (by omega)]; exact a0
        · rw [ev (31 + q) 1 (by omega), ev 45 q (by omega)]; exact a1
        · rw [ev (31 + q) 2 (by omega), ev 46 q (by omega)]; exact a2
        · rw [ev (31 + q) 3 (by omega), ev 47 q (by omega)]; exact a3
        · rw [ev (31 + q) 8 (by omega), ev 53 q (by omega)]; exact a8
        · rw [ev 53 q (by omega)]; exact a9
        · rw [w1] at x; exact absurd x (by decide)
      · unfold Pcs
        rw [ev (31 + q) 0 (by omega), ev (31 + q) 1 (by omega), ev (31 + q) 2 (by omega), ev (31 + q) 3 (by omega), ev (31 + q) 4 (by omega), ev (31 + q) 5 (by omega), ev (31 + q) 6 (by omega), ev (31 + q) 7 (by omega), ev (31 + q) 8 (by omega), ev 44 q (by omega), ev 45 q (by omega), ev 46 q (by omega), ev 47 q (by omega), ev 53 q (by omega), ev 48 q (by omega), ev 49 q (by omega), ev 50 q (by omega), ld q hq e, ld q hq e]
        exact h.st.2.2.1 q hq
  · exact fun i hi => by rw [ev 4 i (by omega), ev 54 i (by omega)]; exact h.st.2.2.2.1 i hi
  · exact fun i hi => by
      unfold Twn
      rw [ev (37 + i) 0 (by omega), ev (37 + i) 1 (by omega), ev (37 + i) 2 (by omega), ev (37 + i) 3 (by omega), ev (37 + i) 4 (by omega), ev (37 + i) 5 (by omega), ev (37 + i) 6 (by omega), ev (37 + i) 7 (by omega), ev 55 i (by omega), ev 56 i (by omega), ev 57 i (by omega), ev 58 i (by omega), ev 59 i (by omega), ev 60 i (by omega), ev 61 i (by omega)]
      exact h.st.2.2.2.2 i hi
  · exact fun q hq => by
      obtain ⟨a1, a2, a3, a4⟩ := h.nb.1 q hq
      by_cases e : q = i
      · subst e
        unfold NbP LdOk
        rw [ev 44 q (by omega), ev 45 q (by omega), ev 46 q (by omega), ev 53 q (by omega), w2, w3, ev 41 3 (by omega), ev 41 0 (by omega)]
        exact ⟨a1, a2, a3, fun _ => ⟨⟨ia, ib⟩, la, lb⟩⟩
      · unfold NbP LdOk
        rw [ev 44 q (by omega), ev 45 q (by omega), ev 46 q (by omega), ev 53 q (by omega), ev 48 q (by omega), ev 49 q (by omega), ev 50 q (by omega), ld q hq e, ld q hq e, ev 41 3 (by omega), ev 41 0 (by omega)]
        exact ⟨a1, a2, a3, a4⟩
  · exact fun i hi => by rw [ev 54 i (by omega)]; exact h.nb.2.1 i hi
  · exact fun i hi => by
      unfold NbT
      rw [ev 55 i (by omega), ev 56 i (by omega), ev 57 i (by omega), ev 58 i (by omega), ev 59 i (by omega), ev 60 i (by omega), ev 61 i (by omega), ev 41 15 (by omega)]
      exact h.nb.2.2.1 i hi
  · exact fun i hi => by rw [ev 42 i (by omega), ev 43 i (by omega)]; exact h.nb.2.2.2.1 i hi
  · exact by rw [ev 41 23 (by omega), ev 41 15 (by omega)]; exact h.nb.2.2.2.2
  · exact (h.rp.cong fun c k h1 h2 => ev c k (by omega)).cg sm
  · exact h.rt.cong (ev 41 24 (by omega)) fun c k h1 h2 h3 => ev c k (by omega)
  · exact h.ok.cg tm (by rw [ev 41 3 (by omega)]; exact Nat.le_refl _) sm
  · exact fun q hq => by
      by_cases e : q = i
      · subst e
        rw [w1, ev 41 3 (by omega)]
        exact ⟨fun x => absurd x (by decide), fun _ => hic⟩
      · rw [ev (31 + q) 5 (by omega), ev 48 q (by omega), ev 41 3 (by omega)]; exact h.rn q hq
theorem div_b {x c d : Int32} (hx : bnd x 0 2000) (hc : bnd c 0 60) (hd : bnd d 1 60) (hcd : c.toInt ≤ d.toInt) : bnd (x * c / d) 0 2000 ∧ (x * c / d).toInt ≤ x.toInt := by
  obtain ⟨x1, x2⟩ := hx
  obtain ⟨c1, c2⟩ := hc
  obtain ⟨d1, d2⟩ := hd
  have m := mul_b x1 x2 c1 c2
  have dn : d ≠ -1 := fun z => by rw [z] at d1; exact absurd d1 (by decide)
  have e : (x * c / d).toInt = x.toInt * c.toInt / d.toInt := by
    rw [Int32.toInt_div_of_ne_right _ _ dn, mul_toInt2 2000 60 x1 x2 c1 c2 (by decide), Int.tdiv_eq_ediv_of_nonneg m.1]
  have k0 : 0 ≤ x.toInt * c.toInt / d.toInt := Int.ediv_nonneg m.1 (by omega)
  have k1 : x.toInt * c.toInt / d.toInt ≤ x.toInt := by
    refine Int.ediv_le_of_le_mul (by omega) ?_
    exact Int.mul_le_mul_of_nonneg_left hcd x1
  exact ⟨⟨by rw [e]; exact k0, by rw [e]; omega⟩, by rw [e]; exact k1⟩
theorem lop_b {x w : Int32} (hx : bnd x 0 2000) (hw : bnd w 0 60) : bnd ((x * (100 + w) + 99) / 100) 0 4000 := by
  obtain ⟨x1, x2⟩ := hx
  obtain ⟨w1, w2⟩ := hw
  have h100 : (100 : Int32).toInt = 100 := rfl
  have h99 : (99 : Int32).toInt = 99 := rfl
  have a : (100 + w).toInt = 100 + w.toInt := by rw [add_toInt2 (by omega) (by omega), h100]
  have m := mul_b (x := x.toInt) (y := (100 + w).toInt) (a := 2000) (b := 160) x1 x2 (by omega) (by omega)
  have e1 : (x * (100 + w)).toInt = x.toInt * (100 + w).toInt := mul_toInt2 2000 160 x1 x2 (by omega) (by omega) (by decide)
  have e2 : (x * (100 + w) + 99).toInt = x.toInt * (100 + w).toInt + 99 := by rw [add_toInt2 (by omega) (by omega), e1, h99]
  have e3 : ((x * (100 + w) + 99) / 100).toInt = (x.toInt * (100 + w).toInt + 99) / 100 := by
    rw [Int32.toInt_div_of_ne_right _ _ (by decide), e2, h100, Int.tdiv_eq_ediv_of_nonneg (by omega)]
  exact ⟨by rw [e3]; omega, by rw [e3]; omega⟩
theorem wc_fix_NSE : wC wf_fix (some eNSE) = 1 := by decide
theorem wc_fix_IOB : wC wf_fix (some eIOB) = 2 := by decide
theorem wc_fix_IAE : wC wf_fix (some eIAE) = 3 := by decide
theorem wc_fix_ISE : wC wf_fix (some eISE) = 4 := by decide
theorem off_has {s t : Sg} {L : Rg} (h : Rl s t L) {p : Nat} (hp : p < 6) : ((¬ s 5 6 >>> (nI p &&& 31) &&& 1 = 0) ↔ has L p) ∧ (fl_X5_inRig t (nI p) (ix (t 41 24)) 0 < 0 ↔ ¬ has L p) := by
  refine ⟨?_, rep_off h.rt hp⟩
  rw [bit_is, h.rp.2.2.1 p hp]
theorem dist_pos {x y : Int32} (hx : bnd x 0 60) (hy : bnd y 0 60) : 0 < y - x ↔ x < y := by
  obtain ⟨x1, x2⟩ := hx
  obtain ⟨y1, y2⟩ := hy
  rw [Int32.lt_iff_toInt_lt, Int32.lt_iff_toInt_lt, sub_toInt2 (by omega) (by omega), show (0 : Int32).toInt = 0 from rfl]
  omega
theorem st_fix : St_fix Rel := fun sg p a b z w ⟨L, h⟩ => by
  have e8 : sg 0 8 = sg 41 3 := h.st.1.2.1
  have e7 : sg 0 7 = sg 41 0 := h.st.1.1
  by_cases c1 : p < 0 ∨ sg 41 3 - 1 < p
  · have ef : fe_X4_fix sg p a b z w = some eNSE := by unfold fe_X4_fix fe_X4_checkPiece fe_X4_checkPoint fe_X4_checkNotHung; simp only [e8, if_pos c1]
    rw [ef]
    exact thrown_case h (fun s => fs_X5_fix s p a b z w) (by show fs_X5_fix sg p a b z w = _; unfold fs_X5_fix; rw [if_pos (chk_iff.mpr c1)]) wc_fix_NSE
  by_cases c2 : a < 0 ∨ sg 41 0 - 1 < a
  · have ef : fe_X4_fix sg p a b z w = some eIOB := by unfold fe_X4_fix fe_X4_checkPiece fe_X4_checkPoint fe_X4_checkNotHung; simp only [e8, e7, if_neg c1, if_pos c2]
    rw [ef]
    exact thrown_case h (fun s => fs_X5_fix s p a b z w) (by show fs_X5_fix sg p a b z w = _; unfold fs_X5_fix; rw [if_neg (fun y => c1 (chk_iff.mp y)), if_pos (chk_iff.mpr c2)]) wc_fix_IOB
  by_cases c3 : b < 0 ∨ sg 41 0 - 1 < b
  · have ef : fe_X4_fix sg p a b z w = some eIOB := by unfold fe_X4_fix fe_X4_checkPiece fe_X4_checkPoint fe_X4_checkNotHung; simp only [e8, e7, if_neg c1, if_neg c2, if_pos c3]
    rw [ef]
    exact thrown_case h (fun s => fs_X5_fix s p a b z w) (by show fs_X5_fix sg p a b z w = _; unfold fs_X5_fix; rw [if_neg (fun y => c1 (chk_iff.mp y)), if_neg (fun y => c2 (chk_iff.mp y)), if_pos (chk_iff.mpr c3)]) wc_fix_IOB
  obtain ⟨i, i1, i2, rfl⟩ := in_cnt h.ms.1.2.1 (by decide) c1
  obtain ⟨j, j1, j2, rfl⟩ := in_cnt h.ms.1.1 (by decide) c2
  obtain ⟨m, m1, m2, rfl⟩ := in_cnt h.ms.1.1 (by decide) c3
  have ixi : ix (nI i) = i := nI_ix (by omega)
  have ixj : ix (nI j) = j := nI_ix (by omega)
  have ixm : ix (nI m) = m := nI_ix (by omega)
  have pj : sg (23 + j) 0 = sg 42 j := (h.st.2.1 j j2).1
  have pm : sg (23 + m) 0 = sg 42 m := (h.st.2.1 m m2).1
  have bj := (h.nb.2.2.2.1 j j2).1
  have bm := (h.nb.2.2.2.1 m m2).1
  have dp := dist_pos bj bm
  have oh := off_has h i2
  by_cases c4 : sg 42 j < sg 42 m ∧ (¬ z < sg 42 j ∧ ¬ sg 42 m < z) ∧ (¬ w < 0 ∧ ¬ 60 < w)
  case neg =>
    have ef : fe_X4_fix sg (nI i) (nI j) (nI m) z w = some eIAE := by
      unfold fe_X4_fix fe_X4_checkPiece fe_X4_checkPoint fe_X4_checkNotHung
      simp only [e8, e7, if_neg c1, if_neg c2, if_neg c3, ixj, ixm, pj, pm]
      by_cases d1 : sg 42 j < sg 42 m
      · rw [if_pos (dp.mpr d1)]
        by_cases d2 : z < sg 42 j ∨ sg 42 m < z
        · rw [if_pos d2]
        · rw [if_neg d2]
          by_cases d3 : w < 0 ∨ 60 < w
          · rw [if_pos d3]
          · exact absurd ⟨d1, nn_and d2, nn_and d3⟩ c4
      · rw [if_neg (fun y => d1 (dp.mp y))]
    rw [ef]
    exact thrown_case h (fun s => fs_X5_fix s (nI i) (nI j) (nI m) z w) (by show fs_X5_fix sg (nI i) (nI j) (nI m) z w = _; unfold fs_X5_fix; rw [if_neg (fun y => c1 (chk_iff.mp y)), if_neg (fun y => c2 (chk_iff.mp y)), if_neg (fun y => c3 (chk_iff.mp y)), ixj, ixm, if_neg c4]) wc_fix_IAE
  obtain ⟨d1, d2, d3⟩ := c4
  have k2 : ¬ (z < sg 42 j ∨ sg 42 m < z) := fun y => y.elim d2.1 d2.2
  have k3 : ¬ (w < 0 ∨ 60 < w) := fun y => y.elim d3.1 d3.2
  by_cases c5 : has L i
  · have ef : fe_X4_fix sg (nI i) (nI j) (nI m) z w = some eISE := by
      unfold fe_X4_fix fe_X4_checkPiece fe_X4_checkPoint fe_X4_checkNotHung
      simp only [e8, e7, if_neg c1, if_neg c2, if_neg c3, ixj, ixm, pj, pm, if_pos (dp.mpr d1), if_neg k2, if_neg k3, if_pos (oh.1.mpr c5)]
    rw [ef]
    exact thrown_case h (fun s => fs_X5_fix s (nI i) (nI j) (nI m) z w) (by show fs_X5_fix sg (nI i) (nI j) (nI m) z w = _; unfold fs_X5_fix; rw [if_neg (fun y => c1 (chk_iff.mp y)), if_neg (fun y => c2 (chk_iff.mp y)), if_neg (fun y => c3 (chk_iff.mp y)), ixj, ixm, if_pos ⟨d1, d2, d3⟩, if_neg (fun y => oh.2.mp y c5)]) wc_fix_ISE
  have ef : fe_X4_fix sg (nI i) (nI j) (nI m) z w = none := by
    unfold fe_X4_fix fe_X4_checkPiece fe_X4_checkPoint fe_X4_checkNotHung
    simp only [e8, e7, if_neg c1, if_neg c2, if_neg c3, ixj, ixm, pj, pm, if_pos (dp.mpr d1), if_neg k2, if_neg k3, if_neg (fun y => c5 (oh.1.mp y))]
  rw [ef]
  show DI sg ∧ MI (fs_X4_fix sg (nI i) (nI j) (nI m) z w) ∧ fr_X5_thrown (fs_X5_fix (fs_X4_fix sg (nI i) (nI j) (nI m) z w) (nI i) (nI j) (nI m) z w) = 0 ∧ (none = none → fr_X4_fix sg (nI i) (nI j) (nI m) z w = fr_X5_fix (fs_X4_fix sg (nI i) (nI j) (nI m) z w) (nI i) (nI j) (nI m) z w) ∧ Rel (fs_X5_fix (fs_X4_fix sg (nI i) (nI j) (nI m) z w) (nI i) (nI j) (nI m) z w)
  have ewt : sg (31 + i) 0 = sg 44 i := (h.st.2.2.1 i i2).1.1
  have es4 : fs_X4_fix sg (nI i) (nI j) (nI m) z w = up (up (up (up sg (31 + i) 4 (nI j)) (31 + i) 5 (nI m)) (31 + i) 6 (((sg 44 i - (sg 44 i * (z - sg 42 j)) / (sg 42 m - sg 42 j)) * (100 + w) + 99) / 100)) (31 + i) 7 ((((sg 44 i * (z - sg 42 j)) / (sg 42 m - sg 42 j)) * (100 + w) + 99) / 100) := by
    unfold fs_X4_fix fr_X4_loadOfPart
    rw [ixi, ixj, ixm, pj, pm, ewt]
  have hi : ∀ c k, 41 ≤ c → fs_X4_fix sg (nI i) (nI j) (nI m) z w c k = sg c k := fun c k hc => by
    rw [es4]
    repeat rw [up_ne _ _ (by omega)]
  have rg : fl_X5_inRig (fs_X4_fix sg (nI i) (nI j) (nI m) z w) (nI i) (ix (fs_X4_fix sg (nI i) (nI j) (nI m) z w 41 24)) 0 < 0 := (off_has (h.hi hi) i2).2.mpr c5
  have c4 : sg 42 j < sg 42 m ∧ (¬ z < sg 42 j ∧ ¬ sg 42 m < z) ∧ (¬ w < 0 ∧ ¬ 60 < w) := ⟨d1, d2, d3⟩
  have es : fs_X5_fix (fs_X4_fix sg (nI i) (nI j) (nI m) z w) (nI i) (nI j) (nI m) z w = up (up (up (up (up (up (fs_X4_fix sg (nI i) (nI j) (nI m) z w) 41 34 0) 48 i 1) 49 i (nI j)) 50 i (nI m)) 51 i z) 52 i w := by
    unfold fs_X5_fix
    rw [hi 41 3 (by omega), hi 41 0 (by omega), if_neg (fun y => c1 (chk_iff.mp y)), if_neg (fun y => c2 (chk_iff.mp y)), if_neg (fun y => c3 (chk_iff.mp y)), ixj, ixm, hi 42 j (by omega), hi 42 m (by omega), if_pos c4, if_pos rg, ixi]
  have g48 : fs_X5_fix (fs_X4_fix sg (nI i) (nI j) (nI m) z w) (nI i) (nI j) (nI m) z w 48 i = 1 := by
    rw [es]; repeat rw [up_ne _ _ (by omega)]
    rw [up_at]
  have g49 : fs_X5_fix (fs_X4_fix sg (nI i) (nI j) (nI m) z w) (nI i) (nI j) (nI m) z w 49 i = nI j := by
    rw [es]; repeat rw [up_ne _ _ (by omega)]
    rw [up_at]
  have g50 : fs_X5_fix (fs_X4_fix sg (nI i) (nI j) (nI m) z w) (nI i) (nI j) (nI m) z w 50 i = nI m := by
    rw [es]; repeat rw [up_ne _ _ (by omega)]
    rw [up_at]
  have g51 : fs_X5_fix (fs_X4_fix sg (nI i) (nI j) (nI m) z w) (nI i) (nI j) (nI m) z w 51 i = z := by
    rw [es, up_ne _ _ (by omega), up_at]
  have g52 : fs_X5_fix (fs_X4_fix sg (nI i) (nI j) (nI m) z w) (nI i) (nI j) (nI m) z w 52 i = w := by
    rw [es, up_at]
  have ev : ∀ c k, ¬ ((c = 31 + i ∧ 4 ≤ k ∧ k ≤ 7) ∨ (c = 48 ∧ k = i) ∨ (c = 49 ∧ k = i) ∨ (c = 50 ∧ k = i) ∨ (c = 51 ∧ k = i) ∨ (c = 52 ∧ k = i) ∨ (c = 41 ∧ k = 34)) → fs_X5_fix (fs_X4_fix sg (nI i) (nI j) (nI m) z w) (nI i) (nI j) (nI m) z w c k = sg c k := fun c k hc => by
    rw [es]
    repeat rw [up_ne _ _ (by omega)]
    rw [es4]
    repeat rw [up_ne _ _ (by omega)]
  have lo : ∀ k, fs_X5_fix (fs_X4_fix sg (nI i) (nI j) (nI m) z w) (nI i) (nI j) (nI m) z w (31 + i) k = fs_X4_fix sg (nI i) (nI j) (nI m) z w (31 + i) k := fun k => by
    rw [es]
    repeat rw [up_ne _ _ (by omega)]
  have hjm : nI j ≠ nI m := fun y => by
    have : j = m := (nI_eq_iff (by omega) (by omega)).mp y
    rw [this] at d1
    exact Int32.lt_irrefl d1
  have prt : fr_X5_partOfRight (fs_X5_fix (fs_X4_fix sg (nI i) (nI j) (nI m) z w) (nI i) (nI j) (nI m) z w) (nI i) = sg 44 i * (z - sg 42 j) / (sg 42 m - sg 42 j) := by
    unfold fr_X5_partOfRight
    rw [ixi, g49, g50, g51, ixj, ixm, ev 44 i (by omega), ev 42 j (by omega), ev 42 m (by omega)]
  have la : fr_X5_load (fs_X5_fix (fs_X4_fix sg (nI i) (nI j) (nI m) z w) (nI i) (nI j) (nI m) z w) (nI i) (nI j) = ((sg 44 i - (sg 44 i * (z - sg 42 j)) / (sg 42 m - sg 42 j)) * (100 + w) + 99) / 100 := by
    unfold fr_X5_load
    rw [prt, ixi, g48, g49, g50, g52, if_neg (by decide), if_pos rfl, if_neg hjm, ev 44 i (by omega)]
  have lb : fr_X5_load (fs_X5_fix (fs_X4_fix sg (nI i) (nI j) (nI m) z w) (nI i) (nI j) (nI m) z w) (nI i) (nI m) = ((sg 44 i * (z - sg 42 j) / (sg 42 m - sg 42 j)) * (100 + w) + 99) / 100 := by
    unfold fr_X5_load
    rw [prt, ixi, g48, g49, g50, g52, if_neg (by decide), if_neg (fun y => hjm y.symm), if_pos rfl, if_pos rfl]
  have bw := (h.nb.1 i i2).1.2.2
  have z1 := d2.1
  have z2 := d2.2
  have z0 := d1
  rw [Int32.lt_iff_toInt_lt] at z0 z1 z2
  have bj1 := bj.1
  have bj2 := bj.2
  have bm1 := bm.1
  have bm2 := bm.2
  have ez : (z - sg 42 j).toInt = z.toInt - (sg 42 j).toInt := sub_toInt2 (by omega) (by omega)
  have ed : (sg 42 m - sg 42 j).toInt = (sg 42 m).toInt - (sg 42 j).toInt := sub_toInt2 (by omega) (by omega)
  have pb := div_b (x := sg 44 i) (c := z - sg 42 j) (d := sg 42 m - sg 42 j) bw ⟨by omega, by omega⟩ ⟨by omega, by omega⟩ (by omega)
  have hw : bnd w 0 60 := bnd_of 0 60 rfl rfl k3
  have q1 := pb.1.1
  have q2 := pb.1.2
  have q3 := pb.2
  have q4 := bw.1
  have q5 := bw.2
  have er : (sg 44 i - sg 44 i * (z - sg 42 j) / (sg 42 m - sg 42 j)).toInt = (sg 44 i).toInt - (sg 44 i * (z - sg 42 j) / (sg 42 m - sg 42 j)).toInt := sub_toInt2 (by omega) (by omega)
  refine ⟨h.di, (h.hi hi).mi, ?_, fun _ => ?_, L, ?_⟩
  · rw [es]; unfold fr_X5_thrown
    repeat rw [up_ne _ _ (by omega)]
    rw [up_at]
  · have er5 : fr_X5_fix (fs_X4_fix sg (nI i) (nI j) (nI m) z w) (nI i) (nI j) (nI m) z w = fr_X5_partOfRight (fs_X5_fix (fs_X4_fix sg (nI i) (nI j) (nI m) z w) (nI i) (nI j) (nI m) z w) (nI i) := by
      rw [es]
      unfold fr_X5_fix
      rw [hi 41 3 (by omega), hi 41 0 (by omega), if_neg (fun y => c1 (chk_iff.mp y)), if_neg (fun y => c2 (chk_iff.mp y)), if_neg (fun y => c3 (chk_iff.mp y)), ixj, ixm, hi 42 j (by omega), hi 42 m (by omega), if_pos c4, if_pos rg, ixi]
    rw [er5, prt]
    unfold fr_X4_fix
    rw [ixi, ixj, ixm, pj, pm, ewt]
  · refine rl_fix h i2 c5 i1 (a := nI j) (b := nI m) ev ?_ ?_ g48 g49 g50 (in_nI j2 (by decide)) (in_nI m2 (by decide)) hjm (by rw [ixj]; exact j1) (by rw [ixm]; exact m1) ?_ ?_ ?_ ?_ ?_
    · rw [lo, es4]; repeat rw [up_ne _ _ (by omega)]
      rw [up_at]
    · rw [lo, es4]; repeat rw [up_ne _ _ (by omega)]
      rw [up_at]
    · rw [ixj, ixm]
      intro y
      have := congrArg Int32.toInt y
      rw [ed, show (0 : Int32).toInt = 0 from rfl] at this
      omega
    · rw [la, lo, es4, up_ne _ _ (by omega), up_at]
    · rw [lb, lo, es4, up_at]
    · rw [la]; exact lop_b ⟨by omega, by omega⟩ hw
    · rw [lb]; exact lop_b pb.1 hw
