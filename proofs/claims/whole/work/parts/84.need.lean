theorem rl_need {sg v : Sg} {L : Rg} (h : Rl sg sg L) {i : Nat} (hi : i < 6) (hn : ¬ has L i) {x : Int32} (hx : st64 x) (hb : ∀ q, q < 6 → bitb x q = true → q < ix (sg 41 3)) (ev : ∀ c k, ¬ ((c = 31 + i ∧ k = 8) ∨ (c = 53 ∧ k = i) ∨ (c = 41 ∧ k = 34)) → v c k = sg c k) (hA : AC v) (v1 : v (31 + i) 8 = x) (w1 : v 53 i = x) : Rl v v L := by
  have ne : ∀ q, has L q → q ≠ i := fun q hq e => hn (e ▸ hq)
  have ld : ∀ q, q < 6 → ∀ y, fr_X5_load v (nI q) y = fr_X5_load sg (nI q) y := fun q hq y => load_cg hq y (ev 44 q (by omega)) (ev 48 q (by omega)) (ev 49 q (by omega)) (ev 50 q (by omega)) (ev 51 q (by omega)) (ev 52 q (by omega)) (fun _ => ⟨ev 42 _ (by omega), ev 42 _ (by omega)⟩)
  have my : ∀ x, True → fr_X5_may v x = fr_X5_may sg x := fun x hx => by
    unfold fr_X5_may
    rw [ev 41 23 (by omega), ev 43 (ix x) (by omega), ev 55 (ix (sg 41 23)) (by omega)]
  have sm : ∀ q, has L q → Sm sg v q := fun q hq => by
    obtain ⟨f1, f2, f3, f4⟩ := h.ok.fx h.ms q hq
    have g := ne q hq
    exact ⟨⟨ev 45 q (by omega), ev 46 q (by omega), ev 47 q (by omega), ev 48 q (by omega), ev 49 q (by omega), ev 50 q (by omega), ev 53 q (by omega)⟩, ld q f3, ev 54 _ (by omega), my _ trivial, my _ trivial⟩
  have tm : Tm sg v := ⟨ev 41 23 (by omega), ev 56 _ (by omega), ev 57 _ (by omega), ev 58 _ (by omega)⟩
  refine Rl.of ?_ ⟨⟨?_, ?_, ?_⟩, ?_, ?_, ?_⟩ ?_ ⟨⟨?_, ?_, ?_, ?_⟩, ?_, ?_, ?_, ?_⟩ ⟨?_, ?_, ?_, ?_, ?_⟩ ?_ ?_ ?_ ?_
  · exact h.di.r.cong fun r hr => by
      unfold isR at hr
      exact ⟨ev r 5 (by omega), fun k => ev (r + 1) k (by omega)⟩
  · exact by rw [ev 41 0 (by omega)]; exact h.ms.1.1
  · exact by rw [ev 41 3 (by omega)]; exact h.ms.1.2.1
  · exact by rw [ev 41 15 (by omega)]; exact h.ms.1.2.2
  · exact by rw [ev 41 23 (by omega)]; exact h.ms.2.1
  · exact fun q hq c => by
      rw [ev 48 q (by omega)] at c
      unfold FxOk
      rw [ev 49 q (by omega), ev 50 q (by omega), ev 42 (ix (sg 49 q)) (by omega), ev 42 (ix (sg 50 q)) (by omega)]
      exact h.ms.2.2.1 q hq c
  · exact fun q hq => by rw [ev 47 q (by omega)]; exact h.ms.2.2.2 q hq
  · exact hA
  · exact by rw [ev 0 7 (by omega), ev 41 0 (by omega)]; exact h.st.1.1
  · exact by rw [ev 0 8 (by omega), ev 41 3 (by omega)]; exact h.st.1.2.1
  · exact by rw [ev 0 9 (by omega), ev 41 15 (by omega)]; exact h.st.1.2.2.1
  · exact by rw [ev 0 10 (by omega), ev 41 23 (by omega)]; exact h.st.1.2.2.2
  · exact fun i hi => by rw [ev (23 + i) 0 (by omega), ev (23 + i) 1 (by omega), ev 42 i (by omega), ev 43 i (by omega)]; exact h.st.2.1 i hi
  · exact fun q hq => by
      by_cases e : q = i
      · subst e
        obtain ⟨⟨a0, a1, a2, a3, a8, a9⟩, b1, b2⟩ := h.st.2.2.1 q hq
        unfold Pcs
        rw [v1, w1, ev (31 + q) 0 (by omega), ev (31 + q) 1 (by omega), ev (31 + q) 2 (by omega), ev (31 + q) 3 (by omega), ev (31 + q) 4 (by omega), ev (31 + q) 5 (by omega), ev (31 + q) 6 (by omega), ev (31 + q) 7 (by omega), ev 44 q (by omega), ev 45 q (by omega), ev 46 q (by omega), ev 47 q (by omega), ev 48 q (by omega), ev 49 q (by omega), ev 50 q (by omega), ld q hq, ld q hq]
        exact ⟨⟨a0, a1, a2, a3, rfl, hx⟩, b1, b2⟩
      · unfold Pcs
        rw [ev (31 + q) 0 (by omega), ev (31 + q) 1 (by omega), ev (31 + q) 2 (by omega), ev (31 + q) 3 (by omega), ev (31 + q) 4 (by omega), ev (31 + q) 5 (by omega), ev (31 + q) 6 (by omega), ev (31 + q) 7 (by omega), ev (31 + q) 8 (by omega), ev 44 q (by omega), ev 45 q (by omega), ev 46 q (by omega), ev 47 q (by omega), ev 53 q (by omega), ev 48 q (by omega), ev 49 q (by omega), ev 50 q (by omega), ld q hq, ld q hq]
        exact h.st.2.2.1 q hq
  · exact fun i hi => by rw [ev 4 i (by omega), ev 54 i (by omega)]; exact h.st.2.2.2.1 i hi
  · exact fun i hi => by
      unfold Twn
      rw [ev (37 + i) 0 (by omega), ev (37 + i) 1 (by omega), ev (37 + i) 2 (by omega), ev (37 + i) 3 (by omega), ev (37 + i) 4 (by omega), ev (37 + i) 5 (by omega), ev (37 + i) 6 (by omega), ev (37 + i) 7 (by omega), ev 55 i (by omega), ev 56 i (by omega), ev 57 i (by omega), ev 58 i (by omega), ev 59 i (by omega), ev 60 i (by omega), ev 61 i (by omega)]
      exact h.st.2.2.2.2 i hi
  · exact fun q hq => by
      obtain ⟨a1, a2, a3, a4⟩ := h.nb.1 q hq
      by_cases e : q = i
      · subst e
        unfold NbP LdOk
        rw [w1, ev 44 q (by omega), ev 45 q (by omega), ev 46 q (by omega), ev 48 q (by omega), ev 49 q (by omega), ev 50 q (by omega), ld q hq, ld q hq, ev 41 3 (by omega), ev 41 0 (by omega)]
        exact ⟨a1, a2, ⟨hx, hb⟩, a4⟩
      · unfold NbP LdOk
        rw [ev 44 q (by omega), ev 45 q (by omega), ev 46 q (by omega), ev 53 q (by omega), ev 48 q (by omega), ev 49 q (by omega), ev 50 q (by omega), ld q hq, ld q hq, ev 41 3 (by omega), ev 41 0 (by omega)]
        exact ⟨a1, a2, a3, a4⟩
  · exact fun i hi => by rw [ev 54 i (by omega)]; exact h.nb.2.1 i hi
  · exact fun i hi => by
      unfold NbT
      rw [ev 55 i (by omega), ev 56 i (by omega), ev 57 i (by omega), ev 58 i (by omega), ev 59 i (by omega), ev 60 i (by omega), ev 61 i (by omega), ev 41 15 (by omega)]
      exact h.nb.2.2.1 i hi
  · exact fun i hi => by rw [ev 42 i (by omega), ev 43 i (by omega)]; exact h.nb.2.2.2.1 i hi
  · exact by rw [ev 41 23 (by omega), ev 41 15 (by omega)]; exact h.nb.2.2.2.2
  · exact (h.rp.cong fun c k h1 h2 => ev c k (by omega)).cg sm
  · exact h.rt.cong (ev 41 24 (by omega)) fun c k h1 h2 h3 => ev c k (by omega)
  · exact h.ok.cg tm (by rw [ev 41 3 (by omega)]; exact Nat.le_refl _) sm
  · exact fun q hq => by rw [ev (31 + q) 5 (by omega), ev 48 q (by omega), ev 41 3 (by omega)]; exact h.rn q hq
theorem wc_need_NSE : wC wf_need (some eNSE) = 1 := by decide
theorem wc_need_IAE : wC wf_need (some eIAE) = 2 := by decide
theorem wc_need_UOE : wC wf_need (some eUOE) = 3 := by decide
theorem wc_need_ISE : wC wf_need (some eISE) = 4 := by decide
theorem thrown_need {sg : Sg} {L : Rg} {x : String} {P : Prop} (h : Rl sg sg L) (f : Sg → Sg) {code wc : Int32} (ef : f sg = up sg 41 34 code) (hw : wc = code) : DI sg ∧ MI sg ∧ AC sg ∧ fr_X5_thrown (f sg) = wc ∧ (some x = none → P) ∧ Rel (f sg) := by
  rw [ef]
  exact ⟨h.di, h.mi, h.ac, up_at.trans hw.symm, some_no, Rel.up34 ⟨L, h⟩⟩
theorem st_need : St_need Rel := fun sg p a ⟨L, h⟩ => by
  have e8 : sg 0 8 = sg 41 3 := h.st.1.2.1
  by_cases c1 : p < 0 ∨ sg 41 3 - 1 < p
  · have ef : fe_X4_need sg p a = some eNSE := by unfold fe_X4_need fe_X4_checkPiece fe_X4_checkNotHung; simp only [e8, if_pos c1]
    rw [ef]
    exact thrown_need h (fun s => fs_X5_need s p a) (by show fs_X5_need sg p a = _; unfold fs_X5_need; rw [if_pos (chk_iff.mpr c1)]) wc_need_NSE
  by_cases c2 : a < 0 ∨ sg 41 3 - 1 < a
  · have ef : fe_X4_need sg p a = some eNSE := by unfold fe_X4_need fe_X4_checkPiece fe_X4_checkNotHung; simp only [e8, if_neg c1, if_pos c2]
    rw [ef]
    exact thrown_need h (fun s => fs_X5_need s p a) (by show fs_X5_need sg p a = _; unfold fs_X5_need; rw [if_neg (fun y => c1 (chk_iff.mp y)), if_pos (chk_iff.mpr c2)]) wc_need_NSE
  by_cases c3 : p = a
  · have ef : fe_X4_need sg p a = some eIAE := by unfold fe_X4_need fe_X4_checkPiece fe_X4_checkNotHung; simp only [e8, if_neg c1, if_neg c2, if_pos c3]
    rw [ef]
    exact thrown_need h (fun s => fs_X5_need s p a) (by show fs_X5_need sg p a = _; unfold fs_X5_need; rw [if_neg (fun y => c1 (chk_iff.mp y)), if_neg (fun y => c2 (chk_iff.mp y)), if_pos c3]) wc_need_IAE
  obtain ⟨i, i1, i2, rfl⟩ := in_cnt h.ms.1.2.1 (by decide) c1
  obtain ⟨j, j1, j2, rfl⟩ := in_cnt h.ms.1.2.1 (by decide) c2
  have ixi : ix (nI i) = i := nI_ix (by omega)
  have ixj : ix (nI j) = j := nI_ix (by omega)
  have hij : i ≠ j := fun y => c3 (by rw [y])
  have e53 : sg (31 + j) 8 = sg 53 j := (h.st.2.2.1 j j2).1.2.2.2.2.1
  have b1 : (¬ (fl_anO sg (ix (sg 41 3)) (ix (sg 41 3)) 0 (sg 53 j)) >>> (nI i &&& 31) &&& 1 = 0) ↔ Rc sg j i := by rw [bit_is, s_needs h.st h.ms h.nb j2 i2]
  have b2 : fn_X5 sg (nI i) 7 (nI j) = true ↔ Rc sg j i := by rw [fn_iff h.ms h.nb i2 7 j j2, rc_7 h.nb h.ac j2 i2]
  have oh := off_has h i2
  by_cases c4 : Rc sg j i
  · have ef : fe_X4_need sg (nI i) (nI j) = some eUOE := by
      unfold fe_X4_need fe_X4_checkPiece fe_X4_checkNotHung
      simp only [e8, if_neg c1, if_neg c2, if_neg c3, ixj, e53, if_pos (b1.mpr c4)]
    rw [ef]
    exact thrown_need h (fun s => fs_X5_need s (nI i) (nI j)) (by show fs_X5_need sg (nI i) (nI j) = _; unfold fs_X5_need; rw [if_neg (fun y => c1 (chk_iff.mp y)), if_neg (fun y => c2 (chk_iff.mp y)), if_neg c3, if_pos (b2.mpr c4)]) wc_need_UOE
  by_cases c5 : has L i
  · have ef : fe_X4_need sg (nI i) (nI j) = some eISE := by
      unfold fe_X4_need fe_X4_checkPiece fe_X4_checkNotHung
      simp only [e8, if_neg c1, if_neg c2, if_neg c3, ixj, e53, if_neg (fun y => c4 (b1.mp y)), if_pos (oh.1.mpr c5)]
    rw [ef]
    exact thrown_need h (fun s => fs_X5_need s (nI i) (nI j)) (by show fs_X5_need sg (nI i) (nI j) = _; unfold fs_X5_need; rw [if_neg (fun y => c1 (chk_iff.mp y)), if_neg (fun y => c2 (chk_iff.mp y)), if_neg c3, if_neg (fun y => c4 (b2.mp y)), if_neg (fun y => oh.2.mp y c5)]) wc_need_ISE
  have ef : fe_X4_need sg (nI i) (nI j) = none := by
    unfold fe_X4_need fe_X4_checkPiece fe_X4_checkNotHung
    simp only [e8, if_neg c1, if_neg c2, if_neg c3, ixj, e53, if_neg (fun y => c4 (b1.mp y)), if_neg (fun y => c5 (oh.1.mp y))]
  rw [ef]
  show DI sg ∧ MI (fs_X4_need sg (nI i) (nI j)) ∧ AC (fs_X4_need sg (nI i) (nI j)) ∧ fr_X5_thrown (fs_X5_need (fs_X4_need sg (nI i) (nI j)) (nI i) (nI j)) = 0 ∧ (none = none → fr_X4_need sg (nI i) (nI j) = fr_X5_need (fs_X4_need sg (nI i) (nI j)) (nI i) (nI j)) ∧ Rel (fs_X5_need (fs_X4_need sg (nI i) (nI j)) (nI i) (nI j))
  have e5i : sg (31 + i) 8 = sg 53 i := (h.st.2.2.1 i i2).1.2.2.2.2.1
  have es4 : fs_X4_need sg (nI i) (nI j) = up sg (31 + i) 8 (sg 53 i ||| (1 <<< (nI j &&& 31))) := by
    unfold fs_X4_need
    rw [ixi, e5i]
  have hi : ∀ c k, 41 ≤ c → fs_X4_need sg (nI i) (nI j) c k = sg c k := fun c k hc => by
    rw [es4, up_ne _ _ (by omega)]
  have h2 := h.hi hi
  have r2 : ¬ fn_X5 (fs_X4_need sg (nI i) (nI j)) (nI i) 7 (nI j) = true := fun y => by
    have y2 := (fn_iff h2.ms h2.nb i2 7 j j2).mp y
    refine c4 ⟨7, ?_⟩
    have : ∀ d q, Rch (fs_X4_need sg (nI i) (nI j)) d q i → Rch sg d q i := by
      intro d
      induction d with
      | zero => exact fun _ z => z
      | succ d ih =>
        rintro q ⟨k, k1, k2, k3⟩
        refine ⟨k, k1, ?_, k3.imp id (ih k)⟩
        show bitb (sg 53 q) k = true
        rw [← hi 53 q (by omega)]
        exact k2
    exact this 7 j y2
  have rg : fl_X5_inRig (fs_X4_need sg (nI i) (nI j)) (nI i) (ix (fs_X4_need sg (nI i) (nI j) 41 24)) 0 < 0 := (off_has h2 i2).2.mpr c5
  have es : fs_X5_need (fs_X4_need sg (nI i) (nI j)) (nI i) (nI j) = up (up (fs_X4_need sg (nI i) (nI j)) 41 34 0) 53 i (sg 53 i ||| (1 <<< (nI j &&& 31))) := by
    unfold fs_X5_need
    rw [hi 41 3 (by omega), if_neg (fun y => c1 (chk_iff.mp y)), if_neg (fun y => c2 (chk_iff.mp y)), if_neg c3, if_neg r2, if_pos rg, ixi, hi 53 i (by omega)]
  have e9 := (h.nb.1 i i2).2.2.1
  have hx : st64 (sg 53 i ||| (1 <<< (nI j &&& 31))) := e9.1.or j2
  have hb : ∀ q, q < 6 → (bitb (sg 53 i ||| (1 <<< (nI j &&& 31))) q = true ↔ bitb (sg 53 i) q = true ∨ q = j) := fun q hq => bit_or e9.1 j2 hq
  have hb2 : ∀ q, q < 6 → bitb (sg 53 i ||| (1 <<< (nI j &&& 31))) q = true → q < ix (sg 41 3) := fun q hq y => ((hb q hq).mp y).elim (e9.2 q hq) (fun e => by rw [e]; exact j1)
  have vi : fs_X5_need (fs_X4_need sg (nI i) (nI j)) (nI i) (nI j) 53 i = sg 53 i ||| (1 <<< (nI j &&& 31)) := by rw [es, up_at]
  have ev : ∀ c k, ¬ ((c = 31 + i ∧ k = 8) ∨ (c = 53 ∧ k = i) ∨ (c = 41 ∧ k = 34)) → fs_X5_need (fs_X4_need sg (nI i) (nI j)) (nI i) (nI j) c k = sg c k := fun c k hc => by
    rw [es, up_ne _ _ (by omega), up_ne _ _ (by omega), es4, up_ne _ _ (by omega)]
  refine ⟨h.di, h2.mi, h2.ac, ?_, fun _ => ?_, L, ?_⟩
  · rw [es]; unfold fr_X5_thrown
    rw [up_ne _ _ (by omega), up_at]
  · unfold fr_X4_need fr_X5_need
    rw [hi 41 3 (by omega), if_neg (fun y => c1 (chk_iff.mp y)), if_neg (fun y => c2 (chk_iff.mp y)), if_neg c3, if_neg r2, if_pos rg, ixi, hi 53 i (by omega), e5i]
    exact need_count (by rw [ixi, up_at]) hx h.ms.nc hb2
  · refine rl_need h i2 c5 hx hb2 ev ?_ ?_ vi
    · refine ac_new h.nb h.ac i2 j2 hij c4 (fun q hq => ?_) (fun q k hq hk y => ?_)
      · by_cases e : q = i
        · rw [e, vi]; exact hx
        · rw [ev 53 q (by omega)]; exact (h.nb.1 q hq).2.2.1.1
      · by_cases e : q = i
        · rw [e] at y ⊢
          have y2 : bitb (fs_X5_need (fs_X4_need sg (nI i) (nI j)) (nI i) (nI j) 53 i) k = true := y
          rw [vi] at y2
          exact ((hb k hk).mp y2).imp id (fun z => ⟨rfl, z⟩)
        · left
          have y2 : bitb (fs_X5_need (fs_X4_need sg (nI i) (nI j)) (nI i) (nI j) 53 q) k = true := y
          rw [ev 53 q (by omega)] at y2
          exact y2
    · rw [es, up_ne _ _ (by omega), up_ne _ _ (by omega), es4, up_at]
