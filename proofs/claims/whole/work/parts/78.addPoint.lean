theorem thrown_case {sg : Sg} {L : Rg} {x : String} {P : Prop} (h : Rl sg sg L) (f : Sg → Sg) {code wc : Int32} (ef : f sg = up sg 41 34 code) (hw : wc = code) : DI sg ∧ MI sg ∧ fr_X5_thrown (f sg) = wc ∧ (some x = none → P) ∧ Rel (f sg) := by
  rw [ef]
  exact ⟨h.di, h.mi, up_at.trans hw.symm, some_no, Rel.up34 ⟨L, h⟩⟩
theorem rl_addPoint {sg v : Sg} {L : Rg} (h : Rl sg sg L) {n : Nat} (hn : n < 8) (en : sg 41 0 = nI n) {p z : Int32} (hp : bnd p 0 60) (hz : bnd z 0 5000) (ev : ∀ c k, ¬ ((c = 23 + n ∧ k ≤ 1) ∨ (c = 0 ∧ k = 7) ∨ (c = 42 ∧ k = n) ∨ (c = 43 ∧ k = n) ∨ (c = 41 ∧ (k = 0 ∨ k = 34))) → v c k = sg c k) (v1 : v (23 + n) 0 = p) (v2 : v (23 + n) 1 = z) (v3 : v 0 7 = nI (n + 1)) (v4 : v 42 n = p) (v5 : v 43 n = z) (v6 : v 41 0 = nI (n + 1)) : Rl v v L := by
  have ixn : ix (sg 41 0) = n := by rw [en, nI_ix (by omega)]
  have ixv : ix (v 41 0) = n + 1 := by rw [v6, nI_ix (by omega)]
  have fx : ∀ q, q < 6 → ¬ sg 48 q = 0 → ix (sg 49 q) < n ∧ ix (sg 50 q) < n := fun q hq c => by
    have := ((h.nb.1 q hq).2.2.2 c).1
    rw [ixn] at this; exact this
  have ld : ∀ q, q < 6 → ∀ y, fr_X5_load v (nI q) y = fr_X5_load sg (nI q) y := fun q hq y => load_cg hq y (ev 44 q (by omega)) (ev 48 q (by omega)) (ev 49 q (by omega)) (ev 50 q (by omega)) (ev 51 q (by omega)) (ev 52 q (by omega)) (fun c => ⟨ev 42 _ (by have := fx q hq c; omega), ev 42 _ (by have := fx q hq c; omega)⟩)
  have my : ∀ x, ix x ≠ n → fr_X5_may v x = fr_X5_may sg x := fun x hx => by
    unfold fr_X5_may
    rw [ev 41 23 (by omega), ev 43 (ix x) (by omega), ev 55 (ix (sg 41 23)) (by omega)]
  have sm : ∀ q, has L q → Sm sg v q := fun q hq => by
    obtain ⟨f1, f2, f3, f4⟩ := h.ok.fx h.ms q hq
    have g := fx q f3 f1
    exact ⟨⟨ev 45 q (by omega), ev 46 q (by omega), ev 47 q (by omega), ev 48 q (by omega), ev 49 q (by omega), ev 50 q (by omega), ev 53 q (by omega)⟩, ld q f3, ev 54 _ (by omega), my _ (by omega), my _ (by omega)⟩
  have tm : Tm sg v := ⟨ev 41 23 (by omega), ev 56 _ (by omega), ev 57 _ (by omega), ev 58 _ (by omega)⟩
  refine Rl.of ?_ ⟨⟨?_, ?_, ?_⟩, ?_, ?_, ?_⟩ ?_ ⟨⟨?_, ?_, ?_, ?_⟩, ?_, ?_, ?_, ?_⟩ ⟨?_, ?_, ?_, ?_, ?_⟩ ?_ ?_ ?_ ?_
  · exact h.di.r.cong fun r hr => by
      unfold isR at hr
      exact ⟨ev r 5 (by omega), fun k => ev (r + 1) k (by omega)⟩
  · exact ⟨n + 1, by omega, v6⟩
  · exact by rw [ev 41 3 (by omega)]; exact h.ms.1.2.1
  · exact by rw [ev 41 15 (by omega)]; exact h.ms.1.2.2
  · exact by rw [ev 41 23 (by omega)]; exact h.ms.2.1
  · exact fun q hq c => by
      rw [ev 48 q (by omega)] at c
      unfold FxOk
      rw [ev 49 q (by omega), ev 50 q (by omega), ev 42 (ix (sg 49 q)) (by have := fx q hq c; omega), ev 42 (ix (sg 50 q)) (by have := fx q hq c; omega)]
      exact h.ms.2.2.1 q hq c
  · exact fun q hq => by rw [ev 47 q (by omega)]; exact h.ms.2.2.2 q hq
  · exact h.ac.of53 fun q hq => ev 53 q (by omega)
  · exact v3.trans v6.symm
  · exact by rw [ev 0 8 (by omega), ev 41 3 (by omega)]; exact h.st.1.2.1
  · exact by rw [ev 0 9 (by omega), ev 41 15 (by omega)]; exact h.st.1.2.2.1
  · exact by rw [ev 0 10 (by omega), ev 41 23 (by omega)]; exact h.st.1.2.2.2
  · exact fun i hi => by
      by_cases e : i = n
      · rw [e]; exact ⟨v1.trans v4.symm, v2.trans v5.symm⟩
      · rw [ev (23 + i) 0 (by omega), ev (23 + i) 1 (by omega), ev 42 i (by omega), ev 43 i (by omega)]; exact h.st.2.1 i hi
  · exact fun q hq => by
      unfold Pcs
      rw [ev (31 + q) 0 (by omega), ev (31 + q) 1 (by omega), ev (31 + q) 2 (by omega), ev (31 + q) 3 (by omega), ev (31 + q) 4 (by omega), ev (31 + q) 5 (by omega), ev (31 + q) 6 (by omega), ev (31 + q) 7 (by omega), ev (31 + q) 8 (by omega), ev 44 q (by omega), ev 45 q (by omega), ev 46 q (by omega), ev 47 q (by omega), ev 53 q (by omega), ev 48 q (by omega), ev 49 q (by omega), ev 50 q (by omega), ld q hq, ld q hq]
      exact h.st.2.2.1 q hq
  · exact fun i hi => by rw [ev 4 i (by omega), ev 54 i (by omega)]; exact h.st.2.2.2.1 i hi
  · exact fun i hi => by
      unfold Twn
      rw [ev (37 + i) 0 (by omega), ev (37 + i) 1 (by omega), ev (37 + i) 2 (by omega), ev (37 + i) 3 (by omega), ev (37 + i) 4 (by omega), ev (37 + i) 5 (by omega), ev (37 + i) 6 (by omega), ev (37 + i) 7 (by omega), ev 55 i (by omega), ev 56 i (by omega), ev 57 i (by omega), ev 58 i (by omega), ev 59 i (by omega), ev 60 i (by omega), ev 61 i (by omega)]
      exact h.st.2.2.2.2 i hi
  · exact fun q hq => by
      unfold NbP LdOk
      rw [ev 44 q (by omega), ev 45 q (by omega), ev 46 q (by omega), ev 53 q (by omega), ev 48 q (by omega), ev 49 q (by omega), ev 50 q (by omega), ld q hq, ld q hq, ev 41 3 (by omega), ixv]
      obtain ⟨a1, a2, a3, a4⟩ := h.nb.1 q hq
      exact ⟨a1, a2, a3, fun c => ⟨by have := fx q hq c; omega, (a4 c).2⟩⟩
  · exact fun i hi => by rw [ev 54 i (by omega)]; exact h.nb.2.1 i hi
  · exact fun i hi => by
      unfold NbT
      rw [ev 55 i (by omega), ev 56 i (by omega), ev 57 i (by omega), ev 58 i (by omega), ev 59 i (by omega), ev 60 i (by omega), ev 61 i (by omega), ev 41 15 (by omega)]
      exact h.nb.2.2.1 i hi
  · exact fun i hi => by
      by_cases e : i = n
      · rw [e, v4, v5]; exact ⟨hp, hz⟩
      · rw [ev 42 i (by omega), ev 43 i (by omega)]; exact h.nb.2.2.2.1 i hi
  · exact by rw [ev 41 23 (by omega), ev 41 15 (by omega)]; exact h.nb.2.2.2.2
  · exact (h.rp.cong fun c k h1 h2 => ev c k (by omega)).cg sm
  · exact h.rt.cong (ev 41 24 (by omega)) fun c k h1 h2 h3 => ev c k (by omega)
  · exact h.ok.cg tm (by rw [ev 41 3 (by omega)]; exact Nat.le_refl _) sm
  · exact fun q hq => by rw [ev (31 + q) 5 (by omega), ev 48 q (by omega), ev 41 3 (by omega)]; exact h.rn q hq
theorem wc_addPoint_IAE : wC wf_addPoint (some eIAE) = 1 := by decide
theorem wc_addPoint_ISE : wC wf_addPoint (some eISE) = 2 := by decide
theorem cnt_at {x : Int32} {m : Nat} (h : cnt x m) (hm : m < 900) : (x < nI m ∧ ∃ n, n < m ∧ x = nI n) ∨ x = nI m := by
  obtain ⟨n, hn, rfl⟩ := h
  rcases Nat.lt_or_ge n m with z | z
  · exact Or.inl ⟨(nI_lt_iff (by omega) (by omega)).mpr z, n, z, rfl⟩
  · exact Or.inr (by rw [show n = m by omega])
theorem bnd_of {x lo hi : Int32} (a b : Int) (ha : lo.toInt = a) (hb : hi.toInt = b) (h : ¬ (x < lo ∨ hi < x)) : bnd x a b := by
  have h1 : ¬ x < lo := fun z => h (Or.inl z)
  have h2 : ¬ hi < x := fun z => h (Or.inr z)
  rw [Int32.lt_iff_toInt_lt] at h1 h2
  exact ⟨by omega, by omega⟩
theorem bnd.le {x : Int32} {a b c d : Int} (h : bnd x a b) (h1 : c ≤ a) (h2 : b ≤ d) : bnd x c d := ⟨Int.le_trans h1 h.1, Int.le_trans h.2 h2⟩
theorem nn_and {a b : Prop} (h : ¬ (a ∨ b)) : ¬ a ∧ ¬ b := ⟨fun z => h (Or.inl z), fun z => h (Or.inr z)⟩
theorem or_nn {a b : Prop} (h : a ∨ b) : ¬ (¬ a ∧ ¬ b) := fun z => h.elim z.1 z.2
theorem st_addPoint : St_addPoint Rel := fun sg p z ⟨L, h⟩ => by
  have e7 : sg 0 7 = sg 41 0 := h.st.1.1
  by_cases c1 : p < 0 ∨ 60 < p
  · have ef : fe_X4_addPoint sg p z = some eIAE := by unfold fe_X4_addPoint; rw [if_pos c1]
    rw [ef]
    exact thrown_case h (fun s => fs_X5_addPoint s p z) (by show fs_X5_addPoint sg p z = _; unfold fs_X5_addPoint; rw [if_neg (or_nn c1)]) wc_addPoint_IAE
  by_cases c2 : z < 100 ∨ 5000 < z
  · have ef : fe_X4_addPoint sg p z = some eIAE := by unfold fe_X4_addPoint; rw [if_neg c1, if_pos c2]
    rw [ef]
    exact thrown_case h (fun s => fs_X5_addPoint s p z) (by show fs_X5_addPoint sg p z = _; unfold fs_X5_addPoint; rw [if_pos (nn_and c1), if_neg (or_nn c2)]) wc_addPoint_IAE
  rcases cnt_at h.ms.1.1 (by decide) with ⟨c3, n, hn, en⟩ | c3
  · have ixn : ix (sg 41 0) = n := by rw [en, nI_ix (by omega)]
    have n8 : ¬ sg 41 0 = 8 := fun w => by rw [w] at c3; exact Int32.lt_irrefl c3
    have ef : fe_X4_addPoint sg p z = none := by unfold fe_X4_addPoint; rw [if_neg c1, if_neg c2, e7, if_pos (show sg 41 0 < 8 from c3)]
    rw [ef]
    show DI sg ∧ MI (fs_X4_addPoint sg p z) ∧ fr_X5_thrown (fs_X5_addPoint (fs_X4_addPoint sg p z) p z) = 0 ∧ (none = none → fr_X4_addPoint sg p z = fr_X5_addPoint (fs_X4_addPoint sg p z) p z) ∧ Rel (fs_X5_addPoint (fs_X4_addPoint sg p z) p z)
    have hi : ∀ c k, 41 ≤ c → fs_X4_addPoint sg p z c k = sg c k := fun c k hc => by
      unfold fs_X4_addPoint
      rw [e7, ixn, up_ne _ _ (by omega), up_ne _ _ (by omega), up_ne _ _ (by omega)]
    have es : fs_X5_addPoint (fs_X4_addPoint sg p z) p z = up (up (up (up (fs_X4_addPoint sg p z) 41 34 0) 42 n p) 43 n z) 41 0 (nI (n + 1)) := by
      unfold fs_X5_addPoint
      rw [if_pos (nn_and c1), if_pos (nn_and c2), hi 41 0 (by omega), if_neg n8, ixn, en, show nI n + 1 = nI (n + 1) from nI_add1 n]
    refine ⟨h.di, (h.hi hi).mi, ?_, fun _ => ?_, L, ?_⟩
    · rw [es]; unfold fr_X5_thrown
      rw [up_ne _ _ (by omega), up_ne _ _ (by omega), up_ne _ _ (by omega), up_at]
    · unfold fr_X4_addPoint fr_X5_addPoint
      rw [if_pos (nn_and c1), if_pos (nn_and c2), hi 41 0 (by omega), if_neg n8, i32_back, e7]
    · rw [es]
      refine rl_addPoint h hn en (p := p) (z := z) (bnd_of 0 60 rfl rfl c1) ((bnd_of 100 5000 rfl rfl c2).le (by decide) (by decide)) (fun c k hc => ?_) ?_ ?_ ?_ ?_ ?_ ?_
      · rw [up_ne _ _ (by omega), up_ne _ _ (by omega), up_ne _ _ (by omega), up_ne _ _ (by omega)]
        unfold fs_X4_addPoint
        rw [e7, ixn, up_ne _ _ (by omega), up_ne _ _ (by omega), up_ne _ _ (by omega)]
      · rw [up_ne _ _ (by omega), up_ne _ _ (by omega), up_ne _ _ (by omega), up_ne _ _ (by omega)]
        unfold fs_X4_addPoint
        rw [e7, ixn, up_ne _ _ (by omega), up_ne _ _ (by omega), up_at]
      · rw [up_ne _ _ (by omega), up_ne _ _ (by omega), up_ne _ _ (by omega), up_ne _ _ (by omega)]
        unfold fs_X4_addPoint
        rw [e7, ixn, up_ne _ _ (by omega), up_at]
      · rw [up_ne _ _ (by omega), up_ne _ _ (by omega), up_ne _ _ (by omega), up_ne _ _ (by omega)]
        unfold fs_X4_addPoint
        rw [e7, up_at, en]; exact nI_add1 n
      · rw [up_ne _ _ (by omega), up_ne _ _ (by omega), up_at]
      · rw [up_ne _ _ (by omega), up_at]
      · rw [up_at]
  · have ef : fe_X4_addPoint sg p z = some eISE := by unfold fe_X4_addPoint; rw [if_neg c1, if_neg c2, e7, c3, if_neg (show ¬ nI 8 < 8 from Int32.lt_irrefl)]
    rw [ef]
    exact thrown_case h (fun s => fs_X5_addPoint s p z) (by show fs_X5_addPoint sg p z = _; unfold fs_X5_addPoint; rw [if_pos (nn_and c1), if_pos (nn_and c2), if_pos (show sg 41 0 = 8 from c3)]) wc_addPoint_ISE
