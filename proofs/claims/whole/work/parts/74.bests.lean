/-! the calls that search -/
theorem st_bestWorth : St_bestWorth Rel := fun sg ⟨L, h⟩ => by
  have hf := s_find h.ms h.nb h.st h.rp h.ok
  obtain ⟨h1, hs, b1, h2, hp⟩ := pack h (find_DI h.di) hf.1
  refine ⟨h.di, h1.mi, h1.ri, ?_, ⟨L, h2⟩⟩
  exact hf.2.2.2.2.1.trans (b1.2 hp).1.1.symm
theorem st_bestEnd : St_bestEnd Rel := fun sg ⟨L, h⟩ => by
  have hf := s_find h.ms h.nb h.st h.rp h.ok
  obtain ⟨h1, hs, b1, h2, hp⟩ := pack h (find_DI h.di) hf.1
  refine ⟨h.di, h1.mi, h1.ri, ?_, ⟨L, h2⟩⟩
  exact (s_end hf.2).trans (b1.2 hp).1.2.1.symm
theorem st_bestCost : St_bestCost Rel := fun sg ⟨L, h⟩ => by
  have hf := s_find h.ms h.nb h.st h.rp h.ok
  obtain ⟨h1, hs, b1, h2, hp⟩ := pack h (find_DI h.di) hf.1
  refine ⟨h.di, h1.mi, h1.ri, ?_, ⟨L, h2⟩⟩
  obtain ⟨K, e, o⟩ := bst_mem h.ok
  exact (s_cost (h.st.ad hf.1) h.ms h.nb o hf.2).trans (b1.2 hp).1.2.2.1.symm
theorem st_bestSize : St_bestSize Rel := fun sg ⟨L, h⟩ => by
  have hf := s_find h.ms h.nb h.st h.rp h.ok
  obtain ⟨h1, hs, b1, h2, hp⟩ := pack h (find_DI h.di) hf.1
  refine ⟨h.di, h1.mi, h1.ri, ?_, ⟨L, h2⟩⟩
  exact hf.2.1.1.trans (b1.2 hp).1.2.2.2.symm
theorem st_bestByAll : St_bestByAll Rel := fun sg ⟨L, h⟩ => by
  have hf := s_try h.ms h.nb h.st h.rp h.ok
  obtain ⟨h1, hs, b1, h2, hp⟩ := pack h (try_DI h.di) hf.1.ad
  refine ⟨h.di, h1.mi, h1.ri, ?_, ⟨L, h2⟩⟩
  exact (hf.2.2.trans (mxs_all h.ms h.nb h.ok)).trans (b1.2 hp).1.1.symm
theorem st_completions : St_completions Rel := fun sg ⟨L, h⟩ => by
  have hf := s_try h.ms h.nb h.st h.rp h.ok
  obtain ⟨h1, hs, b1, h2, hp⟩ := pack h (try_DI h.di) hf.1.ad
  refine ⟨h.di, h1.mi, h1.ri, ?_, ⟨L, h2⟩⟩
  exact hf.2.1.trans b1.1.symm
theorem st_bestAt : St_bestAt Rel := fun sg p ⟨L, h⟩ => by
  have hf := s_find h.ms h.nb h.st h.rp h.ok
  obtain ⟨h1, hs, b1, h2, hp⟩ := pack h (find_DI h.di) hf.1
  obtain ⟨K, e, o⟩ := bst_mem h.ok
  have hl := o.len h.ms
  have e32 : fs_X5_searches (fs_X4_findBest sg) 41 32 = nI (bst sg L).length := (b1.2 hp).1.2.2.2
  have e5 : fs_X4_findBest sg 17 5 = nI (bst sg L).length := hf.2.1.1
  rw [show wS (fe_X4_bestAt sg p) (fs_X4_bestAt sg p) (fs_X4_findBest sg) = fs_X4_findBest sg from wS_same _ _]
  refine ⟨h.di, h1.mi, h1.ri, ⟨_, hl, e32⟩, ?_⟩
  have ee : fe_X4_bestAt sg p = if p < 0 ∨ nI (bst sg L).length - 1 < p then some eIOB else none := by
    unfold fe_X4_bestAt fe_X4_pieceAt
    rw [e5]
    split <;> rename_i z
    · exact z.symm
    · exact z.symm
  have es : fs_X5_bestAt (fs_X4_findBest sg) p = if ¬ p < 0 ∧ ¬ nI (bst sg L).length - 1 < p then up (fs_X5_searches (fs_X4_findBest sg)) 41 34 0 else up (fs_X5_searches (fs_X4_findBest sg)) 41 34 1 := by
    unfold fs_X5_bestAt
    rw [e32]
  have er : fr_X5_bestAt (fs_X4_findBest sg) p = if ¬ p < 0 ∧ ¬ nI (bst sg L).length - 1 < p then fs_X5_searches (fs_X4_findBest sg) 65 (ix p) else 0 := by
    unfold fr_X5_bestAt
    rw [e32]
  rw [ee, es, er]
  by_cases c : p < 0 ∨ nI (bst sg L).length - 1 < p
  · have c' : ¬ (¬ p < 0 ∧ ¬ nI (bst sg L).length - 1 < p) := fun z => c.elim z.1 z.2
    rw [if_pos c, if_neg c', if_neg c']
    exact ⟨by unfold fr_X5_thrown; rw [up_at]; decide, some_no, Rel.up34 ⟨L, h2⟩⟩
  · have c' : ¬ p < 0 ∧ ¬ nI (bst sg L).length - 1 < p := ⟨fun z => c (Or.inl z), fun z => c (Or.inr z)⟩
    rw [if_neg c, if_pos c', if_pos c']
    refine ⟨by unfold fr_X5_thrown; rw [up_at]; rfl, fun _ => ?_, Rel.up34 ⟨L, h2⟩⟩
    have hin : ix p < (bst sg L).length := by
      rcases Nat.eq_zero_or_pos (bst sg L).length with z | z
      · rw [z] at c'
        have := c'.2
        rw [Int32.lt_iff_toInt_lt, show (nI 0 - 1).toInt = -1 by decide] at this
        have c0 := c'.1
        rw [Int32.lt_iff_toInt_lt, show (0 : Int32).toInt = 0 from rfl] at c0
        omega
      · obtain ⟨n, hn⟩ : ∃ n, (bst sg L).length = n + 1 := ⟨(bst sg L).length - 1, by omega⟩
        rw [hn] at c' ⊢
        rw [nI_pred] at c'
        exact ix_lt (in_lit rfl c' (by omega))
    exact row_eq hf.2.1.2.2.1 (b1.2 hp).2 _ hin
