theorem st_complete : St_complete Rel := fun sg ⟨L, h⟩ => by
  have hf := s_find h.ms h.nb h.st h.rp h.ok
  have hD := find_DI h.di
  obtain ⟨K, e, o⟩ := bst_mem h.ok
  have a2 : ∀ c k, 41 ≤ c → fs_X4_complete sg c k = sg c k := fun c k hc => (copy_out isR5 isR17 (by decide) c k (by omega)).trans (hf.1 c k (by omega) (by omega))
  have hs : rs (fs_X4_complete sg) = rs sg := rs_of fun c k hc => a2 c k (by omega)
  have R1 : RepT (fs_X4_complete sg) L := h.rt.cong (a2 41 24 (by omega)) fun c k h1 _ _ => a2 c k (by omega)
  have S1 : Stat (fs_X4_complete sg) sg := (h.st.ad hf.1).cong fun c k hc => copy_out isR5 isR17 (by decide) c k (by omega)
  have RS1 : RepS (fs_X4_complete sg) sg 5 (bst sg L) := RepS.copy isR5 isR17 (by decide) hf.2
  have D1 : DI (fs_X4_complete sg) := hD.copy isR5 isR17 (by decide)
  obtain ⟨b1, b2, b3⟩ := r_searches h.ms h.nb hs R1 h.ok
  have hp : 0 < (nds sg 7 L).length := Nat.succ_pos _
  have hlM := o.len h.ms
  have hlL := h.ok.len h.ms
  have hlK : (bst sg L).length = K.length + L.length := by rw [e, List.length_append]
  have e32 : fs_X5_searches (fs_X4_complete sg) 41 32 = nI (bst sg L).length := (b1.2 hp).1.2.2.2
  have e24 : fs_X5_searches (fs_X4_complete sg) 41 24 = nI L.length := b3.1
  have en : ix (fs_X5_searches (fs_X4_complete sg) 41 32) - ix (fs_X5_searches (fs_X4_complete sg) 41 24) = K.length := by rw [e32, e24, nI_ix (by omega), nI_ix (by omega)]; omega
  have hB := (b1.2 hp).2
  have o2 := o
  rw [e] at hB o2
  obtain ⟨c1, c2⟩ := cmp_all h.ms b2 b3 o2 hB
  rw [← e] at c1
  refine ⟨h.di, ((sa_MS hs).mpr h.ms).mi R1, h.ok.ri hs R1, bo_of h.ms hp b1 o b3 (fun z => bst_no z L) b2, ?_, ?_⟩
  · unfold fr_X5_complete
    rw [en, c1.1, e24]
    unfold fr_X4_complete
    rw [hf.2.1.1, show fs_X4_findBest sg 5 5 = sg 5 5 from hf.1 5 5 (by omega) (by omega), h.rp.1.1]
  · rw [en]
    have B : Rl (fs_X4_complete sg) (fl_cmp K.length (fs_X5_searches (fs_X4_complete sg))) (bst sg L) :=
      ⟨⟨D1, (sa_MS c2).mpr h.ms, h.ac.sa c2, S1.sa c2, (sa_Nb c2).mpr h.nb⟩, RS1.sa c2, c1, (sa_Ok c2 _).mpr o, fun p hp => by
        rw [show fs_X4_complete sg (31 + p) 5 = sg (31 + p) 5 from (copy_out isR5 isR17 (by decide) _ 5 (by omega)).trans (hf.1 _ 5 (by omega) (by omega)), rs_at c2 48 p (by omega), rs_at c2 41 3 (by omega)]
        exact h.rn p hp⟩
    exact ⟨_, B.ss fun c k hc => (lo_cmp hc _ _ _).trans (lo_searches hc _ _)⟩
theorem st_isSound : St_isSound Rel := fun sg ⟨L, h⟩ => by
  have et : sg 0 10 = sg 41 23 := h.st.1.2.2.2
  by_cases ht : sg 41 23 < 0
  · have e : fs_sound sg = sg := by unfold fs_sound; rw [et, if_pos ht]
    rw [e]
    exact ⟨h.di, h.mi, by rw [← b2i_t (Or.inl (by rw [et]; exact ht)), ← b2i_t (Or.inl ht)], Rel.up34 ⟨L, h⟩⟩
  · have e : fs_sound sg = fs_X4_tryAllCompletions (fs_X4_findBest sg) := by unfold fs_sound; rw [et, if_neg ht]
    have hti := h.ms.tn ht
    have hf := s_find h.ms h.nb h.st h.rp h.ok
    have S1 := h.st.ad hf.1
    have R1 : RepS (fs_X4_findBest sg) sg 5 L := h.rp.cong fun c k h1 h2 => hf.1 c k (by omega) (by omega)
    have hy := s_try h.ms h.nb S1 R1 h.ok
    have ad : Ad sg (fs_X4_tryAllCompletions (fs_X4_findBest sg)) := hf.1.tr hy.1.ad
    have h2 := Rel.ad h (try_DI (find_DI h.di)) ad
    have hs : rs (fs_X4_tryAllCompletions (fs_X4_findBest sg)) = rs sg := rs_of fun c k hc => ad c k (by omega) (by omega)
    rw [e]
    refine ⟨h.di, h2.mi, ?_, Rel.up34 ⟨L, h2⟩⟩
    have S2 := h.st.ad ad
    have R2 : RepS (fs_X4_tryAllCompletions (fs_X4_findBest sg)) sg 5 L := h.rp.cong fun c k h1 h2 => ad c k (by omega) (by omega)
    have n8 : ix (sg 41 0) ≤ 8 := h.ms.1.1.ixl
    have p1 : fb_sdAt (fs_X4_tryAllCompletions (fs_X4_findBest sg)) (ix (sg 0 10)) = true := by
      unfold fb_sdAt
      rw [et, S2.1.1, if_pos (npo_all S2 h.ms h.nb h.ok R2 hti _ 0 (by omega)), if_pos (nhb_all S2 h.ms h.nb h.ok R2), s_cost S2 h.ms h.nb h.ok R2, s_cmm S2 h.ms h.nb h.ok R2]
      rw [if_pos (lg_cmp_self _), if_pos]
      rw [hy.2.2, mxs_all h.ms h.nb h.ok, hy.1 17 7 (by omega) (by omega)]
      exact hf.2.2.2.2.1
    have hs3 : rs (up (fs_X4_tryAllCompletions (fs_X4_findBest sg)) 41 34 0) = rs sg := (rs_of fun c k hc => up_ne _ _ (by omega)).trans hs
    have p2 : fl_X5_isSound (up (fs_X4_tryAllCompletions (fs_X4_findBest sg)) 41 34 0) (ix (fs_X4_tryAllCompletions (fs_X4_findBest sg) 41 0)) 0 = true := by
      rw [rs_at hs 41 0 (by omega)]
      exact snd_all h.ms h.nb h.ok hs3 h2.up34.rt hti _ 0 (by omega)
    rw [← b2i_t (Or.inr p1), ← b2i_t (Or.inr p2)]
