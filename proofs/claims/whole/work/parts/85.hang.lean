/-- putOn and takeLastOff write the rig alone -/
def Ag5 (s t : Sg) : Prop := ∀ c k, ¬ (5 ≤ c ∧ c < 11) → t c k = s c k
theorem Ag5.rf (s : Sg) : Ag5 s s := fun _ _ _ => rfl
theorem Ag5.up {s t : Sg} (a : Ag5 s t) {c k : Nat} {v : Int32} (h : 5 ≤ c ∧ c < 11) : Ag5 s (up t c k v) := fun c1 k1 h1 => by
  rw [up_ne _ _ (by omega)]; exact a c1 k1 h1
theorem a5_putOn (s : Sg) (p : Int32) (t : Nat) : Ag5 s (fs_X4_putOn s 5 p t) := by
  unfold fs_X4_putOn
  split
  · split
    · exact Ag5.rf s
    · split
      · exact Ag5.rf s
      · repeat' first | exact Ag5.rf s | refine Ag5.up ?_ (by omega)
  · exact Ag5.rf s
theorem a5_take (s : Sg) : Ag5 s (fs_X4_takeLastOff s 5) := by
  unfold fs_X4_takeLastOff
  split
  · exact Ag5.rf s
  · split
    · exact Ag5.rf s
    · split
      · exact Ag5.rf s
      · repeat' first | exact Ag5.rf s | refine Ag5.up ?_ (by omega)
theorem s_put5 {s t : Sg} {L : Rg} (hS : Stat s t) (hM : MS t) (hN : Nb t) (hO : Ok t L) (h : RepS s t 5 L) {k : Nat} (hk : k < 6) (c : aWhy t k L = 45) : RepS (fs_X4_putOn s 5 (nI k) (ix (t 41 23))) t 5 (aPut t k L) := by
  obtain ⟨c1, c2, c3, c4, c5, c6, c7⟩ := why45a c
  have hti := hM.tn c1
  have hz5 := (hN.2.2.1 _ hti).2.2 (hN.2.2.2.2 c1)
  have hz := (hN.2.2.1 _ hti).1.2.2.1
  obtain ⟨f1, f2, f3⟩ := hM.2.2.1 k hk c3
  exact s_putOn isR5 hS h hk (hO.room hM hk (fun z => c2 (aHas_iff.mpr z))) c3 ⟨f1, f2⟩ (s_begin hS h hk (hM.2.2.2 k hk) (hM.2.1.elim (fun q => absurd q c1) id) (hN.2.1 _ (ix_lt (hM.2.2.2 k hk))) (hO.endb hM hN) ⟨hz5, hz.2⟩ c5)
theorem thrown_hang {sg : Sg} {L : Rg} {x : String} {P : Prop} (h : Rl sg sg L) (f : Sg → Sg) {code wc : Int32} (ef : f sg = up sg 41 34 code) (hw : wc = code) : DI sg ∧ MI sg ∧ RI sg ∧ fr_X5_thrown (f sg) = wc ∧ (some x = none → P) ∧ Rel (f sg) := by
  rw [ef]
  exact ⟨h.di, h.mi, h.ri, up_at.trans hw.symm, some_no, Rel.up34 ⟨L, h⟩⟩
theorem wc_hang_NSE : wC wf_hang (some eNSE) = 1 := by decide
theorem wc_hang_ISE : wC wf_hang (some eISE) = 2 := by decide
theorem wc_takeDown_ISE : wC wf_takeDown (some eISE) = 1 := by decide
theorem st_hang : St_hang Rel := fun sg p ⟨L, h⟩ => by
  have e8 : sg 0 8 = sg 41 3 := h.st.1.2.1
  have et : sg 0 10 = sg 41 23 := h.st.1.2.2.2
  by_cases c1 : p < 0 ∨ sg 41 3 - 1 < p
  · have ef : fe_X4_hang sg p = some eNSE := by unfold fe_X4_hang fe_X4_checkPiece; simp only [e8, if_pos c1]
    rw [ef]
    exact thrown_hang h (fun s => fs_X5_hang s p) (by show fs_X5_hang sg p = _; unfold fs_X5_hang; rw [if_pos (chk_iff.mpr c1)]) wc_hang_NSE
  obtain ⟨i, i1, i2, rfl⟩ := in_cnt h.ms.1.2.1 (by decide) c1
  have hw := t_why h.ms h.nb h.rt i2
  have hw4 := s_why h.st h.ms h.nb h.rp (h.ok.endb h.ms h.nb) i2
  by_cases c2 : aWhy sg i L = 45
  case neg =>
    have ef : fe_X4_hang sg (nI i) = some eISE := by
      unfold fe_X4_hang fe_X4_checkPiece
      simp only [e8, if_neg c1]
      split
      · rfl
      · rw [hw4, if_neg c2]
    rw [ef]
    exact thrown_hang h (fun s => fs_X5_hang s (nI i)) (by show fs_X5_hang sg (nI i) = _; unfold fs_X5_hang; rw [if_neg (fun y => c1 (chk_iff.mp y)), hw, if_neg c2]) wc_hang_ISE
  have ht := (why45a c2).1
  have ef : fe_X4_hang sg (nI i) = none := by
    unfold fe_X4_hang fe_X4_checkPiece
    simp only [e8, if_neg c1, et, if_neg ht, hw4, if_pos c2]
  rw [ef]
  show DI sg ∧ MI (fs_X4_hang sg (nI i)) ∧ RI (fs_X4_hang sg (nI i)) ∧ fr_X5_thrown (fs_X5_hang (fs_X4_hang sg (nI i)) (nI i)) = 0 ∧ (none = none → fr_X4_hang sg (nI i) = fr_X5_hang (fs_X4_hang sg (nI i)) (nI i)) ∧ Rel (fs_X5_hang (fs_X4_hang sg (nI i)) (nI i))
  have es4 : fs_X4_hang sg (nI i) = fs_X4_putOn sg 5 (nI i) (ix (sg 41 23)) := by unfold fs_X4_hang; rw [et]
  have a5 := a5_putOn sg (nI i) (ix (sg 41 23))
  have hi : ∀ c k, 41 ≤ c → fs_X4_putOn sg 5 (nI i) (ix (sg 41 23)) c k = sg c k := fun c k hc => a5 c k (by omega)
  have h2 := h.hi hi
  have hs : rs (fs_X4_putOn sg 5 (nI i) (ix (sg 41 23))) = rs sg := rs_of fun c k hc => hi c k (by omega)
  have R5 := s_put5 h.st h.ms h.nb h.ok h.rp i2 c2
  have O1 := h.ok.put i1 c2
  have hroom : L.length < 6 := h.ok.room h.ms i2 (fun z => (why45a c2).2.1 (aHas_iff.mpr z))
  have w2 : fr_X5_why (fs_X4_putOn sg 5 (nI i) (ix (sg 41 23))) (nI i) = 45 := by rw [t_why h2.ms h2.nb h2.rt i2, sa_why hs, c2]
  have hs3 : rs (up (fs_X4_putOn sg 5 (nI i) (ix (sg 41 23))) 41 34 0) = rs sg := (rs_of fun c k hc => up_ne _ _ (by omega)).trans hs
  have RT : RepT (fs_X5_hangs (up (fs_X4_putOn sg 5 (nI i) (ix (sg 41 23))) 41 34 0) (nI i)) (aPut sg i L) := by
    rw [← sa_put hs3]
    exact t_hangs (h2.up34).rt i2 hroom
  have hs4 : rs (fs_X5_hangs (up (fs_X4_putOn sg 5 (nI i) (ix (sg 41 23))) 41 34 0) (nI i)) = rs sg := by rw [hangs_eq, rs_hput, hs3]
  have es : fs_X5_hang (fs_X4_putOn sg 5 (nI i) (ix (sg 41 23))) (nI i) = fs_X5_hangs (up (fs_X4_putOn sg 5 (nI i) (ix (sg 41 23))) 41 34 0) (nI i) := by
    unfold fs_X5_hang
    rw [hi 41 3 (by omega), if_neg (fun y => c1 (chk_iff.mp y)), if_pos w2]
  rw [es4]
  refine ⟨h.di, h2.mi, h2.ri, ?_, fun _ => ?_, aPut sg i L, ?_⟩
  · rw [es]; unfold fr_X5_thrown
    rw [hangs_eq, hput_o 41 34 (by omega), up_at]
  · unfold fr_X4_hang fr_X5_hang
    rw [et, hi 41 3 (by omega), if_neg (fun y => c1 (chk_iff.mp y)), if_pos w2, s_end R5, rep_end RT, sa_end hs4]
  · rw [es]
    have S2 : Stat (fs_X4_putOn sg 5 (nI i) (ix (sg 41 23))) sg := h.st.cong fun c k hc => a5 c k (by omega)
    have B : Rl (fs_X4_putOn sg 5 (nI i) (ix (sg 41 23))) (fs_X5_hangs (up (fs_X4_putOn sg 5 (nI i) (ix (sg 41 23))) 41 34 0) (nI i)) (aPut sg i L) :=
      ⟨⟨h.di.putOn isR5 (in_nI i2 (by decide)), (sa_MS hs4).mpr h.ms, h.ac.sa hs4, S2.sa hs4, (sa_Nb hs4).mpr h.nb⟩, R5.sa hs4, RT, (sa_Ok hs4 _).mpr O1, fun q hq => by
        rw [a5 _ 5 (by omega), rs_at hs4 48 q (by omega), rs_at hs4 41 3 (by omega)]; exact h.rn q hq⟩
    exact B.ss fun c k hc => by rw [lo_hangs hc, up_ne _ _ (by omega)]
theorem st_takeDown : St_takeDown Rel := fun sg ⟨L, h⟩ => by
  cases L with
  | nil =>
    have e5 : sg 5 5 = 0 := h.rp.1.1
    have e24 : sg 41 24 = 0 := h.rt.1
    have ef : fe_X4_takeDown sg = some eISE := by unfold fe_X4_takeDown; rw [e5, if_neg (by decide)]
    rw [ef]
    exact thrown_case h (fun s => fs_X5_takeDown s) (by show fs_X5_takeDown sg = _; unfold fs_X5_takeDown; rw [if_pos e24]) wc_takeDown_ISE
  | cons x L =>
    have hl : L.length < 6 := h.rp.1.2.1
    have e5 : sg 5 5 = nI (L.length + 1) := h.rp.1.1
    have e24 : sg 41 24 = nI (L.length + 1) := h.rt.1
    have n0 : ¬ sg 41 24 = 0 := fun y => by
      rw [e24] at y
      have y2 : nI (L.length + 1) = nI 0 := y
      rw [nI_eq_iff (by omega) (by omega)] at y2
      omega
    have ef : fe_X4_takeDown sg = none := by unfold fe_X4_takeDown; rw [e5, if_pos (pos_nI hl)]
    rw [ef]
    show DI sg ∧ MI (fs_X4_takeLastOff sg 5) ∧ fr_X5_thrown (fs_X5_takeDown (fs_X4_takeLastOff sg 5)) = 0 ∧ (none = none → fr_X4_takeDown sg = fr_X5_takeDown (fs_X4_takeLastOff sg 5)) ∧ Rel (fs_X5_takeDown (fs_X4_takeLastOff sg 5))
    have a5 := a5_take sg
    have hi : ∀ c k, 41 ≤ c → fs_X4_takeLastOff sg 5 c k = sg c k := fun c k hc => a5 c k (by omega)
    have h2 := h.hi hi
    have hx := Ok.lt h.ms h.ok x List.mem_cons_self
    have ex : aPut sg x.1 L = x :: L := by unfold aPut; rw [← h.ok.1.2.1]
    have R5 : RepS (fs_X4_takeLastOff sg 5) sg 5 L := s_takeT isR5 h.st h.ms (by rw [ex]; exact h.rp) hx.2 h.ok.1.2.2
    have es : fs_X5_takeDown (fs_X4_takeLastOff sg 5) = up (up (fs_X4_takeLastOff sg 5) 41 34 0) 41 24 (up (fs_X4_takeLastOff sg 5) 41 34 0 41 24 - 1) := by
      unfold fs_X5_takeDown
      rw [hi 41 24 (by omega), if_neg n0, up_ne _ _ (by omega), hi 41 24 (by omega)]
    have RT : RepT (up (up (fs_X4_takeLastOff sg 5) 41 34 0) 41 24 (up (fs_X4_takeLastOff sg 5) 41 34 0 41 24 - 1)) L := RepT.pop (h2.up34).rt
    have hs4 : rs (up (up (fs_X4_takeLastOff sg 5) 41 34 0) 41 24 (up (fs_X4_takeLastOff sg 5) 41 34 0 41 24 - 1)) = rs sg := rs_of fun c k hc => by
      rw [up_ne _ _ (by omega), up_ne _ _ (by omega), a5 c k (by omega)]
    refine ⟨h.di, h2.mi, ?_, fun _ => ?_, L, ?_⟩
    · rw [es]; unfold fr_X5_thrown
      rw [up_ne _ _ (by omega), up_at]
    · unfold fr_X4_takeDown fr_X5_takeDown
      rw [hi 41 24 (by omega), if_neg n0, e5, e24, nI_pred, hi 62 _ (by omega), nI_ix (by omega)]
      exact (row_rep h.rp.1.2.2.1 h.rt.2.2.1 L.length (Nat.lt_succ_self _)).1
    · rw [es]
      have S2 : Stat (fs_X4_takeLastOff sg 5) sg := h.st.cong fun c k hc => a5 c k (by omega)
      have B : Rl (fs_X4_takeLastOff sg 5) (up (up (fs_X4_takeLastOff sg 5) 41 34 0) 41 24 (up (fs_X4_takeLastOff sg 5) 41 34 0 41 24 - 1)) L :=
        ⟨⟨h.di.take isR5, (sa_MS hs4).mpr h.ms, h.ac.sa hs4, S2.sa hs4, (sa_Nb hs4).mpr h.nb⟩, R5.sa hs4, RT, (sa_Ok hs4 _).mpr h.ok.2, fun q hq => by
          rw [a5 _ 5 (by omega), rs_at hs4 48 q (by omega), rs_at hs4 41 3 (by omega)]; exact h.rn q hq⟩
      exact B.ss fun c k hc => by rw [up_ne _ _ (by omega), up_ne _ _ (by omega)]
