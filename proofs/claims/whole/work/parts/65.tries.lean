/-- the greatest worth -/
def mxs (t : Sg) (w : Int32) (N : Rg) : Int32 := if w < aWorth t N then aWorth t N else w
def ASr (t : Sg) (F : Sg → Sg) (nl : Rg → List Rg) : Prop := ∀ (s : Sg) (L : Rg), Stat s t → RepS s t 11 L → Ok t L → RepS (F s) t 11 L ∧ At s (F s) ∧ F s 0 11 = s 0 11 + nI (nl L).length ∧ F s 0 12 = (nl L).foldl (mxs t) (s 0 12)
theorem a_loop {t : Sg} (hM : MS t) (hN : Nb t) {F : Sg → Sg} {nl : Rg → List Rg} (hF : ASr t F nl) {L : Rg} (hO : Ok t L) : ∀ (m k : Nat) (s : Sg), m + k ≤ ix (t 41 3) → Stat s t → RepS s t 11 L → RepS (fKl F (ix (t 41 23)) m k s) t 11 L ∧ At s (fKl F (ix (t 41 23)) m k s) ∧ fKl F (ix (t 41 23)) m k s 0 11 = s 0 11 + nI (ndl nl t L m k).length ∧ fKl F (ix (t 41 23)) m k s 0 12 = (ndl nl t L m k).foldl (mxs t) (s 0 12)
  | 0, _, s, _, _, hR => ⟨hR, At.rf s, (Int32.add_zero _).symm, rfl⟩
  | m + 1, k, s, hk, hS, hR => by
    have hc := hM.nc
    have hk6 : k < 6 := by omega
    have hw : fr_X4_reasonAgainst s 11 (nI k) = aWhy t k L := s_why hS hM hN hR (hO.endb hM hN) hk6
    unfold fKl ndl
    rw [hw]
    by_cases c : aWhy t k L = 45
    · rw [if_pos c, if_pos c, List.foldl_append, List.length_append]
      have R1 := s_putT hS hM hN hO hR hk6 c
      have a1 := ar_putOn s (nI k) (ix (t 41 23))
      have S1 : Stat (fs_X4_putOn s 11 (nI k) (ix (t 41 23))) t := hS.ad (at_putOn _ _ _).ad
      obtain ⟨h1, h2, h3, h4⟩ := hF _ _ S1 R1 (hO.put (by omega) c)
      have S2 := S1.ad h2.ad
      have R3 := s_takeT isR11 S2 hM h1 hk6 c
      have a3 := ar_take (F (fs_X4_putOn s 11 (nI k) (ix (t 41 23))))
      have S3 := S2.ad (at_take _).ad
      obtain ⟨i1, i2, i3, i4⟩ := a_loop hM hN hF hO m (k + 1) _ (by omega) S3 R3
      refine ⟨i1, (((at_putOn _ _ _).tr h2).tr (at_take _)).tr i2, ?_, ?_⟩
      · rw [i3, a3 0 11 (by omega), h3, a1 0 11 (by omega), ← nI_add, Int32.add_assoc]
      · rw [i4, a3 0 12 (by omega), h4, a1 0 12 (by omega)]
    · rw [if_neg c, if_neg c, List.nil_append]
      exact a_loop hM hN hF hO m (k + 1) s (by omega) hS hR
theorem ndl_nil {F : Rg → List Rg} (t : Sg) (L : Rg) (h : ∀ k, aWhy t k L = 45 → F (aPut t k L) = []) : ∀ (n k : Nat), ndl F t L n k = []
  | 0, _ => rfl
  | n + 1, k => by
    unfold ndl
    rw [ndl_nil t L h n (k + 1), List.append_nil]
    split
    · rename_i c; exact h k c
    · rfl
theorem nds_1 (t : Sg) (L : Rg) : nds t 1 L = [L] := by
  show L :: ndl (nds t 0) t L _ 0 = _
  rw [ndl_nil t L (fun _ _ => rfl)]
theorem nds_no {t : Sg} (ht : t 41 23 < 0) (d : Nat) (L : Rg) : nds t (d + 1) L = [L] := by
  show L :: ndl (nds t d) t L _ 0 = _
  rw [ndl_nil t L (fun k h => absurd ht (why45a h).1)]
theorem s_ta {s t : Sg} {L : Rg} (hR : RepS s t 11 L) : RepS (fs_ta s) t 11 L ∧ At s (fs_ta s) ∧ fs_ta s 0 11 = s 0 11 + nI 1 ∧ fs_ta s 0 12 = mxs t (s 0 12) L := by
  refine ⟨hR.cong fun c k h1 h2 => ?_, ((At.rf s).up (by omega)).up (by omega), ?_, ?_⟩
  · unfold fs_ta
    rw [up_ne _ _ (by omega), up_ne _ _ (by omega)]
  · unfold fs_ta
    rw [up_ne _ _ (by omega), up_at]; rfl
  · unfold fs_ta mxs
    rw [up_at, hR.2.2.2.1]
theorem s_A {t : Sg} (hM : MS t) (hN : Nb t) : ∀ d, ASr t (fA d) (nds t (d + 1))
  | 0 => fun s L hS hR hO => by
    rw [nds_1]
    exact s_ta hR
  | d + 1 => fun s L hS hR hO => by
    obtain ⟨h1, h2, h3, h4⟩ := s_ta hR
    have e10 : s 0 10 = t 41 23 := hS.1.2.2.2
    have e8 : s 0 8 = t 41 3 := hS.1.2.1
    unfold fA
    rw [e10, e8]
    by_cases ht : t 41 23 < 0
    · rw [if_pos ht, nds_no ht]
      exact ⟨h1, h2, h3, h4⟩
    · rw [if_neg ht]
      obtain ⟨i1, i2, i3, i4⟩ := a_loop hM hN (s_A hM hN d) hO (ix (t 41 3)) 0 (fs_ta s) (by omega) (hS.ad h2.ad) h1
      refine ⟨i1, h2.tr i2, ?_, ?_⟩
      · rw [i3, h3, Int32.add_assoc, nI_add]
        show _ = s 0 11 + nI ((ndl (nds t (d + 1)) t L (ix (t 41 3)) 0).length + 1)
        rw [Nat.add_comm]
      · rw [i4, h4]
        rfl
theorem s_try {s t : Sg} {L : Rg} (hM : MS t) (hN : Nb t) (hS : Stat s t) (hR : RepS s t 5 L) (hO : Ok t L) : At s (fs_X4_tryAllCompletions s) ∧ fs_X4_tryAllCompletions s 0 11 = nI (nds t 7 L).length ∧ fs_X4_tryAllCompletions s 0 12 = (nds t 7 L).foldl (mxs t) 0 := by
  have a0 : At s (up (up s 0 11 0) 0 12 0) := ((At.rf s).up (by omega)).up (by omega)
  have R0 : RepS (up (up s 0 11 0) 0 12 0) t 5 L := hR.cong fun c k h1 h2 => by rw [up_ne _ _ (by omega), up_ne _ _ (by omega)]
  have R1 : RepS (fs_copy (up (up s 0 11 0) 0 12 0) 11 5) t 11 L := RepS.copy isR11 isR5 (by decide) R0
  have a1 : At (up (up s 0 11 0) 0 12 0) (fs_copy (up (up s 0 11 0) 0 12 0) 11 5) := fun c k h1 h2 => copy_out isR11 isR5 (by decide) c k (by omega)
  have S1 : Stat (fs_copy (up (up s 0 11 0) 0 12 0) 11 5) t := hS.ad (a0.tr a1).ad
  obtain ⟨i1, i2, i3, i4⟩ := s_A hM hN 6 _ _ S1 R1 hO
  unfold fs_X4_tryAllCompletions
  refine ⟨(a0.tr a1).tr i2, ?_, ?_⟩
  · rw [i3, copy_out isR11 isR5 (by decide) 0 11 (by omega), up_ne _ _ (by omega), up_at, Int32.zero_add]
  · rw [i4, copy_out isR11 isR5 (by decide) 0 12 (by omega), up_at]
