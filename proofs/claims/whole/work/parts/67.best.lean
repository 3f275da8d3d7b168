/-! the desk's search leaves out nothing that is better -/
theorem ndl_mem {F : Rg → List Rg} {t : Sg} {L N : Rg} : ∀ (n k : Nat), N ∈ ndl F t L n k → ∃ j, k ≤ j ∧ j < k + n ∧ aWhy t j L = 45 ∧ N ∈ F (aPut t j L)
  | 0, _, h => nomatch h
  | n + 1, k, h => by
    unfold ndl at h
    rcases List.mem_append.mp h with h | h
    · split at h
      · rename_i c; exact ⟨k, Nat.le_refl _, by omega, c, h⟩
      · exact nomatch h
    · obtain ⟨j, h1, h2, h3, h4⟩ := ndl_mem n (k + 1) h
      exact ⟨j, by omega, by omega, h3, h4⟩
theorem nds_mem {t : Sg} {N : Rg} : ∀ (d : Nat) (L : Rg), Ok t L → N ∈ nds t d L → ∃ K, N = K ++ L ∧ Ok t N
  | 0, _, _, h => nomatch h
  | d + 1, L, hO, h => by
    rcases List.mem_cons.mp h with rfl | h
    · exact ⟨[], rfl, hO⟩
    · obtain ⟨j, h1, h2, h3, h4⟩ := ndl_mem _ _ h
      obtain ⟨K, e, o⟩ := nds_mem d (aPut t j L) (hO.put (by omega) h3) h4
      refine ⟨K ++ [(j, aBeg t j L, aWk t j L)], ?_, o⟩
      rw [e, List.append_assoc]; rfl
theorem s_mcl {s t : Sg} {L : Rg} (hS : Stat s t) (hM : MS t) (h : RepS s t 11 L) (ht : ix (t 41 23) < 4) {p : Nat} (hp : p < 6) : fb_X4_mayComeLater s p (ix (t 41 23)) = true ↔ aMcl t L p := by
  obtain ⟨⟨e0, e1, e2, e3, e8, e9⟩, hu, hf⟩ := hS.2.2.1 p hp
  obtain ⟨f0, f1, f2, f3, f4, f5, f6, f7⟩ := hS.2.2.2.2 _ ht
  unfold fb_X4_mayComeLater aMcl
  by_cases cf : t 48 p = 0
  · rw [if_neg (fun z => z.1 (hu cf))]
    exact ⟨fun z => absurd z (by decide), fun z => absurd cf z.1⟩
  have ho := s_over hS hM h ht hp cf
  have g := hS.2.2.2.1 _ (ix_lt (hM.2.2.2 p hp))
  rw [if_pos ho.1, f2, e1, f4, s_end h, e3, g]
  by_cases c1 : t 56 (ix (t 41 23)) < t 45 p
  · rw [if_pos c1]
    exact ⟨fun z => absurd z (by decide), fun z => absurd c1 z.2.1⟩
  rw [if_neg c1]
  by_cases c2 : t 58 (ix (t 41 23)) < (if aEnd t L < t 54 (ix (t 47 p)) then t 54 (ix (t 47 p)) else aEnd t L) + t 45 p
  · rw [if_pos c2]
    exact ⟨fun z => absurd z (by decide), fun z => absurd c2 z.2.2.1⟩
  rw [if_neg c2]
  by_cases c3 : aOv t p L
  · rw [if_pos (ho.2.mpr c3)]
    exact ⟨fun z => absurd z (by decide), fun z => absurd c3 z.2.2.2⟩
  · rw [if_neg (fun z => c3 (ho.2.mp z))]
    exact ⟨fun _ => ⟨cf, c1, c2, c3⟩, fun _ => rfl⟩
theorem s_mlb {s t : Sg} {L M : Rg} (hS : Stat s t) (hM : MS t) (hN : Nb t) (h : RepS s t 11 L) (h2 : RepS s t 17 M) (ht : ix (t 41 23) < 4) : ∀ (n k : Nat) (w m : Int32), n + k ≤ 6 → 0 ≤ w.toInt → w.toInt ≤ 99 * (6 + k) → 0 ≤ m.toInt → m.toInt ≤ 1440 + 240 * k → (fl_mlb s (ix (t 41 23)) n k w m = true ↔ ((w.toInt + sgm (cnd t L) (fun p => (t 46 p).toInt) n k = (aWorth t M).toInt ∧ m.toInt + sgm (cnd t L) (fun p => (t 45 p).toInt) n k ≤ (aEnd t M).toInt) ∨ (aWorth t M).toInt < w.toInt + sgm (cnd t L) (fun p => (t 46 p).toInt) n k))
  | 0, k, w, m, hk, w0, w1, m0, m1 => by
    unfold fl_mlb sgm
    rw [h2.2.2.2.1, s_end h2, Int.add_zero, Int.add_zero]
    by_cases c : w = aWorth t M
    · rw [if_pos c, c]
      by_cases d : aEnd t M < m
      · rw [if_pos d]
        rw [Int32.lt_iff_toInt_lt] at d
        exact ⟨fun z => absurd z (by decide), fun z => by omega⟩
      · rw [if_neg d]
        rw [Int32.lt_iff_toInt_lt] at d
        exact ⟨fun _ => Or.inl ⟨rfl, by omega⟩, fun _ => rfl⟩
    · rw [if_neg c]
      have c' : ¬ w.toInt = (aWorth t M).toInt := fun z => c (Int32.toInt_inj.mp z)
      by_cases d : aWorth t M < w
      · rw [if_pos d]
        rw [Int32.lt_iff_toInt_lt] at d
        exact ⟨fun _ => Or.inr d, fun _ => rfl⟩
      · rw [if_neg d]
        rw [Int32.lt_iff_toInt_lt] at d
        exact ⟨fun z => absurd z (by decide), fun z => by omega⟩
  | n + 1, k, w, m, hk, w0, w1, m0, m1 => by
    have hk6 : k < 6 := by omega
    have hm : (¬ s 11 6 >>> (nI k &&& 31) &&& 1 = 0) ↔ aHas L k = true := by rw [bit_is, h.2.2.1 k hk6, aHas_iff]
    have hl := s_mcl hS hM h ht hk6
    obtain ⟨⟨e0, e1, e2, e3, e8, e9⟩, hu, hf⟩ := hS.2.2.1 k hk6
    unfold fl_mlb sgm
    rw [e1, e2]
    by_cases c : aHas L k = true
    · rw [if_pos (hm.mpr c), if_neg (show ¬ cnd t L k = true by unfold cnd; rw [c]; simp), if_neg (show ¬ cnd t L k = true by unfold cnd; rw [c]; simp), Int.zero_add, Int.zero_add]
      exact s_mlb hS hM hN h h2 ht n (k + 1) w m (by omega) w0 (by omega) m0 (by omega)
    · rw [if_neg (fun z => c (hm.mp z))]
      by_cases d : aMcl t L k
      · have cc : cnd t L k = true := by
          unfold cnd
          rw [Bool.eq_false_iff.mpr c, decide_eq_true d]; rfl
        have b1 := (hN.1 k hk6).1.1
        have b2 := (hN.1 k hk6).1.2.1
        have b11 := b1.1
        have b12 := b1.2
        have b21 := b2.1
        have b22 := b2.2
        have ew : (w + t 46 k).toInt = w.toInt + (t 46 k).toInt := add_toInt (by omega) (by omega) (by omega) (by omega)
        have em : (m + t 45 k).toInt = m.toInt + (t 45 k).toInt := add_toInt (by omega) (by omega) (by omega) (by omega)
        rw [if_pos (hl.mpr d), if_pos cc, if_pos cc]
        have ih := s_mlb hS hM hN h h2 ht n (k + 1) (w + t 46 k) (m + t 45 k) (by omega) (by omega) (by omega) (by omega) (by omega)
        rw [ew, em, Int.add_assoc, Int.add_assoc] at ih
        exact ih
      · have cc : ¬ cnd t L k = true := by
          unfold cnd
          rw [Bool.eq_false_iff.mpr c, decide_eq_false d]; simp
        rw [if_neg (fun z => d (hl.mp z)), if_neg cc, if_neg cc, Int.zero_add, Int.zero_add]
        exact s_mlb hS hM hN h h2 ht n (k + 1) w m (by omega) w0 (by omega) m0 (by omega)
theorem btr_int {t : Sg} {N M : Rg} (h : btr t N M = true) : (aWorth t M).toInt < (aWorth t N).toInt ∨ ((aWorth t N).toInt = (aWorth t M).toInt ∧ (aEnd t N).toInt ≤ (aEnd t M).toInt) := by
  unfold btr at h
  by_cases c : aWorth t N = aWorth t M
  · rw [if_pos c] at h
    right
    refine ⟨by rw [c], ?_⟩
    by_cases d : aEnd t N = aEnd t M
    · rw [d]; exact Int.le_refl _
    · rw [if_neg d] at h
      by_cases e : aEnd t N < aEnd t M
      · rw [Int32.lt_iff_toInt_lt] at e; omega
      · rw [if_neg e] at h; exact absurd h (by decide)
  · rw [if_neg c] at h
    by_cases e : aWorth t M < aWorth t N
    · rw [Int32.lt_iff_toInt_lt] at e; exact Or.inl e
    · rw [if_neg e] at h; exact absurd h (by decide)
theorem prune {s t : Sg} {L M K : Rg} (hS : Stat s t) (hM : MS t) (hN : Nb t) (h : RepS s t 11 L) (h2 : RepS s t 17 M) (ht : ix (t 41 23) < 4) (hO : Ok t (K ++ L)) (hc : ¬ fb_kc s (ix (t 41 23)) = true) : ¬ btr t (K ++ L) M = true := by
  intro hb
  have hb := btr_int hb
  have hL := ext_ok K hO
  have e := hL.endb hM hN
  have w := worth_b hN L (ok6 hM hL) (hL.len hM)
  have hl := hL.len hM
  have e1 := e.1
  have e2 := e.2
  have hc6 := hM.nc
  have e8 : s 0 8 = t 41 3 := hS.1.2.1
  refine hc ?_
  unfold fb_kc
  rw [e8, h.2.2.2.1, s_end h, s_mlb hS hM hN h h2 ht (ix (t 41 3)) 0 _ _ (by omega) w.1 (by omega) e1 (by omega)]
  have x1 := ext_worth hM hN K hO
  have x2 := ext_mins hM hN K hO
  have imp : ∀ p, news (K ++ L) L p = true → cnd t L p = true := fun p hp => by
    unfold news at hp
    rw [Bool.and_eq_true, Bool.not_eq_true'] at hp
    exact ext_cnd hM hN K hO p (aHas_iff.mp hp.1) (fun z => by rw [aHas_iff.mpr z] at hp; exact absurd hp.2 (by decide))
  have f1 : ∀ p, 0 ≤ p → p < 0 + ix (t 41 3) → 1 ≤ (fun p => (t 46 p).toInt) p := fun p _ h2 => ((hN.1 p (by omega)).2.1 (by omega)).2
  have l1 := sgm_le (f := fun p => (t 46 p).toInt) imp (ix (t 41 3)) 0 (fun p h1 h2 => by
    show 0 ≤ (t 46 p).toInt
    have : 1 ≤ (t 46 p).toInt := f1 p h1 h2
    omega)
  rcases hb with hb | ⟨hb, hb2⟩
  · right; omega
  · by_cases c : (aWorth t L).toInt + sgm (cnd t L) (fun p => (t 46 p).toInt) (ix (t 41 3)) 0 = (aWorth t M).toInt
    · left
      refine ⟨c, ?_⟩
      have := sgm_eq (f := fun p => (t 46 p).toInt) (g := fun p => (t 45 p).toInt) imp (ix (t 41 3)) 0 f1 (by omega)
      omega
    · right; omega
theorem fold_stay {t : Sg} {M : Rg} : ∀ (l : List Rg), (∀ N, N ∈ l → ¬ btr t N M = true) → l.foldl (stp t) M = M
  | [], _ => rfl
  | x :: l, h => by
    rw [List.foldl_cons]
    have : stp t M x = M := by unfold stp; rw [if_neg (h x List.mem_cons_self)]
    rw [this]
    exact fold_stay l (fun N hN => h N (List.mem_cons_of_mem _ hN))
theorem stp_or (t : Sg) (M N : Rg) : stp t M N = M ∨ stp t M N = N := by
  unfold stp
  split
  · exact Or.inr rfl
  · exact Or.inl rfl
theorem fold_ok {t : Sg} {P : Rg → Prop} : ∀ (l : List Rg) (M : Rg), P M → (∀ N, N ∈ l → P N) → P (l.foldl (stp t) M)
  | [], _, h, _ => h
  | x :: l, M, h, hl => by
    rw [List.foldl_cons]
    refine fold_ok l _ ?_ (fun N hN => hl N (List.mem_cons_of_mem _ hN))
    rcases stp_or t M x with e | e <;> rw [e]
    · exact h
    · exact hl x List.mem_cons_self
/-- the search of the desk: the trial is as it was, the best is the best -/
def KSr (t : Sg) (F : Sg → Sg) (nl : Rg → List Rg) : Prop := ∀ (s : Sg) (L M : Rg), Stat s t → RepS s t 11 L → RepS s t 17 M → Ok t L → Ok t M → RepS (F s) t 11 L ∧ Ad s (F s) ∧ RepS (F s) t 17 ((nl L).foldl (stp t) M)
theorem k_loop {t : Sg} (hM : MS t) (hN : Nb t) {F : Sg → Sg} {nl : Rg → List Rg} (hF : KSr t F nl) (hm : ∀ L N, Ok t L → N ∈ nl L → Ok t N) {L : Rg} (hO : Ok t L) : ∀ (m k : Nat) (s : Sg) (M : Rg), m + k ≤ ix (t 41 3) → Stat s t → RepS s t 11 L → RepS s t 17 M → Ok t M → RepS (fKl F (ix (t 41 23)) m k s) t 11 L ∧ Ad s (fKl F (ix (t 41 23)) m k s) ∧ RepS (fKl F (ix (t 41 23)) m k s) t 17 ((ndl nl t L m k).foldl (stp t) M)
  | 0, _, s, M, _, _, hR, hB, _ => ⟨hR, Ad.rf s, hB⟩
  | m + 1, k, s, M, hk, hS, hR, hB, hOM => by
    have hc := hM.nc
    have hk6 : k < 6 := by omega
    have hw : fr_X4_reasonAgainst s 11 (nI k) = aWhy t k L := s_why hS hM hN hR (hO.endb hM hN) hk6
    unfold fKl ndl
    rw [hw]
    by_cases c : aWhy t k L = 45
    · rw [if_pos c, if_pos c, List.foldl_append]
      have R1 := s_putT hS hM hN hO hR hk6 c
      have a1 := ar_putOn s (nI k) (ix (t 41 23))
      have B1 : RepS (fs_X4_putOn s 11 (nI k) (ix (t 41 23))) t 17 M := hB.cong fun c k h1 h2 => a1 c k (by omega)
      have S1 : Stat (fs_X4_putOn s 11 (nI k) (ix (t 41 23))) t := hS.ad (at_putOn _ _ _).ad
      have O1 : Ok t (aPut t k L) := hO.put (by omega) c
      obtain ⟨h1, h2, h3⟩ := hF _ _ M S1 R1 B1 O1 hOM
      have S2 := S1.ad h2
      have R3 := s_takeT isR11 S2 hM h1 hk6 c
      have a3 := ar_take (F (fs_X4_putOn s 11 (nI k) (ix (t 41 23))))
      have B3 := h3.cong (u := fs_X4_takeLastOff (F (fs_X4_putOn s 11 (nI k) (ix (t 41 23)))) 11) fun c k h1 h2 => a3 c k (by omega)
      have S3 := S2.ad (at_take _).ad
      obtain ⟨i1, i2, i3⟩ := k_loop hM hN hF hm hO m (k + 1) _ _ (by omega) S3 R3 B3 (fold_ok _ M hOM (fun N hN => hm _ N O1 hN))
      exact ⟨i1, (((at_putOn _ _ _).ad.tr h2).tr (at_take _).ad).tr i2, i3⟩
    · rw [if_neg c, if_neg c, List.nil_append]
      exact k_loop hM hN hF hm hO m (k + 1) s M (by omega) hS hR hB hOM
theorem s_kb {s t : Sg} {L M : Rg} (hM : MS t) (hN : Nb t) (hS : Stat s t) (hR : RepS s t 11 L) (hB : RepS s t 17 M) (hO : Ok t L) (hOM : Ok t M) : RepS (fs_kb s) t 11 L ∧ Ad s (fs_kb s) ∧ RepS (fs_kb s) t 17 (stp t M L) := by
  refine ⟨?_, ad_kb s, ?_⟩
  · unfold fs_kb
    split
    · exact hR.cong fun c k h1 h2 => copy_out isR17 isR11 (by decide) c k (by omega)
    · exact hR
  · unfold fs_kb stp
    rw [s_better hS hM hN hO hOM hR hB]
    by_cases c : btr t L M = true
    · rw [if_pos c, if_pos c]
      exact RepS.copy isR17 isR11 (by decide) hR
    · rw [if_neg c, if_neg c]
      exact hB
theorem s_K {t : Sg} (hM : MS t) (hN : Nb t) (ht : ¬ t 41 23 < 0) : ∀ d, KSr t (fK (ix (t 41 23)) d) (nds t (d + 1))
  | 0 => fun s L M hS hR hB hO hOM => by
    rw [nds_1]
    exact s_kb hM hN hS hR hB hO hOM
  | d + 1 => fun s L M hS hR hB hO hOM => by
    obtain ⟨h1, h2, h3⟩ := s_kb hM hN hS hR hB hO hOM
    have S1 := hS.ad h2
    have e8 : s 0 8 = t 41 3 := hS.1.2.1
    have O1 : Ok t (stp t M L) := by
      rcases stp_or t M L with e | e <;> rw [e]
      · exact hOM
      · exact hO
    unfold fK
    rw [e8]
    show _ ∧ _ ∧ RepS _ t 17 ((ndl (nds t (d + 1)) t L (ix (t 41 3)) 0).foldl (stp t) (stp t M L))
    by_cases c : fb_kc (fs_kb s) (ix (t 41 23)) = true
    · rw [if_pos c]
      obtain ⟨i1, i2, i3⟩ := k_loop hM hN (s_K hM hN ht d) (fun L N hL hN => (nds_mem _ L hL hN).elim fun K h => h.2) hO (ix (t 41 3)) 0 (fs_kb s) _ (by omega) S1 h1 h3 O1
      exact ⟨i1, h2.tr i2, i3⟩
    · rw [if_neg c]
      refine ⟨h1, h2, ?_⟩
      rw [fold_stay _ (fun N hn => ?_)]
      · exact h3
      · obtain ⟨j, j1, j2, j3, j4⟩ := ndl_mem _ _ hn
        obtain ⟨K, e, o⟩ := nds_mem (d + 1) (aPut t j L) (hO.put (by omega) j3) j4
        have e2 : N = (K ++ [(j, aBeg t j L, aWk t j L)]) ++ L := by rw [e, List.append_assoc]; rfl
        rw [e2] at o ⊢
        exact prune S1 hM hN h1 h3 (hM.tn ht) o c
theorem bst_mem {t : Sg} {L : Rg} (hO : Ok t L) : ∃ K, bst t L = K ++ L ∧ Ok t (bst t L) := by
  unfold bst
  exact fold_ok (P := fun N => ∃ K, N = K ++ L ∧ Ok t N) _ L ⟨[], rfl, hO⟩ (fun N hN => nds_mem 7 L hO hN)
theorem bst_no {t : Sg} (ht : t 41 23 < 0) (L : Rg) : bst t L = L := by
  unfold bst
  rw [nds_no ht]
  exact stp_self t L
/-- findBest -/
theorem s_find {s t : Sg} {L : Rg} (hM : MS t) (hN : Nb t) (hS : Stat s t) (hR : RepS s t 5 L) (hO : Ok t L) : Ad s (fs_X4_findBest s) ∧ RepS (fs_X4_findBest s) t 17 (bst t L) := by
  have a1 : Ad s (fs_copy s 17 5) := ad_copy (Or.inr rfl) isR5 (by decide)
  have R1 : RepS (fs_copy s 17 5) t 17 L := RepS.copy isR17 isR5 (by decide) hR
  have S1 := hS.ad a1
  have e10 : fs_copy s 17 5 0 10 = t 41 23 := S1.1.2.2.2
  unfold fs_X4_findBest
  rw [e10]
  by_cases ht : t 41 23 < 0
  · rw [if_pos ht, bst_no ht]
    exact ⟨a1, R1⟩
  · rw [if_neg ht]
    have a2 : Ad (fs_copy s 17 5) (fs_copy (fs_copy s 17 5) 11 5) := ad_copy (Or.inl rfl) isR5 (by decide)
    have R5 : RepS (fs_copy s 17 5) t 5 L := hR.cong fun c k h1 h2 => a1 c k (by omega) (by omega)
    have R2 : RepS (fs_copy (fs_copy s 17 5) 11 5) t 11 L := RepS.copy isR11 isR5 (by decide) R5
    have B2 : RepS (fs_copy (fs_copy s 17 5) 11 5) t 17 L := R1.cong fun c k h1 h2 => copy_out isR11 isR5 (by decide) c k (by omega)
    obtain ⟨i1, i2, i3⟩ := s_K hM hN ht 6 _ L L (S1.ad a2) R2 B2 hO hO
    exact ⟨(a1.tr a2).tr i2, i3⟩
/-- the tries find the same worth -/
theorem mxs_stp (t : Sg) (M N : Rg) : mxs t (aWorth t M) N = aWorth t (stp t M N) := by
  unfold mxs stp btr
  by_cases c : aWorth t N = aWorth t M
  · rw [if_pos c, if_neg (by rw [c]; exact Int32.lt_irrefl)]
    by_cases d : (if aEnd t N = aEnd t M then (if aCost t N < aCost t M then true else false) else (if aEnd t N < aEnd t M then true else false)) = true
    · rw [if_pos d, c]
    · rw [if_neg d]
  · rw [if_neg c]
    by_cases d : aWorth t M < aWorth t N
    · rw [if_pos d, if_pos d, if_pos rfl]
    · rw [if_neg d, if_neg d, if_neg (by decide)]
theorem mxs_fold (t : Sg) : ∀ (l : List Rg) (M : Rg), l.foldl (mxs t) (aWorth t M) = aWorth t (l.foldl (stp t) M)
  | [], _ => rfl
  | x :: l, M => by rw [List.foldl_cons, List.foldl_cons, mxs_stp, mxs_fold t l]
theorem mxs_all {t : Sg} {L : Rg} (hM : MS t) (hN : Nb t) (hO : Ok t L) : (nds t 7 L).foldl (mxs t) 0 = aWorth t (bst t L) := by
  have w := worth_b hN L (ok6 hM hO) (hO.len hM)
  have e : mxs t 0 L = aWorth t L := by
    unfold mxs
    by_cases c : 0 < aWorth t L
    · rw [if_pos c]
    · rw [if_neg c]
      rw [Int32.lt_iff_toInt_lt] at c
      have z0 : (0 : Int32).toInt = 0 := rfl
      exact Int32.toInt_inj.mp (by omega)
  unfold bst
  show (ndl (nds t 6) t L (ix (t 41 3)) 0).foldl (mxs t) (mxs t 0 L) = aWorth t ((ndl (nds t 6) t L (ix (t 41 3)) 0).foldl (stp t) (stp t L L))
  rw [e, stp_self, mxs_fold]
