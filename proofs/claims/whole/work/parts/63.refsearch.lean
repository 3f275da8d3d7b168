theorem RepT.cong {u v : Sg} {L : Rg} (h : RepT u L) (e : v 41 24 = u 41 24) (e1 : ∀ c k, 62 ≤ c → c < 65 → k < L.length → v c k = u c k) : RepT v L := ⟨by rw [e]; exact h.1, h.2.1, h.2.2.1.cong e1, h.2.2.2⟩
theorem RepT.pop {u : Sg} {x : Nat × Int32 × Int32} {L : Rg} (h : RepT u (x :: L)) : RepT (up u 41 24 (u 41 24 - 1)) L := by
  refine ⟨?_, Nat.le_of_succ_le h.2.1, h.2.2.1.2.cong fun c k h1 h2 _ => up_ne _ _ (by omega), fun y hy => h.2.2.2 y (List.mem_cons_of_mem _ hy)⟩
  rw [up_at, h.1]
  exact nI_pred L.length
theorem rs_hput {s : Sg} {p b w : Int32} : rs (hput s p b w) = rs s := rs_of fun c k h => hput_o c k (by omega)
theorem rs_up24 {s : Sg} {v : Int32} : rs (up s 41 24 v) = rs s := rs_of fun c k h => up_ne _ _ (by omega)
/-- the search over the rigs that can come of L -/
def RSr (t : Sg) (F : Sg → Sg) (nl : Rg → List Rg) : Prop := ∀ (u : Sg) (L : Rg) (n : Nat) (b : Rg), rs u = rs t → RepT u L → Ok t L → n + (nl L).length < 2 ^ 31 → BS t u n b → BS t (F u) ((nl L).foldl (st2 t) (n, b)).1 ((nl L).foldl (st2 t) (n, b)).2
theorem fold_n (t : Sg) : ∀ (l : List Rg) (z : Nat × Rg), (l.foldl (st2 t) z).1 = z.1 + l.length
  | [], _ => rfl
  | x :: l, z => by
    rw [List.foldl_cons, fold_n t l, List.length_cons]
    show z.1 + 1 + l.length = _
    omega
theorem r_loop {t : Sg} (hM : MS t) (hN : Nb t) {F : Sg → Sg} {nl : Rg → List Rg} (hF : RSr t F nl) (aF : ∀ s, MI s → RI s → Ag (ix (s 41 24)) s (F s)) {L : Rg} (hO : Ok t L) : ∀ (m k : Nat) (u : Sg) (n : Nat) (b : Rg), m + k ≤ ix (t 41 3) → rs u = rs t → RepT u L → n + (ndl nl t L m k).length < 2 ^ 31 → BS t u n b → BS t (fTl F m k u) ((ndl nl t L m k).foldl (st2 t) (n, b)).1 ((ndl nl t L m k).foldl (st2 t) (n, b)).2
  | 0, _, _, _, _, _, _, _, _, hB => hB
  | m + 1, k, u, n, b, hk, hs, hR, hn, hB => by
    have hc := hM.nc
    have hw : fr_X5_why u (nI k) = aWhy t k L := by rw [t_why ((sa_MS hs).mpr hM) ((sa_Nb hs).mpr hN) hR (by omega), sa_why hs]
    unfold fTl ndl
    unfold ndl at hn
    rw [hw]
    by_cases c : aWhy t k L = 45
    · rw [if_pos c, if_pos c, List.foldl_append]
      rw [if_pos c, List.length_append] at hn
      have hk6 : k < 6 := by omega
      have hroom : L.length < 6 := hO.room hM hk6 (fun z => (why45a c).2.1 (aHas_iff.mpr z))
      have O1 : Ok t (aPut t k L) := hO.put (by omega) c
      have R1 : RepT (fs_X5_hangs u (nI k)) (aPut t k L) := by rw [← sa_put hs]; exact t_hangs hR hk6 hroom
      have s1 : rs (fs_X5_hangs u (nI k)) = rs t := by rw [hangs_eq, rs_hput, hs]
      have B1 : BS t (fs_X5_hangs u (nI k)) n b := by
        rw [hangs_eq]
        exact hB.cong (fun j h1 h2 => hput_o 41 j (by omega)) (fun j => hput_o 65 j (by omega))
      have h2 := hF _ _ n b s1 R1 O1 (by omega) B1
      have a := aF _ (((sa_MS s1).mpr hM).mi R1) (O1.ri s1 R1)
      have hl1 : ix (fs_X5_hangs u (nI k) 41 24) = (aPut t k L).length := by rw [R1.1, nI_ix (by have := R1.2.1; omega)]
      have R2 : RepT (F (fs_X5_hangs u (nI k))) (aPut t k L) := R1.cong (a.f 24 (by decide)) (fun c j q1 q2 q3 => a.o c j ⟨q1, q2⟩ (by rw [hl1]; exact q3))
      have R3 : RepT (up (F (fs_X5_hangs u (nI k))) 41 24 (F (fs_X5_hangs u (nI k)) 41 24 - 1)) L := RepT.pop R2
      have s3 : rs (up (F (fs_X5_hangs u (nI k))) 41 24 (F (fs_X5_hangs u (nI k)) 41 24 - 1)) = rs t := by rw [rs_up24, a.rs, s1]
      have en := fold_n t (nl (aPut t k L)) (n, b)
      exact r_loop hM hN hF aF hO m (k + 1) _ _ _ (by omega) s3 R3 (by rw [en]; omega) (h2.cong (fun j q1 q2 => up_ne _ _ (by omega)) (fun j => up_ne _ _ (by omega)))
    · rw [if_neg c, if_neg c, List.nil_append]
      rw [if_neg c, List.nil_append] at hn
      exact r_loop hM hN hF aF hO m (k + 1) u n b (by omega) hs hR hn hB
theorem r_T {t : Sg} (hM : MS t) (hN : Nb t) : ∀ d, RSr t (fT d) (nds t d)
  | 0 => fun _ _ _ _ _ _ _ _ hB => hB
  | d + 1 => fun u L n b hs hR hO hn hB => by
    have hB1 := r_take hM hs hR hB (by
      have : (nds t (d + 1) L).length = (ndl (nds t d) t L (ix (t 41 3)) 0).length + 1 := rfl
      omega)
    have a := ag_take (h := ix (u 41 24)) u
    have hl : ix (u 41 24) = L.length := by rw [hR.1, nI_ix (by have := hR.2.1; omega)]
    have s1 : rs (fs_take u) = rs t := by rw [a.rs, hs]
    have R1 : RepT (fs_take u) L := hR.cong (a.f 24 (by decide)) (fun c j q1 q2 q3 => a.o c j ⟨q1, q2⟩ (by rw [hl]; exact q3))
    have e3 : ix (u 41 3) = ix (t 41 3) := by rw [rs_at hs 41 3 (by decide)]
    unfold fT
    rw [e3]
    exact r_loop hM hN (r_T hM hN d) (ag_fT d) hO (ix (t 41 3)) 0 (fs_take u) (n + 1) _ (by omega) s1 R1 (by
      have : (nds t (d + 1) L).length = (ndl (nds t d) t L (ix (t 41 3)) 0).length + 1 := rfl
      omega) hB1
theorem ndl_len {F : Rg → List Rg} {m : Nat} (h : ∀ L, (F L).length ≤ m) (t : Sg) (L : Rg) : ∀ (n k : Nat), (ndl F t L n k).length ≤ n * m
  | 0, _ => Nat.zero_le _
  | n + 1, k => by
    have ih := ndl_len h t L n (k + 1)
    unfold ndl
    rw [List.length_append, Nat.succ_mul]
    split
    · have := h (aPut t k L); omega
    · simp; omega
def nmx : Nat → Nat
  | 0 => 0
  | d + 1 => 1 + 6 * nmx d
theorem nds_len {t : Sg} (hM : MS t) : ∀ (d : Nat) (L : Rg), (nds t d L).length ≤ nmx d
  | 0, _ => Nat.le_refl 0
  | d + 1, L => by
    have h := ndl_len (nds_len hM d) t L (ix (t 41 3)) 0
    have h2 := Nat.mul_le_mul_right (nmx d) hM.nc
    show (ndl (nds t d) t L (ix (t 41 3)) 0).length + 1 ≤ 1 + 6 * nmx d
    omega
theorem nds7 {t : Sg} (hM : MS t) (L : Rg) : (nds t 7 L).length < 60000 := Nat.lt_of_le_of_lt (nds_len hM 7 L) (by decide)
/-- the reference's search: how many rigs, the best of them -/
def bst (t : Sg) (L : Rg) : Rg := (nds t 7 L).foldl (stp t) L
theorem btr_self (t : Sg) (L : Rg) : btr t L L = false := by
  unfold btr
  rw [if_pos rfl, if_pos rfl, if_neg Int32.lt_irrefl]
theorem stp_self (t : Sg) (L : Rg) : stp t L L = L := by
  unfold stp
  split <;> rfl
theorem fold_st2 (t : Sg) : ∀ (l : List Rg) (z : Nat × Rg), 0 < z.1 → (l.foldl (st2 t) z).2 = l.foldl (stp t) z.2
  | [], _, _ => rfl
  | x :: l, z, h => by
    rw [List.foldl_cons, List.foldl_cons, fold_st2 t l _ (by show 0 < z.1 + 1; omega)]
    show List.foldl (stp t) (if z.1 = 0 then x else stp t z.2 x) l = _
    rw [if_neg (by omega)]
theorem fold_all (t : Sg) (L : Rg) (b : Rg) : ((nds t 7 L).foldl (st2 t) (0, b)).2 = bst t L := by
  unfold bst
  show (List.foldl (st2 t) (st2 t (0, b) L) (ndl (nds t 6) t L (ix (t 41 3)) 0)).2 = List.foldl (stp t) (stp t L L) (ndl (nds t 6) t L (ix (t 41 3)) 0)
  rw [fold_st2 t _ _ (by show 0 < 0 + 1; omega), stp_self]
  rfl
theorem r_searches {t u : Sg} {L : Rg} (hM : MS t) (hN : Nb t) (hs : rs u = rs t) (hR : RepT u L) (hO : Ok t L) : BS t (fs_X5_searches u) (nds t 7 L).length (bst t L) ∧ rs (fs_X5_searches u) = rs t ∧ RepT (fs_X5_searches u) L := by
  have a0 := ag_s0 (h := ix (u 41 24)) u
  have hl : ix (u 41 24) = L.length := by rw [hR.1, nI_ix (by have := hR.2.1; omega)]
  have s1 : rs (s0_ u) = rs t := by rw [a0.rs, hs]
  have R1 : RepT (s0_ u) L := hR.cong (a0.f 24 (by decide)) (fun c j q1 q2 q3 => a0.o c j ⟨q1, q2⟩ (by rw [hl]; exact q3))
  have hn := nds7 hM L
  have h := r_T hM hN 7 (s0_ u) L 0 L s1 R1 hO (by omega) ⟨by unfold s0_; rw [up_at]; rfl, fun z => absurd z (by decide)⟩
  rw [fold_n, fold_all] at h
  have a := ag_searches (((sa_MS hs).mpr hM).mi hR) (hO.ri hs hR)
  refine ⟨?_, by rw [a.rs, hs], hR.cong (a.f 24 (by decide)) (fun c j q1 q2 q3 => a.o c j ⟨q1, q2⟩ (by rw [hl]; exact q3))⟩
  rw [show (0, L).1 + (nds t 7 L).length = (nds t 7 L).length from Nat.zero_add _] at h
  exact h
