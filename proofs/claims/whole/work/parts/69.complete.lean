/-! the reference hangs the best again -/
theorem cmp_f : ∀ (n : Nat) (s : Sg) (c k : Nat), (c ≠ 41 ∧ c ≠ 62 ∧ c ≠ 63 ∧ c ≠ 64) ∨ (c = 41 ∧ k ≠ 24) → fl_cmp n s c k = s c k
  | 0, _, _, _, _ => rfl
  | n + 1, s, c, k, h => by
    show fl_cmp n (fs_X5_hangs s _) c k = _
    rw [cmp_f n _ c k h, hangs_eq, hput_o c k h]
theorem rowb_app {u : Sg} {L : Rg} : ∀ (K : Rg), RowB u (K ++ L) → RowB u L
  | [], h => h
  | _ :: K, h => rowb_app K h.2
theorem cmp_rep {t : Sg} (hM : MS t) : ∀ (J L : Rg) (u : Sg), rs u = rs t → RepT u L → Ok t (List.reverseAux J L) → RowB u (List.reverseAux J L) → RepT (fl_cmp J.length u) (List.reverseAux J L) ∧ rs (fl_cmp J.length u) = rs t
  | [], _, _, hs, hR, _, _ => ⟨hR, hs⟩
  | x :: J, L, u, hs, hR, hO, hB => by
    have e : List.reverseAux (x :: J) L = J.reverse ++ (x :: L) := by
      show List.reverseAux J (x :: L) = _
      rw [List.reverseAux_eq]
    have O1 : Ok t (x :: L) := ext_ok J.reverse (by rw [← e]; exact hO)
    have B1 : RowB u (x :: L) := rowb_app J.reverse (by rw [← e]; exact hB)
    have hp := (Ok.lt hM O1 x List.mem_cons_self).2
    have hl : ix (u 41 24) = L.length := by rw [hR.1, nI_ix (by have := hR.2.1; omega)]
    have hroom : L.length < 6 := by
      have := O1.len hM
      rw [List.length_cons] at this
      omega
    have ex : aPut u x.1 L = x :: L := by rw [sa_put hs]; unfold aPut; rw [← O1.1.2.1]
    have R1 : RepT (fs_X5_hangs u (nI x.1)) (x :: L) := by rw [← ex]; exact t_hangs hR hp hroom
    have s1 : rs (fs_X5_hangs u (nI x.1)) = rs t := by rw [hangs_eq, rs_hput, hs]
    show RepT (fl_cmp J.length (fs_X5_hangs u (u 65 (ix (u 41 24))))) (List.reverseAux J (x :: L)) ∧ rs (fl_cmp J.length (fs_X5_hangs u (u 65 (ix (u 41 24))))) = rs t
    rw [hl, B1.1]
    refine cmp_rep hM J (x :: L) _ s1 R1 hO (RowB.cong hB fun k _ => ?_)
    rw [hangs_eq]
    exact hput_o 65 k (by omega)
theorem cmp_all {t u : Sg} {K L : Rg} (hM : MS t) (hs : rs u = rs t) (hR : RepT u L) (hO : Ok t (K ++ L)) (hB : RowB u (K ++ L)) : RepT (fl_cmp K.length u) (K ++ L) ∧ rs (fl_cmp K.length u) = rs t := by
  have e : List.reverseAux K.reverse L = K ++ L := by rw [List.reverseAux_eq, List.reverse_reverse]
  have h := cmp_rep hM K.reverse L u hs hR (by rw [e]; exact hO) (by rw [e]; exact hB)
  rw [e, List.length_reverse] at h
  exact h
theorem bo_of {t u : Sg} {n : Nat} {b L : Rg} (hM : MS t) (hn : 0 < n) (hB : BS t u n b) (hO : Ok t b) (hR : RepT u L) (ht : t 41 23 < 0 → b = L) (hs : rs u = rs t) : BO u := by
  obtain ⟨⟨h1, h2, h3, h4⟩, h5⟩ := hB.2 hn
  have hl := hO.len hM
  refine ⟨⟨b.length, hl, h4⟩, fun k hk hlt => ?_, fun hlt => ?_⟩
  · rw [h4, nI_lt_iff (by omega) (by omega)] at hlt
    have : ∀ (M : Rg), RowB u M → (∀ x, x ∈ M → x.1 < 6) → k < M.length → vp_in (u 65 k) 6 := by
      intro M
      induction M with
      | nil => intro _ _ h; exact absurd h (Nat.not_lt_zero _)
      | cons x M ih =>
        intro hr h6 hk1
        rcases Nat.lt_or_ge k M.length with z | z
        · exact ih hr.2 (fun y hy => h6 y (List.mem_cons_of_mem _ hy)) z
        · have e : k = M.length := by
            rw [List.length_cons] at hk1
            omega
          rw [e, hr.1]
          exact in_nI (h6 x List.mem_cons_self) (by decide)
    exact this b h5 (ok6 hM hO) hlt
  · rw [rs_at hs 41 23 (by omega)]
    intro z
    rw [h4, hR.1, ht z] at hlt
    exact absurd hlt Int32.lt_irrefl
/-! what may be borne is not passed; who is needed hangs before -/
theorem may_b {t : Sg} (hN : Nb t) (ht : ix (t 41 23) < 4) {q : Int32} (hq : ix q < 8) : 0 ≤ (fr_X5_may t q).toInt ∧ (fr_X5_may t q).toInt ≤ 500000 := by
  have a := (hN.2.2.2.1 _ hq).2
  have b := (hN.2.2.1 _ ht).1.1
  have m := mul_b a.1 a.2 b.1 b.2
  unfold fr_X5_may
  rw [Int32.toInt_div_of_ne_right _ _ (by decide), mul_toInt2 5000 100 a.1 a.2 b.1 b.2 (by decide), show (100 : Int32).toInt = 100 from rfl]
  rw [Int.tdiv_eq_ediv_of_nonneg m.1]
  omega
theorem ok_may {t : Sg} (hM : MS t) (hN : Nb t) (ht : ix (t 41 23) < 4) {q : Nat} (hq : q < 8) : ∀ {L : Rg}, Ok t L → (aBorne t (nI q) L).toInt ≤ (fr_X5_may t (nI q)).toInt
  | [], _ => (may_b hN ht (by rw [nI_ix (by omega)]; exact hq)).1
  | x :: L, h => by
    have ih := ok_may hM hN ht hq h.2
    have hp := (Ok.lt hM h x List.mem_cons_self).2
    obtain ⟨c1, c2, c3, c4, c5, c6, c7⟩ := why45a h.1.2.2
    show (aBorne t (nI q) L + fr_X5_load t (nI x.1) (nI q)).toInt ≤ _
    by_cases e1 : nI q = t 49 x.1
    · have : ¬ fr_X5_may t (t 49 x.1) < aBorne t (t 49 x.1) L + fr_X5_load t (nI x.1) (t 49 x.1) := fun z => c6 (Or.inl z)
      rw [← e1, Int32.lt_iff_toInt_lt] at this
      omega
    · by_cases e2 : nI q = t 50 x.1
      · have : ¬ fr_X5_may t (t 50 x.1) < aBorne t (t 50 x.1) L + fr_X5_load t (nI x.1) (t 50 x.1) := fun z => c6 (Or.inr z)
        rw [← e2, Int32.lt_iff_toInt_lt] at this
        omega
      · have z : fr_X5_load t (nI x.1) (nI q) = 0 := by
          unfold fr_X5_load
          rw [nI_ix (by omega), if_neg c3, if_neg e1, if_neg e2]
        rw [z, Int32.add_zero]
        exact ih
theorem npo_all {s t : Sg} {L : Rg} (hS : Stat s t) (hM : MS t) (hN : Nb t) (hO : Ok t L) (h : RepS s t 5 L) (ht : ix (t 41 23) < 4) : ∀ (n k : Nat), n + k ≤ 8 → fl_npo s (ix (t 41 23)) n k = true
  | 0, _, _ => rfl
  | n + 1, k, hk => by
    unfold fl_npo
    rw [if_neg, npo_all hS hM hN hO h ht n (k + 1) (by omega)]
    have hi : ix (nI k) = k := nI_ix (by omega)
    have hi8 : ix (nI k) < 8 := by rw [hi]; omega
    have m := may_b hN ht hi8
    have o := ok_may hM hN ht (show k < 8 by omega) hO
    have b := borne_ok hM hN (nI k) hO
    unfold fr_X4_leftAt
    rw [s_allows hS ht hi8, hi, h.2.2.2.2 k (by omega), Int32.lt_iff_toInt_lt, sub_toInt2 (by omega) (by omega)]
    have z0 : (0 : Int32).toInt = 0 := rfl
    omega
theorem snd_all {t u : Sg} {L : Rg} (hM : MS t) (hN : Nb t) (hO : Ok t L) (hs : rs u = rs t) (h : RepT u L) (ht : ix (t 41 23) < 4) : ∀ (n k : Nat), n + k ≤ 8 → fl_X5_isSound u n k = true
  | 0, _, _ => rfl
  | n + 1, k, hk => by
    unfold fl_X5_isSound
    have o := ok_may hM hN ht (show k < 8 by omega) hO
    rw [if_neg, snd_all hM hN hO hs h ht n (k + 1) (by omega)]
    rw [show ix (u 41 24) = L.length by rw [h.1, nI_ix (by have := h.2.1; omega)], borne_rep h.2.2.1, sa_borne hs, sa_may hs, Int32.lt_iff_toInt_lt]
    omega
/-- the bits of the first pieces of a rig -/
def bef (s : Sg) : Nat → Int32
  | 0 => 0
  | n + 1 => bef s n ||| (1 <<< (s 6 n &&& 31))
theorem nhb_iff (s : Sg) : ∀ (n k : Nat), (∀ j, k ≤ j → j < k + n → s (31 + ix (s 6 j)) 8 &&& (bef s j ^^^ (-1)) = 0) → fl_nhb s n k (bef s k) = true
  | 0, _, _ => rfl
  | n + 1, k, h => by
    unfold fl_nhb
    rw [if_pos (h k (Nat.le_refl _) (by omega))]
    exact nhb_iff s n (k + 1) (fun j h1 h2 => h j (by omega) (by omega))
theorem bef_rep {s t : Sg} : ∀ {L : Rg}, (∀ x, x ∈ L → x.1 < 6) → RS s t 5 L → st64 (bef s L.length) ∧ ∀ p, p < 6 → (bitb (bef s L.length) p = true ↔ has L p)
  | [], _, _ => ⟨⟨0, by decide, rfl⟩, fun p hp => ⟨fun z => by
      have := bits_zero ⟨p, hp⟩
      rw [show bitb (bef s (List.length ([] : Rg))) p = bitb 0 p from rfl, this] at z
      exact absurd z (by decide), fun ⟨x, hx, _⟩ => nomatch hx⟩⟩
  | x :: L, h6, h => by
    obtain ⟨i1, i2⟩ := bef_rep (fun y hy => h6 y (List.mem_cons_of_mem _ hy)) h.2
    have hx := h6 x List.mem_cons_self
    show st64 (bef s L.length ||| (1 <<< (s 6 L.length &&& 31))) ∧ ∀ p, p < 6 → (bitb (bef s L.length ||| (1 <<< (s 6 L.length &&& 31))) p = true ↔ has (x :: L) p)
    rw [show s 6 L.length = nI x.1 from h.1.1]
    exact ⟨i1.or hx, fun p hp => by rw [bit_or i1 hx hp, i2 p hp, has_cons]⟩
theorem nhb_at {s t : Sg} (hS : Stat s t) (hM : MS t) (hN : Nb t) : ∀ {L : Rg}, Ok t L → RS s t 5 L → ∀ j, j < L.length → s (31 + ix (s 6 j)) 8 &&& (bef s j ^^^ (-1)) = 0
  | [], _, _, j, hj => absurd hj (Nat.not_lt_zero _)
  | x :: L, hO, h, j, hj => by
    rcases Nat.lt_or_ge j L.length with z | z
    · exact nhb_at hS hM hN hO.2 h.2 j z
    · have e : j = L.length := by
        have : j < L.length + 1 := hj
        omega
      have hp := (Ok.lt hM hO x List.mem_cons_self).2
      obtain ⟨c1, c2, c3, c4, c5, c6, c7⟩ := why45a hO.1.2.2
      obtain ⟨i1, i2⟩ := bef_rep (ok6 hM hO.2) h.2
      have e9 := (hN.1 x.1 hp).2.2.1
      rw [e, show s 6 L.length = nI x.1 from h.1.1, nI_ix (by omega), (hS.2.2.1 x.1 hp).1.2.2.2.2.1, bit_sub e9.1 i1]
      intro q hq hb
      rw [i2 q hq]
      exact Classical.byContradiction fun w => c4 (aLk_iff.mpr ⟨q, hq, hb, w⟩)
theorem nhb_all {s t : Sg} {L : Rg} (hS : Stat s t) (hM : MS t) (hN : Nb t) (hO : Ok t L) (h : RepS s t 5 L) : fl_nhb s (ix (s 5 5)) 0 0 = true := by
  rw [h.1.1, nI_ix (by have := h.1.2.1; omega)]
  exact nhb_iff s L.length 0 (fun j h1 h2 => nhb_at hS hM hN hO h.1.2.2.1 j (by omega))
