/-! the desk's rigs: what leaves them, copies, costs, which is better -/
theorem RepS.cong {s t u : Sg} {r : Nat} {L : Rg} (h : RepS s t r L) (e : ∀ c k, r ≤ c → c ≤ r + 5 → u c k = s c k) : RepS u t r L := by
  obtain ⟨⟨h1, h2, h3, h4⟩, h5, h6, h7, h8⟩ := h
  refine ⟨⟨?_, h2, h3.cong h4 (fun c k q1 q2 _ => e c k (by omega) (by omega)) (fun _ _ => rfl), h4⟩, ?_, fun j hj => ?_, ?_, fun q hq => ?_⟩
  · rw [e r 5 (by omega) (by omega)]; exact h1
  · rw [e r 6 (by omega) (by omega)]; exact h5
  · rw [e r 6 (by omega) (by omega)]; exact h6 j hj
  · rw [e r 7 (by omega) (by omega)]; exact h7
  · rw [e _ q (by omega) (by omega)]; exact h8 q hq
theorem RepS.sa {s t u : Sg} {r : Nat} {L : Rg} (hs : rs u = rs t) (h : RepS s t r L) : RepS s u r L := by
  obtain ⟨⟨h1, h2, h3, h4⟩, h5, h6, h7, h8⟩ := h
  refine ⟨⟨h1, h2, h3.cong h4 (fun _ _ _ _ _ => rfl) (fun p _ => rs_at hs 45 p (by omega)), h4⟩, h5, h6, ?_, fun q hq => ?_⟩
  · rw [h7, sa_worth hs]
  · rw [h8 q hq, sa_borne hs]
theorem Stat.sa {s t u : Sg} (hs : rs u = rs t) (h : Stat s t) : Stat s u := by
  obtain ⟨⟨h1, h2, h3, h4⟩, h5, h6, h7, h8⟩ := h
  refine ⟨⟨?_, ?_, ?_, ?_⟩, fun i hi => ?_, fun p hp => ?_, fun i hi => ?_, fun i hi => ?_⟩
  · rw [rs_at hs 41 0 (by omega)]; exact h1
  · rw [rs_at hs 41 3 (by omega)]; exact h2
  · rw [rs_at hs 41 15 (by omega)]; exact h3
  · rw [rs_at hs 41 23 (by omega)]; exact h4
  · rw [rs_at hs 42 i (by omega), rs_at hs 43 i (by omega)]; exact h5 i hi
  · unfold Pcs
    rw [rs_at hs 44 p (by omega), rs_at hs 45 p (by omega), rs_at hs 46 p (by omega), rs_at hs 47 p (by omega), rs_at hs 53 p (by omega), rs_at hs 48 p (by omega), rs_at hs 49 p (by omega), rs_at hs 50 p (by omega), sa_load hs, sa_load hs]
    exact h6 p hp
  · rw [rs_at hs 54 i (by omega)]; exact h7 i hi
  · unfold Twn
    rw [rs_at hs 55 i (by omega), rs_at hs 56 i (by omega), rs_at hs 57 i (by omega), rs_at hs 58 i (by omega), rs_at hs 59 i (by omega), rs_at hs 60 i (by omega), rs_at hs 61 i (by omega)]
    exact h8 i hi
/-- what the desk holds of the show and the towns -/
theorem Stat.cong {s t u : Sg} (h : Stat s t) (e : ∀ c k, (c = 0 ∧ 7 ≤ k ∧ k ≤ 10) ∨ c = 4 ∨ (23 ≤ c ∧ c < 41) → u c k = s c k) : Stat u t := by
  obtain ⟨⟨h1, h2, h3, h4⟩, h5, h6, h7, h8⟩ := h
  refine ⟨⟨?_, ?_, ?_, ?_⟩, fun i hi => ?_, fun p hp => ?_, fun i hi => ?_, fun i hi => ?_⟩
  · rw [e 0 7 (by omega)]; exact h1
  · rw [e 0 8 (by omega)]; exact h2
  · rw [e 0 9 (by omega)]; exact h3
  · rw [e 0 10 (by omega)]; exact h4
  · rw [e _ 0 (by omega), e _ 1 (by omega)]; exact h5 i hi
  · unfold Pcs
    rw [e _ 0 (by omega), e _ 1 (by omega), e _ 2 (by omega), e _ 3 (by omega), e _ 4 (by omega), e _ 5 (by omega), e _ 6 (by omega), e _ 7 (by omega), e _ 8 (by omega)]
    exact h6 p hp
  · rw [e 4 i (by omega)]; exact h7 i hi
  · unfold Twn
    rw [e _ 0 (by omega), e _ 1 (by omega), e _ 2 (by omega), e _ 3 (by omega), e _ 4 (by omega), e _ 5 (by omega), e _ 6 (by omega), e _ 7 (by omega)]
    exact h8 i hi
theorem Stat.ad {s t u : Sg} (h : Stat s t) (a : Ad s u) : Stat u t := h.cong fun c k hc => a c k (by omega) (by omega)
theorem RS.shift {s t u : Sg} {r q : Nat} : ∀ {L : Rg}, RS s t q L → (∀ i k, 1 ≤ i → i ≤ 4 → k < L.length → u (r + i) k = s (q + i) k) → RS u t r L
  | [], _, _ => trivial
  | x :: L, h, e => by
    refine ⟨⟨?_, ?_, ?_, ?_⟩, h.2.shift fun i k h1 h2 h3 => e i k h1 h2 (Nat.lt_succ_of_lt h3)⟩
    · rw [e 1 _ (by omega) (by omega) (Nat.lt_succ_self _)]; exact h.1.1
    · rw [e 2 _ (by omega) (by omega) (Nat.lt_succ_self _)]; exact h.1.2.1
    · rw [e 3 _ (by omega) (by omega) (Nat.lt_succ_self _)]; exact h.1.2.2.1
    · rw [e 4 _ (by omega) (by omega) (Nat.lt_succ_self _)]; exact h.1.2.2.2
theorem RepS.copy {s t : Sg} {r q : Nat} {L : Rg} (hr : isR r) (hq : isR q) (hne : r ≠ q) (h : RepS s t q L) : RepS (fs_copy s r q) t r L := by
  obtain ⟨⟨h1, h2, h3, h4⟩, h5, h6, h7, h8⟩ := h
  have e := copy_at hr hq hne s
  unfold isR at hr hq
  have e5 : ∀ k, 5 ≤ k → k ≤ 7 → fs_copy s r q r k = s q k := fun k k1 k2 => by rw [e, if_neg (by omega), if_neg (by omega), if_pos (by omega)]
  refine ⟨⟨?_, h2, h3.shift fun i k i1 i2 hk => ?_, h4⟩, ?_, fun j hj => ?_, ?_, fun p hp => ?_⟩
  · rw [e5 5 (by omega) (by omega)]; exact h1
  · rw [e, if_neg (by omega), if_pos (by omega), show r + i - r + q = q + i by omega]
  · rw [e5 6 (by omega) (by omega)]; exact h5
  · rw [e5 6 (by omega) (by omega)]; exact h6 j hj
  · rw [e5 7 (by omega) (by omega)]; exact h7
  · rw [e, if_pos (by omega)]; exact h8 p hp
theorem copy_out {s : Sg} {r q : Nat} (hr : isR r) (hq : isR q) (hne : r ≠ q) (c k : Nat) (h : c < r ∨ r + 5 < c ∨ (c = r ∧ k < 5)) : fs_copy s r q c k = s c k := by
  rw [copy_at hr hq hne, if_neg (by omega), if_neg (by omega), if_neg (by omega)]
/-- the cost of a piece, as the desk finds it -/
theorem term_eq {b m o r q : Int32} (hm : 5 ≤ m.toInt) :
    ((if 0 < (if o - b < m then o - b else m) then (if o - b < m then o - b else m) else 0) * r + (m - (if 0 < (if o - b < m then o - b else m) then (if o - b < m then o - b else m) else 0)) * q) =
    (if o - b < 0 then 0 * r + (m - 0) * q else if m < o - b then m * r + (m - m) * q else (o - b) * r + (m - (o - b)) * q) := by
  generalize o - b = x
  have z0 : (0 : Int32).toInt = 0 := rfl
  by_cases h1 : x < 0
  · have h1' := h1
    rw [Int32.lt_iff_toInt_lt] at h1'
    have h2 : x < m := by rw [Int32.lt_iff_toInt_lt]; omega
    have h3 : ¬ 0 < x := by rw [Int32.lt_iff_toInt_lt]; omega
    rw [if_pos h2, if_neg h3, if_pos h1]
  · rw [if_neg h1]
    rw [Int32.lt_iff_toInt_lt] at h1
    by_cases h2 : m < x
    · have h2' := h2
      rw [Int32.lt_iff_toInt_lt] at h2'
      have h3 : ¬ x < m := by rw [Int32.lt_iff_toInt_lt]; omega
      have h4 : 0 < m := by rw [Int32.lt_iff_toInt_lt]; omega
      rw [if_neg h3, if_pos h4, if_pos h2]
    · rw [if_neg h2]
      rw [Int32.lt_iff_toInt_lt] at h2
      by_cases h3 : x < m
      · rw [if_pos h3]
        by_cases h4 : 0 < x
        · rw [if_pos h4]
        · rw [if_neg h4]
          rw [Int32.lt_iff_toInt_lt] at h4
          have : x = 0 := Int32.toInt_inj.mp (by omega)
          rw [this]
      · rw [if_neg h3]
        rw [Int32.lt_iff_toInt_lt] at h3
        have e : m = x := Int32.toInt_inj.mp (by omega)
        have h4 : 0 < m := by rw [Int32.lt_iff_toInt_lt]; omega
        rw [if_pos h4, e]
theorem cbp_snoc (s : Sg) (r T : Nat) : ∀ (n k : Nat) (z : Int32), fl_cbp s r T (n + 1) k z = fl_cbp s r T n k z + (fe_cbp s r T (k + n) * s (37 + T) 5 + ((s (r + 3) (k + n) - s (r + 2) (k + n)) - fe_cbp s r T (k + n)) * s (37 + T) 7)
  | 0, _, _ => rfl
  | n + 1, k, z => by
    show fl_cbp s r T (n + 1) (k + 1) _ = fl_cbp s r T n (k + 1) _ + _
    rw [cbp_snoc s r T n (k + 1), show k + 1 + n = k + (n + 1) by omega]
theorem cbp_rep {s t : Sg} {r : Nat} (hS : Stat s t) (hM : MS t) (hN : Nb t) (ht : ix (t 41 23) < 4) : ∀ {L : Rg}, Ok t L → RS s t r L → fl_cbp s r (ix (t 41 23)) L.length 0 0 = aCost t L
  | [], _, _ => rfl
  | x :: L, hO, h => by
    have hp := Ok.lt hM hO x List.mem_cons_self
    have hm := ((hN.1 x.1 hp.2).2.1 hp.1).1
    obtain ⟨f0, f1, f2, f3, f4, f5, f6, f7⟩ := hS.2.2.2.2 _ ht
    show fl_cbp s r _ (L.length + 1) 0 0 = aCost t L + _
    have em : x.2.1 + t 45 x.1 - x.2.1 = t 45 x.1 := by rw [Int32.add_comm, Int32.add_sub_cancel]
    rw [cbp_snoc, cbp_rep hS hM hN ht hO.2 h.2, Nat.zero_add]
    unfold fe_cbp cT
    rw [h.1.2.1, h.1.2.2.1, em, f5, f6, f7, nI_ix (by omega), term_eq hm]
theorem s_cost {s t : Sg} {r : Nat} {L : Rg} (hS : Stat s t) (hM : MS t) (hN : Nb t) (hO : Ok t L) (h : RepS s t r L) : fv_cbp s r = aCost t L := by
  unfold fv_cbp
  rw [hS.1.2.2.2]
  by_cases ht : t 41 23 < 0
  · rw [if_pos ht, hO.town ht]; rfl
  · rw [if_neg ht, h.1.1, nI_ix (by have := h.1.2.1; omega)]
    exact cbp_rep hS hM hN (hM.tn ht) hO h.1.2.2.1
theorem s_better {s t : Sg} {r q : Nat} {L M : Rg} (hS : Stat s t) (hM : MS t) (hN : Nb t) (hO : Ok t L) (hO2 : Ok t M) (h : RepS s t r L) (h2 : RepS s t q M) : fb_X4_isBetter s r q = btr t L M := by
  unfold fb_X4_isBetter btr
  rw [s_cost hS hM hN hO h, s_cost hS hM hN hO2 h2, s_end h, s_end h2, h.2.2.2.1, h2.2.2.2.1]
/-! the tries -/
def At (s t : Sg) : Prop := ∀ c k, ¬ (11 ≤ c ∧ c < 17) → ¬ (c = 0 ∧ 11 ≤ k) → t c k = s c k
theorem At.rf (s : Sg) : At s s := fun _ _ _ _ => rfl
theorem At.tr {s t u : Sg} (a : At s t) (b : At t u) : At s u := fun c k h1 h2 => (b c k h1 h2).trans (a c k h1 h2)
theorem At.up {s t : Sg} (a : At s t) {c k : Nat} {v : Int32} (h : (11 ≤ c ∧ c < 17) ∨ (c = 0 ∧ 11 ≤ k)) : At s (up t c k v) := fun c1 k1 h1 h2 => by
  rw [up_ne _ _ (by omega)]; exact a c1 k1 h1 h2
theorem At.ad {s t : Sg} (a : At s t) : Ad s t := fun c k h1 h2 => a c k (by omega) h2
theorem at_putOn (s : Sg) (p : Int32) (t : Nat) : At s (fs_X4_putOn s 11 p t) := by
  unfold fs_X4_putOn
  split
  · split
    · exact At.rf s
    · split
      · exact At.rf s
      · repeat' first | exact At.rf s | refine At.up ?_ (by omega)
  · exact At.rf s
theorem at_take (s : Sg) : At s (fs_X4_takeLastOff s 11) := by
  unfold fs_X4_takeLastOff
  split
  · exact At.rf s
  · split
    · exact At.rf s
    · split
      · exact At.rf s
      · repeat' first | exact At.rf s | refine At.up ?_ (by omega)
/-- putOn and takeLastOff write the trial alone -/
def Ar (s t : Sg) : Prop := ∀ c k, ¬ (11 ≤ c ∧ c < 17) → t c k = s c k
theorem Ar.rf (s : Sg) : Ar s s := fun _ _ _ => rfl
theorem Ar.up {s t : Sg} (a : Ar s t) {c k : Nat} {v : Int32} (h : 11 ≤ c ∧ c < 17) : Ar s (up t c k v) := fun c1 k1 h1 => by
  rw [up_ne _ _ (by omega)]; exact a c1 k1 h1
theorem ar_putOn (s : Sg) (p : Int32) (t : Nat) : Ar s (fs_X4_putOn s 11 p t) := by
  unfold fs_X4_putOn
  split
  · split
    · exact Ar.rf s
    · split
      · exact Ar.rf s
      · repeat' first | exact Ar.rf s | refine Ar.up ?_ (by omega)
  · exact Ar.rf s
theorem ar_take (s : Sg) : Ar s (fs_X4_takeLastOff s 11) := by
  unfold fs_X4_takeLastOff
  split
  · exact Ar.rf s
  · split
    · exact Ar.rf s
    · split
      · exact Ar.rf s
      · repeat' first | exact Ar.rf s | refine Ar.up ?_ (by omega)
/-- the desk hangs a piece on its trial; it takes it off again -/
theorem s_putT {s t : Sg} {L : Rg} (hS : Stat s t) (hM : MS t) (hN : Nb t) (hO : Ok t L) (h : RepS s t 11 L) {k : Nat} (hk : k < 6) (c : aWhy t k L = 45) : RepS (fs_X4_putOn s 11 (nI k) (ix (t 41 23))) t 11 (aPut t k L) := by
  obtain ⟨c1, c2, c3, c4, c5, c6, c7⟩ := why45a c
  have hti := hM.tn c1
  have hz5 := (hN.2.2.1 _ hti).2.2 (hN.2.2.2.2 c1)
  have hz := (hN.2.2.1 _ hti).1.2.2.1
  obtain ⟨f1, f2, f3⟩ := hM.2.2.1 k hk c3
  exact s_putOn (Or.inr (Or.inl rfl)) hS h hk (hO.room hM hk (fun z => c2 (aHas_iff.mpr z))) c3 ⟨f1, f2⟩ (s_begin hS h hk (hM.2.2.2 k hk) (hM.2.1.elim (fun q => absurd q c1) id) (hN.2.1 _ (ix_lt (hM.2.2.2 k hk))) (hO.endb hM hN) ⟨hz5, hz.2⟩ c5)
theorem s_takeT {s t : Sg} {r k : Nat} {L : Rg} (hr : isR r) (hS : Stat s t) (hM : MS t) (h : RepS s t r (aPut t k L)) (hk : k < 6) (c : aWhy t k L = 45) : RepS (fs_X4_takeLastOff s r) t r L := by
  obtain ⟨c1, c2, c3, c4, c5, c6, c7⟩ := why45a c
  obtain ⟨f1, f2, f3⟩ := hM.2.2.1 k hk c3
  exact s_take hr hS h (fun z => c2 (aHas_iff.mpr z)) c3 ⟨f1, f2⟩
