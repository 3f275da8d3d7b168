theorem lacks_iff {t : Sg} {L : Rg} (h : RepT t L) {x : Int32} : ∀ (n k : Nat), n + k ≤ 6 → (fl_X5_lacks t x n k = true ↔ ∃ j, k ≤ j ∧ j < k + n ∧ (t 53 (ix x) >>> (nI j &&& 31)) &&& 1 = 1 ∧ ¬ has L j)
  | 0, k, _ => ⟨fun q => (by cases q), fun ⟨j, q1, q2, _⟩ => absurd q2 (by omega)⟩
  | n + 1, k, hk => by
    have ih := lacks_iff h (x := x) n (k + 1) (by omega)
    unfold fl_X5_lacks
    by_cases c1 : (t 53 (ix x) >>> (nI k &&& 31)) &&& 1 = 1
    · rw [if_pos c1]
      by_cases c2 : fl_X5_inRig t (nI k) (ix (t 41 24)) 0 < 0
      · rw [if_pos c2]
        exact ⟨fun _ => ⟨k, Nat.le_refl _, by omega, c1, (rep_off h (by omega)).mp c2⟩, fun _ => rfl⟩
      · rw [if_neg c2, ih]
        constructor
        · rintro ⟨j, q1, q2, q3, q4⟩; exact ⟨j, by omega, by omega, q3, q4⟩
        · rintro ⟨j, q1, q2, q3, q4⟩
          refine ⟨j, ?_, by omega, q3, q4⟩
          rcases Nat.lt_or_ge k j with z | z
          · omega
          · have : j = k := by omega
            subst this
            exact absurd ((rep_off h (by omega)).mpr q4) c2
    · rw [if_neg c1, ih]
      constructor
      · rintro ⟨j, q1, q2, q3, q4⟩; exact ⟨j, by omega, by omega, q3, q4⟩
      · rintro ⟨j, q1, q2, q3, q4⟩
        refine ⟨j, ?_, by omega, q3, q4⟩
        rcases Nat.lt_or_ge k j with z | z
        · omega
        · have : j = k := by omega
          subst this
          exact absurd q3 c1
/-- the fixing of p is on points that were added; its loads are small -/
def LdOk (t : Sg) (p : Nat) : Prop := (ix (t 49 p) < ix (t 41 0) ∧ ix (t 50 p) < ix (t 41 0)) ∧ bnd (fr_X5_load t (nI p) (t 49 p)) 0 4000 ∧ bnd (fr_X5_load t (nI p) (t 50 p)) 0 4000
def NbP (t : Sg) (p : Nat) : Prop := (bnd (t 45 p) 0 240 ∧ bnd (t 46 p) 0 99 ∧ bnd (t 44 p) 0 2000) ∧ (p < ix (t 41 3) → 5 ≤ (t 45 p).toInt ∧ 1 ≤ (t 46 p).toInt) ∧ (st64 (t 53 p) ∧ ∀ j, j < 6 → bitb (t 53 p) j = true → j < ix (t 41 3)) ∧ (¬ t 48 p = 0 → LdOk t p)
def NbT (t : Sg) (i : Nat) : Prop := (bnd (t 55 i) 0 100 ∧ bnd (t 56 i) 0 480 ∧ bnd (t 57 i) 0 120 ∧ bnd (t 58 i) 0 1440) ∧ (bnd (t 59 i) 0 99 ∧ bnd (t 60 i) 0 1440 ∧ bnd (t 61 i) 0 99) ∧ (i < ix (t 41 15) → 5 ≤ (t 57 i).toInt)
/-- the numbers of what was added lie within the document's bounds; who is needed was added -/
def Nb (t : Sg) : Prop := (∀ p, p < 6 → NbP t p) ∧ (∀ i, i < 3 → bnd (t 54 i) 0 1440) ∧ (∀ i, i < 4 → NbT t i) ∧ (∀ i, i < 8 → bnd (t 42 i) 0 60 ∧ bnd (t 43 i) 0 5000) ∧ (¬ t 41 23 < 0 → ix (t 41 23) < ix (t 41 15))
/-- counts, town, fixings, trucks -/
def MS (t : Sg) : Prop := (cnt (t 41 0) 8 ∧ cnt (t 41 3) 6 ∧ cnt (t 41 15) 4) ∧ (t 41 23 < 0 ∨ vp_in (t 41 23) 4) ∧ (∀ p, p < 6 → ¬ t 48 p = 0 → FxOk t p) ∧ (∀ p, p < 6 → vp_in (t 47 p) 3)
theorem MS.nc {t : Sg} (h : MS t) : ix (t 41 3) ≤ 6 := h.1.2.1.ixl
theorem MS.tn {t : Sg} (h : MS t) (ht : ¬ t 41 23 < 0) : ix (t 41 23) < 4 := ix_lt (h.2.1.elim (fun q => absurd q ht) id)
theorem rep_at {t : Sg} : ∀ {L : Rg}, RepR t L → ∀ k, k < L.length → ∃ x, x ∈ L ∧ t 62 k = nI x.1
  | [], _, k, hk => absurd hk (Nat.not_lt_zero _)
  | x :: L, h, k, hk => by
    rcases Nat.lt_or_ge k L.length with q | q
    · obtain ⟨y, h1, h2⟩ := rep_at h.2 k q
      exact ⟨y, List.mem_cons_of_mem _ h1, h2⟩
    · have : k = L.length := by
        have : k < L.length + 1 := hk
        omega
      rw [this]
      exact ⟨x, List.mem_cons_self, h.1.1⟩
theorem MS.mi {t : Sg} {L : Rg} (h : MS t) (r : RepT t L) : MI t := by
  refine ⟨⟨h.1.1, h.1.2.1, h.1.2.2, ⟨L.length, r.2.1, r.1⟩⟩, h.2.1, fun k hk hl => ?_, h.2.2.1, h.2.2.2⟩
  rw [r.1, nI_lt_iff (by omega) (by have := r.2.1; omega)] at hl
  obtain ⟨x, h1, h2⟩ := rep_at r.2.2.1 k hl
  rw [h2]
  exact in_nI (r.2.2.2 x h1) (by decide)
def aHas (L : Rg) (p : Nat) : Bool := L.any (fun x => decide (x.1 = p))
theorem aHas_iff {L : Rg} {p : Nat} : aHas L p = true ↔ has L p := by
  unfold aHas has
  rw [List.any_eq_true]
  exact ⟨fun ⟨x, h1, h2⟩ => ⟨x, h1, of_decide_eq_true h2⟩, fun ⟨x, h1, h2⟩ => ⟨x, h1, decide_eq_true h2⟩⟩
def aLk (t : Sg) (p : Nat) (L : Rg) : Bool := (List.range 6).any (fun j => bitb (t 53 p) j && !(aHas L j))
theorem aLk_iff {t : Sg} {p : Nat} {L : Rg} : aLk t p L = true ↔ ∃ j, j < 6 ∧ bitb (t 53 p) j = true ∧ ¬ has L j := by
  unfold aLk
  rw [List.any_eq_true]
  constructor
  · rintro ⟨j, h1, h2⟩
    rw [Bool.and_eq_true, Bool.not_eq_true'] at h2
    exact ⟨j, List.mem_range.mp h1, h2.1, fun h => by rw [aHas_iff.mpr h] at h2; exact absurd h2.2 (by decide)⟩
  · rintro ⟨j, h1, h2, h3⟩
    refine ⟨j, List.mem_range.mpr h1, ?_⟩
    rw [Bool.and_eq_true, Bool.not_eq_true']
    exact ⟨h2, Bool.eq_false_iff.mpr (fun h => h3 (aHas_iff.mp h))⟩
theorem t_lacks {t : Sg} {L : Rg} (hM : MS t) (hN : Nb t) (h : RepT t L) {p : Nat} (hp : p < 6) : fl_X5_lacks t (nI p) (ix (t 41 3)) 0 = true ↔ aLk t p L = true := by
  have hc := hM.nc
  have e9 := (hN.1 p hp).2.2.1
  rw [lacks_iff h _ 0 (by omega), aLk_iff, nI_ix (show p < 2 ^ 31 by omega)]
  constructor
  · rintro ⟨j, -, q2, q3, q4⟩; exact ⟨j, by omega, (bit_one e9.1 (by omega)).mp q3, q4⟩
  · rintro ⟨j, q2, q3, q4⟩
    have := e9.2 j q2 q3
    exact ⟨j, Nat.zero_le _, by omega, (bit_one e9.1 (by omega)).mpr q3, q4⟩
theorem s_lacks {s t : Sg} {r : Nat} {L : Rg} (hN : Nb t) (h : RepS s t r L) {p : Nat} (hp : p < 6) : t 53 p &&& (s r 6 ^^^ (-1)) = 0 ↔ ¬ aLk t p L = true := by
  have e9 := (hN.1 p hp).2.2.1
  rw [bit_sub e9.1 h.2.1, aLk_iff]
  constructor
  · rintro q ⟨j, q2, q3, q4⟩
    exact q4 ((h.2.2.1 j q2).mp (q j q2 q3))
  · intro q j hj hb
    rw [h.2.2.1 j hj]
    exact Classical.byContradiction fun hz => q ⟨j, hj, hb, hz⟩
abbrev aOv (t : Sg) (p : Nat) (L : Rg) : Prop := fr_X5_may t (t 49 p) < aBorne t (t 49 p) L + fr_X5_load t (nI p) (t 49 p) ∨ fr_X5_may t (t 50 p) < aBorne t (t 50 p) L + fr_X5_load t (nI p) (t 50 p)
/-- the reason against the piece p over the rig L -/
def aWhy (t : Sg) (p : Nat) (L : Rg) : Int32 := if t 41 23 < 0 then 116 else if aHas L p = true then 104 else if t 48 p = 0 then 102 else if aLk t p L = true then 110 else if t 56 (ix (t 41 23)) < t 45 p then 115 else if aOv t p L then 108 else if t 58 (ix (t 41 23)) < aBeg t p L + t 45 p then 99 else 45
theorem t_why {t : Sg} {L : Rg} (hM : MS t) (hN : Nb t) (h : RepT t L) {p : Nat} (hp : p < 6) : fr_X5_why t (nI p) = aWhy t p L := by
  have hl : ix (t 41 24) = L.length := by rw [h.1, nI_ix (by have := h.2.1; omega)]
  have e1 : fl_X5_inRig t (nI p) (ix (t 41 24)) 0 < 0 ↔ ¬ aHas L p = true := by rw [rep_off h hp, aHas_iff]
  have e2 := t_lacks hM hN h hp
  have e3 := t_begin h hp
  have eb : ∀ q, fl_X5_borne t q (ix (t 41 24)) 0 0 = aBorne t q L := fun q => by rw [hl]; exact borne_rep h.2.2.1
  have ei : ix (nI p) = p := nI_ix (by omega)
  unfold fr_X5_why aWhy
  simp only [e1, e2, e3, eb, ei]
  by_cases c : aHas L p = true
  · simp [c]
  · simp [c]
theorem nI_in8 {x : Int32} {n : Nat} (h : vp_in x n) (hn : n < 1000) : nI (ix x) = x := by
  obtain ⟨k, hk, rfl⟩ := in_nat h hn
  rw [nI_ix (by omega)]
theorem s_allows {s t : Sg} (hS : Stat s t) (ht : ix (t 41 23) < 4) {q : Int32} (hq : ix q < 8) : fr_X3_allows s (ix (t 41 23)) (ix q) = fr_X5_may t q := by
  unfold fr_X3_allows fr_X5_may
  rw [(hS.2.1 _ hq).2, (hS.2.2.2.2 _ ht).2.1]
theorem s_over {s t : Sg} {r : Nat} {L : Rg} (hS : Stat s t) (hM : MS t) (h : RepS s t r L) (ht : ix (t 41 23) < 4) {p : Nat} (hp : p < 6) (cf : ¬ t 48 p = 0) : (¬ s (31 + p) 4 < 0 ∧ ¬ s (31 + p) 5 < 0) ∧ ((¬ s (31 + p) 4 < 0 ∧ ¬ s (31 + p) 5 < 0 ∧ (fr_X3_allows s (ix (t 41 23)) (ix (s (31 + p) 4)) < s (r + 5) (ix (s (31 + p) 4)) + s (31 + p) 6 ∨ fr_X3_allows s (ix (t 41 23)) (ix (s (31 + p) 5)) < s (r + 5) (ix (s (31 + p) 5)) + s (31 + p) 7)) ↔ aOv t p L) := by
  obtain ⟨-, -, hf⟩ := hS.2.2.1 p hp
  obtain ⟨f4, f5, f45, f6, f7⟩ := hf cf
  obtain ⟨hl, hr, -⟩ := hM.2.2.1 p hp cf
  have n4 := in_ne hl
  have n5 := in_ne hr
  rw [f4, f5, f6, f7, s_allows hS ht (ix_lt hl), s_allows hS ht (ix_lt hr), h.2.2.2.2 _ (ix_lt hl), h.2.2.2.2 _ (ix_lt hr), nI_in8 hl (by decide), nI_in8 hr (by decide)]
  exact ⟨⟨n4, n5⟩, ⟨fun z => z.2.2, fun z => ⟨n4, n5, z⟩⟩⟩
theorem s_why {s t : Sg} {r : Nat} {L : Rg} (hS : Stat s t) (hM : MS t) (hN : Nb t) (h : RepS s t r L) (hb : bnd (aEnd t L) 0 1440) {p : Nat} (hp : p < 6) : fr_X4_reasonAgainst s r (nI p) = aWhy t p L := by
  obtain ⟨⟨e0, e1, e2, e3, e8, e9⟩, hu, hf⟩ := hS.2.2.1 p hp
  have ei : ix (nI p) = p := nI_ix (by omega)
  have et : s 0 10 = t 41 23 := hS.1.2.2.2
  unfold fr_X4_reasonAgainst aWhy
  rw [et, ei]
  by_cases ht : t 41 23 < 0
  · rw [if_pos ht, if_pos ht]
  rw [if_neg ht, if_neg ht]
  have hti := hM.tn ht
  obtain ⟨g0, g1, g2, g3, g4, g5, g6, g7⟩ := hS.2.2.2.2 _ hti
  have hm : (¬ s r 6 >>> (nI p &&& 31) &&& 1 = 0) ↔ aHas L p = true := by rw [bit_is, h.2.2.1 p hp, aHas_iff]
  by_cases ch : aHas L p = true
  · rw [if_pos (hm.mpr ch), if_pos ch]
  rw [if_neg (fun z => ch (hm.mp z)), if_neg ch]
  by_cases cf : t 48 p = 0
  · rw [if_neg (fun z => z.1 (hu cf)), if_pos cf]
  have ho := s_over hS hM h hti hp cf
  rw [if_pos ho.1, if_neg cf]
  have hk := s_lacks hN h hp
  rw [e8]
  by_cases ck : aLk t p L = true
  · rw [if_neg (fun z => hk.mp z ck), if_pos ck]
  rw [if_pos (hk.mpr ck), if_neg ck, g2, e1]
  by_cases cs : t 56 (ix (t 41 23)) < t 45 p
  · rw [if_pos cs, if_pos cs]
  rw [if_neg cs, if_neg cs]
  by_cases co : aOv t p L
  · rw [if_pos (ho.2.mpr co), if_pos co]
  have hz5 := (hN.2.2.1 _ hti).2.2 (hN.2.2.2.2 ht)
  have hz := (hN.2.2.1 _ hti).1.2.2.1
  rw [if_neg (fun z => co (ho.2.mp z)), if_neg co, g4, (s_begin hS h hp (hM.2.2.2 p hp) (hM.2.1.elim (fun q => absurd q ht) id) (hN.2.1 _ (ix_lt (hM.2.2.2 p hp))) hb ⟨hz5, hz.2⟩ cs).1]
