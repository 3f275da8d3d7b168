/-! the cost minute by minute -/
theorem add_toInt2 {x y : Int32} (h1 : -2147483648 ≤ x.toInt + y.toInt) (h2 : x.toInt + y.toInt < 2147483648) : (x + y).toInt = x.toInt + y.toInt := by
  rw [Int32.toInt_add]
  exact Int.bmod_eq_of_le (by omega) (by omega)
theorem sub_toInt2 {x y : Int32} (h1 : -2147483648 ≤ x.toInt - y.toInt) (h2 : x.toInt - y.toInt < 2147483648) : (x - y).toInt = x.toInt - y.toInt := by
  rw [Int32.toInt_sub]
  exact Int.bmod_eq_of_le (by omega) (by omega)
theorem mul_b {x y a b : Int} (h1 : 0 ≤ x) (h2 : x ≤ a) (h3 : 0 ≤ y) (h4 : y ≤ b) : 0 ≤ x * y ∧ x * y ≤ a * b :=
  ⟨Int.mul_nonneg h1 h3, Int.le_trans (Int.mul_le_mul_of_nonneg_right h2 h3) (Int.mul_le_mul_of_nonneg_left h4 (Int.le_trans h1 h2))⟩
theorem mul_toInt2 {x y : Int32} (a b : Int) (h1 : 0 ≤ x.toInt) (h2 : x.toInt ≤ a) (h3 : 0 ≤ y.toInt) (h4 : y.toInt ≤ b) (h : a * b < 2147483648) : (x * y).toInt = x.toInt * y.toInt := by
  have m := mul_b h1 h2 h3 h4
  rw [Int32.toInt_mul]
  exact Int.bmod_eq_of_le (by omega) (by omega)
theorem add64 {x y : Int64} (h1 : 0 ≤ x.toInt) (h2 : x.toInt ≤ 1000000000) (h3 : 0 ≤ y.toInt) (h4 : y.toInt ≤ 1000000000) : (x + y).toInt = x.toInt + y.toInt := by
  rw [Int64.toInt_add]
  exact Int.bmod_eq_of_le (by omega) (by omega)
theorem sgm_split (c : Nat → Bool) (f : Nat → Int) : ∀ (n m k : Nat), sgm c f (n + m) k = sgm c f n k + sgm c f m (k + n)
  | 0, m, k => by rw [Nat.zero_add]; exact (Int.zero_add _).symm
  | n + 1, m, k => by
    rw [show n + 1 + m = (n + m) + 1 by omega]
    show (if c k = true then f k else 0) + sgm c f (n + m) (k + 1) = ((if c k = true then f k else 0) + sgm c f n (k + 1)) + sgm c f m (k + (n + 1))
    rw [sgm_split c f n m (k + 1), show k + 1 + n = k + (n + 1) by omega, Int.add_assoc]
theorem sgm_congr {c c' : Nat → Bool} {f : Nat → Int} : ∀ (n k : Nat), (∀ p, k ≤ p → p < k + n → c p = c' p) → sgm c f n k = sgm c' f n k
  | 0, _, _ => rfl
  | n + 1, k, h => by
    unfold sgm
    rw [h k (by omega) (by omega), sgm_congr n (k + 1) (fun p h1 h2 => h p (by omega) (by omega))]
theorem sgm_none {c : Nat → Bool} {f : Nat → Int} : ∀ (n k : Nat), (∀ p, k ≤ p → p < k + n → c p = false) → sgm c f n k = 0
  | 0, _, _ => rfl
  | n + 1, k, h => by
    unfold sgm
    rw [h k (by omega) (by omega), if_neg (by decide), sgm_none n (k + 1) (fun p h1 h2 => h p (by omega) (by omega))]; rfl
theorem sgm_const {c : Nat → Bool} {f : Nat → Int} {v : Int} : ∀ (n k : Nat), (∀ p, k ≤ p → p < k + n → c p = true ∧ f p = v) → sgm c f n k = (n : Int) * v
  | 0, _, _ => (Int.zero_mul v).symm
  | n + 1, k, h => by
    have := h k (by omega) (by omega)
    unfold sgm
    rw [if_pos this.1, this.2, sgm_const n (k + 1) (fun p h1 h2 => h p (by omega) (by omega))]
    rw [show ((n + 1 : Nat) : Int) = (n : Int) + 1 by omega, Int.add_mul, Int.one_mul, Int.add_comm]
theorem sgm_bnd {c : Nat → Bool} {f : Nat → Int} {v : Int} (hv : 0 ≤ v) : ∀ (n k : Nat), (∀ p, 0 ≤ f p ∧ f p ≤ v) → 0 ≤ sgm c f n k ∧ sgm c f n k ≤ (n : Int) * v
  | 0, _, _ => ⟨Int.le_refl 0, by rw [show ((0 : Nat) : Int) = 0 from rfl, Int.zero_mul]; exact Int.le_refl 0⟩
  | n + 1, k, h => by
    have h1 := h k
    have ih := sgm_bnd (c := c) hv n (k + 1) h
    unfold sgm
    rw [show ((n + 1 : Nat) : Int) = (n : Int) + 1 by omega, Int.add_mul, Int.one_mul]
    split <;> omega
/-- the rate of a minute -/
def rI (o r q : Int32) (k : Nat) : Int := if nI k < o then r.toInt else q.toInt
theorem nI_lt_int {k : Nat} {x : Int32} (hk : k < 2 ^ 31) : nI k < x ↔ (k : Int) < x.toInt := by
  rw [Int32.lt_iff_toInt_lt, nI_toInt hk]
/-- m minutes from b on -/
theorem term_sum {b m o r q : Int32} (hb : bnd b 0 1560) (hm : bnd m 0 240) (ho : bnd o 0 1440) (hr : bnd r 0 99) (hq : bnd q 0 99) :
    (if o - b < 0 then 0 * r + (m - 0) * q else if m < o - b then m * r + (m - m) * q else (o - b) * r + (m - (o - b)) * q).toInt = sgm (fun _ => true) (rI o r q) m.toInt.toNat b.toInt.toNat := by
  obtain ⟨b1, b2⟩ := hb
  obtain ⟨m1, m2⟩ := hm
  obtain ⟨o1, o2⟩ := ho
  obtain ⟨r1, r2⟩ := hr
  obtain ⟨q1, q2⟩ := hq
  have s1 : (o - b).toInt = o.toInt - b.toInt := sub_toInt2 (by omega) (by omega)
  have z0 : (0 : Int32).toInt = 0 := rfl
  by_cases c1 : o - b < 0
  · rw [if_pos c1, Int32.zero_mul, Int32.zero_add, Int32.sub_zero, mul_toInt2 240 99 m1 m2 q1 q2 (by decide)]
    rw [Int32.lt_iff_toInt_lt, s1] at c1
    rw [sgm_const (v := q.toInt) _ _ (fun p h1 h2 => ⟨rfl, ?_⟩), Int.toNat_of_nonneg m1]
    unfold rI
    rw [if_neg]
    rw [nI_lt_int (by omega)]
    omega
  · rw [if_neg c1]
    rw [Int32.lt_iff_toInt_lt, s1] at c1
    by_cases c2 : m < o - b
    · rw [if_pos c2, Int32.sub_self, Int32.zero_mul, Int32.add_zero, mul_toInt2 240 99 m1 m2 r1 r2 (by decide)]
      rw [Int32.lt_iff_toInt_lt, s1] at c2
      rw [sgm_const (v := r.toInt) _ _ (fun p h1 h2 => ⟨rfl, ?_⟩), Int.toNat_of_nonneg m1]
      unfold rI
      rw [if_pos]
      rw [nI_lt_int (by omega)]
      omega
    · rw [if_neg c2]
      rw [Int32.lt_iff_toInt_lt, s1] at c2
      have s2 : (m - (o - b)).toInt = m.toInt - (o.toInt - b.toInt) := by rw [sub_toInt2 (by omega) (by omega), s1]
      have p1 := mul_toInt2 (x := o - b) (y := r) 240 99 (by omega) (by omega) r1 r2 (by decide)
      have p2 := mul_toInt2 (x := m - (o - b)) (y := q) 240 99 (by omega) (by omega) q1 q2 (by decide)
      have u1 := mul_b (x := (o - b).toInt) (a := 240) (by omega) (by omega) r1 r2
      have u2 := mul_b (x := (m - (o - b)).toInt) (a := 240) (by omega) (by omega) q1 q2
      rw [add_toInt2 (by omega) (by omega), p1, p2, s2, s1]
      rw [show m.toInt.toNat = (o.toInt - b.toInt).toNat + (m.toInt - (o.toInt - b.toInt)).toNat by omega, sgm_split]
      rw [sgm_const (v := r.toInt) (n := (o.toInt - b.toInt).toNat) _ (fun p h1 h2 => ⟨rfl, ?_⟩), sgm_const (v := q.toInt) _ _ (fun p h1 h2 => ⟨rfl, ?_⟩), Int.toNat_of_nonneg (by omega), Int.toNat_of_nonneg (by omega)]
      · unfold rI
        rw [if_neg]
        rw [nI_lt_int (by omega)]
        omega
      · unfold rI
        rw [if_pos]
        rw [nI_lt_int (by omega)]
        omega
/-- whether a minute is worked on -/
def wk (t : Sg) (L : Rg) (k : Nat) : Bool := L.any (fun x => decide (¬ nI k < x.2.1) && decide (nI k < x.2.1 + t 45 x.1))
theorem wk_cons (t : Sg) (x : Nat × Int32 × Int32) (L : Rg) (k : Nat) : wk t (x :: L) k = ((decide (¬ nI k < x.2.1) && decide (nI k < x.2.1 + t 45 x.1)) || wk t L k) := rfl
theorem wk_off {t : Sg} (hM : MS t) (hN : Nb t) : ∀ {L : Rg}, Ok t L → ∀ k : Nat, k < 2 ^ 31 → (aEnd t L).toInt ≤ (k : Int) → wk t L k = false
  | [], _, _, _, _ => rfl
  | x :: L, h, k, hk, he => by
    have e := end_cons hM hN h
    have hm := (hN.1 x.1 (Ok.lt hM h x List.mem_cons_self).2).1.1.1
    rw [wk_cons, wk_off hM hN h.2 k hk (by omega)]
    have : ¬ nI k < x.2.1 + t 45 x.1 := by
      rw [nI_lt_int hk]
      show ¬ (k : Int) < (aEnd t (x :: L)).toInt
      omega
    rw [decide_eq_false this]; simp
theorem cost_sum {t : Sg} (hM : MS t) (hN : Nb t) : ∀ {L : Rg}, Ok t L → (aCost t L).toInt = sgm (wk t L) (rI (t 60 (ix (t 41 23))) (t 59 (ix (t 41 23))) (t 61 (ix (t 41 23)))) (aEnd t L).toInt.toNat 0
  | [], _ => rfl
  | x :: L, h => by
    have ih := cost_sum hM hN h.2
    have hp := (Ok.lt hM h x List.mem_cons_self).2
    have ht := (why45a h.1.2.2).1
    have hti := hM.tn ht
    have iL := h.2.endb hM hN
    have i1 := iL.1
    have i2 := iL.2
    have eb := aBeg_b hM hN ht iL hp
    have e1 := end_b1 hM hN iL hp h.1.2.2
    have hbx : x.2.1 = aBeg t x.1 L := congrArg (fun z => z.2.1) h.1.2.1
    have hbi : x.2.1.toInt = (aBeg t x.1 L).toInt := by rw [hbx]
    have hbu : x.2.1.toInt ≤ 1560 := by rw [hbx]; exact eb.2.2
    have hm := (hN.1 x.1 hp).1.1
    have m1 := hm.1
    have m2 := hm.2
    obtain ⟨r1, r2, r3⟩ := (hN.2.2.1 _ hti).2.1
    have ts := term_sum (b := x.2.1) (m := t 45 x.1) (o := t 60 (ix (t 41 23))) (r := t 59 (ix (t 41 23))) (q := t 61 (ix (t 41 23))) ⟨by rw [hbx]; omega, by rw [hbx]; omega⟩ hm r2 r1 r3
    have hcT : (cT t (nI x.1) x.2.1).toInt = sgm (fun _ => true) (rI (t 60 (ix (t 41 23))) (t 59 (ix (t 41 23))) (t 61 (ix (t 41 23)))) (t 45 x.1).toInt.toNat x.2.1.toInt.toNat := by
      unfold cT
      rw [nI_ix (by omega)]
      exact ts
    have hf : ∀ p, 0 ≤ rI (t 60 (ix (t 41 23))) (t 59 (ix (t 41 23))) (t 61 (ix (t 41 23))) p ∧ rI (t 60 (ix (t 41 23))) (t 59 (ix (t 41 23))) (t 61 (ix (t 41 23))) p ≤ 99 := fun p => by
      unfold rI
      split
      · exact r1
      · exact r3
    have B1 := sgm_bnd (c := wk t L) (v := 99) (by decide) (aEnd t L).toInt.toNat 0 hf
    have B2 := sgm_bnd (c := fun _ => true) (v := 99) (by decide) (t 45 x.1).toInt.toNat x.2.1.toInt.toNat hf
    have eE : (aEnd t (x :: L)).toInt = x.2.1.toInt + (t 45 x.1).toInt := by rw [ok_cons h, e1.1, hbx]
    show (aCost t L + cT t (nI x.1) x.2.1).toInt = _
    rw [add_toInt2 (by omega) (by omega), ih, hcT, eE]
    have hb0 : (aEnd t L).toInt ≤ x.2.1.toInt := by rw [hbx]; exact eb.1
    rw [show (x.2.1.toInt + (t 45 x.1).toInt).toNat = (aEnd t L).toInt.toNat + ((x.2.1.toInt - (aEnd t L).toInt).toNat + (t 45 x.1).toInt.toNat) by omega, sgm_split, sgm_split]
    have k1 : sgm (wk t (x :: L)) (rI (t 60 (ix (t 41 23))) (t 59 (ix (t 41 23))) (t 61 (ix (t 41 23)))) (aEnd t L).toInt.toNat 0 = sgm (wk t L) (rI (t 60 (ix (t 41 23))) (t 59 (ix (t 41 23))) (t 61 (ix (t 41 23)))) (aEnd t L).toInt.toNat 0 :=
      sgm_congr _ _ fun p h1 h2 => by
        rw [wk_cons]
        have : nI p < x.2.1 := by rw [nI_lt_int (by omega)]; omega
        rw [decide_eq_false (fun z => z this)]; simp
    have k2 : sgm (wk t (x :: L)) (rI (t 60 (ix (t 41 23))) (t 59 (ix (t 41 23))) (t 61 (ix (t 41 23)))) (x.2.1.toInt - (aEnd t L).toInt).toNat (0 + (aEnd t L).toInt.toNat) = 0 :=
      sgm_none _ _ fun p h1 h2 => by
        rw [wk_cons, wk_off hM hN h.2 p (by omega) (by omega)]
        have : nI p < x.2.1 := by rw [nI_lt_int (by omega)]; omega
        rw [decide_eq_false (fun z => z this)]; simp
    have k3 : sgm (wk t (x :: L)) (rI (t 60 (ix (t 41 23))) (t 59 (ix (t 41 23))) (t 61 (ix (t 41 23)))) (t 45 x.1).toInt.toNat (0 + (aEnd t L).toInt.toNat + (x.2.1.toInt - (aEnd t L).toInt).toNat) = sgm (fun _ => true) (rI (t 60 (ix (t 41 23))) (t 59 (ix (t 41 23))) (t 61 (ix (t 41 23)))) (t 45 x.1).toInt.toNat x.2.1.toInt.toNat := by
      rw [show 0 + (aEnd t L).toInt.toNat + (x.2.1.toInt - (aEnd t L).toInt).toNat = x.2.1.toInt.toNat by omega]
      refine sgm_congr _ _ fun p h1 h2 => ?_
      rw [wk_cons]
      have a1 : ¬ nI p < x.2.1 := by rw [nI_lt_int (by omega)]; omega
      have a2 : nI p < x.2.1 + t 45 x.1 := by
        rw [nI_lt_int (by omega)]
        show (p : Int) < (aEnd t (x :: L)).toInt
        omega
      rw [decide_eq_true a1, decide_eq_true a2]; rfl
    rw [k1, k2, k3, Int.zero_add]
theorem worked_iff {s t : Sg} {r : Nat} {q : Int32} : ∀ (n k : Nat), fl_X2_isWorkedOn s r q n k = true ↔ ∃ j, k ≤ j ∧ j < k + n ∧ ¬ q < s (r + 2) j ∧ q < s (r + 3) j
  | 0, k => ⟨fun h => absurd (show false = true from h) (by decide), fun ⟨j, h1, h2, _⟩ => by omega⟩
  | n + 1, k => by
    unfold fl_X2_isWorkedOn
    by_cases c : q < s (r + 2) k
    · rw [if_pos c, worked_iff (t := t) n (k + 1)]
      exact ⟨fun ⟨j, h1, h2, h3⟩ => ⟨j, by omega, by omega, h3⟩, fun ⟨j, h1, h2, h3⟩ => ⟨j, by
        rcases Nat.lt_or_ge k j with z | z
        · omega
        · have : j = k := by omega
          rw [this] at h3; exact absurd c h3.1, by omega, h3⟩⟩
    · rw [if_neg c]
      by_cases d : q < s (r + 3) k
      · rw [if_pos d]
        exact ⟨fun _ => ⟨k, Nat.le_refl _, by omega, c, d⟩, fun _ => rfl⟩
      · rw [if_neg d, worked_iff (t := t) n (k + 1)]
        exact ⟨fun ⟨j, h1, h2, h3⟩ => ⟨j, by omega, by omega, h3⟩, fun ⟨j, h1, h2, h3⟩ => ⟨j, by
          rcases Nat.lt_or_ge k j with z | z
          · omega
          · have : j = k := by omega
            rw [this] at h3; exact absurd h3.2 d, by omega, h3⟩⟩
theorem worked_rep {s t : Sg} {r k : Nat} : ∀ {L : Rg}, RS s t r L → ((∃ j, j < L.length ∧ ¬ nI k < s (r + 2) j ∧ nI k < s (r + 3) j) ↔ wk t L k = true)
  | [], _ => ⟨fun ⟨j, h, _⟩ => absurd h (Nat.not_lt_zero _), fun h => absurd (show false = true from h) (by decide)⟩
  | x :: L, h => by
    have ih := worked_rep (k := k) h.2
    rw [wk_cons, Bool.or_eq_true, Bool.and_eq_true, decide_eq_true_eq, decide_eq_true_eq, ← ih]
    constructor
    · rintro ⟨j, h1, h2⟩
      rcases Nat.lt_or_ge j L.length with z | z
      · exact Or.inr ⟨j, z, h2⟩
      · have : j = L.length := by
          have : j < L.length + 1 := h1
          omega
        rw [this, h.1.2.1, h.1.2.2.1] at h2
        exact Or.inl h2
    · rintro (h1 | ⟨j, h1, h2⟩)
      · exact ⟨L.length, Nat.lt_succ_self _, by rw [h.1.2.1, h.1.2.2.1]; exact h1⟩
      · exact ⟨j, Nat.lt_succ_of_lt h1, h2⟩
theorem cmm_sum {s t : Sg} {L : Rg} (hS : Stat s t) (hN : Nb t) (h : RepS s t 5 L) (ht : ix (t 41 23) < 4) : ∀ (n k : Nat) (z : Int64), n + k ≤ 1440 → 0 ≤ z.toInt → z.toInt ≤ 99 * (k : Int) → (fl_cmm s (ix (t 41 23)) n k z).toInt = z.toInt + sgm (wk t L) (rI (t 60 (ix (t 41 23))) (t 59 (ix (t 41 23))) (t 61 (ix (t 41 23)))) n k
  | 0, _, z, _, _, _ => (Int.add_zero _).symm
  | n + 1, k, z, hk, z0, z1 => by
    obtain ⟨f0, f1, f2, f3, f4, f5, f6, f7⟩ := hS.2.2.2.2 _ ht
    obtain ⟨r1, r2, r3⟩ := (hN.2.2.1 _ ht).2.1
    have r11 := r1.1
    have r12 := r1.2
    have r31 := r3.1
    have r32 := r3.2
    have hw : fl_X2_isWorkedOn s 5 (nI k) (ix (s 5 5)) 0 = true ↔ wk t L k = true := by
      rw [h.1.1, nI_ix (by have := h.1.2.1; omega), worked_iff (t := t), ← worked_rep h.1.2.2.1]
      exact ⟨fun ⟨j, h1, h2, h3⟩ => ⟨j, by omega, h3⟩, fun ⟨j, h1, h2⟩ => ⟨j, Nat.zero_le _, by omega, h2⟩⟩
    unfold fl_cmm sgm
    rw [f5, f6, f7]
    by_cases c : wk t L k = true
    · rw [if_pos (hw.mpr c), if_pos c]
      by_cases d : nI k < t 60 (ix (t 41 23))
      · have e : (z + Int32.toInt64 (t 59 (ix (t 41 23)))).toInt = z.toInt + (t 59 (ix (t 41 23))).toInt := by
          rw [add64 z0 (by omega) (by rw [Int32.toInt_toInt64]; omega) (by rw [Int32.toInt_toInt64]; omega), Int32.toInt_toInt64]
        rw [if_pos d, cmm_sum hS hN h ht n (k + 1) _ (by omega) (by omega) (by omega), e]
        unfold rI
        rw [if_pos d, Int.add_assoc]
      · have e : (z + Int32.toInt64 (t 61 (ix (t 41 23)))).toInt = z.toInt + (t 61 (ix (t 41 23))).toInt := by
          rw [add64 z0 (by omega) (by rw [Int32.toInt_toInt64]; omega) (by rw [Int32.toInt_toInt64]; omega), Int32.toInt_toInt64]
        rw [if_neg d, cmm_sum hS hN h ht n (k + 1) _ (by omega) (by omega) (by omega), e]
        unfold rI
        rw [if_neg d, Int.add_assoc]
    · rw [if_neg (fun q => c (hw.mp q)), if_neg c, cmm_sum hS hN h ht n (k + 1) z (by omega) z0 (by omega), Int.zero_add]
theorem s_cmm {s t : Sg} {L : Rg} (hS : Stat s t) (hM : MS t) (hN : Nb t) (hO : Ok t L) (h : RepS s t 5 L) : fv_cmm s = Int32.toInt64 (aCost t L) := by
  unfold fv_cmm
  rw [hS.1.2.2.2]
  by_cases ht : t 41 23 < 0
  · rw [if_pos ht, hO.town ht]; rfl
  · rw [if_neg ht, s_end h]
    have e := hO.endb hM hN
    have e1 := e.1
    have e2 := e.2
    have ei : ix (aEnd t L) = (aEnd t L).toInt.toNat := rfl
    have z0 : (0 : Int64).toInt = 0 := rfl
    refine Int64.toInt_inj.mp ?_
    rw [Int32.toInt_toInt64, cost_sum hM hN hO, ei, cmm_sum hS hN h (hM.tn ht) _ 0 0 (by omega) (by omega) (by omega), z0, Int.zero_add]
