/-! what can come of a rig -/
theorem ext_ok {t : Sg} {L : Rg} : ∀ (K : Rg), Ok t (K ++ L) → Ok t L
  | [], h => h
  | _ :: K, h => ext_ok K h.2
theorem has_app {L : Rg} {p : Nat} : ∀ (K : Rg), has L p → has (K ++ L) p := fun K ⟨x, h1, h2⟩ => ⟨x, List.mem_append_right K h1, h2⟩
theorem ok_cons {t : Sg} {x : Nat × Int32 × Int32} {L : Rg} (h : Ok t (x :: L)) : aEnd t (x :: L) = aBeg t x.1 L + t 45 x.1 := by
  show x.2.1 + t 45 x.1 = _
  rw [show x.2.1 = aBeg t x.1 L from congrArg (fun z => z.2.1) h.1.2.1]
/-- one more piece ends its minutes later, at the least -/
theorem end_cons {t : Sg} (hM : MS t) (hN : Nb t) {x : Nat × Int32 × Int32} {L : Rg} (h : Ok t (x :: L)) : (aEnd t L).toInt + (t 45 x.1).toInt ≤ (aEnd t (x :: L)).toInt := by
  have hp := (Ok.lt hM h x List.mem_cons_self).2
  have ih := h.2.endb hM hN
  have e := end_b1 hM hN ih hp h.1.2.2
  have hb := aBeg_b hM hN (why45a h.1.2.2).1 ih hp
  rw [ok_cons h, e.1]
  omega
theorem ext_end {t : Sg} (hM : MS t) (hN : Nb t) {L : Rg} : ∀ (K : Rg), Ok t (K ++ L) → (aEnd t L).toInt ≤ (aEnd t (K ++ L)).toInt
  | [], _ => Int.le_refl _
  | x :: K, h => by
    replace h : Ok t (x :: (K ++ L)) := h
    have ih := ext_end hM hN K h.2
    have e := end_cons hM hN h
    have hm := (hN.1 x.1 (Ok.lt hM h x List.mem_cons_self).2).1.1.1
    show _ ≤ (aEnd t (x :: (K ++ L))).toInt
    omega
theorem ok6 {t : Sg} (hM : MS t) {L : Rg} (h : Ok t L) : ∀ y, y ∈ L → y.1 < 6 := fun y hy => (Ok.lt hM h y hy).2
theorem ext_borne {t : Sg} (hM : MS t) (hN : Nb t) (q : Int32) {L : Rg} : ∀ (K : Rg), Ok t (K ++ L) → (aBorne t q L).toInt ≤ (aBorne t q (K ++ L)).toInt
  | [], _ => Int.le_refl _
  | x :: K, h => by
    replace h : Ok t (x :: (K ++ L)) := h
    have ih := ext_borne hM hN q K h.2
    have e := borne_cons hN q (ok6 hM h) (h.len hM)
    have hm := (load_b hN (Ok.lt hM h x List.mem_cons_self).2 q).1
    show _ ≤ (aBorne t q (x :: (K ++ L))).toInt
    omega
/-- what may come later, as the desk sees it -/
abbrev aMcl (t : Sg) (L : Rg) (p : Nat) : Prop := ¬ t 48 p = 0 ∧ ¬ t 56 (ix (t 41 23)) < t 45 p ∧ ¬ t 58 (ix (t 41 23)) < (if aEnd t L < t 54 (ix (t 47 p)) then t 54 (ix (t 47 p)) else aEnd t L) + t 45 p ∧ ¬ aOv t p L
def cnd (t : Sg) (L : Rg) (p : Nat) : Bool := !aHas L p && decide (aMcl t L p)
theorem borne_ok {t : Sg} (hM : MS t) (hN : Nb t) (q : Int32) {L : Rg} (h : Ok t L) : 0 ≤ (aBorne t q L).toInt ∧ (aBorne t q L).toInt ≤ 24000 := by
  have := borne_b hN q L (ok6 hM h) (h.len hM)
  have hl := h.len hM
  omega
theorem over_mono {t : Sg} (hM : MS t) (hN : Nb t) {L N : Rg} (h1 : Ok t L) (h2 : Ok t N) (hb : ∀ q, (aBorne t q L).toInt ≤ (aBorne t q N).toInt) {p : Nat} (hp : p < 6) (h : ¬ aOv t p N) : ¬ aOv t p L := by
  intro z
  refine h ?_
  have k : ∀ q, (aBorne t q L + fr_X5_load t (nI p) q).toInt ≤ (aBorne t q N + fr_X5_load t (nI p) q).toInt := fun q => by
    have a := borne_ok hM hN q h1
    have b := borne_ok hM hN q h2
    have c := load_b hN hp q
    have c1 := c.1
    have c2 := c.2
    have d := hb q
    rw [add_toInt (by omega) (by omega) (by omega) (by omega), add_toInt (by omega) (by omega) (by omega) (by omega)]
    omega
  rcases z with z | z
  · left
    rw [Int32.lt_iff_toInt_lt] at z ⊢
    have := k (t 49 p)
    omega
  · right
    rw [Int32.lt_iff_toInt_lt] at z ⊢
    have := k (t 50 p)
    omega
theorem ext_cnd {t : Sg} (hM : MS t) (hN : Nb t) {L : Rg} : ∀ (K : Rg), Ok t (K ++ L) → ∀ p, has (K ++ L) p → ¬ has L p → cnd t L p = true
  | [], _, p, h1, h2 => absurd h1 h2
  | x :: K, h, p, h1, h2 => by
    replace h : Ok t (x :: (K ++ L)) := h
    rcases (has_cons (x := x) (L := K ++ L)).mp h1 with c | c
    · exact ext_cnd hM hN K h.2 p c h2
    · have hp := (Ok.lt hM h x List.mem_cons_self).2
      obtain ⟨c1, c2, c3, c4, c5, c6, c7⟩ := why45a h.1.2.2
      rw [← c] at c3 c5 c6 hp
      have hL := ext_ok K h.2
      have e1 := ext_end hM hN K h.2
      have ih := h.2.endb hM hN
      have ihL := hL.endb hM hN
      have e2 := end_b1 hM hN ih (c ▸ hp) h.1.2.2
      have e3 := aBeg_b hM hN c1 ih (c ▸ hp)
      rw [← c] at e2 e3
      have hm := (hN.1 p hp).1.1
      have ha := hN.2.1 _ (ix_lt (hM.2.2.2 p hp))
      have i1 := ihL.1
      have i2 := ihL.2
      have a1 := ha.1
      have a2 := ha.2
      have m1 := hm.1
      have m2 := hm.2
      unfold cnd
      rw [Bool.and_eq_true, Bool.not_eq_true', decide_eq_true_eq]
      refine ⟨Bool.eq_false_iff.mpr (fun z => h2 (aHas_iff.mp z)), c3, c5, ?_, over_mono hM hN hL h.2 (fun q => ext_borne hM hN q K h.2) hp c6⟩
      rw [Int32.lt_iff_toInt_lt]
      split
      · rw [add_toInt (by omega) (by omega) (by omega) (by omega)]; omega
      · rw [add_toInt (by omega) (by omega) (by omega) (by omega)]; omega
/-! sums over pieces -/
def sgm (c : Nat → Bool) (f : Nat → Int) : Nat → Nat → Int
  | 0, _ => 0
  | n + 1, k => (if c k = true then f k else 0) + sgm c f n (k + 1)
theorem sgm_zero {c : Nat → Bool} {f : Nat → Int} (h : ∀ p, c p = false) : ∀ (n k : Nat), sgm c f n k = 0
  | 0, _ => rfl
  | n + 1, k => by
    unfold sgm
    rw [sgm_zero h n (k + 1), h k, if_neg (by decide)]; rfl
theorem sgm_add {c c' : Nat → Bool} {f : Nat → Int} {x : Nat} (h : ∀ p, c' p = (c p || decide (p = x))) (hc : c x = false) : ∀ (n k : Nat), sgm c' f n k = sgm c f n k + (if k ≤ x ∧ x < k + n then f x else 0)
  | 0, k => by rw [if_neg (by omega)]; rfl
  | n + 1, k => by
    unfold sgm
    rw [sgm_add h hc n (k + 1), h k]
    by_cases e : k = x
    · rw [e, hc, if_pos (show (false || decide (x = x)) = true by simp), if_neg (show ¬ (false = true) by decide), if_neg (show ¬ (x + 1 ≤ x ∧ x < x + 1 + n) by omega), if_pos (show x ≤ x ∧ x < x + (n + 1) by omega)]
      omega
    · rw [show (c k || decide (k = x)) = c k by simp [e]]
      by_cases g : k + 1 ≤ x ∧ x < k + 1 + n
      · rw [if_pos g, if_pos (show k ≤ x ∧ x < k + (n + 1) by omega)]; omega
      · rw [if_neg g, if_neg (show ¬ (k ≤ x ∧ x < k + (n + 1)) by omega)]; omega
theorem sgm_le {c c' : Nat → Bool} {f : Nat → Int} (h : ∀ p, c p = true → c' p = true) : ∀ (n k : Nat), (∀ p, k ≤ p → p < k + n → 0 ≤ f p) → sgm c f n k ≤ sgm c' f n k
  | 0, _, _ => Int.le_refl _
  | n + 1, k, hf => by
    have ih := sgm_le h n (k + 1) (fun p h1 h2 => hf p (by omega) (by omega))
    have := hf k (by omega) (by omega)
    unfold sgm
    by_cases a : c k = true
    · rw [if_pos a, if_pos (h k a)]; omega
    · rw [if_neg a]
      split <;> omega
theorem sgm_eq {c c' : Nat → Bool} {f g : Nat → Int} (h : ∀ p, c p = true → c' p = true) : ∀ (n k : Nat), (∀ p, k ≤ p → p < k + n → 1 ≤ f p) → sgm c f n k = sgm c' f n k → sgm c g n k = sgm c' g n k
  | 0, _, _, _ => rfl
  | n + 1, k, hf, he => by
    have hl := sgm_le (f := f) h n (k + 1) (fun p h1 h2 => by have := hf p (by omega) (by omega); omega)
    have := hf k (by omega) (by omega)
    unfold sgm at he ⊢
    by_cases a : c k = true
    · rw [if_pos a, if_pos (h k a)] at he
      rw [if_pos a, if_pos (h k a), sgm_eq h n (k + 1) (fun p h1 h2 => hf p (by omega) (by omega)) (by omega)]
    · rw [if_neg a] at he
      by_cases b : c' k = true
      · rw [if_pos b] at he; omega
      · rw [if_neg b] at he
        rw [if_neg a, if_neg b, sgm_eq h n (k + 1) (fun p h1 h2 => hf p (by omega) (by omega)) (by omega)]
def news (N L : Rg) (p : Nat) : Bool := aHas N p && !aHas L p
theorem news_cons {t : Sg} {x : Nat × Int32 × Int32} {K L : Rg} (h : Ok t (x :: (K ++ L))) : (∀ p, news (x :: (K ++ L)) L p = (news (K ++ L) L p || decide (p = x.1))) ∧ news (K ++ L) L x.1 = false := by
  have c2 := (why45a h.1.2.2).2.1
  have c3 : aHas (K ++ L) x.1 = false := Bool.eq_false_iff.mpr c2
  have c4 : aHas L x.1 = false := Bool.eq_false_iff.mpr (fun z => c2 (aHas_iff.mpr (has_app K (aHas_iff.mp z))))
  refine ⟨fun p => ?_, ?_⟩
  · unfold news
    rw [aHas_cons]
    by_cases e : p = x.1
    · rw [e, c3, c4]; simp
    · rw [show decide (x.1 = p) = false by simp; exact fun z => e z.symm]; simp [e]
  · unfold news; rw [c3]; rfl
theorem ext_worth {t : Sg} (hM : MS t) (hN : Nb t) {L : Rg} : ∀ (K : Rg), Ok t (K ++ L) → (aWorth t (K ++ L)).toInt = (aWorth t L).toInt + sgm (news (K ++ L) L) (fun p => (t 46 p).toInt) (ix (t 41 3)) 0
  | [], _ => by
    rw [sgm_zero (fun p => by show (aHas L p && !aHas L p) = false; cases aHas L p <;> rfl)]
    exact (Int.add_zero _).symm
  | x :: K, h => by
    replace h : Ok t (x :: (K ++ L)) := h
    have ih := ext_worth hM hN K h.2
    have n := news_cons h
    have hp := Ok.lt hM h x List.mem_cons_self
    show (aWorth t (x :: (K ++ L))).toInt = _ + sgm (news (x :: (K ++ L)) L) _ _ _
    rw [worth_cons hN (ok6 hM h) (h.len hM), ih, sgm_add n.1 n.2, if_pos (by omega)]
    omega
theorem ext_mins {t : Sg} (hM : MS t) (hN : Nb t) {L : Rg} : ∀ (K : Rg), Ok t (K ++ L) → (aEnd t L).toInt + sgm (news (K ++ L) L) (fun p => (t 45 p).toInt) (ix (t 41 3)) 0 ≤ (aEnd t (K ++ L)).toInt
  | [], _ => by
    rw [sgm_zero (fun p => by show (aHas L p && !aHas L p) = false; cases aHas L p <;> rfl), Int.add_zero]
    exact Int.le_refl _
  | x :: K, h => by
    replace h : Ok t (x :: (K ++ L)) := h
    have ih := ext_mins hM hN K h.2
    have n := news_cons h
    have hp := Ok.lt hM h x List.mem_cons_self
    have e := end_cons hM hN h
    show (aEnd t L).toInt + sgm (news (x :: (K ++ L)) L) _ _ _ ≤ (aEnd t (x :: (K ++ L))).toInt
    rw [sgm_add n.1 n.2, if_pos (by omega)]
    omega
