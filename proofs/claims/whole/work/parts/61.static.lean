/-! what the reference holds of the show and the towns: the search leaves it -/
def rs (t : Sg) : Sg := fun c k => if (42 ≤ c ∧ c < 62) ∨ (c = 41 ∧ k < 24) then t c k else 0
theorem rs_of {t u : Sg} (h : ∀ c k, (42 ≤ c ∧ c < 62) ∨ (c = 41 ∧ k < 24) → u c k = t c k) : rs u = rs t := by
  funext c k
  unfold rs
  split
  · rename_i z; exact h c k z
  · rfl
theorem rs_at {t u : Sg} (h : rs u = rs t) (c k : Nat) (hc : (42 ≤ c ∧ c < 62) ∨ (c = 41 ∧ k < 24)) : u c k = t c k := by
  have := congrFun (congrFun h c) k
  unfold rs at this
  rwa [if_pos hc, if_pos hc] at this
theorem Ag.rs {h : Nat} {s t : Sg} (a : Ag h s t) : rs t = rs s := rs_of fun c k hc => a c k (by omega) (by omega) (by omega) (by omega)
theorem rs_a (t : Sg) (c k : Nat) (hc : 42 ≤ c ∧ c < 62) : rs t c k = t c k := if_pos (Or.inl hc)
theorem rs_f (t : Sg) (k : Nat) (hk : k < 24) : rs t 41 k = t 41 k := if_pos (Or.inr ⟨rfl, hk⟩)
theorem part_rs (t : Sg) (p : Int32) : fr_X5_partOfRight (rs t) p = fr_X5_partOfRight t p := by
  unfold fr_X5_partOfRight
  simp only [rs_a t 44 _ (by decide), rs_a t 51 _ (by decide), rs_a t 49 _ (by decide), rs_a t 50 _ (by decide), rs_a t 42 _ (by decide)]
theorem load_rs (t : Sg) (p q : Int32) : fr_X5_load (rs t) p q = fr_X5_load t p q := by
  unfold fr_X5_load
  simp only [part_rs, rs_a t 44 _ (by decide), rs_a t 48 _ (by decide), rs_a t 49 _ (by decide), rs_a t 50 _ (by decide), rs_a t 52 _ (by decide)]
theorem may_rs (t : Sg) (q : Int32) : fr_X5_may (rs t) q = fr_X5_may t q := by
  unfold fr_X5_may
  simp only [rs_a t 43 _ (by decide), rs_a t 55 _ (by decide), rs_f t 23 (by decide)]
theorem aEnd_rs (t : Sg) : ∀ L : Rg, aEnd (rs t) L = aEnd t L
  | [] => rfl
  | x :: L => by show x.2.1 + rs t 45 x.1 = x.2.1 + t 45 x.1; rw [rs_a t 45 _ (by decide)]
theorem aBorne_rs (t : Sg) (q : Int32) : ∀ L : Rg, aBorne (rs t) q L = aBorne t q L
  | [] => rfl
  | x :: L => by show aBorne (rs t) q L + fr_X5_load (rs t) (nI x.1) q = aBorne t q L + fr_X5_load t (nI x.1) q; rw [aBorne_rs t q L, load_rs]
theorem aWorth_rs (t : Sg) : ∀ L : Rg, aWorth (rs t) L = aWorth t L
  | [] => rfl
  | x :: L => by show aWorth (rs t) L + rs t 46 x.1 = aWorth t L + t 46 x.1; rw [aWorth_rs t L, rs_a t 46 _ (by decide)]
theorem aBeg_rs (t : Sg) (p : Nat) (L : Rg) : aBeg (rs t) p L = aBeg t p L := by
  unfold aBeg
  simp only [aEnd_rs, rs_a t 54 _ (by decide), rs_a t 47 _ (by decide), rs_a t 57 _ (by decide), rs_a t 56 _ (by decide), rs_a t 45 _ (by decide), rs_f t 23 (by decide)]
theorem aWk_rs (t : Sg) (p : Nat) (L : Rg) : aWk (rs t) p L = aWk t p L := by
  unfold aWk
  simp only [aEnd_rs, rs_a t 54 _ (by decide), rs_a t 47 _ (by decide), rs_a t 57 _ (by decide), rs_a t 56 _ (by decide), rs_a t 45 _ (by decide), rs_f t 23 (by decide)]
theorem aPut_rs (t : Sg) (p : Nat) (L : Rg) : aPut (rs t) p L = aPut t p L := by
  unfold aPut
  rw [aBeg_rs, aWk_rs]
theorem aLk_rs (t : Sg) (p : Nat) (L : Rg) : aLk (rs t) p L = aLk t p L := by
  unfold aLk
  simp only [rs_a t 53 _ (by decide)]
theorem aWhy_rs (t : Sg) (p : Nat) (L : Rg) : aWhy (rs t) p L = aWhy t p L := by
  unfold aWhy aOv
  simp only [aBeg_rs, aLk_rs, aBorne_rs, may_rs, load_rs, rs_a t 48 _ (by decide), rs_a t 49 _ (by decide), rs_a t 50 _ (by decide), rs_a t 58 _ (by decide), rs_a t 56 _ (by decide), rs_a t 45 _ (by decide), rs_f t 23 (by decide)]
theorem Ok_rs (t : Sg) : ∀ L : Rg, Ok (rs t) L ↔ Ok t L
  | [] => Iff.rfl
  | x :: L => by
    show ((x.1 < ix (rs t 41 3) ∧ x = (x.1, aBeg (rs t) x.1 L, aWk (rs t) x.1 L) ∧ aWhy (rs t) x.1 L = 45) ∧ Ok (rs t) L) ↔ ((x.1 < ix (t 41 3) ∧ x = (x.1, aBeg t x.1 L, aWk t x.1 L) ∧ aWhy t x.1 L = 45) ∧ Ok t L)
    rw [rs_f t 3 (by decide), aBeg_rs, aWk_rs, aWhy_rs, Ok_rs t L]
theorem FxOk_rs (t : Sg) (p : Nat) : FxOk (rs t) p ↔ FxOk t p := by
  unfold FxOk
  simp only [rs_a t 49 _ (by decide), rs_a t 50 _ (by decide), rs_a t 42 _ (by decide)]
theorem MS_rs (t : Sg) : MS (rs t) ↔ MS t := by
  unfold MS
  simp only [FxOk_rs, rs_a t 48 _ (by decide), rs_a t 47 _ (by decide), rs_f t 0 (by decide), rs_f t 3 (by decide), rs_f t 15 (by decide), rs_f t 23 (by decide)]
theorem NbP_rs (t : Sg) (p : Nat) : NbP (rs t) p ↔ NbP t p := by
  unfold NbP LdOk
  simp only [load_rs, rs_a t 44 _ (by decide), rs_a t 45 _ (by decide), rs_a t 46 _ (by decide), rs_a t 48 _ (by decide), rs_a t 49 _ (by decide), rs_a t 50 _ (by decide), rs_a t 53 _ (by decide), rs_f t 0 (by decide), rs_f t 3 (by decide)]
theorem NbT_rs (t : Sg) (i : Nat) : NbT (rs t) i ↔ NbT t i := by
  unfold NbT
  simp only [rs_a t 55 _ (by decide), rs_a t 56 _ (by decide), rs_a t 57 _ (by decide), rs_a t 58 _ (by decide), rs_a t 59 _ (by decide), rs_a t 60 _ (by decide), rs_a t 61 _ (by decide), rs_f t 15 (by decide)]
theorem Nb_rs (t : Sg) : Nb (rs t) ↔ Nb t := by
  unfold Nb
  simp only [NbP_rs, NbT_rs, rs_a t 54 _ (by decide), rs_a t 42 _ (by decide), rs_a t 43 _ (by decide), rs_f t 15 (by decide), rs_f t 23 (by decide)]
theorem sa_end {t u : Sg} (h : rs u = rs t) (L : Rg) : aEnd u L = aEnd t L := by rw [← aEnd_rs u, h, aEnd_rs]
theorem sa_borne {t u : Sg} (h : rs u = rs t) (q : Int32) (L : Rg) : aBorne u q L = aBorne t q L := by rw [← aBorne_rs u, h, aBorne_rs]
theorem sa_worth {t u : Sg} (h : rs u = rs t) (L : Rg) : aWorth u L = aWorth t L := by rw [← aWorth_rs u, h, aWorth_rs]
theorem sa_put {t u : Sg} (h : rs u = rs t) (p : Nat) (L : Rg) : aPut u p L = aPut t p L := by rw [← aPut_rs u, h, aPut_rs]
theorem sa_why {t u : Sg} (h : rs u = rs t) (p : Nat) (L : Rg) : aWhy u p L = aWhy t p L := by rw [← aWhy_rs u, h, aWhy_rs]
theorem sa_may {t u : Sg} (h : rs u = rs t) (q : Int32) : fr_X5_may u q = fr_X5_may t q := by rw [← may_rs u, h, may_rs]
theorem sa_load {t u : Sg} (h : rs u = rs t) (p q : Int32) : fr_X5_load u p q = fr_X5_load t p q := by rw [← load_rs u, h, load_rs]
theorem sa_Ok {t u : Sg} (h : rs u = rs t) (L : Rg) : Ok u L ↔ Ok t L := by rw [← Ok_rs u, h, Ok_rs]
theorem sa_MS {t u : Sg} (h : rs u = rs t) : MS u ↔ MS t := by rw [← MS_rs u, h, MS_rs]
theorem sa_Nb {t u : Sg} (h : rs u = rs t) : Nb u ↔ Nb t := by rw [← Nb_rs u, h, Nb_rs]
/-! the costs -/
def cT (t : Sg) (p b : Int32) : Int32 := if t 60 (ix (t 41 23)) - b < 0 then (0 * (t 59 (ix (t 41 23)))) + (((t 45 (ix p)) - 0) * (t 61 (ix (t 41 23)))) else if (t 45 (ix p)) < t 60 (ix (t 41 23)) - b then ((t 45 (ix p)) * (t 59 (ix (t 41 23)))) + (((t 45 (ix p)) - (t 45 (ix p))) * (t 61 (ix (t 41 23)))) else ((t 60 (ix (t 41 23)) - b) * (t 59 (ix (t 41 23)))) + (((t 45 (ix p)) - (t 60 (ix (t 41 23)) - b)) * (t 61 (ix (t 41 23))))
def aCost (t : Sg) : Rg → Int32
  | [] => 0
  | x :: L => aCost t L + cT t (nI x.1) x.2.1
theorem costs_step (t : Sg) (n k : Nat) (z : Int32) : fl_X5_costs t (n + 1) k z = fl_X5_costs t n (k + 1) (z + cT t (t 62 k) (t 63 k)) := by
  unfold cT
  show (if _ then _ else _) = _
  split
  · rfl
  · split
    · rfl
    · rfl
theorem costs_snoc (t : Sg) : ∀ (n k : Nat) (z : Int32), fl_X5_costs t (n + 1) k z = fl_X5_costs t n k z + cT t (t 62 (k + n)) (t 63 (k + n))
  | 0, k, z => by rw [costs_step]; rfl
  | n + 1, k, z => by rw [costs_step, costs_snoc t n (k + 1), costs_step t n k, show k + 1 + n = k + (n + 1) by omega]
theorem costs_rep {t : Sg} : ∀ {L : Rg}, RepR t L → fl_X5_costs t L.length 0 0 = aCost t L
  | [], _ => rfl
  | x :: L, h => by
    show fl_X5_costs t (L.length + 1) 0 0 = aCost t L + _
    rw [costs_snoc, costs_rep h.2, Nat.zero_add, h.1.1, h.1.2.1]
theorem cT_rs (t : Sg) (p b : Int32) : cT (rs t) p b = cT t p b := by
  unfold cT
  simp only [rs_a t 60 _ (by decide), rs_a t 59 _ (by decide), rs_a t 61 _ (by decide), rs_a t 45 _ (by decide), rs_f t 23 (by decide)]
theorem aCost_rs (t : Sg) : ∀ L : Rg, aCost (rs t) L = aCost t L
  | [] => rfl
  | x :: L => by show aCost (rs t) L + cT (rs t) (nI x.1) x.2.1 = aCost t L + cT t (nI x.1) x.2.1; rw [aCost_rs t L, cT_rs]
theorem sa_cost {t u : Sg} (h : rs u = rs t) (L : Rg) : aCost u L = aCost t L := by rw [← aCost_rs u, h, aCost_rs]
