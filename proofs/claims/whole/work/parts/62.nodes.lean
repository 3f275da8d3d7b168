/-! the rigs that can come of one: itself first, in the order in which the searches meet them -/
def ndl (F : Rg → List Rg) (t : Sg) (L : Rg) : Nat → Nat → List Rg
  | 0, _ => []
  | n + 1, k => (if aWhy t k L = 45 then F (aPut t k L) else []) ++ ndl F t L n (k + 1)
def nds (t : Sg) : Nat → Rg → List Rg
  | 0, _ => []
  | d + 1, L => L :: ndl (nds t d) t L (ix (t 41 3)) 0
/-- the reference's RI out of the rig that it holds -/
def cu (L : Rg) : Nat := (if aHas L 0 = true then 0 else 1) + (if aHas L 1 = true then 0 else 1) + (if aHas L 2 = true then 0 else 1) + (if aHas L 3 = true then 0 else 1) + (if aHas L 4 = true then 0 else 1) + (if aHas L 5 = true then 0 else 1)
theorem aHas_cons (x : Nat × Int32 × Int32) (L : Rg) (q : Nat) : aHas (x :: L) q = (decide (x.1 = q) || aHas L q) := rfl
theorem cu_len : ∀ (L : Rg), (L.map Prod.fst).Nodup → (∀ x, x ∈ L → x.1 < 6) → L.length + cu L = 6
  | [], _, _ => rfl
  | x :: L, hn, h => by
    rw [List.map_cons, List.nodup_cons] at hn
    have ih := cu_len L hn.2 (fun y hy => h y (List.mem_cons_of_mem _ hy))
    have h6 := h x List.mem_cons_self
    have hx : aHas L x.1 = false := Bool.eq_false_iff.mpr (fun z => hn.1 (has_map.mpr (aHas_iff.mp z)))
    rw [List.length_cons]
    unfold cu at ih ⊢
    rcases (show x.1 = 0 ∨ x.1 = 1 ∨ x.1 = 2 ∨ x.1 = 3 ∨ x.1 = 4 ∨ x.1 = 5 by omega) with e | e | e | e | e | e <;> rw [e] at hx <;> rw [hx] at ih <;> simp only [aHas_cons, e] <;> simp at ih ⊢ <;> omega
theorem ri_of {u : Sg} {L : Rg} (h : RepT u L) (hn : (L.map Prod.fst).Nodup) (ht : u 41 23 < 0 → L = []) : RI u := by
  have e : ∀ q, q < 6 → u1 u q = if aHas L q = true then 0 else 1 := fun q hq => by
    unfold u1
    by_cases c : aHas L q = true
    · rw [if_pos c, if_neg (fun z => (rep_off h hq).mp z (aHas_iff.mp c))]
    · rw [if_neg c, if_pos ((rep_off h hq).mpr (fun z => c (aHas_iff.mpr z)))]
  refine ⟨?_, fun c => ?_⟩
  · unfold ung
    rw [e 0 (by decide), e 1 (by decide), e 2 (by decide), e 3 (by decide), e 4 (by decide), e 5 (by decide), h.1, nI_ix (by have := h.2.1; omega)]
    exact cu_len L hn h.2.2.2
  · rw [h.1, ht c]; rfl
theorem Ok.town {t : Sg} : ∀ {L : Rg}, Ok t L → t 41 23 < 0 → L = []
  | [], _, _ => rfl
  | _ :: _, h, c => absurd c (why45a h.1.2.2).1
theorem Ok.ri {t u : Sg} {L : Rg} (hs : rs u = rs t) (h : Ok t L) (hR : RepT u L) : RI u :=
  ri_of hR h.nodup (fun c => h.town (by rw [← rs_at hs 41 23 (by decide)]; exact c))
/-! the reference's search -/
theorem cpb_at : ∀ (n k : Nat) (s : Sg) (c j : Nat), fcpb n k s c j = if c = 65 ∧ k ≤ j ∧ j < k + n then s 62 j else s c j
  | 0, k, s, c, j => by rw [if_neg (by omega)]; rfl
  | n + 1, k, s, c, j => by
    show fcpb n (k + 1) (up s 65 k (s 62 k)) c j = _
    rw [cpb_at n (k + 1)]
    by_cases h : c = 65 ∧ k + 1 ≤ j ∧ j < k + 1 + n
    · rw [if_pos h, if_pos (by omega), up_ne _ _ (by omega)]
    · rw [if_neg h]
      by_cases h2 : c = 65 ∧ j = k
      · rw [if_pos (by omega), h2.1, h2.2, up_at]
      · rw [if_neg (by omega), up_ne _ _ (by omega)]
/-- the reference's best row holds the pieces of a rig -/
def RowB (u : Sg) : Rg → Prop
  | [] => True
  | x :: L => u 65 L.length = nI x.1 ∧ RowB u L
theorem RowB.cong {u v : Sg} : ∀ {L : Rg}, RowB u L → (∀ k, k < L.length → v 65 k = u 65 k) → RowB v L
  | [], _, _ => trivial
  | x :: L, h, e => ⟨by rw [e _ (Nat.lt_succ_self _)]; exact h.1, h.2.cong fun k hk => e k (Nat.lt_succ_of_lt hk)⟩
theorem RowB.of {u v : Sg} : ∀ {L : Rg}, RepR u L → (∀ k, k < L.length → v 65 k = u 62 k) → RowB v L
  | [], _, _ => trivial
  | x :: L, h, e => ⟨by rw [e _ (Nat.lt_succ_self _)]; exact h.1.1, RowB.of h.2 fun k hk => e k (Nat.lt_succ_of_lt hk)⟩
/-- n rigs were met, the best of them is b -/
def BS (t u : Sg) (n : Nat) (b : Rg) : Prop := u 41 28 = nI n ∧ (0 < n → (u 41 29 = aWorth t b ∧ u 41 30 = aEnd t b ∧ u 41 31 = aCost t b ∧ u 41 32 = nI b.length) ∧ RowB u b)
theorem BS.cong {t u v : Sg} {n : Nat} {b : Rg} (h : BS t u n b) (e1 : ∀ k, 28 ≤ k → k < 33 → v 41 k = u 41 k) (e2 : ∀ k, v 65 k = u 65 k) : BS t v n b := by
  refine ⟨by rw [e1 28 (by decide) (by decide)]; exact h.1, fun hn => ?_⟩
  obtain ⟨⟨h1, h2, h3, h4⟩, h5⟩ := h.2 hn
  refine ⟨⟨?_, ?_, ?_, ?_⟩, h5.cong fun k _ => e2 k⟩
  · rw [e1 29 (by decide) (by decide)]; exact h1
  · rw [e1 30 (by decide) (by decide)]; exact h2
  · rw [e1 31 (by decide) (by decide)]; exact h3
  · rw [e1 32 (by decide) (by decide)]; exact h4
def btr (t : Sg) (N M : Rg) : Bool := if aWorth t N = aWorth t M then (if aEnd t N = aEnd t M then (if aCost t N < aCost t M then true else false) else (if aEnd t N < aEnd t M then true else false)) else (if aWorth t M < aWorth t N then true else false)
def stp (t : Sg) (M N : Rg) : Rg := if btr t N M = true then N else M
def st2 (t : Sg) (z : Nat × Rg) (N : Rg) : Nat × Rg := (z.1 + 1, if z.1 = 0 then N else stp t z.2 N)
theorem r_take {t u : Sg} {L b : Rg} {n : Nat} (hM : MS t) (hs : rs u = rs t) (hR : RepT u L) (hB : BS t u n b) (hn : n + 1 < 2 ^ 31) : BS t (fs_take u) (n + 1) (if n = 0 then L else stp t b L) := by
  have hMu : MI u := ((sa_MS hs).mpr hM).mi hR
  have hl : ix (u 41 24) = L.length := by rw [hR.1, nI_ix (by have := hR.2.1; omega)]
  have eW : fl_X5_worth u (ix (u 41 24)) 0 0 = aWorth t L := by rw [hl, worth_rep hR.2.2.2 hR.2.2.1, sa_worth hs]
  have eE : fr_X5_lastEnd u = aEnd t L := by rw [rep_end hR, sa_end hs]
  have eC : fl_X5_costs u (ix (u 41 24)) 0 0 = aCost t L := by rw [hl, costs_rep hR.2.2.1, sa_cost hs]
  have a : Ag (ix (u 41 24)) u (up u 41 28 (u 41 28 + 1)) := (Ag.rf u).upf (by decide)
  have e28 : up u 41 28 (u 41 28 + 1) 41 28 = nI (n + 1) := by rw [up_at, hB.1]; exact nI_add1 n
  have hb : fb_X5_isBetter (up u 41 28 (u 41 28 + 1)) = if n = 0 then true else btr t L b := by
    unfold fb_X5_isBetter
    rw [e28, show up u 41 28 (u 41 28 + 1) 41 24 = u 41 24 from up_ne _ _ (by decide), ag_worth0 a, ag_costs0 a, ag_lastEnd hMu a, eW, eE, eC, show up u 41 28 (u 41 28 + 1) 41 29 = u 41 29 from up_ne _ _ (by decide), show up u 41 28 (u 41 28 + 1) 41 30 = u 41 30 from up_ne _ _ (by decide), show up u 41 28 (u 41 28 + 1) 41 31 = u 41 31 from up_ne _ _ (by decide)]
    by_cases h0 : n = 0
    · subst h0
      rw [if_pos (show nI (0 + 1) = 1 from rfl), if_pos rfl]
    · have hne : ¬ nI (n + 1) = 1 := fun z => by
        have z1 := congrArg Int32.toInt z
        rw [nI_toInt hn] at z1
        have : (1 : Int32).toInt = 1 := rfl
        omega
      obtain ⟨⟨b1, b2, b3, b4⟩, b5⟩ := hB.2 (by omega)
      rw [if_neg hne, if_neg h0, b1, b2, b3]
      rfl
  have key : fb_X5_isBetter (up u 41 28 (u 41 28 + 1)) = true → BS t (fs_take u) (n + 1) L := by
    intro hc
    unfold fs_take
    rw [if_pos hc, eW, eE, eC]
    refine ⟨?_, fun _ => ⟨⟨?_, ?_, ?_, ?_⟩, ?_⟩⟩
    · rw [cpb_at, if_neg (by omega), up_ne _ _ (by decide), up_ne _ _ (by decide), up_ne _ _ (by decide), up_ne _ _ (by decide), e28]
    · rw [cpb_at, if_neg (by omega), up_ne _ _ (by decide), up_ne _ _ (by decide), up_ne _ _ (by decide), up_at]
    · rw [cpb_at, if_neg (by omega), up_ne _ _ (by decide), up_ne _ _ (by decide), up_at]
    · rw [cpb_at, if_neg (by omega), up_ne _ _ (by decide), up_at]
    · rw [cpb_at, if_neg (by omega), up_at]; exact hR.1
    · refine RowB.of hR.2.2.1 fun k hk => ?_
      rw [cpb_at, if_pos ⟨rfl, Nat.zero_le _, by omega⟩, up_ne _ _ (by omega), up_ne _ _ (by omega), up_ne _ _ (by omega), up_ne _ _ (by omega), up_ne _ _ (by omega)]
  by_cases h0 : n = 0
  · rw [if_pos h0] at hb ⊢
    exact key hb
  · rw [if_neg h0] at hb ⊢
    unfold stp
    by_cases hc : btr t L b = true
    · rw [if_pos hc]
      exact key (by rw [hb]; exact hc)
    · rw [if_neg hc]
      unfold fs_take
      rw [if_neg (by rw [hb]; exact hc)]
      refine ⟨e28, fun _ => ?_⟩
      obtain ⟨⟨b1, b2, b3, b4⟩, b5⟩ := hB.2 (by omega)
      refine ⟨⟨?_, ?_, ?_, ?_⟩, b5.cong fun k _ => up_ne _ _ (by omega)⟩
      · rw [up_ne _ _ (by decide)]; exact b1
      · rw [up_ne _ _ (by decide)]; exact b2
      · rw [up_ne _ _ (by decide)]; exact b3
      · rw [up_ne _ _ (by decide)]; exact b4
