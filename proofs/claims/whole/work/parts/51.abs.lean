/-! the abstract rig: the pieces hung, the last one first: number, begin, the work behind it. t gives the numbers of the show (cells from 41 on) -/
abbrev Rg : Type := List (Nat × Int32 × Int32)
def aEnd (t : Sg) : Rg → Int32
  | [] => 0
  | x :: _ => x.2.1 + t 45 x.1
def aWork : Rg → Int32
  | [] => 0
  | x :: _ => x.2.2
def aBorne (t : Sg) (q : Int32) : Rg → Int32
  | [] => 0
  | x :: L => aBorne t q L + fr_X5_load t (nI x.1) q
def aWorth (t : Sg) : Rg → Int32
  | [] => 0
  | x :: L => aWorth t L + t 46 x.1
def has (L : Rg) (p : Nat) : Prop := ∃ x, x ∈ L ∧ x.1 = p
/-- the rows of the reference hold the rig -/
def RepR (t : Sg) : Rg → Prop
  | [] => True
  | x :: L => (t 62 L.length = nI x.1 ∧ t 63 L.length = x.2.1 ∧ t 64 L.length = x.2.2) ∧ RepR t L
theorem RepR.cong {t u : Sg} : ∀ {L : Rg}, RepR t L → (∀ c k, 62 ≤ c → c < 65 → k < L.length → u c k = t c k) → RepR u L
  | [], _, _ => trivial
  | x :: L, h, e => by
    refine ⟨⟨?_, ?_, ?_⟩, h.2.cong fun c k h1 h2 h3 => e c k h1 h2 (Nat.lt_succ_of_lt h3)⟩
    · rw [e 62 _ (by decide) (by decide) (Nat.lt_succ_self _)]; exact h.1.1
    · rw [e 63 _ (by decide) (by decide) (Nat.lt_succ_self _)]; exact h.1.2.1
    · rw [e 64 _ (by decide) (by decide) (Nat.lt_succ_self _)]; exact h.1.2.2
theorem borne_snoc (t : Sg) (q : Int32) : ∀ (n k : Nat) (z : Int32), fl_X5_borne t q (n + 1) k z = fl_X5_borne t q n k z + fr_X5_load t (t 62 (k + n)) q
  | 0, _, _ => rfl
  | n + 1, k, z => by
    show fl_X5_borne t q (n + 1) (k + 1) _ = fl_X5_borne t q n (k + 1) _ + _
    rw [borne_snoc t q n (k + 1), show k + 1 + n = k + (n + 1) by omega]
theorem borne_rep {t : Sg} {q : Int32} : ∀ {L : Rg}, RepR t L → fl_X5_borne t q L.length 0 0 = aBorne t q L
  | [], _ => rfl
  | x :: L, h => by
    show fl_X5_borne t q (L.length + 1) 0 0 = aBorne t q L + _
    rw [borne_snoc, borne_rep h.2, Nat.zero_add, h.1.1]
theorem worth_snoc (t : Sg) : ∀ (n k : Nat) (z : Int32), fl_X5_worth t (n + 1) k z = fl_X5_worth t n k z + t 46 (ix (t 62 (k + n)))
  | 0, _, _ => rfl
  | n + 1, k, z => by
    show fl_X5_worth t (n + 1) (k + 1) _ = fl_X5_worth t n (k + 1) _ + _
    rw [worth_snoc t n (k + 1), show k + 1 + n = k + (n + 1) by omega]
theorem worth_rep {t : Sg} : ∀ {L : Rg}, (∀ x, x ∈ L → x.1 < 6) → RepR t L → fl_X5_worth t L.length 0 0 = aWorth t L
  | [], _, _ => rfl
  | x :: L, h6, h => by
    show fl_X5_worth t (L.length + 1) 0 0 = aWorth t L + _
    rw [worth_snoc, worth_rep (fun y hy => h6 y (List.mem_cons_of_mem _ hy)) h.2, Nat.zero_add, h.1.1, nI_ix (by have := h6 x List.mem_cons_self; omega)]
