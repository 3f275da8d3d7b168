/-! what holds of the numbers at all times, as far as the machine asks for it: counts, places of rows -/
theorem in_nI {k n : Nat} (h : k < n) (hn : n < 1000) : vp_in (nI k) n := vp_in_nI h (by omega)
theorem in_ne {x : Int32} {n : Nat} (h : vp_in x n) : ¬ x < 0 := fun q => h (Or.inl q)
theorem in_nat {x : Int32} {n : Nat} (h : vp_in x n) (hn : n < 1000) : ∃ k, k < n ∧ x = nI k := vp_in_of h (by omega)
/-- a count of at most n -/
def cnt (x : Int32) (n : Nat) : Prop := ∃ k, k ≤ n ∧ x = nI k
theorem cnt.lt {x : Int32} {n : Nat} (h : cnt x n) (hn : n < 999) (hx : ¬ x = nI n) : vp_in x n := by
  obtain ⟨k, hk, rfl⟩ := h
  refine in_nI ?_ (by omega)
  rcases Nat.lt_or_ge k n with q | q
  · exact q
  · exact absurd (by rw [show k = n by omega]) hx
theorem cnt.lt' {x : Int32} {n : Nat} (h : cnt x n) (hn : n < 999) (hx : x < nI n) : vp_in x n := h.lt hn (fun e => by rw [e] at hx; exact Int32.lt_irrefl hx)
theorem cnt.pred {x : Int32} {n : Nat} (h : cnt x n) (hn : n < 999) (hx : 0 < x) : vp_in (x - 1) n ∧ ∃ k, k < n ∧ x = nI (k + 1) ∧ x - 1 = nI k := by
  obtain ⟨k, hk, rfl⟩ := h
  have h0 : 0 < k := (nI_lt_iff (a := 0) (by omega) (by omega)).mp hx
  obtain ⟨j, rfl⟩ : ∃ j, k = j + 1 := ⟨k - 1, by omega⟩
  have e : nI (j + 1) - 1 = nI j := nI_pred j
  rw [e]
  exact ⟨in_nI (by omega) (by omega), j, by omega, rfl, rfl⟩
theorem cnt.nz {x : Int32} {n : Nat} (h : cnt x n) (hn : n < 999) (hx : ¬ x = 0) : 0 < x := by
  obtain ⟨k, hk, rfl⟩ := h
  rcases Nat.eq_zero_or_pos k with rfl | q
  · exact absurd rfl hx
  · exact (nI_lt_iff (a := 0) (by omega) (by omega)).mpr q
/-- x below a count is a place below its bound -/
theorem cnt.in {x y : Int32} {n : Nat} (h : cnt y n) (hn : n < 999) (h1 : ¬ x < 0) (h2 : x < y) : vp_in x n := by
  obtain ⟨k, hk, rfl⟩ := h
  rw [vp_in_iff]
  rw [Int32.lt_iff_toInt_lt] at h1 h2
  rw [nI_toInt' (by omega)] at h2
  have : (0 : Int32).toInt = 0 := rfl
  omega
/-- the reference: a fixing is one -/
def FxOk (sg : Sg) (p : Nat) : Prop := vp_in (sg 49 p) 8 ∧ vp_in (sg 50 p) 8 ∧ ¬ (sg 42 (ix (sg 50 p)) - sg 42 (ix (sg 49 p)) = 0)
def MI (sg : Sg) : Prop := (cnt (sg 41 0) 8 ∧ cnt (sg 41 3) 6 ∧ cnt (sg 41 15) 4 ∧ cnt (sg 41 24) 6) ∧ (sg 41 23 < 0 ∨ vp_in (sg 41 23) 4) ∧ (∀ k, k < 6 → nI k < sg 41 24 → vp_in (sg 62 k) 6) ∧ (∀ p, p < 6 → ¬ sg 48 p = 0 → FxOk sg p) ∧ (∀ p, p < 6 → vp_in (sg 47 p) 3)
theorem MI.np {sg : Sg} (h : MI sg) : cnt (sg 41 0) 8 := h.1.1
theorem MI.nc {sg : Sg} (h : MI sg) : cnt (sg 41 3) 6 := h.1.2.1
theorem MI.nt {sg : Sg} (h : MI sg) : cnt (sg 41 15) 4 := h.1.2.2.1
theorem MI.nh {sg : Sg} (h : MI sg) : cnt (sg 41 24) 6 := h.1.2.2.2
theorem MI.tn {sg : Sg} (h : MI sg) (ht : ¬ sg 41 23 < 0) : vp_in (sg 41 23) 4 := h.2.1.elim (fun q => absurd q ht) id
theorem MI.od {sg : Sg} (h : MI sg) {k : Nat} (hk : k < 6) (hl : nI k < sg 41 24) : vp_in (sg 62 k) 6 := h.2.2.1 k hk hl
theorem MI.fx {sg : Sg} (h : MI sg) {p : Nat} (hp : p < 6) (hf : ¬ sg 48 p = 0) : FxOk sg p := h.2.2.2.1 p hp hf
theorem MI.tr {sg : Sg} (h : MI sg) {p : Nat} (hp : p < 6) : vp_in (sg 47 p) 3 := h.2.2.2.2 p hp
theorem MI.last {sg : Sg} (h : MI sg) (hz : ¬ sg 41 24 = 0) : vp_in (sg 41 24 - 1) 6 := (h.nh.pred (by decide) (h.nh.nz (by decide) hz)).1
theorem MI.lasto {sg : Sg} (h : MI sg) (hz : ¬ sg 41 24 = 0) : vp_in (sg 62 (ix (sg 41 24 - 1))) 6 := by
  obtain ⟨-, k, hk, e1, e2⟩ := h.nh.pred (by decide) (h.nh.nz (by decide) hz)
  rw [e2, nI_ix (by omega)]
  refine h.od hk ?_
  rw [e1]
  exact (nI_lt_iff (by omega) (by omega)).mpr (by omega)
/-- the desk -/
def DI (sg : Sg) : Prop := (cnt (sg 0 7) 8 ∧ cnt (sg 0 8) 6 ∧ cnt (sg 0 9) 4) ∧ (sg 0 10 < 0 ∨ vp_in (sg 0 10) 4) ∧ (∀ r, isR r → cnt (sg r 5) 6 ∧ ∀ k, k < 6 → nI k < sg r 5 → vp_in (sg (r + 1) k) 6) ∧ (∀ p, p < 6 → (sg (31 + p) 4 < 0 ∨ vp_in (sg (31 + p) 4) 8) ∧ (sg (31 + p) 5 < 0 ∨ vp_in (sg (31 + p) 5) 8) ∧ vp_in (sg (31 + p) 3) 3)
theorem DI.np {sg : Sg} (h : DI sg) : cnt (sg 0 7) 8 := h.1.1
theorem DI.nc {sg : Sg} (h : DI sg) : cnt (sg 0 8) 6 := h.1.2.1
theorem DI.nt {sg : Sg} (h : DI sg) : cnt (sg 0 9) 4 := h.1.2.2
theorem DI.tn {sg : Sg} (h : DI sg) (ht : ¬ sg 0 10 < 0) : vp_in (sg 0 10) 4 := h.2.1.elim (fun q => absurd q ht) id
theorem DI.sz {sg : Sg} (h : DI sg) {r : Nat} (hr : isR r) : cnt (sg r 5) 6 := (h.2.2.1 r hr).1
theorem DI.od {sg : Sg} (h : DI sg) {r k : Nat} (hr : isR r) (hk : k < 6) (hl : nI k < sg r 5) : vp_in (sg (r + 1) k) 6 := (h.2.2.1 r hr).2 k hk hl
theorem DI.lf {sg : Sg} (h : DI sg) {p : Nat} (hp : p < 6) (hn : ¬ sg (31 + p) 4 < 0) : vp_in (sg (31 + p) 4) 8 := (h.2.2.2 p hp).1.elim (fun q => absurd q hn) id
theorem DI.rt {sg : Sg} (h : DI sg) {p : Nat} (hp : p < 6) (hn : ¬ sg (31 + p) 5 < 0) : vp_in (sg (31 + p) 5) 8 := (h.2.2.2 p hp).2.1.elim (fun q => absurd q hn) id
theorem DI.tr {sg : Sg} (h : DI sg) {p : Nat} (hp : p < 6) : vp_in (sg (31 + p) 3) 3 := (h.2.2.2 p hp).2.2
theorem DI.last {sg : Sg} (h : DI sg) {r : Nat} (hr : isR r) (hz : 0 < sg r 5) : vp_in (sg r 5 - 1) 6 := ((h.sz hr).pred (by decide) hz).1
theorem DI.lasto {sg : Sg} (h : DI sg) {r : Nat} (hr : isR r) (hz : 0 < sg r 5) : vp_in (sg (r + 1) (ix (sg r 5 - 1))) 6 := by
  obtain ⟨-, k, hk, e1, e2⟩ := (h.sz hr).pred (by decide) hz
  rw [e2, nI_ix (by omega)]
  refine h.od hr hk ?_
  rw [e1]
  exact (nI_lt_iff (by omega) (by omega)).mpr (by omega)
theorem sub_nn {x : Int32} {n : Nat} (h : cnt x n) (hn : n < 999) (hx : ¬ x - 1 < 0) : 0 < x := by
  refine h.nz hn (fun e => ?_)
  rw [e] at hx
  exact hx (by decide)
theorem cnt.ixe {x : Int32} {n : Nat} (h : cnt x n) (hn : n < 999 := by decide) : x = nI (ix x) := by
  obtain ⟨k, hk, rfl⟩ := h
  rw [nI_ix (by omega)]
theorem cnt.ixl {x : Int32} {n : Nat} (h : cnt x n) (hn : n < 999 := by decide) : ix x ≤ n := by
  obtain ⟨k, hk, rfl⟩ := h
  rw [nI_ix (by omega)]
  exact hk
theorem loop_ind {P : Nat → Prop} (h : ∀ n, (∀ m, m < n → P m) → P n) : ∀ n, P n := fun n => Nat.strongRecOn n h
theorem MI.up34 {sg : Sg} {v : Int32} (h : MI sg) : MI (up sg 41 34 v) := h
theorem cnt.inr {x y : Int32} {n : Nat} (h : cnt y n) (h1 : ¬ x < 0 ∧ ¬ y - 1 < x) (hn : n < 999 := by decide) : vp_in x n := by
  obtain ⟨k, hk, rfl⟩ := h
  obtain ⟨h1, h2⟩ := h1
  rw [vp_in_iff]
  rw [Int32.lt_iff_toInt_lt] at h1 h2
  rcases Nat.eq_zero_or_pos k with rfl | q
  · have e : (nI 0 - 1).toInt = -1 := by decide
    have : (0 : Int32).toInt = 0 := rfl
    omega
  · obtain ⟨j, rfl⟩ : ∃ j, k = j + 1 := ⟨k - 1, by omega⟩
    rw [nI_pred, nI_toInt' (by omega)] at h2
    have : (0 : Int32).toInt = 0 := rfl
    omega
theorem cnt.inn {x y : Int32} {n : Nat} (h : cnt y n) (h1 : ¬ ¬ (¬ x < 0 ∧ ¬ y - 1 < x)) (hn : n < 999 := by decide) : vp_in x n := h.inr (Decidable.not_not.mp h1) hn
theorem in_lit {x y : Int32} {n : Nat} (hy : y = nI n) (h1 : ¬ x < 0 ∧ ¬ y < x) (hn : n < 999 := by decide) : vp_in x (n + 1) := by
  subst hy
  obtain ⟨h1, h2⟩ := h1
  rw [vp_in_iff]
  rw [Int32.lt_iff_toInt_lt] at h1 h2
  rw [nI_toInt' (by omega)] at h2
  have : (0 : Int32).toInt = 0 := rfl
  omega
theorem cnt_pos {x : Int32} {n : Nat} (h : cnt x n) (hx : ¬ x = 0) (hn : n < 999 := by decide) : 0 < ix x := by
  obtain ⟨k, hk, rfl⟩ := h
  rw [nI_ix (by omega)]
  rcases Nat.eq_zero_or_pos k with rfl | q
  · exact absurd rfl hx
  · exact q
