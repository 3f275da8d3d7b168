section VS
variable {X : Cx} {cc : ByteArray} {own : String} {a b nL rk mc ms : Nat} {sg : Sg} {o : Ot} {lo : List (Nat × Value)} {pc pc1 tgt : Nat} {st : List Value} {off : Int}
theorem v_icmp_eq (C : CF X cc own nL rk mc ms) {x y : Int32} (d : decode cc pc = .ok (.if_icmp .eq off, 3)) (ht : (pc : Int) + off = (tgt : Int)) (hp : pc + 3 = pc1) (kt : x = y → V X a b nL sg o lo tgt st) (kf : ¬ x = y → V X a b nL sg o lo pc1 st) : V X a b nL sg o lo pc (.int y :: .int x :: st) := by
  subst hp; exact fun H locs ls hP hS hl => lv_icmp_eq C.1 C.2.1 d ht (fun h => kt h H locs ls hP hS hl) (fun h => kf h H locs ls hP hS hl)
theorem v_icmp_ne (C : CF X cc own nL rk mc ms) {x y : Int32} (d : decode cc pc = .ok (.if_icmp .ne off, 3)) (ht : (pc : Int) + off = (tgt : Int)) (hp : pc + 3 = pc1) (kt : ¬ x = y → V X a b nL sg o lo tgt st) (kf : x = y → V X a b nL sg o lo pc1 st) : V X a b nL sg o lo pc (.int y :: .int x :: st) := by
  subst hp; exact fun H locs ls hP hS hl => lv_icmp_ne C.1 C.2.1 d ht (fun h => kt h H locs ls hP hS hl) (fun h => kf h H locs ls hP hS hl)
theorem v_icmp_lt (C : CF X cc own nL rk mc ms) {x y : Int32} (d : decode cc pc = .ok (.if_icmp .lt off, 3)) (ht : (pc : Int) + off = (tgt : Int)) (hp : pc + 3 = pc1) (kt : x < y → V X a b nL sg o lo tgt st) (kf : ¬ x < y → V X a b nL sg o lo pc1 st) : V X a b nL sg o lo pc (.int y :: .int x :: st) := by
  subst hp; exact fun H locs ls hP hS hl => lv_icmp_lt C.1 C.2.1 d ht (fun h => kt h H locs ls hP hS hl) (fun h => kf h H locs ls hP hS hl)
theorem v_icmp_ge (C : CF X cc own nL rk mc ms) {x y : Int32} (d : decode cc pc = .ok (.if_icmp .ge off, 3)) (ht : (pc : Int) + off = (tgt : Int)) (hp : pc + 3 = pc1) (kt : ¬ x < y → V X a b nL sg o lo tgt st) (kf : x < y → V X a b nL sg o lo pc1 st) : V X a b nL sg o lo pc (.int y :: .int x :: st) := by
  subst hp; exact fun H locs ls hP hS hl => lv_icmp_ge C.1 C.2.1 d ht (fun h => kt (Int32.not_lt.mpr h) H locs ls hP hS hl) (fun h => kf (Int32.not_le.mp h) H locs ls hP hS hl)
theorem v_icmp_gt (C : CF X cc own nL rk mc ms) {x y : Int32} (d : decode cc pc = .ok (.if_icmp .gt off, 3)) (ht : (pc : Int) + off = (tgt : Int)) (hp : pc + 3 = pc1) (kt : y < x → V X a b nL sg o lo tgt st) (kf : ¬ y < x → V X a b nL sg o lo pc1 st) : V X a b nL sg o lo pc (.int y :: .int x :: st) := by
  subst hp; exact fun H locs ls hP hS hl => lv_icmp_gt C.1 C.2.1 d ht (fun h => kt h H locs ls hP hS hl) (fun h => kf h H locs ls hP hS hl)
theorem v_icmp_le (C : CF X cc own nL rk mc ms) {x y : Int32} (d : decode cc pc = .ok (.if_icmp .le off, 3)) (ht : (pc : Int) + off = (tgt : Int)) (hp : pc + 3 = pc1) (kt : ¬ y < x → V X a b nL sg o lo tgt st) (kf : y < x → V X a b nL sg o lo pc1 st) : V X a b nL sg o lo pc (.int y :: .int x :: st) := by
  subst hp; exact fun H locs ls hP hS hl => lv_icmp_le C.1 C.2.1 d ht (fun h => kt (Int32.not_lt.mpr h) H locs ls hP hS hl) (fun h => kf (Int32.not_le.mp h) H locs ls hP hS hl)
theorem v_if_eq (C : CF X cc own nL rk mc ms) {x : Int32} (d : decode cc pc = .ok (.ifCond .eq off, 3)) (ht : (pc : Int) + off = (tgt : Int)) (hp : pc + 3 = pc1) (kt : x = 0 → V X a b nL sg o lo tgt st) (kf : ¬ x = 0 → V X a b nL sg o lo pc1 st) : V X a b nL sg o lo pc (.int x :: st) := by
  subst hp; exact fun H locs ls hP hS hl => lv_if_eq C.1 C.2.1 d ht (fun h => kt h H locs ls hP hS hl) (fun h => kf h H locs ls hP hS hl)
theorem v_if_ne (C : CF X cc own nL rk mc ms) {x : Int32} (d : decode cc pc = .ok (.ifCond .ne off, 3)) (ht : (pc : Int) + off = (tgt : Int)) (hp : pc + 3 = pc1) (kt : ¬ x = 0 → V X a b nL sg o lo tgt st) (kf : x = 0 → V X a b nL sg o lo pc1 st) : V X a b nL sg o lo pc (.int x :: st) := by
  subst hp; exact fun H locs ls hP hS hl => lv_if_ne C.1 C.2.1 d ht (fun h => kt h H locs ls hP hS hl) (fun h => kf h H locs ls hP hS hl)
theorem v_if_lt (C : CF X cc own nL rk mc ms) {x : Int32} (d : decode cc pc = .ok (.ifCond .lt off, 3)) (ht : (pc : Int) + off = (tgt : Int)) (hp : pc + 3 = pc1) (kt : x < 0 → V X a b nL sg o lo tgt st) (kf : ¬ x < 0 → V X a b nL sg o lo pc1 st) : V X a b nL sg o lo pc (.int x :: st) := by
  subst hp; exact fun H locs ls hP hS hl => lv_if_lt C.1 C.2.1 d ht (fun h => kt h H locs ls hP hS hl) (fun h => kf h H locs ls hP hS hl)
theorem v_if_ge (C : CF X cc own nL rk mc ms) {x : Int32} (d : decode cc pc = .ok (.ifCond .ge off, 3)) (ht : (pc : Int) + off = (tgt : Int)) (hp : pc + 3 = pc1) (kt : ¬ x < 0 → V X a b nL sg o lo tgt st) (kf : x < 0 → V X a b nL sg o lo pc1 st) : V X a b nL sg o lo pc (.int x :: st) := by
  subst hp; exact fun H locs ls hP hS hl => lv_if_ge C.1 C.2.1 d ht (fun h => kt (Int32.not_lt.mpr h) H locs ls hP hS hl) (fun h => kf (Int32.not_le.mp h) H locs ls hP hS hl)
theorem v_if_gt (C : CF X cc own nL rk mc ms) {x : Int32} (d : decode cc pc = .ok (.ifCond .gt off, 3)) (ht : (pc : Int) + off = (tgt : Int)) (hp : pc + 3 = pc1) (kt : 0 < x → V X a b nL sg o lo tgt st) (kf : ¬ 0 < x → V X a b nL sg o lo pc1 st) : V X a b nL sg o lo pc (.int x :: st) := by
  subst hp; exact fun H locs ls hP hS hl => lv_if_gt C.1 C.2.1 d ht (fun h => kt h H locs ls hP hS hl) (fun h => kf h H locs ls hP hS hl)
theorem v_if_le (C : CF X cc own nL rk mc ms) {x : Int32} (d : decode cc pc = .ok (.ifCond .le off, 3)) (ht : (pc : Int) + off = (tgt : Int)) (hp : pc + 3 = pc1) (kt : ¬ 0 < x → V X a b nL sg o lo tgt st) (kf : 0 < x → V X a b nL sg o lo pc1 st) : V X a b nL sg o lo pc (.int x :: st) := by
  subst hp; exact fun H locs ls hP hS hl => lv_if_le C.1 C.2.1 d ht (fun h => kt (Int32.not_lt.mpr h) H locs ls hP hS hl) (fun h => kf (Int32.not_le.mp h) H locs ls hP hS hl)
theorem v_ifnonnull (C : CF X cc own nL rk mc ms) {x : Nat} (d : decode cc pc = .ok (.ifnonnull off, 3)) (ht : (pc : Int) + off = (tgt : Int)) (k : V X a b nL sg o lo tgt st) : V X a b nL sg o lo pc (.ref x :: st) :=
  fun H locs ls hP hS hl => lv_ifnonnull C.1 C.2.1 d ht (k H locs ls hP hS hl)
theorem v_ifnonnullN (C : CF X cc own nL rk mc ms) (d : decode cc pc = .ok (.ifnonnull off, 3)) (hp : pc + 3 = pc1) (k : V X a b nL sg o lo pc1 st) : V X a b nL sg o lo pc (.null :: st) := by
  subst hp; exact fun H locs ls hP hS hl => lv_ifnonnullN C.1 C.2.1 d (k H locs ls hP hS hl)
theorem v_ifnull (C : CF X cc own nL rk mc ms) {x : Nat} (d : decode cc pc = .ok (.ifnull off, 3)) (hp : pc + 3 = pc1) (k : V X a b nL sg o lo pc1 st) : V X a b nL sg o lo pc (.ref x :: st) := by
  subst hp; exact fun H locs ls hP hS hl => lv_ifnull C.1 C.2.1 d (k H locs ls hP hS hl)
theorem v_ifnullN (C : CF X cc own nL rk mc ms) (d : decode cc pc = .ok (.ifnull off, 3)) (ht : (pc : Int) + off = (tgt : Int)) (k : V X a b nL sg o lo tgt st) : V X a b nL sg o lo pc (.null :: st) :=
  fun H locs ls hP hS hl => lv_ifnullN C.1 C.2.1 d ht (k H locs ls hP hS hl)
theorem v_aconst_null (C : CF X cc own nL rk mc ms) (d : decode cc pc = .ok (.aconst_null, 1)) (hp : pc + 1 = pc1) (k : V X a b nL sg o lo pc1 (.null :: st)) : V X a b nL sg o lo pc st := by
  subst hp; exact fun H locs ls hP hS hl => lv_null C.1 C.2.1 d (k H locs ls hP hS hl)
/-- a truth as the machine has it -/
def b2i (P : Prop) [Decidable P] : Int32 := if P then 1 else 0
theorem v_if_eqB (C : CF X cc own nL rk mc ms) {P : Prop} [Decidable P] (d : decode cc pc = .ok (.ifCond .eq off, 3)) (ht : (pc : Int) + off = (tgt : Int)) (hp : pc + 3 = pc1) (kt : ¬ P → V X a b nL sg o lo tgt st) (kf : P → V X a b nL sg o lo pc1 st) : V X a b nL sg o lo pc (.int (b2i P) :: st) := by
  refine v_if_eq C d ht hp (fun h => ?_) (fun h => ?_)
  · by_cases hP : P
    · rw [b2i, if_pos hP] at h; exact absurd h (by decide)
    · exact kt hP
  · by_cases hP : P
    · exact kf hP
    · rw [b2i, if_neg hP] at h; exact absurd rfl h
theorem v_if_neB (C : CF X cc own nL rk mc ms) {P : Prop} [Decidable P] (d : decode cc pc = .ok (.ifCond .ne off, 3)) (ht : (pc : Int) + off = (tgt : Int)) (hp : pc + 3 = pc1) (kt : P → V X a b nL sg o lo tgt st) (kf : ¬ P → V X a b nL sg o lo pc1 st) : V X a b nL sg o lo pc (.int (b2i P) :: st) := by
  refine v_if_ne C d ht hp (fun h => ?_) (fun h => ?_)
  · by_cases hP : P
    · exact kt hP
    · rw [b2i, if_neg hP] at h; exact absurd rfl h
  · by_cases hP : P
    · rw [b2i, if_pos hP] at h; exact absurd h (by decide)
    · exact kf hP
/-! fields -/
theorem ent_o {g : Nat → Nat} {K : Nat → ClassId} {sg : Sg} {o : Ot} {c ci : Nat} {sl : List Nat} (h : lay c = .inl (ci, sl)) : ent g K sg o c = .inr (ci, sls g (sg c) 0 sl) := by
  unfold ent; rw [h]
theorem ent_a {g : Nat → Nat} {K : Nat → ClassId} {sg : Sg} {o : Ot} {c ty n bs : Nat} (h : lay c = .inr (ty, n, bs)) : ent g K sg o c = .inl (K ty, n, arc g (sg c) o ty bs) := by
  unfold ent; rw [h]
theorem lay_lt {c ci : Nat} {sl : List Nat} (h : lay c = .inl (ci, sl)) (hc : c < 68) : c < 68 := hc
theorem v_get (C : CF X cc own nL rk mc ms) {idx ci k c code : Nat} {sl : List Nat} (F : FL own idx ci k) (hc : c < 68) (hy : lay c = .inl (ci, sl)) (hs : sl[k]? = some code) (d : decode cc pc = .ok (.getfield idx, 3)) (hp : pc + 3 = pc1) (kk : V X a b nL sg o lo pc1 (slv (xg X) (sg c k) code :: st)) : V X a b nL sg o lo pc (.ref (xg X c) :: st) := by
  subst hp
  intro H locs ls hP hS hl
  obtain ⟨Cn, T, N, ty0, h1, h2, h3, h4, h5, -, -⟩ := F
  have he : (wls (xg X) (xK X) sg o)[c]? = some (xg X c, .inr (ci, sls (xg X) (sg c) 0 sl)) := by rw [wls_at hc, ent_o hy]
  have hv := sls_at (g := xg X) (f := sg c) sl 0 k code hs
  rw [Nat.zero_add] at hv
  exact va_get C.1 C.2.1 C.2.2.2.2.1 h2 C.2.2.2.1 C.2.2.2.2.2.1 hP c he h1 k h3 (C.2.2.2.2.1 _ h4) (fun x hx => by rw [h5] at hx; exact hx) hv d (kk H locs ls hP hS hl)
theorem v_geti (C : CF X cc own nL rk mc ms) {idx ci k c : Nat} {sl : List Nat} (F : FL own idx ci k) (hc : c < 68) (hy : lay c = .inl (ci, sl)) (hs : sl[k]? = some 0) (d : decode cc pc = .ok (.getfield idx, 3)) (hp : pc + 3 = pc1) (kk : V X a b nL sg o lo pc1 (.int (sg c k) :: st)) : V X a b nL sg o lo pc (.ref (xg X c) :: st) := v_get C F hc hy hs d hp kk
theorem v_getr (C : CF X cc own nL rk mc ms) {idx ci k c : Nat} {sl : List Nat} (e : Nat) (F : FL own idx ci k) (hc : c < 68) (hy : lay c = .inl (ci, sl)) (hs : sl[k]? = some (e + 2)) (d : decode cc pc = .ok (.getfield idx, 3)) (hp : pc + 3 = pc1) (kk : V X a b nL sg o lo pc1 (.ref (xg X e) :: st)) : V X a b nL sg o lo pc (.ref (xg X c) :: st) := v_get C F hc hy hs d hp kk
theorem v_getp (C : CF X cc own nL rk mc ms) {idx ci k c : Nat} {sl : List Nat} (F : FL own idx ci k) (hc : c < 68) (hy : lay c = .inl (ci, sl)) (hs : sl[k]? = some 1) (d : decode cc pc = .ok (.getfield idx, 3)) (hp : pc + 3 = pc1) (kn : sg c k < 0 → V X a b nL sg o lo pc1 (.null :: st)) (kr : ¬ sg c k < 0 → V X a b nL sg o lo pc1 (.ref (xg X (37 + ix (sg c k))) :: st)) : V X a b nL sg o lo pc (.ref (xg X c) :: st) := by
  refine v_get C F hc hy hs d hp ?_
  by_cases h : sg c k < 0
  · have : slv (xg X) (sg c k) 1 = .null := by show pres _ _ = _; rw [pres, if_pos h]
    rw [this]; exact kn h
  · have : slv (xg X) (sg c k) 1 = .ref (xg X (37 + ix (sg c k))) := by show pres _ _ = _; rw [pres, if_neg h]
    rw [this]; exact kr h
theorem v_put (C : CF X cc own nL rk mc ms) {idx ci k c code : Nat} {sl : List Nat} {ty : FieldType} {x : Int32} {v : Value} (hv : v = slv (xg X) x code) (F : FLp own idx ci k ty) (hn : narrow ty v = v) (hf : fits ty v = true) (hc : c < 68) (hy : lay c = .inl (ci, sl)) (hs : sl[k]? = some code) (d : decode cc pc = .ok (.putfield idx, 3)) (hp : pc + 3 = pc1) (kk : V X a b nL (up sg c k x) o lo pc1 st) : V X a b nL sg o lo pc (v :: .ref (xg X c) :: st) := by
  subst hp
  intro H locs ls hP hS hl
  obtain ⟨Cn, T, N, ty0, h1, h2, h3, h4, h5, h6, h7, h8, h9⟩ := F
  have he : (wls (xg X) (xK X) sg o)[c]? = some (xg X c, .inr (ci, sls (xg X) (sg c) 0 sl)) := by rw [wls_at hc, ent_o hy]
  have hset : (wls (xg X) (xK X) sg o).set c (xg X c, .inr (ci, (sls (xg X) (sg c) 0 sl).set k v)) = wls (xg X) (xK X) (up sg c k x) o := by
    have e1 : (Sum.inr (ci, (sls (xg X) (sg c) 0 sl).set k v) : va_E) = ent (xg X) (xK X) (up sg c k x) o c := by
      rw [ent_o hy]
      have := sls_set (g := xg X) (f := sg c) (f1 := up sg c k x c) sl 0 k code hs (fun j hj => by simp only [up]; rw [if_neg]; rintro ⟨-, h⟩; omega)
      rw [Nat.zero_add, up_at, ← hv] at this
      rw [this]
    rw [e1]
    exact wls_set hc (fun c1 _ h => ent_ne c1 h)
  refine va_put C.1 C.2.1 C.2.2.2.2.1 h2 ty0 h6 h7 C.2.2.2.1 C.2.2.2.2.2.1 hP (wls_D C.2.2.2.2.2.2.1 C.2.2.2.2.2.2.2.1) hS c he h1 k h3 (C.2.2.2.2.1 _ h4) (fun x hx => by rw [h5] at hx; exact hx) h8 h9 hn hf (by rw [sls_len]; exact (List.getElem?_eq_some_iff.mp hs).1) d (fun H1 locs1 hP1 _ hS1 => ?_)
  rw [hset] at hP1
  exact kk H1 locs1 ls hP1 hS1 hl
theorem v_puti (C : CF X cc own nL rk mc ms) {idx ci k c : Nat} {sl : List Nat} {x : Int32} (F : FLp own idx ci k .int) (hc : c < 68) (hy : lay c = .inl (ci, sl)) (hs : sl[k]? = some 0) (d : decode cc pc = .ok (.putfield idx, 3)) (hp : pc + 3 = pc1) (kk : V X a b nL (up sg c k x) o lo pc1 st) : V X a b nL sg o lo pc (.int x :: .ref (xg X c) :: st) := v_put C (x := x) rfl F rfl rfl hc hy hs d hp kk
/-! rows -/
theorem v_len (ty : Nat) : ∀ K : Nat → ClassId, ty < 7 → ∃ t, (tyl K)[ty]? = some (K ty, t) := by
  intro K h
  match ty, h with
  | 0, _ => exact ⟨_, rfl⟩
  | 1, _ => exact ⟨_, rfl⟩
  | 2, _ => exact ⟨_, rfl⟩
  | 3, _ => exact ⟨_, rfl⟩
  | 4, _ => exact ⟨_, rfl⟩
  | 5, _ => exact ⟨_, rfl⟩
  | 6, _ => exact ⟨_, rfl⟩
  | n + 7, h => exact absurd h (by omega)
theorem v_iald (C : CF X cc own nL rk mc ms) {c n bs : Nat} {i : Int32} (hi : vp_in i n) (hc : c < 68) (hy : lay c = .inr (0, n, bs)) (d : decode cc pc = .ok (.iaload, 1)) (hp : pc + 1 = pc1) (kk : V X a b nL sg o lo pc1 (.int (sg c (ix i)) :: st)) : V X a b nL sg o lo pc (.int i :: .ref (xg X c) :: st) := by
  subst hp
  intro H locs ls hP hS hl
  have he : (wls (xg X) (xK X) sg o)[c]? = some (xg X c, .inl (xK X 0, n, .inl (sg c))) := by rw [wls_at hc, ent_a hy]; rfl
  exact va_iald C.1 C.2.1 C.2.2.2.2.2.1 hP c 0 he rfl hi d (kk H locs ls hP hS hl)
theorem nI_ix {j : Nat} (h : j < 2 ^ 31) : ix (nI j) = j := by
  unfold ix nI Int32.toNatClampNeg
  rw [Int32.toInt_ofNat_of_lt h]
  rfl
theorem v_ialdN (C : CF X cc own nL rk mc ms) {c n bs j : Nat} (hj : j < n) (hn : n < 1000) (hc : c < 68) (hy : lay c = .inr (0, n, bs)) (d : decode cc pc = .ok (.iaload, 1)) (hp : pc + 1 = pc1) (kk : V X a b nL sg o lo pc1 (.int (sg c j) :: st)) : V X a b nL sg o lo pc (.int (nI j) :: .ref (xg X c) :: st) := by
  refine v_iald C (vp_in_nI hj (by omega)) hc hy d hp ?_
  rw [nI_ix (by omega)]
  exact kk
theorem v_zald (C : CF X cc own nL rk mc ms) {c n bs : Nat} {i : Int32} (hi : vp_in i n) (hc : c < 68) (hy : lay c = .inr (1, n, bs)) (d : decode cc pc = .ok (.baload, 1)) (hp : pc + 1 = pc1) (kk : V X a b nL sg o lo pc1 (.int (sg c (ix i)) :: st)) : V X a b nL sg o lo pc (.int i :: .ref (xg X c) :: st) := by
  subst hp
  intro H locs ls hP hS hl
  have he : (wls (xg X) (xK X) sg o)[c]? = some (xg X c, .inl (xK X 1, n, .inl (sg c))) := by rw [wls_at hc, ent_a hy]; rfl
  exact va_zald C.1 C.2.1 C.2.2.2.2.2.1 hP c 1 he rfl hi d (kk H locs ls hP hS hl)
theorem v_aald (C : CF X cc own nL rk mc ms) {c ty n bs : Nat} {i : Int32} (h2 : ty = 2 ∨ ty = 3 ∨ ty = 4) (hi : vp_in i n) (hc : c < 68) (hy : lay c = .inr (ty, n, bs)) (d : decode cc pc = .ok (.aaload, 1)) (hp : pc + 1 = pc1) (kk : V X a b nL sg o lo pc1 (.ref (xg X (bs + ix i)) :: st)) : V X a b nL sg o lo pc (.int i :: .ref (xg X c) :: st) := by
  subst hp
  intro H locs ls hP hS hl
  have he : (wls (xg X) (xK X) sg o)[c]? = some (xg X c, .inl (xK X ty, n, .inr (.inr (.inr (.inr (fun j => some (xg X (bs + j)))))))) := by rw [wls_at hc, ent_a hy]; rcases h2 with rfl | rfl | rfl <;> rfl
  rcases h2 with rfl | rfl | rfl
  · exact va_aldq C.1 C.2.1 C.2.2.2.2.2.1 hP c 2 he rfl hi d (kk H locs ls hP hS hl)
  · exact va_aldq C.1 C.2.1 C.2.2.2.2.2.1 hP c 3 he rfl hi d (kk H locs ls hP hS hl)
  · exact va_aldq C.1 C.2.1 C.2.2.2.2.2.1 hP c 4 he rfl hi d (kk H locs ls hP hS hl)
theorem v_aaldN (C : CF X cc own nL rk mc ms) {c ty n bs j : Nat} (h2 : ty = 2 ∨ ty = 3 ∨ ty = 4) (hj : j < n) (hn : n < 1000) (hc : c < 68) (hy : lay c = .inr (ty, n, bs)) (d : decode cc pc = .ok (.aaload, 1)) (hp : pc + 1 = pc1) (kk : V X a b nL sg o lo pc1 (.ref (xg X (bs + j)) :: st)) : V X a b nL sg o lo pc (.int (nI j) :: .ref (xg X c) :: st) := by
  refine v_aald C h2 (vp_in_nI hj (by omega)) hc hy d hp ?_
  rw [nI_ix (by omega)]
  exact kk
theorem up_wls {g : Nat → Nat} {K : Nat → ClassId} {c ty n bs j : Nat} {x : Int32} (hc : c < 68) (ht : ty < 2) (hy : lay c = .inr (ty, n, bs)) : (wls g K sg o).set c (g c, .inl (K ty, n, .inl (upd (sg c) j x))) = wls g K (up sg c j x) o := by
  have e1 : (Sum.inl (K ty, n, Sum.inl (upd (sg c) j x)) : va_E) = ent g K (up sg c j x) o c := by
    rw [ent_a hy, up_row, arc, if_pos ht]
  rw [e1]
  exact wls_set hc (fun c1 _ h => ent_ne c1 h)
theorem v_iast (C : CF X cc own nL rk mc ms) {c n bs : Nat} {i x : Int32} (hi : vp_in i n) (hc : c < 68) (hy : lay c = .inr (0, n, bs)) (d : decode cc pc = .ok (.iastore, 1)) (hp : pc + 1 = pc1) (kk : V X a b nL (up sg c (ix i) x) o lo pc1 st) : V X a b nL sg o lo pc (.int x :: .int i :: .ref (xg X c) :: st) := by
  subst hp
  intro H locs ls hP hS hl
  have he : (wls (xg X) (xK X) sg o)[c]? = some (xg X c, .inl (xK X 0, n, .inl (sg c))) := by rw [wls_at hc, ent_a hy]; rfl
  refine va_iast C.1 C.2.1 C.2.2.2.2.2.1 hP (wls_D C.2.2.2.2.2.2.1 C.2.2.2.2.2.2.2.1) hS c 0 he rfl hi d (fun H1 locs1 hP1 _ hS1 => ?_)
  rw [up_wls hc (by decide) hy] at hP1
  exact kk H1 locs1 ls hP1 hS1 hl
theorem v_iastN (C : CF X cc own nL rk mc ms) {c n bs j : Nat} {x : Int32} (hj : j < n) (hn : n < 1000) (hc : c < 68) (hy : lay c = .inr (0, n, bs)) (d : decode cc pc = .ok (.iastore, 1)) (hp : pc + 1 = pc1) (kk : V X a b nL (up sg c j x) o lo pc1 st) : V X a b nL sg o lo pc (.int x :: .int (nI j) :: .ref (xg X c) :: st) := by
  refine v_iast C (vp_in_nI hj (by omega)) hc hy d hp ?_
  rw [nI_ix (by omega)]
  exact kk
theorem v_zast1 (C : CF X cc own nL rk mc ms) {c n bs : Nat} {i : Int32} (hi : vp_in i n) (hc : c < 68) (hy : lay c = .inr (1, n, bs)) (d : decode cc pc = .ok (.bastore, 1)) (hp : pc + 1 = pc1) (kk : V X a b nL (up sg c (ix i) 1) o lo pc1 st) : V X a b nL sg o lo pc (.int 1 :: .int i :: .ref (xg X c) :: st) := by
  subst hp
  intro H locs ls hP hS hl
  have he : (wls (xg X) (xK X) sg o)[c]? = some (xg X c, .inl (xK X 1, n, .inl (sg c))) := by rw [wls_at hc, ent_a hy]; rfl
  refine va_zast C.1 C.2.1 C.2.2.2.2.2.1 hP (wls_D C.2.2.2.2.2.2.1 C.2.2.2.2.2.2.2.1) hS c 1 he rfl hi d (fun H1 locs1 hP1 _ hS1 => ?_)
  rw [show vp_nar .boolean 1 = 1 by decide, up_wls hc (by decide) hy] at hP1
  exact kk H1 locs1 ls hP1 hS1 hl
end VS
