def fl_X2_indexOf (sg : Sg) (r : Nat) (p : Int32) : Nat → Nat → Int32
  | 0, _ => (-1)
  | n + 1, k => if sg (r + 1) k = p then nI k else fl_X2_indexOf sg r p n (k + 1)
def fl_X2_isWorkedOn (sg : Sg) (r : Nat) (p : Int32) : Nat → Nat → Bool
  | 0, _ => false
  | n + 1, k => if p < sg (r + 2) k then fl_X2_isWorkedOn sg r p n (k + 1) else if p < sg (r + 3) k then true else fl_X2_isWorkedOn sg r p n (k + 1)
def fl_empt (r : Nat) : Nat → Nat → Sg → Sg
  | 0, _, s => s
  | n + 1, k, s => fl_empt r n (k + 1) (up s (r + 5) k 0)
def fl_cp1 (r q : Nat) : Nat → Nat → Sg → Sg
  | 0, _, s => s
  | n + 1, k, s => fl_cp1 r q n (k + 1) (up (up (up (up s (r + 1) k (s (q + 1) k)) (r + 2) k (s (q + 2) k)) (r + 3) k (s (q + 3) k)) (r + 4) k (s (q + 4) k))
def fl_cp2 (r q : Nat) : Nat → Nat → Sg → Sg
  | 0, _, s => s
  | n + 1, k, s => fl_cp2 r q n (k + 1) (up s (r + 5) k (s (q + 5) k))
def fs_empt (sg : Sg) (r : Nat) : Sg := fl_empt r 8 0 (up (up (up sg r 5 0) r 6 0) r 7 0)
def fs_copy (sg : Sg) (r q : Nat) : Sg := fl_cp2 r q 8 0 (fl_cp1 r q 6 0 (up (up (up sg r 5 (sg q 5)) r 6 (sg q 6)) r 7 (sg q 7)))
set_option maxHeartbeats 4000000 in
set_option maxRecDepth 20000 in
theorem lp_X2_indexOf {X : Cx} {rk : Nat} (C : CF X cX2_indexOf RX2 3 rk 0 0) (sg : Sg) (o : Ot) (r : Nat) (h_r : isR r) (p : Int32) (N : Nat) (h6 : N ≤ 6) (hN : sg r 5 = nI N) {z : Int32} (E : Ei X cX2_indexOf 0 0 sg o z) : ∀ (n k : Nat) , n + k = N → z = fl_X2_indexOf sg r p n k → V X 0 0 3 sg o [(2, .int (nI k)), (0, .ref (xg X r)), (1, .int p)] 2 [] := by
  refine loop_ind fun n ih => ?_
  intro k hnk hr
  refine v_iload_n (j := 0) C dX2_indexOf_2 rfl rfl rfl ?_
  refine v_aload_n (j := 1) C dX2_indexOf_3 rfl rfl rfl ?_
  refine v_geti (c := r) C flX2_27 (lt_rg h_r) (lay_rg h_r) rfl dX2_indexOf_4 rfl ?_
  refine v_icmp_ge (tgt := 28) C dX2_indexOf_7 (by decide) rfl (fun h7_1 => ?_) (fun h7_1 => ?_)
  · skip
    rw [hN, nI_lt_iff (by omega) (by omega)] at h7_1; obtain rfl : n = 0 := by omega
    refine v_iconst (v := (-1)) C dX2_indexOf_28 (by decide) rfl ?_
    exact v_ret E dX2_indexOf_29 (by decide) (by decide) (by rw [hr]; simp only [fl_X2_indexOf]) (rfl) rfl
  · skip
    rw [hN, nI_lt_iff (by omega) (by omega)] at h7_1; obtain ⟨m, rfl⟩ : ∃ m, n = m + 1 := ⟨n - 1, by omega⟩
    refine v_aload_n (j := 1) C dX2_indexOf_10 rfl rfl rfl ?_
    refine v_getr (c := r) C (r + 1) flX2_9 (lt_rg h_r) (lay_rg h_r) rfl dX2_indexOf_11 rfl ?_
    refine v_iload_n (j := 0) C dX2_indexOf_14 rfl rfl rfl ?_
    refine v_ialdN (c := (r + 1)) C (by omega) (by decide) (lt_ra h_r (by decide)) (lay_r1 h_r) dX2_indexOf_15 rfl ?_
    refine v_iload_n (j := 2) C dX2_indexOf_16 rfl rfl rfl ?_
    refine v_icmp_ne (tgt := 22) C dX2_indexOf_17 (by decide) rfl (fun h17_2 => ?_) (fun h17_2 => ?_)
    · skip
      refine v_iinc (j := 0) (v := (nI (k + 1))) C [(2, .int (nI (k + 1))), (0, .ref (xg X r)), (1, .int p)] dX2_indexOf_22 rfl (nI_add1 _) (by decide) rfl rfl ?_
      refine v_goto (pc1 := 2) C dX2_indexOf_25 (by decide) ?_
      exact ih m (by omega) (k + 1)  (by omega) (by rw [hr]; simp only [fl_X2_indexOf, if_neg h17_2])
    · skip
      refine v_iload_n (j := 0) C dX2_indexOf_20 rfl rfl rfl ?_
      exact v_ret E dX2_indexOf_21 (by decide) (by decide) (by rw [hr]; simp only [fl_X2_indexOf, if_pos h17_2]) (rfl) rfl
set_option maxHeartbeats 4000000 in
set_option maxRecDepth 20000 in
theorem lp_X2_isWorkedOn {X : Cx} {rk : Nat} (C : CF X cX2_isWorkedOn RX2 3 rk 0 0) (sg : Sg) (o : Ot) (r : Nat) (h_r : isR r) (p : Int32) (N : Nat) (h6 : N ≤ 6) (hN : sg r 5 = nI N) {z : Int32} (E : Ei X cX2_isWorkedOn 0 0 sg o z) : ∀ (n k : Nat) , n + k = N → z = b2i (fl_X2_isWorkedOn sg r p n k = true) → V X 0 0 3 sg o [(2, .int (nI k)), (0, .ref (xg X r)), (1, .int p)] 2 [] := by
  refine loop_ind fun n ih => ?_
  intro k hnk hr
  refine v_iload_n (j := 0) C dX2_isWorkedOn_2 rfl rfl rfl ?_
  refine v_aload_n (j := 1) C dX2_isWorkedOn_3 rfl rfl rfl ?_
  refine v_geti (c := r) C flX2_27 (lt_rg h_r) (lay_rg h_r) rfl dX2_isWorkedOn_4 rfl ?_
  refine v_icmp_ge (tgt := 38) C dX2_isWorkedOn_7 (by decide) rfl (fun h7_1 => ?_) (fun h7_1 => ?_)
  · skip
    rw [hN, nI_lt_iff (by omega) (by omega)] at h7_1; obtain rfl : n = 0 := by omega
    refine v_iconst (v := 0) C dX2_isWorkedOn_38 (by decide) rfl ?_
    exact v_ret E dX2_isWorkedOn_39 (by decide) (by decide) (by rw [hr]; exact b2i_f (ne_true_of_eq_false (by simp only [fl_X2_isWorkedOn]))) (rfl) rfl
  · skip
    rw [hN, nI_lt_iff (by omega) (by omega)] at h7_1; obtain ⟨m, rfl⟩ : ∃ m, n = m + 1 := ⟨n - 1, by omega⟩
    refine v_iload_n (j := 2) C dX2_isWorkedOn_10 rfl rfl rfl ?_
    refine v_aload_n (j := 1) C dX2_isWorkedOn_11 rfl rfl rfl ?_
    refine v_getr (c := r) C (r + 2) flX2_15 (lt_rg h_r) (lay_rg h_r) rfl dX2_isWorkedOn_12 rfl ?_
    refine v_iload_n (j := 0) C dX2_isWorkedOn_15 rfl rfl rfl ?_
    refine v_ialdN (c := (r + 2)) C (by omega) (by decide) (lt_ra h_r (by decide)) (lay_r2 h_r) dX2_isWorkedOn_16 rfl ?_
    refine v_icmp_lt (tgt := 32) C dX2_isWorkedOn_17 (by decide) rfl (fun h17_2 => ?_) (fun h17_2 => ?_)
    · skip
      refine v_iinc (j := 0) (v := (nI (k + 1))) C [(2, .int (nI (k + 1))), (0, .ref (xg X r)), (1, .int p)] dX2_isWorkedOn_32 rfl (nI_add1 _) (by decide) rfl rfl ?_
      refine v_goto (pc1 := 2) C dX2_isWorkedOn_35 (by decide) ?_
      exact ih m (by omega) (k + 1)  (by omega) (by rw [hr]; simp only [fl_X2_isWorkedOn, if_pos h17_2])
    · skip
      refine v_iload_n (j := 2) C dX2_isWorkedOn_20 rfl rfl rfl ?_
      refine v_aload_n (j := 1) C dX2_isWorkedOn_21 rfl rfl rfl ?_
      refine v_getr (c := r) C (r + 3) flX2_18 (lt_rg h_r) (lay_rg h_r) rfl dX2_isWorkedOn_22 rfl ?_
      refine v_iload_n (j := 0) C dX2_isWorkedOn_25 rfl rfl rfl ?_
      refine v_ialdN (c := (r + 3)) C (by omega) (by decide) (lt_ra h_r (by decide)) (lay_r3 h_r) dX2_isWorkedOn_26 rfl ?_
      refine v_icmp_ge (tgt := 32) C dX2_isWorkedOn_27 (by decide) rfl (fun h27_3 => ?_) (fun h27_3 => ?_)
      · skip
        refine v_iinc (j := 0) (v := (nI (k + 1))) C [(2, .int (nI (k + 1))), (0, .ref (xg X r)), (1, .int p)] dX2_isWorkedOn_32 rfl (nI_add1 _) (by decide) rfl rfl ?_
        refine v_goto (pc1 := 2) C dX2_isWorkedOn_35 (by decide) ?_
        exact ih m (by omega) (k + 1)  (by omega) (by rw [hr]; simp only [fl_X2_isWorkedOn, if_neg h17_2, if_neg h27_3])
      · skip
        refine v_iconst (v := 1) C dX2_isWorkedOn_30 (by decide) rfl ?_
        exact v_ret E dX2_isWorkedOn_31 (by decide) (by decide) (by rw [hr]; exact b2i_t (by simp only [fl_X2_isWorkedOn, if_neg h17_2, if_pos h27_3])) (rfl) rfl
set_option maxHeartbeats 4000000 in
set_option maxRecDepth 20000 in
theorem k_X2_indexOf {l : Launch} {D : va_G} {K : Nat → ClassId} {g : Nat → Nat} (sg : Sg) (o : Ot) (r : Nat) (p : Int32) (h_r : isR r) (hD : DI sg) : CN l yX2_indexOf cX2_indexOf 3 (some .int) 1 D K g [.ref (g r), .int p] sg o (some (.int (fl_X2_indexOf sg r p (ix (sg r 5)) 0))) sg o :=
  mk_i (own := RX2) (av := fun g => [.ref (g r), .int p]) (lo := fun g => [(0, .ref (g r)), (1, .int p)]) (by decide) rfl rfl (fun _ => Nat.le_of_ble_eq_true rfl) (fun _ => rfl) fun X C E => by
    have hR_r : r = 5 ∨ r = 11 ∨ r = 17 := h_r
    refine v_iconst (v := nI 0) C dX2_indexOf_0 (by decide) rfl ?_
    refine v_istore_n C [(2, .int (nI 0)), (0, .ref (xg X r)), (1, .int p)] dX2_indexOf_1 rfl (by decide) rfl rfl ?_
    exact lp_X2_indexOf C sg o r h_r p _ (hD.sz h_r).ixl (hD.sz h_r).ixe E _ 0 (Nat.add_zero _) rfl
set_option maxHeartbeats 4000000 in
set_option maxRecDepth 20000 in
theorem k_X2_isWorkedOn {l : Launch} {D : va_G} {K : Nat → ClassId} {g : Nat → Nat} (sg : Sg) (o : Ot) (r : Nat) (p : Int32) (h_r : isR r) (hD : DI sg) : CN l yX2_isWorkedOn cX2_isWorkedOn 3 (some .boolean) 1 D K g [.ref (g r), .int p] sg o (some (.int (b2i (fl_X2_isWorkedOn sg r p (ix (sg r 5)) 0 = true)))) sg o :=
  mk_i (own := RX2) (av := fun g => [.ref (g r), .int p]) (lo := fun g => [(0, .ref (g r)), (1, .int p)]) (by decide) rfl b2i_nar (fun _ => Nat.le_of_ble_eq_true rfl) (fun _ => rfl) fun X C E => by
    have hR_r : r = 5 ∨ r = 11 ∨ r = 17 := h_r
    refine v_iconst (v := nI 0) C dX2_isWorkedOn_0 (by decide) rfl ?_
    refine v_istore_n C [(2, .int (nI 0)), (0, .ref (xg X r)), (1, .int p)] dX2_isWorkedOn_1 rfl (by decide) rfl rfl ?_
    exact lp_X2_isWorkedOn C sg o r h_r p _ (hD.sz h_r).ixl (hD.sz h_r).ixe E _ 0 (Nat.add_zero _) rfl
set_option maxHeartbeats 4000000 in
set_option maxRecDepth 20000 in
theorem lp_X2_empty {X : Cx} {rk : Nat} (C : CF X cX2_empty RX2 2 rk 0 0) (o : Ot) (r : Nat) (h_r : isR r) {sF : Sg} (E : Ev X cX2_empty 0 0 sF o) : ∀ (n k : Nat) (sg : Sg), n + k = 8 → sF = fl_empt r n k sg → V X 0 0 2 sg o [(1, .int (nI k)), (0, .ref (xg X r))] 17 [] := by
  refine loop_ind fun n ih => ?_
  intro k sg hnk hr
  refine v_iload_n (j := 0) C dX2_empty_17 rfl rfl rfl ?_
  refine v_bipush (v := 8) C dX2_empty_18 (by decide) rfl ?_
  refine v_icmp_ge (tgt := 36) C dX2_empty_20 (by decide) rfl (fun h20_1 => ?_) (fun h20_1 => ?_)
  · skip
    rw [show (8 : Int32) = nI 8 from rfl, nI_lt_iff (by omega) (by omega)] at h20_1; obtain rfl : n = 0 := by omega
    exact v_vret E dX2_empty_36 (by decide) (by decide) (by rw [hr]; simp only [fl_empt]) rfl
  · skip
    rw [show (8 : Int32) = nI 8 from rfl, nI_lt_iff (by omega) (by omega)] at h20_1; obtain ⟨m, rfl⟩ : ∃ m, n = m + 1 := ⟨n - 1, by omega⟩
    refine v_aload_n (j := 1) C dX2_empty_23 rfl rfl rfl ?_
    refine v_getr (c := r) C (r + 5) flX2_24 (lt_rg h_r) (lay_rg h_r) rfl dX2_empty_24 rfl ?_
    refine v_iload_n (j := 0) C dX2_empty_27 rfl rfl rfl ?_
    refine v_iconst (v := 0) C dX2_empty_28 (by decide) rfl ?_
    refine v_iastN (c := (r + 5)) C (by omega) (by decide) (lt_ra h_r (by decide)) (lay_r5 h_r) dX2_empty_29 rfl ?_
    refine v_iinc (j := 0) (v := (nI (k + 1))) C [(1, .int (nI (k + 1))), (0, .ref (xg X r))] dX2_empty_30 rfl (nI_add1 _) (by decide) rfl rfl ?_
    refine v_goto (pc1 := 17) C dX2_empty_33 (by decide) ?_
    exact ih m (by omega) (k + 1) (up sg (r + 5) k 0) (by omega) (by rw [hr]; simp only [fl_empt])
set_option maxHeartbeats 4000000 in
set_option maxRecDepth 20000 in
theorem k_X2_empty {l : Launch} {D : va_G} {K : Nat → ClassId} {g : Nat → Nat} (sg : Sg) (o : Ot) (r : Nat) (h_r : isR r) : CN l yX2_empty cX2_empty 2 none 1 D K g [.ref (g r)] sg o none (fs_empt sg r) o :=
  mk_v (own := RX2) (av := fun g => [.ref (g r)]) (lo := fun g => [(0, .ref (g r))]) (by decide) rfl (fun _ => Nat.le_of_ble_eq_true rfl) (fun _ => rfl) fun X C E => by
    have hR_r : r = 5 ∨ r = 11 ∨ r = 17 := h_r
    refine v_aload_n (j := 0) C dX2_empty_0 rfl rfl rfl ?_
    refine v_iconst (v := 0) C dX2_empty_1 (by decide) rfl ?_
    refine v_puti (c := r) C fpX2_27 (lt_rg h_r) (lay_rg h_r) rfl dX2_empty_2 rfl ?_
    refine v_aload_n (j := 0) C dX2_empty_5 rfl rfl rfl ?_
    refine v_iconst (v := 0) C dX2_empty_6 (by decide) rfl ?_
    refine v_puti (c := r) C fpX2_31 (lt_rg h_r) (lay_rg h_r) rfl dX2_empty_7 rfl ?_
    refine v_aload_n (j := 0) C dX2_empty_10 rfl rfl rfl ?_
    refine v_iconst (v := 0) C dX2_empty_11 (by decide) rfl ?_
    refine v_puti (c := r) C fpX2_34 (lt_rg h_r) (lay_rg h_r) rfl dX2_empty_12 rfl ?_
    refine v_iconst (v := nI 0) C dX2_empty_15 (by decide) rfl ?_
    refine v_istore_n C [(1, .int (nI 0)), (0, .ref (xg X r))] dX2_empty_16 rfl (by decide) rfl rfl ?_
    exact lp_X2_empty C o r h_r E 8 0 _ rfl rfl
set_option maxHeartbeats 4000000 in
set_option maxRecDepth 20000 in
theorem lp_X2_cp1 {X : Cx} {rk : Nat} (C : CF X cX2_copyFrom RX2 3 rk 0 0) (o : Ot) (r q : Nat) (h_r : isR r) (h_q : isR q) (hne : r ≠ q) {sF : Sg} (kk : V X 0 0 3 sF o [(2, .int (nI 6)), (0, .ref (xg X r)), (1, .ref (xg X q))] 86 []) : ∀ (n k : Nat) (sg : Sg), n + k = 6 → sF = fl_cp1 r q n k sg → V X 0 0 3 sg o [(2, .int (nI k)), (0, .ref (xg X r)), (1, .ref (xg X q))] 26 [] := by
  refine loop_ind fun n ih => ?_
  intro k sg hnk hr
  have hR_r : r = 5 ∨ r = 11 ∨ r = 17 := h_r
  have hR_q : q = 5 ∨ q = 11 ∨ q = 17 := h_q
  refine v_iload_n (j := 0) C dX2_copyFrom_26 rfl rfl rfl ?_
  refine v_bipush (v := 6) C dX2_copyFrom_27 (by decide) rfl ?_
  refine v_icmp_ge (tgt := 86) C dX2_copyFrom_29 (by decide) rfl (fun h29_1 => ?_) (fun h29_1 => ?_)
  · skip
    rw [show (6 : Int32) = nI 6 from rfl, nI_lt_iff (by omega) (by omega)] at h29_1; obtain rfl : n = 0 := by omega
    exact v_eq (by rw [hr]; rfl) (by rw [show k = 6 by omega]) rfl kk
  · skip
    rw [show (6 : Int32) = nI 6 from rfl, nI_lt_iff (by omega) (by omega)] at h29_1; obtain ⟨m, rfl⟩ : ∃ m, n = m + 1 := ⟨n - 1, by omega⟩
    refine v_aload_n (j := 1) C dX2_copyFrom_32 rfl rfl rfl ?_
    refine v_getr (c := r) C (r + 1) flX2_9 (lt_rg h_r) (lay_rg h_r) rfl dX2_copyFrom_33 rfl ?_
    refine v_iload_n (j := 0) C dX2_copyFrom_36 rfl rfl rfl ?_
    refine v_aload_n (j := 2) C dX2_copyFrom_37 rfl rfl rfl ?_
    refine v_getr (c := q) C (q + 1) flX2_9 (lt_rg h_q) (lay_rg h_q) rfl dX2_copyFrom_38 rfl ?_
    refine v_iload_n (j := 0) C dX2_copyFrom_41 rfl rfl rfl ?_
    refine v_ialdN (c := (q + 1)) C (by omega) (by decide) (lt_ra h_q (by decide)) (lay_r1 h_q) dX2_copyFrom_42 rfl ?_
    refine v_iastN (c := (r + 1)) C (by omega) (by decide) (lt_ra h_r (by decide)) (lay_r1 h_r) dX2_copyFrom_43 rfl ?_
    refine v_aload_n (j := 1) C dX2_copyFrom_44 rfl rfl rfl ?_
    refine v_getr (c := r) C (r + 2) flX2_15 (lt_rg h_r) (lay_rg h_r) rfl dX2_copyFrom_45 rfl ?_
    refine v_iload_n (j := 0) C dX2_copyFrom_48 rfl rfl rfl ?_
    refine v_aload_n (j := 2) C dX2_copyFrom_49 rfl rfl rfl ?_
    refine v_getr (c := q) C (q + 2) flX2_15 (lt_rg h_q) (lay_rg h_q) rfl dX2_copyFrom_50 rfl ?_
    refine v_iload_n (j := 0) C dX2_copyFrom_53 rfl rfl rfl ?_
    refine v_ialdN (c := (q + 2)) C (by omega) (by decide) (lt_ra h_q (by decide)) (lay_r2 h_q) dX2_copyFrom_54 rfl ?_
    refine v_rwi (y := sg (q + 2) k) ((up_ne _ _ (Or.inl (by omega))).trans rfl) ?_
    refine v_iastN (c := (r + 2)) C (by omega) (by decide) (lt_ra h_r (by decide)) (lay_r2 h_r) dX2_copyFrom_55 rfl ?_
    refine v_aload_n (j := 1) C dX2_copyFrom_56 rfl rfl rfl ?_
    refine v_getr (c := r) C (r + 3) flX2_18 (lt_rg h_r) (lay_rg h_r) rfl dX2_copyFrom_57 rfl ?_
    refine v_iload_n (j := 0) C dX2_copyFrom_60 rfl rfl rfl ?_
    refine v_aload_n (j := 2) C dX2_copyFrom_61 rfl rfl rfl ?_
    refine v_getr (c := q) C (q + 3) flX2_18 (lt_rg h_q) (lay_rg h_q) rfl dX2_copyFrom_62 rfl ?_
    refine v_iload_n (j := 0) C dX2_copyFrom_65 rfl rfl rfl ?_
    refine v_ialdN (c := (q + 3)) C (by omega) (by decide) (lt_ra h_q (by decide)) (lay_r3 h_q) dX2_copyFrom_66 rfl ?_
    refine v_rwi (y := sg (q + 3) k) ((up_ne _ _ (Or.inl (by omega))).trans ((up_ne _ _ (Or.inl (by omega))).trans rfl)) ?_
    refine v_iastN (c := (r + 3)) C (by omega) (by decide) (lt_ra h_r (by decide)) (lay_r3 h_r) dX2_copyFrom_67 rfl ?_
    refine v_aload_n (j := 1) C dX2_copyFrom_68 rfl rfl rfl ?_
    refine v_getr (c := r) C (r + 4) flX2_21 (lt_rg h_r) (lay_rg h_r) rfl dX2_copyFrom_69 rfl ?_
    refine v_iload_n (j := 0) C dX2_copyFrom_72 rfl rfl rfl ?_
    refine v_aload_n (j := 2) C dX2_copyFrom_73 rfl rfl rfl ?_
    refine v_getr (c := q) C (q + 4) flX2_21 (lt_rg h_q) (lay_rg h_q) rfl dX2_copyFrom_74 rfl ?_
    refine v_iload_n (j := 0) C dX2_copyFrom_77 rfl rfl rfl ?_
    refine v_ialdN (c := (q + 4)) C (by omega) (by decide) (lt_ra h_q (by decide)) (lay_r4 h_q) dX2_copyFrom_78 rfl ?_
    refine v_rwi (y := sg (q + 4) k) ((up_ne _ _ (Or.inl (by omega))).trans ((up_ne _ _ (Or.inl (by omega))).trans ((up_ne _ _ (Or.inl (by omega))).trans rfl))) ?_
    refine v_iastN (c := (r + 4)) C (by omega) (by decide) (lt_ra h_r (by decide)) (lay_r4 h_r) dX2_copyFrom_79 rfl ?_
    refine v_iinc (j := 0) (v := (nI (k + 1))) C [(2, .int (nI (k + 1))), (0, .ref (xg X r)), (1, .ref (xg X q))] dX2_copyFrom_80 rfl (nI_add1 _) (by decide) rfl rfl ?_
    refine v_goto (pc1 := 26) C dX2_copyFrom_83 (by decide) ?_
    exact ih m (by omega) (k + 1) (up (up (up (up sg (r + 1) k (sg (q + 1) k)) (r + 2) k (sg (q + 2) k)) (r + 3) k (sg (q + 3) k)) (r + 4) k (sg (q + 4) k)) (by omega) (by rw [hr]; simp only [fl_cp1])
set_option maxHeartbeats 4000000 in
set_option maxRecDepth 20000 in
theorem lp_X2_cp2 {X : Cx} {rk : Nat} (C : CF X cX2_copyFrom RX2 3 rk 0 0) (o : Ot) (r q : Nat) (h_r : isR r) (h_q : isR q) (hne : r ≠ q) {sF : Sg} (E : Ev X cX2_copyFrom 0 0 sF o) : ∀ (n k : Nat) (sg : Sg), n + k = 8 → sF = fl_cp2 r q n k sg → V X 0 0 3 sg o [(2, .int (nI k)), (0, .ref (xg X r)), (1, .ref (xg X q))] 88 [] := by
  refine loop_ind fun n ih => ?_
  intro k sg hnk hr
  have hR_r : r = 5 ∨ r = 11 ∨ r = 17 := h_r
  have hR_q : q = 5 ∨ q = 11 ∨ q = 17 := h_q
  refine v_iload_n (j := 0) C dX2_copyFrom_88 rfl rfl rfl ?_
  refine v_bipush (v := 8) C dX2_copyFrom_89 (by decide) rfl ?_
  refine v_icmp_ge (tgt := 112) C dX2_copyFrom_91 (by decide) rfl (fun h91_1 => ?_) (fun h91_1 => ?_)
  · skip
    rw [show (8 : Int32) = nI 8 from rfl, nI_lt_iff (by omega) (by omega)] at h91_1; obtain rfl : n = 0 := by omega
    exact v_vret E dX2_copyFrom_112 (by decide) (by decide) (by rw [hr]; simp only [fl_cp2]) rfl
  · skip
    rw [show (8 : Int32) = nI 8 from rfl, nI_lt_iff (by omega) (by omega)] at h91_1; obtain ⟨m, rfl⟩ : ∃ m, n = m + 1 := ⟨n - 1, by omega⟩
    refine v_aload_n (j := 1) C dX2_copyFrom_94 rfl rfl rfl ?_
    refine v_getr (c := r) C (r + 5) flX2_24 (lt_rg h_r) (lay_rg h_r) rfl dX2_copyFrom_95 rfl ?_
    refine v_iload_n (j := 0) C dX2_copyFrom_98 rfl rfl rfl ?_
    refine v_aload_n (j := 2) C dX2_copyFrom_99 rfl rfl rfl ?_
    refine v_getr (c := q) C (q + 5) flX2_24 (lt_rg h_q) (lay_rg h_q) rfl dX2_copyFrom_100 rfl ?_
    refine v_iload_n (j := 0) C dX2_copyFrom_103 rfl rfl rfl ?_
    refine v_ialdN (c := (q + 5)) C (by omega) (by decide) (lt_ra h_q (by decide)) (lay_r5 h_q) dX2_copyFrom_104 rfl ?_
    refine v_iastN (c := (r + 5)) C (by omega) (by decide) (lt_ra h_r (by decide)) (lay_r5 h_r) dX2_copyFrom_105 rfl ?_
    refine v_iinc (j := 0) (v := (nI (k + 1))) C [(2, .int (nI (k + 1))), (0, .ref (xg X r)), (1, .ref (xg X q))] dX2_copyFrom_106 rfl (nI_add1 _) (by decide) rfl rfl ?_
    refine v_goto (pc1 := 88) C dX2_copyFrom_109 (by decide) ?_
    exact ih m (by omega) (k + 1) (up sg (r + 5) k (sg (q + 5) k)) (by omega) (by rw [hr]; simp only [fl_cp2])
set_option maxHeartbeats 4000000 in
set_option maxRecDepth 20000 in
theorem k_X2_copyFrom {l : Launch} {D : va_G} {K : Nat → ClassId} {g : Nat → Nat} (sg : Sg) (o : Ot) (r : Nat) (q : Nat) (h_r : isR r) (h_q : isR q) (hne : r ≠ q) : CN l yX2_copyFrom cX2_copyFrom 3 none 1 D K g [.ref (g r), .ref (g q)] sg o none (fs_copy sg r q) o :=
  mk_v (own := RX2) (av := fun g => [.ref (g r), .ref (g q)]) (lo := fun g => [(0, .ref (g r)), (1, .ref (g q))]) (by decide) rfl (fun _ => Nat.le_of_ble_eq_true rfl) (fun _ => rfl) fun X C E => by
    have hR_r : r = 5 ∨ r = 11 ∨ r = 17 := h_r
    have hR_q : q = 5 ∨ q = 11 ∨ q = 17 := h_q
    refine v_aload_n (j := 0) C dX2_copyFrom_0 rfl rfl rfl ?_
    refine v_aload_n (j := 1) C dX2_copyFrom_1 rfl rfl rfl ?_
    refine v_geti (c := q) C flX2_27 (lt_rg h_q) (lay_rg h_q) rfl dX2_copyFrom_2 rfl ?_
    refine v_puti (c := r) C fpX2_27 (lt_rg h_r) (lay_rg h_r) rfl dX2_copyFrom_5 rfl ?_
    refine v_aload_n (j := 0) C dX2_copyFrom_8 rfl rfl rfl ?_
    refine v_aload_n (j := 1) C dX2_copyFrom_9 rfl rfl rfl ?_
    refine v_geti (c := q) C flX2_31 (lt_rg h_q) (lay_rg h_q) rfl dX2_copyFrom_10 rfl ?_
    refine v_rwi (y := sg q 6) ((up_ne _ _ (Or.inl (by omega))).trans rfl) ?_
    refine v_puti (c := r) C fpX2_31 (lt_rg h_r) (lay_rg h_r) rfl dX2_copyFrom_13 rfl ?_
    refine v_aload_n (j := 0) C dX2_copyFrom_16 rfl rfl rfl ?_
    refine v_aload_n (j := 1) C dX2_copyFrom_17 rfl rfl rfl ?_
    refine v_geti (c := q) C flX2_34 (lt_rg h_q) (lay_rg h_q) rfl dX2_copyFrom_18 rfl ?_
    refine v_rwi (y := sg q 7) ((up_ne _ _ (Or.inl (by omega))).trans ((up_ne _ _ (Or.inl (by omega))).trans rfl)) ?_
    refine v_puti (c := r) C fpX2_34 (lt_rg h_r) (lay_rg h_r) rfl dX2_copyFrom_21 rfl ?_
    refine v_iconst (v := nI 0) C dX2_copyFrom_24 (by decide) rfl ?_
    refine v_istore_n C [(2, .int (nI 0)), (0, .ref (xg X r)), (1, .ref (xg X q))] dX2_copyFrom_25 rfl (by decide) rfl rfl ?_
    refine lp_X2_cp1 C o r q h_r h_q hne ?_ 6 0 _ rfl rfl
    refine v_iconst (v := nI 0) C dX2_copyFrom_86 (by decide) rfl ?_
    refine v_istore_n C [(2, .int (nI 0)), (0, .ref (xg X r)), (1, .ref (xg X q))] dX2_copyFrom_87 rfl (by decide) rfl rfl ?_
    exact lp_X2_cp2 C o r q h_r h_q hne E 8 0 _ rfl rfl
def fe_X4_checkPoint (sg : Sg) (p : Int32) : Option String := (if p < 0 ∨ ((sg 0 7) - 1) < p then (some eIOB) else none)
set_option maxHeartbeats 4000000 in
set_option maxRecDepth 20000 in
theorem k_X4_checkPoint {l : Launch} {D : va_G} {K : Nat → ClassId} {g : Nat → Nat} (hl : l.stackTraces = false) (sg : Sg) (o : Ot) (p : Int32) : CX l yX4_checkPoint cX4_checkPoint 2 none 9 1 6 D K g [.ref (g 0), .int p] sg o (fe_X4_checkPoint sg p) none sg o :=
  mk_xv (own := RX4) (av := fun g => [.ref (g 0), .int p]) (lo := fun g => [(0, .ref (g 0)), (1, .int p)]) (by decide) rfl (fun _ => Nat.le_of_ble_eq_true rfl) (fun _ => rfl) hl fun X C E T => by
    refine v_iload_n (j := 1) C dX4_checkPoint_0 rfl rfl rfl ?_
    refine v_iconst (v := 0) C dX4_checkPoint_1 (by decide) rfl ?_
    refine v_aload_n (j := 0) C dX4_checkPoint_2 rfl rfl rfl ?_
    refine v_geti (c := 0) C flX4_44 (by decide) rfl rfl dX4_checkPoint_3 rfl ?_
    refine v_iconst (v := 1) C dX4_checkPoint_6 (by decide) rfl ?_
    refine v_isub C dX4_checkPoint_7 rfl ?_
    refine v_callS (rest := []) C ksX4_69 (k_X4_isOutside sg o p 0 ((sg 0 7) - 1)) (by decide) rfl rfl (Nat.le_of_ble_eq_true rfl) (by decide) (by decide) dX4_checkPoint_8 rfl ?_
    refine v_if_eqB (tgt := 25) C dX4_checkPoint_11 (by decide) rfl (fun h11_1 => ?_) (fun h11_1 => ?_)
    · skip
      exact v_vret (E ((by simp only [fe_X4_checkPoint, if_neg h11_1]))) dX4_checkPoint_25 (by decide) (by decide) (rfl) rfl
    · skip
      exact T.2.2.2.1 _ _ _ _ _ _ _ _ _ _ ts_157_301_161 dX4_checkPoint_14 dX4_checkPoint_17 dX4_checkPoint_18 dX4_checkPoint_21 dX4_checkPoint_24 (by decide) (Nat.le_of_ble_eq_true rfl) (by decide) (by decide) ((by simp only [fe_X4_checkPoint, if_pos h11_1]))
theorem ck_checkPoint {sg : Sg} {p : Int32} (hD : DI sg) (h : fe_X4_checkPoint sg p = none) : vp_in p 8 := by
  refine hD.np.inr ?_
  unfold fe_X4_checkPoint at h
  split at h
  · cases h
  · rename_i q
    exact ⟨fun z => q (Or.inl z), fun z => q (Or.inr z)⟩
def fe_X4_checkPiece (sg : Sg) (p : Int32) : Option String := (if p < 0 ∨ ((sg 0 8) - 1) < p then (some eNSE) else none)
set_option maxHeartbeats 4000000 in
set_option maxRecDepth 20000 in
theorem k_X4_checkPiece {l : Launch} {D : va_G} {K : Nat → ClassId} {g : Nat → Nat} (hl : l.stackTraces = false) (sg : Sg) (o : Ot) (p : Int32) : CX l yX4_checkPiece cX4_checkPiece 2 none 9 1 6 D K g [.ref (g 0), .int p] sg o (fe_X4_checkPiece sg p) none sg o :=
  mk_xv (own := RX4) (av := fun g => [.ref (g 0), .int p]) (lo := fun g => [(0, .ref (g 0)), (1, .int p)]) (by decide) rfl (fun _ => Nat.le_of_ble_eq_true rfl) (fun _ => rfl) hl fun X C E T => by
    refine v_iload_n (j := 1) C dX4_checkPiece_0 rfl rfl rfl ?_
    refine v_iconst (v := 0) C dX4_checkPiece_1 (by decide) rfl ?_
    refine v_aload_n (j := 0) C dX4_checkPiece_2 rfl rfl rfl ?_
    refine v_geti (c := 0) C flX4_48 (by decide) rfl rfl dX4_checkPiece_3 rfl ?_
    refine v_iconst (v := 1) C dX4_checkPiece_6 (by decide) rfl ?_
    refine v_isub C dX4_checkPiece_7 rfl ?_
    refine v_callS (rest := []) C ksX4_69 (k_X4_isOutside sg o p 0 ((sg 0 8) - 1)) (by decide) rfl rfl (Nat.le_of_ble_eq_true rfl) (by decide) (by decide) dX4_checkPiece_8 rfl ?_
    refine v_if_eqB (tgt := 25) C dX4_checkPiece_11 (by decide) rfl (fun h11_1 => ?_) (fun h11_1 => ?_)
    · skip
      exact v_vret (E ((by simp only [fe_X4_checkPiece, if_neg h11_1]))) dX4_checkPiece_25 (by decide) (by decide) (rfl) rfl
    · skip
      exact T.2.2.2.2.2.1 _ _ _ _ _ _ _ _ _ _ ts_206_303_210 dX4_checkPiece_14 dX4_checkPiece_17 dX4_checkPiece_18 dX4_checkPiece_21 dX4_checkPiece_24 (by decide) (Nat.le_of_ble_eq_true rfl) (by decide) (by decide) ((by simp only [fe_X4_checkPiece, if_pos h11_1]))
theorem ck_checkPiece {sg : Sg} {p : Int32} (hD : DI sg) (h : fe_X4_checkPiece sg p = none) : vp_in p 6 := by
  refine hD.nc.inr ?_
  unfold fe_X4_checkPiece at h
  split at h
  · cases h
  · rename_i q
    exact ⟨fun z => q (Or.inl z), fun z => q (Or.inr z)⟩
def fe_X4_checkTown (sg : Sg) (p : Int32) : Option String := (if p < 0 ∨ ((sg 0 9) - 1) < p then (some eNSE) else none)
set_option maxHeartbeats 4000000 in
set_option maxRecDepth 20000 in
theorem k_X4_checkTown {l : Launch} {D : va_G} {K : Nat → ClassId} {g : Nat → Nat} (hl : l.stackTraces = false) (sg : Sg) (o : Ot) (p : Int32) : CX l yX4_checkTown cX4_checkTown 2 none 9 1 6 D K g [.ref (g 0), .int p] sg o (fe_X4_checkTown sg p) none sg o :=
  mk_xv (own := RX4) (av := fun g => [.ref (g 0), .int p]) (lo := fun g => [(0, .ref (g 0)), (1, .int p)]) (by decide) rfl (fun _ => Nat.le_of_ble_eq_true rfl) (fun _ => rfl) hl fun X C E T => by
    refine v_iload_n (j := 1) C dX4_checkTown_0 rfl rfl rfl ?_
    refine v_iconst (v := 0) C dX4_checkTown_1 (by decide) rfl ?_
    refine v_aload_n (j := 0) C dX4_checkTown_2 rfl rfl rfl ?_
    refine v_geti (c := 0) C flX4_51 (by decide) rfl rfl dX4_checkTown_3 rfl ?_
    refine v_iconst (v := 1) C dX4_checkTown_6 (by decide) rfl ?_
    refine v_isub C dX4_checkTown_7 rfl ?_
    refine v_callS (rest := []) C ksX4_69 (k_X4_isOutside sg o p 0 ((sg 0 9) - 1)) (by decide) rfl rfl (Nat.le_of_ble_eq_true rfl) (by decide) (by decide) dX4_checkTown_8 rfl ?_
    refine v_if_eqB (tgt := 25) C dX4_checkTown_11 (by decide) rfl (fun h11_1 => ?_) (fun h11_1 => ?_)
    · skip
      exact v_vret (E ((by simp only [fe_X4_checkTown, if_neg h11_1]))) dX4_checkTown_25 (by decide) (by decide) (rfl) rfl
    · skip
      exact T.2.2.2.2.2.1 _ _ _ _ _ _ _ _ _ _ ts_206_305_210 dX4_checkTown_14 dX4_checkTown_17 dX4_checkTown_18 dX4_checkTown_21 dX4_checkTown_24 (by decide) (Nat.le_of_ble_eq_true rfl) (by decide) (by decide) ((by simp only [fe_X4_checkTown, if_pos h11_1]))
theorem ck_checkTown {sg : Sg} {p : Int32} (hD : DI sg) (h : fe_X4_checkTown sg p = none) : vp_in p 4 := by
  refine hD.nt.inr ?_
  unfold fe_X4_checkTown at h
  split at h
  · cases h
  · rename_i q
    exact ⟨fun z => q (Or.inl z), fun z => q (Or.inr z)⟩
def fe_X4_checkNotHung (sg : Sg) (p : Int32) : Option String := (if ¬ (sg 5 6) >>> (p &&& 31) &&& 1 = 0 then (some eISE) else none)
set_option maxHeartbeats 4000000 in
set_option maxRecDepth 20000 in
theorem k_X4_checkNotHung {l : Launch} {D : va_G} {K : Nat → ClassId} {g : Nat → Nat} (hl : l.stackTraces = false) (sg : Sg) (o : Ot) (p : Int32) : CX l yX4_checkNotHung cX4_checkNotHung 2 none 9 1 6 D K g [.ref (g 0), .int p] sg o (fe_X4_checkNotHung sg p) none sg o :=
  mk_xv (own := RX4) (av := fun g => [.ref (g 0), .int p]) (lo := fun g => [(0, .ref (g 0)), (1, .int p)]) (by decide) rfl (fun _ => Nat.le_of_ble_eq_true rfl) (fun _ => rfl) hl fun X C E T => by
    refine v_iload_n (j := 1) C dX4_checkNotHung_0 rfl rfl rfl ?_
    refine v_aload_n (j := 0) C dX4_checkNotHung_1 rfl rfl rfl ?_
    refine v_getr (c := 0) C 5 flX4_34 (by decide) rfl rfl dX4_checkNotHung_2 rfl ?_
    refine v_geti (c := 5) C flX4_307 (by decide) rfl rfl dX4_checkNotHung_5 rfl ?_
    refine v_callS (rest := []) C ksX4_140 (k_X4_isIn sg o p (sg 5 6)) (by decide) rfl rfl (Nat.le_of_ble_eq_true rfl) (by decide) (by decide) dX4_checkNotHung_8 rfl ?_
    refine v_if_eqB (tgt := 25) C dX4_checkNotHung_11 (by decide) rfl (fun h11_1 => ?_) (fun h11_1 => ?_)
    · skip
      exact v_vret (E ((by simp only [fe_X4_checkNotHung, if_neg h11_1]))) dX4_checkNotHung_25 (by decide) (by decide) (rfl) rfl
    · skip
      exact T.2.2.2.1 _ _ _ _ _ _ _ _ _ _ ts_80_310_84 dX4_checkNotHung_14 dX4_checkNotHung_17 dX4_checkNotHung_18 dX4_checkNotHung_21 dX4_checkNotHung_24 (by decide) (Nat.le_of_ble_eq_true rfl) (by decide) (by decide) ((by simp only [fe_X4_checkNotHung, if_pos h11_1]))
def fr_X4_pieceAt (sg : Sg) (r : Nat) (p : Int32) : Int32 := (sg (r + 1) (ix p))
def fe_X4_pieceAt (sg : Sg) (r : Nat) (p : Int32) : Option String := (if p < 0 ∨ ((sg r 5) - 1) < p then (some eIOB) else none)
set_option maxHeartbeats 4000000 in
set_option maxRecDepth 20000 in
theorem k_X4_pieceAt {l : Launch} {D : va_G} {K : Nat → ClassId} {g : Nat → Nat} (hl : l.stackTraces = false) (sg : Sg) (o : Ot) (r : Nat) (p : Int32) (h_r : isR r) (hD : DI sg) : CX l yX4_pieceAt cX4_pieceAt 2 (some .int) 9 1 6 D K g [.ref (g r), .int p] sg o (fe_X4_pieceAt sg r p) (some (.int (fr_X4_pieceAt sg r p))) sg o :=
  mk_xi (own := RX4) (av := fun g => [.ref (g r), .int p]) (lo := fun g => [(0, .ref (g r)), (1, .int p)]) (by decide) rfl rfl (fun _ => Nat.le_of_ble_eq_true rfl) (fun _ => rfl) hl fun X C E T => by
    have hR_r : r = 5 ∨ r = 11 ∨ r = 17 := h_r
    refine v_iload_n (j := 1) C dX4_pieceAt_0 rfl rfl rfl ?_
    refine v_iconst (v := 0) C dX4_pieceAt_1 (by decide) rfl ?_
    refine v_aload_n (j := 0) C dX4_pieceAt_2 rfl rfl rfl ?_
    refine v_geti (c := r) C flX4_200 (lt_rg h_r) (lay_rg h_r) rfl dX4_pieceAt_3 rfl ?_
    refine v_iconst (v := 1) C dX4_pieceAt_6 (by decide) rfl ?_
    refine v_isub C dX4_pieceAt_7 rfl ?_
    refine v_callS (rest := []) C ksX4_69 (k_X4_isOutside sg o p 0 ((sg r 5) - 1)) (by decide) rfl rfl (Nat.le_of_ble_eq_true rfl) (by decide) (by decide) dX4_pieceAt_8 rfl ?_
    refine v_if_eqB (tgt := 25) C dX4_pieceAt_11 (by decide) rfl (fun h11_1 => ?_) (fun h11_1 => ?_)
    · skip
      refine v_aload_n (j := 0) C dX4_pieceAt_25 rfl rfl rfl ?_
      refine v_getr (c := r) C (r + 1) flX4_240 (lt_rg h_r) (lay_rg h_r) rfl dX4_pieceAt_26 rfl ?_
      refine v_iload_n (j := 1) C dX4_pieceAt_29 rfl rfl rfl ?_
      refine v_iald (c := (r + 1)) C ((hD.sz h_r).inr (not_or.mp (by assumption))) (lt_ra h_r (by decide)) (lay_r1 h_r) dX4_pieceAt_30 rfl ?_
      exact v_ret (E ((by simp only [fe_X4_pieceAt, if_neg h11_1]))) dX4_pieceAt_31 (by decide) (by decide) ((by simp only [fr_X4_pieceAt, if_neg h11_1])) (rfl) rfl
    · skip
      exact T.2.2.2.1 _ _ _ _ _ _ _ _ _ _ ts_157_303_161 dX4_pieceAt_14 dX4_pieceAt_17 dX4_pieceAt_18 dX4_pieceAt_21 dX4_pieceAt_24 (by decide) (Nat.le_of_ble_eq_true rfl) (by decide) (by decide) ((by simp only [fe_X4_pieceAt, if_pos h11_1]))
