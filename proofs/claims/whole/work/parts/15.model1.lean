set_option maxHeartbeats 4000000 in
set_option maxRecDepth 20000 in
theorem k_X5_in {l : Launch} {D : va_G} {K : Nat → ClassId} {g : Nat → Nat} (sg : Sg) (o : Ot) (v : Int32) (a : Int32) (b : Int32) : CN l yX5_in cX5_in 3 (some .boolean) 1 D K g [.int v, .int a, .int b] sg o (some (.int (b2i (¬ v < a ∧ ¬ b < v)))) sg o :=
  mk_i (own := RX5) (av := fun g => [.int v, .int a, .int b]) (lo := fun g => [(0, .int v), (1, .int a), (2, .int b)]) (by decide) rfl b2i_nar (fun _ => Nat.le_of_ble_eq_true rfl) (fun _ => rfl) fun X C E => by
    refine v_iload_n (j := 0) C dX5_in_0 rfl rfl rfl ?_
    refine v_iload_n (j := 1) C dX5_in_1 rfl rfl rfl ?_
    refine v_icmp_lt (tgt := 14) C dX5_in_2 (by decide) rfl (fun h2_1 => ?_) (fun h2_1 => ?_)
    · skip
      refine v_iconst (v := 0) C dX5_in_14 (by decide) rfl ?_
      exact v_ret E dX5_in_15 (by decide) (by decide) (b2i_f (by first | assumption | (simp [h2_1]; done) | grind)) (rfl) rfl
    · skip
      refine v_iload_n (j := 0) C dX5_in_5 rfl rfl rfl ?_
      refine v_iload_n (j := 2) C dX5_in_6 rfl rfl rfl ?_
      refine v_icmp_gt (tgt := 14) C dX5_in_7 (by decide) rfl (fun h7_2 => ?_) (fun h7_2 => ?_)
      · skip
        refine v_iconst (v := 0) C dX5_in_14 (by decide) rfl ?_
        exact v_ret E dX5_in_15 (by decide) (by decide) (b2i_f (by first | assumption | (simp [h2_1, h7_2]; done) | grind)) (rfl) rfl
      · skip
        refine v_iconst (v := 1) C dX5_in_10 (by decide) rfl ?_
        refine v_goto (pc1 := 15) C dX5_in_11 (by decide) ?_
        exact v_ret E dX5_in_15 (by decide) (by decide) (b2i_t (by first | assumption | (simp [h2_1, h7_2]; done) | grind)) (rfl) rfl
set_option maxHeartbeats 4000000 in
set_option maxRecDepth 20000 in
theorem k_X5_fails {l : Launch} {D : va_G} {K : Nat → ClassId} {g : Nat → Nat} (sg : Sg) (o : Ot) (p : Int32) : CN l yX5_fails cX5_fails 2 (some .boolean) 1 D K g [.ref (g 41), .int p] sg o (some (.int (b2i (0 < p)))) (up sg 41 34 p) o :=
  mk_i (own := RX5) (av := fun g => [.ref (g 41), .int p]) (lo := fun g => [(0, .ref (g 41)), (1, .int p)]) (by decide) rfl b2i_nar (fun _ => Nat.le_of_ble_eq_true rfl) (fun _ => rfl) fun X C E => by
    refine v_aload_n (j := 0) C dX5_fails_0 rfl rfl rfl ?_
    refine v_iload_n (j := 1) C dX5_fails_1 rfl rfl rfl ?_
    refine v_puti (c := 41) C fpX5_87 (by decide) rfl rfl dX5_fails_2 rfl ?_
    refine v_iload_n (j := 1) C dX5_fails_5 rfl rfl rfl ?_
    refine v_if_le (tgt := 13) C dX5_fails_6 (by decide) rfl (fun h6_1 => ?_) (fun h6_1 => ?_)
    · skip
      refine v_iconst (v := 0) C dX5_fails_13 (by decide) rfl ?_
      exact v_ret E dX5_fails_14 (by decide) (by decide) (b2i_f (by first | assumption | (simp [h6_1]; done) | grind)) (rfl) rfl
    · skip
      refine v_iconst (v := 1) C dX5_fails_9 (by decide) rfl ?_
      refine v_goto (pc1 := 14) C dX5_fails_10 (by decide) ?_
      exact v_ret E dX5_fails_14 (by decide) (by decide) (b2i_t (by first | assumption | (simp [h6_1]; done) | grind)) (rfl) rfl
def fr_X5_tells (sg : Sg) (p : Int32) : Int32 := p
set_option maxHeartbeats 4000000 in
set_option maxRecDepth 20000 in
theorem k_X5_tells {l : Launch} {D : va_G} {K : Nat → ClassId} {g : Nat → Nat} (sg : Sg) (o : Ot) (p : Int32) : CN l yX5_tells cX5_tells 2 (some .int) 1 D K g [.ref (g 41), .int p] sg o (some (.int (fr_X5_tells sg p))) (up sg 41 34 0) o :=
  mk_i (own := RX5) (av := fun g => [.ref (g 41), .int p]) (lo := fun g => [(0, .ref (g 41)), (1, .int p)]) (by decide) rfl rfl (fun _ => Nat.le_of_ble_eq_true rfl) (fun _ => rfl) fun X C E => by
    refine v_aload_n (j := 0) C dX5_tells_0 rfl rfl rfl ?_
    refine v_iconst (v := 0) C dX5_tells_1 (by decide) rfl ?_
    refine v_puti (c := 41) C fpX5_87 (by decide) rfl rfl dX5_tells_2 rfl ?_
    refine v_iload_n (j := 1) C dX5_tells_5 rfl rfl rfl ?_
    exact v_ret E dX5_tells_6 (by decide) (by decide) ((by rfl)) (rfl) rfl
def fr_X5_thrown (sg : Sg) : Int32 := (sg 41 34)
set_option maxHeartbeats 4000000 in
set_option maxRecDepth 20000 in
theorem k_X5_thrown {l : Launch} {D : va_G} {K : Nat → ClassId} {g : Nat → Nat} (sg : Sg) (o : Ot)  : CN l yX5_thrown cX5_thrown 1 (some .int) 1 D K g [.ref (g 41)] sg o (some (.int (fr_X5_thrown sg))) sg o :=
  mk_i (own := RX5) (av := fun g => [.ref (g 41)]) (lo := fun g => [(0, .ref (g 41))]) (by decide) rfl rfl (fun _ => Nat.le_of_ble_eq_true rfl) (fun _ => rfl) fun X C E => by
    refine v_aload_n (j := 0) C dX5_thrown_0 rfl rfl rfl ?_
    refine v_geti (c := 41) C flX5_87 (by decide) rfl rfl dX5_thrown_1 rfl ?_
    exact v_ret E dX5_thrown_4 (by decide) (by decide) ((by rfl)) (rfl) rfl
set_option maxHeartbeats 4000000 in
set_option maxRecDepth 20000 in
theorem k_X5_isNoPoint {l : Launch} {D : va_G} {K : Nat → ClassId} {g : Nat → Nat} (sg : Sg) (o : Ot) (p : Int32) : CN l yX5_isNoPoint cX5_isNoPoint 2 (some .boolean) 2 D K g [.ref (g 41), .int p] sg o (some (.int (b2i (¬ (¬ p < 0 ∧ ¬ sg 41 0 - 1 < p))))) sg o :=
  mk_i (own := RX5) (av := fun g => [.ref (g 41), .int p]) (lo := fun g => [(0, .ref (g 41)), (1, .int p)]) (by decide) rfl b2i_nar (fun _ => Nat.le_of_ble_eq_true rfl) (fun _ => rfl) fun X C E => by
    refine v_iload_n (j := 1) C dX5_isNoPoint_0 rfl rfl rfl ?_
    refine v_iconst (v := 0) C dX5_isNoPoint_1 (by decide) rfl ?_
    refine v_aload_n (j := 0) C dX5_isNoPoint_2 rfl rfl rfl ?_
    refine v_geti (c := 41) C flX5_90 (by decide) rfl rfl dX5_isNoPoint_3 rfl ?_
    refine v_iconst (v := 1) C dX5_isNoPoint_6 (by decide) rfl ?_
    refine v_isub C dX5_isNoPoint_7 rfl ?_
    refine v_callS (rest := []) C ksX5_93 (k_X5_in sg o p 0 ((sg 41 0) - 1)) (by decide) rfl rfl (Nat.le_of_ble_eq_true rfl) (by decide) (by decide) dX5_isNoPoint_8 rfl ?_
    refine v_if_neB (tgt := 18) C dX5_isNoPoint_11 (by decide) rfl (fun h11_1 => ?_) (fun h11_1 => ?_)
    · skip
      refine v_iconst (v := 0) C dX5_isNoPoint_18 (by decide) rfl ?_
      exact v_ret E dX5_isNoPoint_19 (by decide) (by decide) (b2i_f (by first | assumption | (simp [h11_1]; done) | grind)) (rfl) rfl
    · skip
      refine v_iconst (v := 1) C dX5_isNoPoint_14 (by decide) rfl ?_
      refine v_goto (pc1 := 19) C dX5_isNoPoint_15 (by decide) ?_
      exact v_ret E dX5_isNoPoint_19 (by decide) (by decide) (b2i_t (by first | assumption | (simp [h11_1]; done) | grind)) (rfl) rfl
set_option maxHeartbeats 4000000 in
set_option maxRecDepth 20000 in
theorem k_X5_isNoPiece {l : Launch} {D : va_G} {K : Nat → ClassId} {g : Nat → Nat} (sg : Sg) (o : Ot) (p : Int32) : CN l yX5_isNoPiece cX5_isNoPiece 2 (some .boolean) 2 D K g [.ref (g 41), .int p] sg o (some (.int (b2i (¬ (¬ p < 0 ∧ ¬ sg 41 3 - 1 < p))))) sg o :=
  mk_i (own := RX5) (av := fun g => [.ref (g 41), .int p]) (lo := fun g => [(0, .ref (g 41)), (1, .int p)]) (by decide) rfl b2i_nar (fun _ => Nat.le_of_ble_eq_true rfl) (fun _ => rfl) fun X C E => by
    refine v_iload_n (j := 1) C dX5_isNoPiece_0 rfl rfl rfl ?_
    refine v_iconst (v := 0) C dX5_isNoPiece_1 (by decide) rfl ?_
    refine v_aload_n (j := 0) C dX5_isNoPiece_2 rfl rfl rfl ?_
    refine v_geti (c := 41) C flX5_97 (by decide) rfl rfl dX5_isNoPiece_3 rfl ?_
    refine v_iconst (v := 1) C dX5_isNoPiece_6 (by decide) rfl ?_
    refine v_isub C dX5_isNoPiece_7 rfl ?_
    refine v_callS (rest := []) C ksX5_93 (k_X5_in sg o p 0 ((sg 41 3) - 1)) (by decide) rfl rfl (Nat.le_of_ble_eq_true rfl) (by decide) (by decide) dX5_isNoPiece_8 rfl ?_
    refine v_if_neB (tgt := 18) C dX5_isNoPiece_11 (by decide) rfl (fun h11_1 => ?_) (fun h11_1 => ?_)
    · skip
      refine v_iconst (v := 0) C dX5_isNoPiece_18 (by decide) rfl ?_
      exact v_ret E dX5_isNoPiece_19 (by decide) (by decide) (b2i_f (by first | assumption | (simp [h11_1]; done) | grind)) (rfl) rfl
    · skip
      refine v_iconst (v := 1) C dX5_isNoPiece_14 (by decide) rfl ?_
      refine v_goto (pc1 := 19) C dX5_isNoPiece_15 (by decide) ?_
      exact v_ret E dX5_isNoPiece_19 (by decide) (by decide) (b2i_t (by first | assumption | (simp [h11_1]; done) | grind)) (rfl) rfl
set_option maxHeartbeats 4000000 in
set_option maxRecDepth 20000 in
theorem k_X5_isNoTown {l : Launch} {D : va_G} {K : Nat → ClassId} {g : Nat → Nat} (sg : Sg) (o : Ot) (p : Int32) : CN l yX5_isNoTown cX5_isNoTown 2 (some .boolean) 2 D K g [.ref (g 41), .int p] sg o (some (.int (b2i (¬ (¬ p < 0 ∧ ¬ sg 41 15 - 1 < p))))) sg o :=
  mk_i (own := RX5) (av := fun g => [.ref (g 41), .int p]) (lo := fun g => [(0, .ref (g 41)), (1, .int p)]) (by decide) rfl b2i_nar (fun _ => Nat.le_of_ble_eq_true rfl) (fun _ => rfl) fun X C E => by
    refine v_iload_n (j := 1) C dX5_isNoTown_0 rfl rfl rfl ?_
    refine v_iconst (v := 0) C dX5_isNoTown_1 (by decide) rfl ?_
    refine v_aload_n (j := 0) C dX5_isNoTown_2 rfl rfl rfl ?_
    refine v_geti (c := 41) C flX5_131 (by decide) rfl rfl dX5_isNoTown_3 rfl ?_
    refine v_iconst (v := 1) C dX5_isNoTown_6 (by decide) rfl ?_
    refine v_isub C dX5_isNoTown_7 rfl ?_
    refine v_callS (rest := []) C ksX5_93 (k_X5_in sg o p 0 ((sg 41 15) - 1)) (by decide) rfl rfl (Nat.le_of_ble_eq_true rfl) (by decide) (by decide) dX5_isNoTown_8 rfl ?_
    refine v_if_neB (tgt := 18) C dX5_isNoTown_11 (by decide) rfl (fun h11_1 => ?_) (fun h11_1 => ?_)
    · skip
      refine v_iconst (v := 0) C dX5_isNoTown_18 (by decide) rfl ?_
      exact v_ret E dX5_isNoTown_19 (by decide) (by decide) (b2i_f (by first | assumption | (simp [h11_1]; done) | grind)) (rfl) rfl
    · skip
      refine v_iconst (v := 1) C dX5_isNoTown_14 (by decide) rfl ?_
      refine v_goto (pc1 := 19) C dX5_isNoTown_15 (by decide) ?_
      exact v_ret E dX5_isNoTown_19 (by decide) (by decide) (b2i_t (by first | assumption | (simp [h11_1]; done) | grind)) (rfl) rfl
def fl_X5_inRig (sg : Sg) (p : Int32) : Nat → Nat → Int32
  | 0, _ => (-1)
  | n + 1, k => if sg 62 k = p then nI k else fl_X5_inRig sg p n (k + 1)
set_option maxHeartbeats 4000000 in
set_option maxRecDepth 20000 in
theorem lp_X5_inRig {X : Cx} {rk : Nat} (C : CF X cX5_inRig RX5 3 rk 0 0) (sg : Sg) (o : Ot) (p : Int32) (N : Nat) (h6 : N ≤ 6) (hN : sg 41 24 = nI N) {r : Int32} (E : Ei X cX5_inRig 0 0 sg o r) : ∀ (n k : Nat) , n + k = N → r = fl_X5_inRig sg p n k → V X 0 0 3 sg o [(2, .int (nI k)), (0, .ref (xg X 41)), (1, .int p)] 2 [] := by
  refine loop_ind fun n ih => ?_
  intro k hnk hr
  refine v_iload_n (j := 0) C dX5_inRig_2 rfl rfl rfl ?_
  refine v_aload_n (j := 1) C dX5_inRig_3 rfl rfl rfl ?_
  refine v_geti (c := 41) C flX5_100 (by decide) rfl rfl dX5_inRig_4 rfl ?_
  refine v_icmp_ge (tgt := 28) C dX5_inRig_7 (by decide) rfl (fun h7_1 => ?_) (fun h7_1 => ?_)
  · skip
    rw [hN, nI_lt_iff (by omega) (by omega)] at h7_1; obtain rfl : n = 0 := by omega
    refine v_iconst (v := (-1)) C dX5_inRig_28 (by decide) rfl ?_
    exact v_ret E dX5_inRig_29 (by decide) (by decide) (by rw [hr]; simp only [fl_X5_inRig]) (rfl) rfl
  · skip
    rw [hN, nI_lt_iff (by omega) (by omega)] at h7_1; obtain ⟨m, rfl⟩ : ∃ m, n = m + 1 := ⟨n - 1, by omega⟩
    refine v_aload_n (j := 1) C dX5_inRig_10 rfl rfl rfl ?_
    refine v_getr (c := 41) C 62 flX5_75 (by decide) rfl rfl dX5_inRig_11 rfl ?_
    refine v_iload_n (j := 0) C dX5_inRig_14 rfl rfl rfl ?_
    refine v_ialdN (c := 62) C (by omega) (by decide) (by decide) rfl dX5_inRig_15 rfl ?_
    refine v_iload_n (j := 2) C dX5_inRig_16 rfl rfl rfl ?_
    refine v_icmp_ne (tgt := 22) C dX5_inRig_17 (by decide) rfl (fun h17_2 => ?_) (fun h17_2 => ?_)
    · skip
      refine v_iinc (j := 0) (v := (nI (k + 1))) C [(2, .int (nI (k + 1))), (0, .ref (xg X 41)), (1, .int p)] dX5_inRig_22 rfl (nI_add1 _) (by decide) rfl rfl ?_
      refine v_goto (pc1 := 2) C dX5_inRig_25 (by decide) ?_
      exact ih m (by omega) (k + 1)  (by omega) (by rw [hr]; simp only [fl_X5_inRig, if_neg h17_2])
    · skip
      refine v_iload_n (j := 0) C dX5_inRig_20 rfl rfl rfl ?_
      exact v_ret E dX5_inRig_21 (by decide) (by decide) (by rw [hr]; simp only [fl_X5_inRig, if_pos h17_2]) (rfl) rfl
set_option maxHeartbeats 4000000 in
set_option maxRecDepth 20000 in
theorem k_X5_inRig {l : Launch} {D : va_G} {K : Nat → ClassId} {g : Nat → Nat} (sg : Sg) (o : Ot) (p : Int32) (hM : MI sg) : CN l yX5_inRig cX5_inRig 3 (some .int) 1 D K g [.ref (g 41), .int p] sg o (some (.int (fl_X5_inRig sg p (ix (sg 41 24)) 0))) sg o :=
  mk_i (own := RX5) (av := fun g => [.ref (g 41), .int p]) (lo := fun g => [(0, .ref (g 41)), (1, .int p)]) (by decide) rfl rfl (fun _ => Nat.le_of_ble_eq_true rfl) (fun _ => rfl) fun X C E => by
    refine v_iconst (v := nI 0) C dX5_inRig_0 (by decide) rfl ?_
    refine v_istore_n C [(2, .int (nI 0)), (0, .ref (xg X 41)), (1, .int p)] dX5_inRig_1 rfl (by decide) rfl rfl ?_
    exact lp_X5_inRig C sg o p _ hM.nh.ixl hM.nh.ixe E _ 0 (Nat.add_zero _) rfl
def fr_X5_partOfRight (sg : Sg) (p : Int32) : Int32 := (((sg 44 (ix p)) * ((sg 51 (ix p)) - (sg 42 (ix (sg 49 (ix p)))))) / ((sg 42 (ix (sg 50 (ix p)))) - (sg 42 (ix (sg 49 (ix p))))))
set_option maxHeartbeats 4000000 in
set_option maxRecDepth 20000 in
theorem k_X5_partOfRight {l : Launch} {D : va_G} {K : Nat → ClassId} {g : Nat → Nat} (sg : Sg) (o : Ot) (p : Int32) (hp : vp_in p 6) (hf : FxOk sg (ix p)) : CN l yX5_partOfRight cX5_partOfRight 2 (some .int) 1 D K g [.ref (g 41), .int p] sg o (some (.int (fr_X5_partOfRight sg p))) sg o :=
  mk_i (own := RX5) (av := fun g => [.ref (g 41), .int p]) (lo := fun g => [(0, .ref (g 41)), (1, .int p)]) (by decide) rfl rfl (fun _ => Nat.le_of_ble_eq_true rfl) (fun _ => rfl) fun X C E => by
    have hb_p := ix_lt hp
    refine v_aload_n (j := 0) C dX5_partOfRight_0 rfl rfl rfl ?_
    refine v_getr (c := 41) C 44 flX5_16 (by decide) rfl rfl dX5_partOfRight_1 rfl ?_
    refine v_iload_n (j := 1) C dX5_partOfRight_4 rfl rfl rfl ?_
    refine v_iald (c := 44) C hp (by decide) rfl dX5_partOfRight_5 rfl ?_
    refine v_aload_n (j := 0) C dX5_partOfRight_6 rfl rfl rfl ?_
    refine v_getr (c := 41) C 51 flX5_38 (by decide) rfl rfl dX5_partOfRight_7 rfl ?_
    refine v_iload_n (j := 1) C dX5_partOfRight_10 rfl rfl rfl ?_
    refine v_iald (c := 51) C hp (by decide) rfl dX5_partOfRight_11 rfl ?_
    refine v_aload_n (j := 0) C dX5_partOfRight_12 rfl rfl rfl ?_
    refine v_getr (c := 41) C 42 flX5_7 (by decide) rfl rfl dX5_partOfRight_13 rfl ?_
    refine v_aload_n (j := 0) C dX5_partOfRight_16 rfl rfl rfl ?_
    refine v_getr (c := 41) C 49 flX5_32 (by decide) rfl rfl dX5_partOfRight_17 rfl ?_
    refine v_iload_n (j := 1) C dX5_partOfRight_20 rfl rfl rfl ?_
    refine v_iald (c := 49) C hp (by decide) rfl dX5_partOfRight_21 rfl ?_
    refine v_iald (c := 42) C hf.1 (by decide) rfl dX5_partOfRight_22 rfl ?_
    refine v_isub C dX5_partOfRight_23 rfl ?_
    refine v_imul C dX5_partOfRight_24 rfl ?_
    refine v_aload_n (j := 0) C dX5_partOfRight_25 rfl rfl rfl ?_
    refine v_getr (c := 41) C 42 flX5_7 (by decide) rfl rfl dX5_partOfRight_26 rfl ?_
    refine v_aload_n (j := 0) C dX5_partOfRight_29 rfl rfl rfl ?_
    refine v_getr (c := 41) C 50 flX5_35 (by decide) rfl rfl dX5_partOfRight_30 rfl ?_
    refine v_iload_n (j := 1) C dX5_partOfRight_33 rfl rfl rfl ?_
    refine v_iald (c := 50) C hp (by decide) rfl dX5_partOfRight_34 rfl ?_
    refine v_iald (c := 42) C hf.2.1 (by decide) rfl dX5_partOfRight_35 rfl ?_
    refine v_aload_n (j := 0) C dX5_partOfRight_36 rfl rfl rfl ?_
    refine v_getr (c := 41) C 42 flX5_7 (by decide) rfl rfl dX5_partOfRight_37 rfl ?_
    refine v_aload_n (j := 0) C dX5_partOfRight_40 rfl rfl rfl ?_
    refine v_getr (c := 41) C 49 flX5_32 (by decide) rfl rfl dX5_partOfRight_41 rfl ?_
    refine v_iload_n (j := 1) C dX5_partOfRight_44 rfl rfl rfl ?_
    refine v_iald (c := 49) C hp (by decide) rfl dX5_partOfRight_45 rfl ?_
    refine v_iald (c := 42) C hf.1 (by decide) rfl dX5_partOfRight_46 rfl ?_
    refine v_isub C dX5_partOfRight_47 rfl ?_
    refine v_idiv C dX5_partOfRight_48 hf.2.2 rfl ?_
    exact v_ret E dX5_partOfRight_49 (by decide) (by decide) ((by rfl)) (rfl) rfl
def fr_X5_load (sg : Sg) (p : Int32) (q : Int32) : Int32 := (if (sg 48 (ix p)) = 0 then 0 else (if q = (sg 49 (ix p)) then (if q = (sg 50 (ix p)) then ((((fr_X5_partOfRight sg p) * (100 + (sg 52 (ix p)))) + 99) / 100) else (((((sg 44 (ix p)) - (fr_X5_partOfRight sg p)) * (100 + (sg 52 (ix p)))) + 99) / 100)) else (if q = (sg 50 (ix p)) then (if q = (sg 50 (ix p)) then ((((fr_X5_partOfRight sg p) * (100 + (sg 52 (ix p)))) + 99) / 100) else (((((sg 44 (ix p)) - (fr_X5_partOfRight sg p)) * (100 + (sg 52 (ix p)))) + 99) / 100)) else 0)))
set_option maxHeartbeats 4000000 in
set_option maxRecDepth 20000 in
theorem k_X5_load {l : Launch} {D : va_G} {K : Nat → ClassId} {g : Nat → Nat} (sg : Sg) (o : Ot) (p : Int32) (q : Int32) (hM : MI sg) (hp : vp_in p 6) : CN l yX5_load cX5_load 4 (some .int) 2 D K g [.ref (g 41), .int p, .int q] sg o (some (.int (fr_X5_load sg p q))) sg o :=
  mk_i (own := RX5) (av := fun g => [.ref (g 41), .int p, .int q]) (lo := fun g => [(0, .ref (g 41)), (1, .int p), (2, .int q)]) (by decide) rfl rfl (fun _ => Nat.le_of_ble_eq_true rfl) (fun _ => rfl) fun X C E => by
    have hb_p := ix_lt hp
    refine v_aload_n (j := 0) C dX5_load_0 rfl rfl rfl ?_
    refine v_getr (c := 41) C 48 flX5_28 (by decide) rfl rfl dX5_load_1 rfl ?_
    refine v_iload_n (j := 1) C dX5_load_4 rfl rfl rfl ?_
    refine v_zald (c := 48) C hp (by decide) rfl dX5_load_5 rfl ?_
    refine v_if_eq (tgt := 29) C dX5_load_6 (by decide) rfl (fun h6_1 => ?_) (fun h6_1 => ?_)
    · skip
      refine v_iconst (v := 0) C dX5_load_29 (by decide) rfl ?_
      exact v_ret E dX5_load_30 (by decide) (by decide) ((by simp only [fr_X5_load, if_pos h6_1])) (rfl) rfl
    · skip
      refine v_iload_n (j := 2) C dX5_load_9 rfl rfl rfl ?_
      refine v_aload_n (j := 0) C dX5_load_10 rfl rfl rfl ?_
      refine v_getr (c := 41) C 49 flX5_32 (by decide) rfl rfl dX5_load_11 rfl ?_
      refine v_iload_n (j := 1) C dX5_load_14 rfl rfl rfl ?_
      refine v_iald (c := 49) C hp (by decide) rfl dX5_load_15 rfl ?_
      refine v_icmp_eq (tgt := 31) C dX5_load_16 (by decide) rfl (fun h16_2 => ?_) (fun h16_2 => ?_)
      · skip
        refine v_iload_n (j := 2) C dX5_load_31 rfl rfl rfl ?_
        refine v_aload_n (j := 0) C dX5_load_32 rfl rfl rfl ?_
        refine v_getr (c := 41) C 50 flX5_35 (by decide) rfl rfl dX5_load_33 rfl ?_
        refine v_iload_n (j := 1) C dX5_load_36 rfl rfl rfl ?_
        refine v_iald (c := 50) C hp (by decide) rfl dX5_load_37 rfl ?_
        refine v_icmp_ne (tgt := 49) C dX5_load_38 (by decide) rfl (fun h38_3 => ?_) (fun h38_3 => ?_)
        · skip
          refine v_aload_n (j := 0) C dX5_load_49 rfl rfl rfl ?_
          refine v_getr (c := 41) C 44 flX5_16 (by decide) rfl rfl dX5_load_50 rfl ?_
          refine v_iload_n (j := 1) C dX5_load_53 rfl rfl rfl ?_
          refine v_iald (c := 44) C hp (by decide) rfl dX5_load_54 rfl ?_
          refine v_aload_n (j := 0) C dX5_load_55 rfl rfl rfl ?_
          refine v_iload_n (j := 1) C dX5_load_56 rfl rfl rfl ?_
          refine v_callV (rest := [.int (sg 44 (ix p))]) (q := (RX5, TX5, 35)) C kvX5_121 (k_X5_partOfRight sg o p hp (hM.fx (ix_lt hp) (by assumption))) (by decide) (by decide) rfl rfl rfl rfl rfl (Nat.le_of_ble_eq_true rfl) (by decide) (by decide) dX5_load_57 rfl ?_
          refine v_isub C dX5_load_60 rfl ?_
          refine v_istore_n C [(3, .int ((sg 44 (ix p)) - (fr_X5_partOfRight sg p))), (0, .ref (xg X 41)), (1, .int p), (2, .int q)] dX5_load_61 rfl (by decide) rfl rfl ?_
          refine v_iload_n (j := 0) C dX5_load_62 rfl rfl rfl ?_
          refine v_bipush (v := 100) C dX5_load_63 (by decide) rfl ?_
          refine v_aload_n (j := 1) C dX5_load_65 rfl rfl rfl ?_
          refine v_getr (c := 41) C 52 flX5_41 (by decide) rfl rfl dX5_load_66 rfl ?_
          refine v_iload_n (j := 2) C dX5_load_69 rfl rfl rfl ?_
          refine v_iald (c := 52) C hp (by decide) rfl dX5_load_70 rfl ?_
          refine v_iadd C dX5_load_71 rfl ?_
          refine v_imul C dX5_load_72 rfl ?_
          refine v_bipush (v := 99) C dX5_load_73 (by decide) rfl ?_
          refine v_iadd C dX5_load_75 rfl ?_
          refine v_bipush (v := 100) C dX5_load_76 (by decide) rfl ?_
          refine v_idiv C dX5_load_78 (by decide) rfl ?_
          exact v_ret E dX5_load_79 (by decide) (by decide) ((by first | contradiction | simp only [fr_X5_load, if_neg h6_1, if_pos h16_2, if_neg h38_3])) (rfl) rfl
        · skip
          refine v_aload_n (j := 0) C dX5_load_41 rfl rfl rfl ?_
          refine v_iload_n (j := 1) C dX5_load_42 rfl rfl rfl ?_
          refine v_callV (rest := []) (q := (RX5, TX5, 35)) C kvX5_121 (k_X5_partOfRight sg o p hp (hM.fx (ix_lt hp) (by assumption))) (by decide) (by decide) rfl rfl rfl rfl rfl (Nat.le_of_ble_eq_true rfl) (by decide) (by decide) dX5_load_43 rfl ?_
          refine v_goto (pc1 := 61) C dX5_load_46 (by decide) ?_
          refine v_istore_n C [(3, .int (fr_X5_partOfRight sg p)), (0, .ref (xg X 41)), (1, .int p), (2, .int q)] dX5_load_61 rfl (by decide) rfl rfl ?_
          refine v_iload_n (j := 0) C dX5_load_62 rfl rfl rfl ?_
          refine v_bipush (v := 100) C dX5_load_63 (by decide) rfl ?_
          refine v_aload_n (j := 1) C dX5_load_65 rfl rfl rfl ?_
          refine v_getr (c := 41) C 52 flX5_41 (by decide) rfl rfl dX5_load_66 rfl ?_
          refine v_iload_n (j := 2) C dX5_load_69 rfl rfl rfl ?_
          refine v_iald (c := 52) C hp (by decide) rfl dX5_load_70 rfl ?_
          refine v_iadd C dX5_load_71 rfl ?_
          refine v_imul C dX5_load_72 rfl ?_
          refine v_bipush (v := 99) C dX5_load_73 (by decide) rfl ?_
          refine v_iadd C dX5_load_75 rfl ?_
          refine v_bipush (v := 100) C dX5_load_76 (by decide) rfl ?_
          refine v_idiv C dX5_load_78 (by decide) rfl ?_
          exact v_ret E dX5_load_79 (by decide) (by decide) ((by first | contradiction | simp only [fr_X5_load, if_neg h6_1, if_pos h16_2, if_pos h38_3])) (rfl) rfl
      · skip
        refine v_iload_n (j := 2) C dX5_load_19 rfl rfl rfl ?_
        refine v_aload_n (j := 0) C dX5_load_20 rfl rfl rfl ?_
        refine v_getr (c := 41) C 50 flX5_35 (by decide) rfl rfl dX5_load_21 rfl ?_
        refine v_iload_n (j := 1) C dX5_load_24 rfl rfl rfl ?_
        refine v_iald (c := 50) C hp (by decide) rfl dX5_load_25 rfl ?_
        refine v_icmp_eq (tgt := 31) C dX5_load_26 (by decide) rfl (fun h26_4 => ?_) (fun h26_4 => ?_)
        · skip
          refine v_iload_n (j := 2) C dX5_load_31 rfl rfl rfl ?_
          refine v_aload_n (j := 0) C dX5_load_32 rfl rfl rfl ?_
          refine v_getr (c := 41) C 50 flX5_35 (by decide) rfl rfl dX5_load_33 rfl ?_
          refine v_iload_n (j := 1) C dX5_load_36 rfl rfl rfl ?_
          refine v_iald (c := 50) C hp (by decide) rfl dX5_load_37 rfl ?_
          refine v_icmp_ne (tgt := 49) C dX5_load_38 (by decide) rfl (fun h38_5 => ?_) (fun h38_5 => ?_)
          · skip
            refine v_aload_n (j := 0) C dX5_load_49 rfl rfl rfl ?_
            refine v_getr (c := 41) C 44 flX5_16 (by decide) rfl rfl dX5_load_50 rfl ?_
            refine v_iload_n (j := 1) C dX5_load_53 rfl rfl rfl ?_
            refine v_iald (c := 44) C hp (by decide) rfl dX5_load_54 rfl ?_
            refine v_aload_n (j := 0) C dX5_load_55 rfl rfl rfl ?_
            refine v_iload_n (j := 1) C dX5_load_56 rfl rfl rfl ?_
            refine v_callV (rest := [.int (sg 44 (ix p))]) (q := (RX5, TX5, 35)) C kvX5_121 (k_X5_partOfRight sg o p hp (hM.fx (ix_lt hp) (by assumption))) (by decide) (by decide) rfl rfl rfl rfl rfl (Nat.le_of_ble_eq_true rfl) (by decide) (by decide) dX5_load_57 rfl ?_
            refine v_isub C dX5_load_60 rfl ?_
            refine v_istore_n C [(3, .int ((sg 44 (ix p)) - (fr_X5_partOfRight sg p))), (0, .ref (xg X 41)), (1, .int p), (2, .int q)] dX5_load_61 rfl (by decide) rfl rfl ?_
            refine v_iload_n (j := 0) C dX5_load_62 rfl rfl rfl ?_
            refine v_bipush (v := 100) C dX5_load_63 (by decide) rfl ?_
            refine v_aload_n (j := 1) C dX5_load_65 rfl rfl rfl ?_
            refine v_getr (c := 41) C 52 flX5_41 (by decide) rfl rfl dX5_load_66 rfl ?_
            refine v_iload_n (j := 2) C dX5_load_69 rfl rfl rfl ?_
            refine v_iald (c := 52) C hp (by decide) rfl dX5_load_70 rfl ?_
            refine v_iadd C dX5_load_71 rfl ?_
            refine v_imul C dX5_load_72 rfl ?_
            refine v_bipush (v := 99) C dX5_load_73 (by decide) rfl ?_
            refine v_iadd C dX5_load_75 rfl ?_
            refine v_bipush (v := 100) C dX5_load_76 (by decide) rfl ?_
            refine v_idiv C dX5_load_78 (by decide) rfl ?_
            exact v_ret E dX5_load_79 (by decide) (by decide) ((by first | contradiction | simp only [fr_X5_load, if_neg h6_1, if_neg h16_2, if_pos h26_4, if_neg h38_5])) (rfl) rfl
          · skip
            refine v_aload_n (j := 0) C dX5_load_41 rfl rfl rfl ?_
            refine v_iload_n (j := 1) C dX5_load_42 rfl rfl rfl ?_
            refine v_callV (rest := []) (q := (RX5, TX5, 35)) C kvX5_121 (k_X5_partOfRight sg o p hp (hM.fx (ix_lt hp) (by assumption))) (by decide) (by decide) rfl rfl rfl rfl rfl (Nat.le_of_ble_eq_true rfl) (by decide) (by decide) dX5_load_43 rfl ?_
            refine v_goto (pc1 := 61) C dX5_load_46 (by decide) ?_
            refine v_istore_n C [(3, .int (fr_X5_partOfRight sg p)), (0, .ref (xg X 41)), (1, .int p), (2, .int q)] dX5_load_61 rfl (by decide) rfl rfl ?_
            refine v_iload_n (j := 0) C dX5_load_62 rfl rfl rfl ?_
            refine v_bipush (v := 100) C dX5_load_63 (by decide) rfl ?_
            refine v_aload_n (j := 1) C dX5_load_65 rfl rfl rfl ?_
            refine v_getr (c := 41) C 52 flX5_41 (by decide) rfl rfl dX5_load_66 rfl ?_
            refine v_iload_n (j := 2) C dX5_load_69 rfl rfl rfl ?_
            refine v_iald (c := 52) C hp (by decide) rfl dX5_load_70 rfl ?_
            refine v_iadd C dX5_load_71 rfl ?_
            refine v_imul C dX5_load_72 rfl ?_
            refine v_bipush (v := 99) C dX5_load_73 (by decide) rfl ?_
            refine v_iadd C dX5_load_75 rfl ?_
            refine v_bipush (v := 100) C dX5_load_76 (by decide) rfl ?_
            refine v_idiv C dX5_load_78 (by decide) rfl ?_
            exact v_ret E dX5_load_79 (by decide) (by decide) ((by first | contradiction | simp only [fr_X5_load, if_neg h6_1, if_neg h16_2, if_pos h26_4, if_pos h38_5])) (rfl) rfl
        · skip
          refine v_iconst (v := 0) C dX5_load_29 (by decide) rfl ?_
          exact v_ret E dX5_load_30 (by decide) (by decide) ((by first | contradiction | simp only [fr_X5_load, if_neg h6_1, if_neg h16_2, if_neg h26_4])) (rfl) rfl
def fl_X5_borne (sg : Sg) (q : Int32) : Nat → Nat → Int32 → Int32
  | 0, _, s => s
  | n + 1, k, s => fl_X5_borne sg q n (k + 1) (s + fr_X5_load sg (sg 62 k) q)
set_option maxHeartbeats 4000000 in
set_option maxRecDepth 20000 in
theorem lp_X5_borne {X : Cx} {rk : Nat} (hrk : 3 ≤ rk) (C : CF X cX5_borne RX5 4 rk 0 0) (sg : Sg) (o : Ot) (q : Int32) (hM : MI sg) (N : Nat) (h6 : N ≤ 6) (hN : sg 41 24 = nI N) {r : Int32} (E : Ei X cX5_borne 0 0 sg o r) : ∀ (n k : Nat) (s : Int32), n + k = N → r = fl_X5_borne sg q n k s → V X 0 0 4 sg o [(3, .int (nI k)), (2, .int s), (0, .ref (xg X 41)), (1, .int q)] 4 [] := by
  refine loop_ind fun n ih => ?_
  intro k s hnk hr
  refine v_iload_n (j := 0) C dX5_borne_4 rfl rfl rfl ?_
  refine v_aload_n (j := 2) C dX5_borne_5 rfl rfl rfl ?_
  refine v_geti (c := 41) C flX5_100 (by decide) rfl rfl dX5_borne_6 rfl ?_
  refine v_icmp_ge (tgt := 32) C dX5_borne_9 (by decide) rfl (fun h9_1 => ?_) (fun h9_1 => ?_)
  · skip
    rw [hN, nI_lt_iff (by omega) (by omega)] at h9_1; obtain rfl : n = 0 := by omega
    refine v_iload_n (j := 1) C dX5_borne_32 rfl rfl rfl ?_
    exact v_ret E dX5_borne_33 (by decide) (by decide) (by rw [hr]; simp only [fl_X5_borne]) (rfl) rfl
  · skip
    have hlt_ := h9_1; rw [hN, nI_lt_iff (by omega) (by omega)] at h9_1; obtain ⟨m, rfl⟩ : ∃ m, n = m + 1 := ⟨n - 1, by omega⟩; have hod := hM.od (k := k) (by omega) hlt_
    refine v_iload_n (j := 1) C dX5_borne_12 rfl rfl rfl ?_
    refine v_aload_n (j := 2) C dX5_borne_13 rfl rfl rfl ?_
    refine v_aload_n (j := 2) C dX5_borne_14 rfl rfl rfl ?_
    refine v_getr (c := 41) C 62 flX5_75 (by decide) rfl rfl dX5_borne_15 rfl ?_
    refine v_iload_n (j := 0) C dX5_borne_18 rfl rfl rfl ?_
    refine v_ialdN (c := 62) C (by omega) (by decide) (by decide) rfl dX5_borne_19 rfl ?_
    refine v_iload_n (j := 3) C dX5_borne_20 rfl rfl rfl ?_
    refine v_callV (rest := [.int s]) (q := (RX5, TX5, 35)) C kvX5_137 (k_X5_load sg o (sg 62 k) q hM hod) hrk (by decide) rfl rfl rfl rfl rfl (Nat.le_of_ble_eq_true rfl) (by decide) (by decide) dX5_borne_21 rfl ?_
    refine v_iadd C dX5_borne_24 rfl ?_
    refine v_istore_n C [(2, .int (s + (fr_X5_load sg (sg 62 k) q))), (3, .int (nI k)), (0, .ref (xg X 41)), (1, .int q)] dX5_borne_25 rfl (by decide) rfl rfl ?_
    refine v_iinc (j := 1) (v := (nI (k + 1))) C [(3, .int (nI (k + 1))), (2, .int (s + (fr_X5_load sg (sg 62 k) q))), (0, .ref (xg X 41)), (1, .int q)] dX5_borne_26 rfl (nI_add1 _) (by decide) rfl rfl ?_
    refine v_goto (pc1 := 4) C dX5_borne_29 (by decide) ?_
    exact ih m (by omega) (k + 1) (s + (fr_X5_load sg (sg 62 k) q)) (by omega) (by rw [hr]; simp only [fl_X5_borne])
set_option maxHeartbeats 4000000 in
set_option maxRecDepth 20000 in
theorem k_X5_borne {l : Launch} {D : va_G} {K : Nat → ClassId} {g : Nat → Nat} (sg : Sg) (o : Ot) (q : Int32) (hM : MI sg) : CN l yX5_borne cX5_borne 4 (some .int) 3 D K g [.ref (g 41), .int q] sg o (some (.int (fl_X5_borne sg q (ix (sg 41 24)) 0 0))) sg o :=
  mk_i (own := RX5) (av := fun g => [.ref (g 41), .int q]) (lo := fun g => [(0, .ref (g 41)), (1, .int q)]) (by decide) rfl rfl (fun _ => Nat.le_of_ble_eq_true rfl) (fun _ => rfl) fun X C E => by
    refine v_iconst (v := 0) C dX5_borne_0 (by decide) rfl ?_
    refine v_istore_n C [(2, .int 0), (0, .ref (xg X 41)), (1, .int q)] dX5_borne_1 rfl (by decide) rfl rfl ?_
    refine v_iconst (v := nI 0) C dX5_borne_2 (by decide) rfl ?_
    refine v_istore_n C [(3, .int (nI 0)), (2, .int 0), (0, .ref (xg X 41)), (1, .int q)] dX5_borne_3 rfl (by decide) rfl rfl ?_
    exact lp_X5_borne (by decide) C sg o q hM _ hM.nh.ixl hM.nh.ixe E _ 0 0 (Nat.add_zero _) rfl
def fr_X5_may (sg : Sg) (q : Int32) : Int32 := (((sg 43 (ix q)) * (sg 55 (ix (sg 41 23)))) / 100)
set_option maxHeartbeats 4000000 in
set_option maxRecDepth 20000 in
theorem k_X5_may {l : Launch} {D : va_G} {K : Nat → ClassId} {g : Nat → Nat} (sg : Sg) (o : Ot) (q : Int32) (hM : MI sg) (hq : vp_in q 8) (ht : ¬ sg 41 23 < 0) : CN l yX5_may cX5_may 2 (some .int) 1 D K g [.ref (g 41), .int q] sg o (some (.int (fr_X5_may sg q))) sg o :=
  mk_i (own := RX5) (av := fun g => [.ref (g 41), .int q]) (lo := fun g => [(0, .ref (g 41)), (1, .int q)]) (by decide) rfl rfl (fun _ => Nat.le_of_ble_eq_true rfl) (fun _ => rfl) fun X C E => by
    have hb_q := ix_lt hq
    refine v_aload_n (j := 0) C dX5_may_0 rfl rfl rfl ?_
    refine v_getr (c := 41) C 43 flX5_13 (by decide) rfl rfl dX5_may_1 rfl ?_
    refine v_iload_n (j := 1) C dX5_may_4 rfl rfl rfl ?_
    refine v_iald (c := 43) C hq (by decide) rfl dX5_may_5 rfl ?_
    refine v_aload_n (j := 0) C dX5_may_6 rfl rfl rfl ?_
    refine v_getr (c := 41) C 55 flX5_50 (by decide) rfl rfl dX5_may_7 rfl ?_
    refine v_aload_n (j := 0) C dX5_may_10 rfl rfl rfl ?_
    refine v_geti (c := 41) C flX5_71 (by decide) rfl rfl dX5_may_11 rfl ?_
    refine v_iald (c := 55) C (hM.tn ht) (by decide) rfl dX5_may_14 rfl ?_
    refine v_imul C dX5_may_15 rfl ?_
    refine v_bipush (v := 100) C dX5_may_16 (by decide) rfl ?_
    refine v_idiv C dX5_may_18 (by decide) rfl ?_
    exact v_ret E dX5_may_19 (by decide) (by decide) ((by rfl)) (rfl) rfl
def fr_X5_endOf (sg : Sg) (z : Int32) : Int32 := ((sg 63 (ix z)) + (sg 45 (ix (sg 62 (ix z)))))
set_option maxHeartbeats 4000000 in
set_option maxRecDepth 20000 in
theorem k_X5_endOf {l : Launch} {D : va_G} {K : Nat → ClassId} {g : Nat → Nat} (sg : Sg) (o : Ot) (z : Int32) (hz : vp_in z 6) (ho : vp_in (sg 62 (ix z)) 6) : CN l yX5_endOf cX5_endOf 2 (some .int) 1 D K g [.ref (g 41), .int z] sg o (some (.int (fr_X5_endOf sg z))) sg o :=
  mk_i (own := RX5) (av := fun g => [.ref (g 41), .int z]) (lo := fun g => [(0, .ref (g 41)), (1, .int z)]) (by decide) rfl rfl (fun _ => Nat.le_of_ble_eq_true rfl) (fun _ => rfl) fun X C E => by
    have hb_z := ix_lt hz
    refine v_aload_n (j := 0) C dX5_endOf_0 rfl rfl rfl ?_
    refine v_getr (c := 41) C 63 flX5_78 (by decide) rfl rfl dX5_endOf_1 rfl ?_
    refine v_iload_n (j := 1) C dX5_endOf_4 rfl rfl rfl ?_
    refine v_iald (c := 63) C hz (by decide) rfl dX5_endOf_5 rfl ?_
    refine v_aload_n (j := 0) C dX5_endOf_6 rfl rfl rfl ?_
    refine v_getr (c := 41) C 45 flX5_19 (by decide) rfl rfl dX5_endOf_7 rfl ?_
    refine v_aload_n (j := 0) C dX5_endOf_10 rfl rfl rfl ?_
    refine v_getr (c := 41) C 62 flX5_75 (by decide) rfl rfl dX5_endOf_11 rfl ?_
    refine v_iload_n (j := 1) C dX5_endOf_14 rfl rfl rfl ?_
    refine v_iald (c := 62) C hz (by decide) rfl dX5_endOf_15 rfl ?_
    refine v_iald (c := 45) C ho (by decide) rfl dX5_endOf_16 rfl ?_
    refine v_iadd C dX5_endOf_17 rfl ?_
    exact v_ret E dX5_endOf_18 (by decide) (by decide) ((by rfl)) (rfl) rfl
def fr_X5_lastEnd (sg : Sg) : Int32 := (if (sg 41 24) = 0 then 0 else (fr_X5_endOf sg ((sg 41 24) - 1)))
set_option maxHeartbeats 4000000 in
set_option maxRecDepth 20000 in
theorem k_X5_lastEnd {l : Launch} {D : va_G} {K : Nat → ClassId} {g : Nat → Nat} (sg : Sg) (o : Ot)  (hM : MI sg) : CN l yX5_lastEnd cX5_lastEnd 1 (some .int) 2 D K g [.ref (g 41)] sg o (some (.int (fr_X5_lastEnd sg))) sg o :=
  mk_i (own := RX5) (av := fun g => [.ref (g 41)]) (lo := fun g => [(0, .ref (g 41))]) (by decide) rfl rfl (fun _ => Nat.le_of_ble_eq_true rfl) (fun _ => rfl) fun X C E => by
    refine v_aload_n (j := 0) C dX5_lastEnd_0 rfl rfl rfl ?_
    refine v_geti (c := 41) C flX5_100 (by decide) rfl rfl dX5_lastEnd_1 rfl ?_
    refine v_if_ne (tgt := 11) C dX5_lastEnd_4 (by decide) rfl (fun h4_1 => ?_) (fun h4_1 => ?_)
    · skip
      refine v_aload_n (j := 0) C dX5_lastEnd_11 rfl rfl rfl ?_
      refine v_aload_n (j := 0) C dX5_lastEnd_12 rfl rfl rfl ?_
      refine v_geti (c := 41) C flX5_100 (by decide) rfl rfl dX5_lastEnd_13 rfl ?_
      refine v_iconst (v := 1) C dX5_lastEnd_16 (by decide) rfl ?_
      refine v_isub C dX5_lastEnd_17 rfl ?_
      refine v_callV (rest := []) (q := (RX5, TX5, 35)) C kvX5_147 (k_X5_endOf sg o ((sg 41 24) - 1) (hM.last (by assumption)) (hM.lasto (by assumption))) (by decide) (by decide) rfl rfl rfl rfl rfl (Nat.le_of_ble_eq_true rfl) (by decide) (by decide) dX5_lastEnd_18 rfl ?_
      exact v_ret E dX5_lastEnd_21 (by decide) (by decide) ((by simp only [fr_X5_lastEnd, if_neg h4_1])) (rfl) rfl
    · skip
      refine v_iconst (v := 0) C dX5_lastEnd_7 (by decide) rfl ?_
      refine v_goto (pc1 := 21) C dX5_lastEnd_8 (by decide) ?_
      exact v_ret E dX5_lastEnd_21 (by decide) (by decide) ((by simp only [fr_X5_lastEnd, if_pos h4_1])) (rfl) rfl
def fr_X5_lastWork (sg : Sg) : Int32 := (if (sg 41 24) = 0 then 0 else (sg 64 (ix ((sg 41 24) - 1))))
set_option maxHeartbeats 4000000 in
set_option maxRecDepth 20000 in
theorem k_X5_lastWork {l : Launch} {D : va_G} {K : Nat → ClassId} {g : Nat → Nat} (sg : Sg) (o : Ot)  (hM : MI sg) : CN l yX5_lastWork cX5_lastWork 1 (some .int) 1 D K g [.ref (g 41)] sg o (some (.int (fr_X5_lastWork sg))) sg o :=
  mk_i (own := RX5) (av := fun g => [.ref (g 41)]) (lo := fun g => [(0, .ref (g 41))]) (by decide) rfl rfl (fun _ => Nat.le_of_ble_eq_true rfl) (fun _ => rfl) fun X C E => by
    refine v_aload_n (j := 0) C dX5_lastWork_0 rfl rfl rfl ?_
    refine v_geti (c := 41) C flX5_100 (by decide) rfl rfl dX5_lastWork_1 rfl ?_
    refine v_if_ne (tgt := 11) C dX5_lastWork_4 (by decide) rfl (fun h4_1 => ?_) (fun h4_1 => ?_)
    · skip
      refine v_aload_n (j := 0) C dX5_lastWork_11 rfl rfl rfl ?_
      refine v_getr (c := 41) C 64 flX5_81 (by decide) rfl rfl dX5_lastWork_12 rfl ?_
      refine v_aload_n (j := 0) C dX5_lastWork_15 rfl rfl rfl ?_
      refine v_geti (c := 41) C flX5_100 (by decide) rfl rfl dX5_lastWork_16 rfl ?_
      refine v_iconst (v := 1) C dX5_lastWork_19 (by decide) rfl ?_
      refine v_isub C dX5_lastWork_20 rfl ?_
      refine v_iald (c := 64) C (hM.last (by assumption)) (by decide) rfl dX5_lastWork_21 rfl ?_
      exact v_ret E dX5_lastWork_22 (by decide) (by decide) ((by simp only [fr_X5_lastWork, if_neg h4_1])) (rfl) rfl
    · skip
      refine v_iconst (v := 0) C dX5_lastWork_7 (by decide) rfl ?_
      refine v_goto (pc1 := 22) C dX5_lastWork_8 (by decide) ?_
      exact v_ret E dX5_lastWork_22 (by decide) (by decide) ((by simp only [fr_X5_lastWork, if_pos h4_1])) (rfl) rfl
set_option maxHeartbeats 4000000 in
set_option maxRecDepth 20000 in
theorem k_X5_isAnew {l : Launch} {D : va_G} {K : Nat → ClassId} {g : Nat → Nat} (sg : Sg) (o : Ot) (p : Int32) (hM : MI sg) (hp : vp_in p 6) (ht : ¬ sg 41 23 < 0) : CN l yX5_isAnew cX5_isAnew 2 (some .boolean) 3 D K g [.ref (g 41), .int p] sg o (some (.int (b2i (¬ (sg 54 (ix (sg 47 (ix p))) - fr_X5_lastEnd sg < sg 57 (ix (sg 41 23))) ∨ sg 56 (ix (sg 41 23)) < fr_X5_lastWork sg + sg 45 (ix p))))) sg o :=
  mk_i (own := RX5) (av := fun g => [.ref (g 41), .int p]) (lo := fun g => [(0, .ref (g 41)), (1, .int p)]) (by decide) rfl b2i_nar (fun _ => Nat.le_of_ble_eq_true rfl) (fun _ => rfl) fun X C E => by
    have hb_p := ix_lt hp
    refine v_aload_n (j := 0) C dX5_isAnew_0 rfl rfl rfl ?_
    refine v_getr (c := 41) C 54 flX5_47 (by decide) rfl rfl dX5_isAnew_1 rfl ?_
    refine v_aload_n (j := 0) C dX5_isAnew_4 rfl rfl rfl ?_
    refine v_getr (c := 41) C 47 flX5_25 (by decide) rfl rfl dX5_isAnew_5 rfl ?_
    refine v_iload_n (j := 1) C dX5_isAnew_8 rfl rfl rfl ?_
    refine v_iald (c := 47) C hp (by decide) rfl dX5_isAnew_9 rfl ?_
    refine v_iald (c := 54) C (hM.tr (ix_lt hp)) (by decide) rfl dX5_isAnew_10 rfl ?_
    refine v_aload_n (j := 0) C dX5_isAnew_11 rfl rfl rfl ?_
    refine v_callV (rest := [.int (sg 54 (ix (sg 47 (ix p))))]) (q := (RX5, TX5, 35)) C kvX5_150 (k_X5_lastEnd sg o hM) (by decide) (by decide) rfl rfl rfl rfl rfl (Nat.le_of_ble_eq_true rfl) (by decide) (by decide) dX5_isAnew_12 rfl ?_
    refine v_isub C dX5_isAnew_15 rfl ?_
    refine v_aload_n (j := 0) C dX5_isAnew_16 rfl rfl rfl ?_
    refine v_getr (c := 41) C 57 flX5_56 (by decide) rfl rfl dX5_isAnew_17 rfl ?_
    refine v_aload_n (j := 0) C dX5_isAnew_20 rfl rfl rfl ?_
    refine v_geti (c := 41) C flX5_71 (by decide) rfl rfl dX5_isAnew_21 rfl ?_
    refine v_iald (c := 57) C (hM.tn ht) (by decide) rfl dX5_isAnew_24 rfl ?_
    refine v_icmp_ge (tgt := 51) C dX5_isAnew_25 (by decide) rfl (fun h25_1 => ?_) (fun h25_1 => ?_)
    · skip
      refine v_iconst (v := 1) C dX5_isAnew_51 (by decide) rfl ?_
      refine v_goto (pc1 := 56) C dX5_isAnew_52 (by decide) ?_
      exact v_ret E dX5_isAnew_56 (by decide) (by decide) (b2i_t (by first | assumption | (simp [h25_1]; done) | grind)) (rfl) rfl
    · skip
      refine v_aload_n (j := 0) C dX5_isAnew_28 rfl rfl rfl ?_
      refine v_callV (rest := []) (q := (RX5, TX5, 35)) C kvX5_154 (k_X5_lastWork sg o hM) (by decide) (by decide) rfl rfl rfl rfl rfl (Nat.le_of_ble_eq_true rfl) (by decide) (by decide) dX5_isAnew_29 rfl ?_
      refine v_aload_n (j := 0) C dX5_isAnew_32 rfl rfl rfl ?_
      refine v_getr (c := 41) C 45 flX5_19 (by decide) rfl rfl dX5_isAnew_33 rfl ?_
      refine v_iload_n (j := 1) C dX5_isAnew_36 rfl rfl rfl ?_
      refine v_iald (c := 45) C hp (by decide) rfl dX5_isAnew_37 rfl ?_
      refine v_iadd C dX5_isAnew_38 rfl ?_
      refine v_aload_n (j := 0) C dX5_isAnew_39 rfl rfl rfl ?_
      refine v_getr (c := 41) C 56 flX5_53 (by decide) rfl rfl dX5_isAnew_40 rfl ?_
      refine v_aload_n (j := 0) C dX5_isAnew_43 rfl rfl rfl ?_
      refine v_geti (c := 41) C flX5_71 (by decide) rfl rfl dX5_isAnew_44 rfl ?_
      refine v_iald (c := 56) C (hM.tn ht) (by decide) rfl dX5_isAnew_47 rfl ?_
      refine v_icmp_le (tgt := 55) C dX5_isAnew_48 (by decide) rfl (fun h48_2 => ?_) (fun h48_2 => ?_)
      · skip
        refine v_iconst (v := 0) C dX5_isAnew_55 (by decide) rfl ?_
        exact v_ret E dX5_isAnew_56 (by decide) (by decide) (b2i_f (by first | assumption | (simp [h25_1, h48_2]; done) | grind)) (rfl) rfl
      · skip
        refine v_iconst (v := 1) C dX5_isAnew_51 (by decide) rfl ?_
        refine v_goto (pc1 := 56) C dX5_isAnew_52 (by decide) ?_
        exact v_ret E dX5_isAnew_56 (by decide) (by decide) (b2i_t (by first | assumption | (simp [h25_1, h48_2]; done) | grind)) (rfl) rfl
def fr_X5_beginNext (sg : Sg) (p : Int32) : Int32 := (if ((sg 54 (ix (sg 47 (ix p)))) - (fr_X5_lastEnd sg)) < (sg 57 (ix (sg 41 23))) then (if (fr_X5_lastEnd sg) < (sg 54 (ix (sg 47 (ix p)))) then (if ¬ (sg 54 (ix (sg 47 (ix p))) - fr_X5_lastEnd sg < sg 57 (ix (sg 41 23))) ∨ sg 56 (ix (sg 41 23)) < fr_X5_lastWork sg + sg 45 (ix p) then ((sg 54 (ix (sg 47 (ix p)))) + (sg 57 (ix (sg 41 23)))) else ((sg 54 (ix (sg 47 (ix p)))) + 0)) else (if ¬ (sg 54 (ix (sg 47 (ix p))) - fr_X5_lastEnd sg < sg 57 (ix (sg 41 23))) ∨ sg 56 (ix (sg 41 23)) < fr_X5_lastWork sg + sg 45 (ix p) then ((fr_X5_lastEnd sg) + (sg 57 (ix (sg 41 23)))) else ((fr_X5_lastEnd sg) + 0))) else (sg 54 (ix (sg 47 (ix p)))))
set_option maxHeartbeats 4000000 in
set_option maxRecDepth 20000 in
theorem k_X5_beginNext {l : Launch} {D : va_G} {K : Nat → ClassId} {g : Nat → Nat} (sg : Sg) (o : Ot) (p : Int32) (hM : MI sg) (hp : vp_in p 6) (ht : ¬ sg 41 23 < 0) : CN l yX5_beginNext cX5_beginNext 4 (some .int) 4 D K g [.ref (g 41), .int p] sg o (some (.int (fr_X5_beginNext sg p))) sg o :=
  mk_i (own := RX5) (av := fun g => [.ref (g 41), .int p]) (lo := fun g => [(0, .ref (g 41)), (1, .int p)]) (by decide) rfl rfl (fun _ => Nat.le_of_ble_eq_true rfl) (fun _ => rfl) fun X C E => by
    have hb_p := ix_lt hp
    refine v_aload_n (j := 0) C dX5_beginNext_0 rfl rfl rfl ?_
    refine v_getr (c := 41) C 54 flX5_47 (by decide) rfl rfl dX5_beginNext_1 rfl ?_
    refine v_aload_n (j := 0) C dX5_beginNext_4 rfl rfl rfl ?_
    refine v_getr (c := 41) C 47 flX5_25 (by decide) rfl rfl dX5_beginNext_5 rfl ?_
    refine v_iload_n (j := 1) C dX5_beginNext_8 rfl rfl rfl ?_
    refine v_iald (c := 47) C hp (by decide) rfl dX5_beginNext_9 rfl ?_
    refine v_iald (c := 54) C (hM.tr (ix_lt hp)) (by decide) rfl dX5_beginNext_10 rfl ?_
    refine v_istore_n C [(2, .int (sg 54 (ix (sg 47 (ix p))))), (0, .ref (xg X 41)), (1, .int p)] dX5_beginNext_11 rfl (by decide) rfl rfl ?_
    refine v_aload_n (j := 1) C dX5_beginNext_12 rfl rfl rfl ?_
    refine v_callV (rest := []) (q := (RX5, TX5, 35)) C kvX5_150 (k_X5_lastEnd sg o hM) (by decide) (by decide) rfl rfl rfl rfl rfl (Nat.le_of_ble_eq_true rfl) (by decide) (by decide) dX5_beginNext_13 rfl ?_
    refine v_istore_n C [(3, .int (fr_X5_lastEnd sg)), (2, .int (sg 54 (ix (sg 47 (ix p))))), (0, .ref (xg X 41)), (1, .int p)] dX5_beginNext_16 rfl (by decide) rfl rfl ?_
    refine v_iload_n (j := 1) C dX5_beginNext_17 rfl rfl rfl ?_
    refine v_iload_n (j := 0) C dX5_beginNext_18 rfl rfl rfl ?_
    refine v_isub C dX5_beginNext_19 rfl ?_
    refine v_aload_n (j := 2) C dX5_beginNext_20 rfl rfl rfl ?_
    refine v_getr (c := 41) C 57 flX5_56 (by decide) rfl rfl dX5_beginNext_21 rfl ?_
    refine v_aload_n (j := 2) C dX5_beginNext_24 rfl rfl rfl ?_
    refine v_geti (c := 41) C flX5_71 (by decide) rfl rfl dX5_beginNext_25 rfl ?_
    refine v_iald (c := 57) C (hM.tn ht) (by decide) rfl dX5_beginNext_28 rfl ?_
    refine v_icmp_lt (tgt := 34) C dX5_beginNext_29 (by decide) rfl (fun h29_1 => ?_) (fun h29_1 => ?_)
    · skip
      refine v_iload_n (j := 1) C dX5_beginNext_34 rfl rfl rfl ?_
      refine v_iload_n (j := 0) C dX5_beginNext_35 rfl rfl rfl ?_
      refine v_icmp_le (tgt := 43) C dX5_beginNext_36 (by decide) rfl (fun h36_2 => ?_) (fun h36_2 => ?_)
      · skip
        refine v_iload_n (j := 0) C dX5_beginNext_43 rfl rfl rfl ?_
        refine v_aload_n (j := 2) C dX5_beginNext_44 rfl rfl rfl ?_
        refine v_iload_n (j := 3) C dX5_beginNext_45 rfl rfl rfl ?_
        refine v_callV (rest := [.int (fr_X5_lastEnd sg)]) (q := (RX5, TX5, 35)) C kvX5_157 (k_X5_isAnew sg o p hM hp ht) (by decide) (by decide) rfl rfl rfl rfl rfl (Nat.le_of_ble_eq_true rfl) (by decide) (by decide) dX5_beginNext_46 rfl ?_
        refine v_if_eqB (tgt := 64) C dX5_beginNext_49 (by decide) rfl (fun h49_3 => ?_) (fun h49_3 => ?_)
        · skip
          refine v_iconst (v := 0) C dX5_beginNext_64 (by decide) rfl ?_
          refine v_iadd C dX5_beginNext_65 rfl ?_
          exact v_ret E dX5_beginNext_66 (by decide) (by decide) ((by first | contradiction | simp only [fr_X5_beginNext, if_pos h29_1, if_neg h36_2, if_neg h49_3])) (rfl) rfl
        · skip
          refine v_aload_n (j := 2) C dX5_beginNext_52 rfl rfl rfl ?_
          refine v_getr (c := 41) C 57 flX5_56 (by decide) rfl rfl dX5_beginNext_53 rfl ?_
          refine v_aload_n (j := 2) C dX5_beginNext_56 rfl rfl rfl ?_
          refine v_geti (c := 41) C flX5_71 (by decide) rfl rfl dX5_beginNext_57 rfl ?_
          refine v_iald (c := 57) C (hM.tn ht) (by decide) rfl dX5_beginNext_60 rfl ?_
          refine v_goto (pc1 := 65) C dX5_beginNext_61 (by decide) ?_
          refine v_iadd C dX5_beginNext_65 rfl ?_
          exact v_ret E dX5_beginNext_66 (by decide) (by decide) ((by first | contradiction | simp only [fr_X5_beginNext, if_pos h29_1, if_neg h36_2, if_pos h49_3])) (rfl) rfl
      · skip
        refine v_iload_n (j := 1) C dX5_beginNext_39 rfl rfl rfl ?_
        refine v_goto (pc1 := 44) C dX5_beginNext_40 (by decide) ?_
        refine v_aload_n (j := 2) C dX5_beginNext_44 rfl rfl rfl ?_
        refine v_iload_n (j := 3) C dX5_beginNext_45 rfl rfl rfl ?_
        refine v_callV (rest := [.int (sg 54 (ix (sg 47 (ix p))))]) (q := (RX5, TX5, 35)) C kvX5_157 (k_X5_isAnew sg o p hM hp ht) (by decide) (by decide) rfl rfl rfl rfl rfl (Nat.le_of_ble_eq_true rfl) (by decide) (by decide) dX5_beginNext_46 rfl ?_
        refine v_if_eqB (tgt := 64) C dX5_beginNext_49 (by decide) rfl (fun h49_4 => ?_) (fun h49_4 => ?_)
        · skip
          refine v_iconst (v := 0) C dX5_beginNext_64 (by decide) rfl ?_
          refine v_iadd C dX5_beginNext_65 rfl ?_
          exact v_ret E dX5_beginNext_66 (by decide) (by decide) ((by first | contradiction | simp only [fr_X5_beginNext, if_pos h29_1, if_pos h36_2, if_neg h49_4])) (rfl) rfl
        · skip
          refine v_aload_n (j := 2) C dX5_beginNext_52 rfl rfl rfl ?_
          refine v_getr (c := 41) C 57 flX5_56 (by decide) rfl rfl dX5_beginNext_53 rfl ?_
          refine v_aload_n (j := 2) C dX5_beginNext_56 rfl rfl rfl ?_
          refine v_geti (c := 41) C flX5_71 (by decide) rfl rfl dX5_beginNext_57 rfl ?_
          refine v_iald (c := 57) C (hM.tn ht) (by decide) rfl dX5_beginNext_60 rfl ?_
          refine v_goto (pc1 := 65) C dX5_beginNext_61 (by decide) ?_
          refine v_iadd C dX5_beginNext_65 rfl ?_
          exact v_ret E dX5_beginNext_66 (by decide) (by decide) ((by first | contradiction | simp only [fr_X5_beginNext, if_pos h29_1, if_pos h36_2, if_pos h49_4])) (rfl) rfl
    · skip
      refine v_iload_n (j := 1) C dX5_beginNext_32 rfl rfl rfl ?_
      exact v_ret E dX5_beginNext_33 (by decide) (by decide) ((by simp only [fr_X5_beginNext, if_neg h29_1])) (rfl) rfl
set_option maxHeartbeats 4000000 in
set_option maxRecDepth 20000 in
theorem k_X5_isTooMuch {l : Launch} {D : va_G} {K : Nat → ClassId} {g : Nat → Nat} (sg : Sg) (o : Ot) (p : Int32) (hM : MI sg) (hp : vp_in p 6) (ht : ¬ sg 41 23 < 0) (hf : ¬ sg 48 (ix p) = 0) : CN l yX5_isTooMuch cX5_isTooMuch 2 (some .boolean) 4 D K g [.ref (g 41), .int p] sg o (some (.int (b2i (fr_X5_may sg (sg 49 (ix p)) < fl_X5_borne sg (sg 49 (ix p)) (ix (sg 41 24)) 0 0 + fr_X5_load sg p (sg 49 (ix p)) ∨ fr_X5_may sg (sg 50 (ix p)) < fl_X5_borne sg (sg 50 (ix p)) (ix (sg 41 24)) 0 0 + fr_X5_load sg p (sg 50 (ix p)))))) sg o :=
  mk_i (own := RX5) (av := fun g => [.ref (g 41), .int p]) (lo := fun g => [(0, .ref (g 41)), (1, .int p)]) (by decide) rfl b2i_nar (fun _ => Nat.le_of_ble_eq_true rfl) (fun _ => rfl) fun X C E => by
    have hb_p := ix_lt hp
    refine v_aload_n (j := 0) C dX5_isTooMuch_0 rfl rfl rfl ?_
    refine v_aload_n (j := 0) C dX5_isTooMuch_1 rfl rfl rfl ?_
    refine v_getr (c := 41) C 49 flX5_32 (by decide) rfl rfl dX5_isTooMuch_2 rfl ?_
    refine v_iload_n (j := 1) C dX5_isTooMuch_5 rfl rfl rfl ?_
    refine v_iald (c := 49) C hp (by decide) rfl dX5_isTooMuch_6 rfl ?_
    refine v_callV (rest := []) (q := (RX5, TX5, 35)) C kvX5_144 (k_X5_borne sg o (sg 49 (ix p)) hM) (by decide) (by decide) rfl rfl rfl rfl rfl (Nat.le_of_ble_eq_true rfl) (by decide) (by decide) dX5_isTooMuch_7 rfl ?_
    refine v_aload_n (j := 0) C dX5_isTooMuch_10 rfl rfl rfl ?_
    refine v_iload_n (j := 1) C dX5_isTooMuch_11 rfl rfl rfl ?_
    refine v_aload_n (j := 0) C dX5_isTooMuch_12 rfl rfl rfl ?_
    refine v_getr (c := 41) C 49 flX5_32 (by decide) rfl rfl dX5_isTooMuch_13 rfl ?_
    refine v_iload_n (j := 1) C dX5_isTooMuch_16 rfl rfl rfl ?_
    refine v_iald (c := 49) C hp (by decide) rfl dX5_isTooMuch_17 rfl ?_
    refine v_callV (rest := [.int (fl_X5_borne sg (sg 49 (ix p)) (ix (sg 41 24)) 0 0)]) (q := (RX5, TX5, 35)) C kvX5_137 (k_X5_load sg o p (sg 49 (ix p)) hM hp) (by decide) (by decide) rfl rfl rfl rfl rfl (Nat.le_of_ble_eq_true rfl) (by decide) (by decide) dX5_isTooMuch_18 rfl ?_
    refine v_iadd C dX5_isTooMuch_21 rfl ?_
    refine v_aload_n (j := 0) C dX5_isTooMuch_22 rfl rfl rfl ?_
    refine v_aload_n (j := 0) C dX5_isTooMuch_23 rfl rfl rfl ?_
    refine v_getr (c := 41) C 49 flX5_32 (by decide) rfl rfl dX5_isTooMuch_24 rfl ?_
    refine v_iload_n (j := 1) C dX5_isTooMuch_27 rfl rfl rfl ?_
    refine v_iald (c := 49) C hp (by decide) rfl dX5_isTooMuch_28 rfl ?_
    refine v_callV (rest := [.int ((fl_X5_borne sg (sg 49 (ix p)) (ix (sg 41 24)) 0 0) + (fr_X5_load sg p (sg 49 (ix p))))]) (q := (RX5, TX5, 35)) C kvX5_141 (k_X5_may sg o (sg 49 (ix p)) hM (hM.fx (ix_lt hp) hf).1 ht) (by decide) (by decide) rfl rfl rfl rfl rfl (Nat.le_of_ble_eq_true rfl) (by decide) (by decide) dX5_isTooMuch_29 rfl ?_
    refine v_icmp_gt (tgt := 70) C dX5_isTooMuch_32 (by decide) rfl (fun h32_1 => ?_) (fun h32_1 => ?_)
    · skip
      refine v_iconst (v := 1) C dX5_isTooMuch_70 (by decide) rfl ?_
      refine v_goto (pc1 := 75) C dX5_isTooMuch_71 (by decide) ?_
      exact v_ret E dX5_isTooMuch_75 (by decide) (by decide) (b2i_t (by first | assumption | (simp [h32_1]; done) | grind)) (rfl) rfl
    · skip
      refine v_aload_n (j := 0) C dX5_isTooMuch_35 rfl rfl rfl ?_
      refine v_aload_n (j := 0) C dX5_isTooMuch_36 rfl rfl rfl ?_
      refine v_getr (c := 41) C 50 flX5_35 (by decide) rfl rfl dX5_isTooMuch_37 rfl ?_
      refine v_iload_n (j := 1) C dX5_isTooMuch_40 rfl rfl rfl ?_
      refine v_iald (c := 50) C hp (by decide) rfl dX5_isTooMuch_41 rfl ?_
      refine v_callV (rest := []) (q := (RX5, TX5, 35)) C kvX5_144 (k_X5_borne sg o (sg 50 (ix p)) hM) (by decide) (by decide) rfl rfl rfl rfl rfl (Nat.le_of_ble_eq_true rfl) (by decide) (by decide) dX5_isTooMuch_42 rfl ?_
      refine v_aload_n (j := 0) C dX5_isTooMuch_45 rfl rfl rfl ?_
      refine v_iload_n (j := 1) C dX5_isTooMuch_46 rfl rfl rfl ?_
      refine v_aload_n (j := 0) C dX5_isTooMuch_47 rfl rfl rfl ?_
      refine v_getr (c := 41) C 50 flX5_35 (by decide) rfl rfl dX5_isTooMuch_48 rfl ?_
      refine v_iload_n (j := 1) C dX5_isTooMuch_51 rfl rfl rfl ?_
      refine v_iald (c := 50) C hp (by decide) rfl dX5_isTooMuch_52 rfl ?_
      refine v_callV (rest := [.int (fl_X5_borne sg (sg 50 (ix p)) (ix (sg 41 24)) 0 0)]) (q := (RX5, TX5, 35)) C kvX5_137 (k_X5_load sg o p (sg 50 (ix p)) hM hp) (by decide) (by decide) rfl rfl rfl rfl rfl (Nat.le_of_ble_eq_true rfl) (by decide) (by decide) dX5_isTooMuch_53 rfl ?_
      refine v_iadd C dX5_isTooMuch_56 rfl ?_
      refine v_aload_n (j := 0) C dX5_isTooMuch_57 rfl rfl rfl ?_
      refine v_aload_n (j := 0) C dX5_isTooMuch_58 rfl rfl rfl ?_
      refine v_getr (c := 41) C 50 flX5_35 (by decide) rfl rfl dX5_isTooMuch_59 rfl ?_
      refine v_iload_n (j := 1) C dX5_isTooMuch_62 rfl rfl rfl ?_
      refine v_iald (c := 50) C hp (by decide) rfl dX5_isTooMuch_63 rfl ?_
      refine v_callV (rest := [.int ((fl_X5_borne sg (sg 50 (ix p)) (ix (sg 41 24)) 0 0) + (fr_X5_load sg p (sg 50 (ix p))))]) (q := (RX5, TX5, 35)) C kvX5_141 (k_X5_may sg o (sg 50 (ix p)) hM (hM.fx (ix_lt hp) hf).2.1 ht) (by decide) (by decide) rfl rfl rfl rfl rfl (Nat.le_of_ble_eq_true rfl) (by decide) (by decide) dX5_isTooMuch_64 rfl ?_
      refine v_icmp_le (tgt := 74) C dX5_isTooMuch_67 (by decide) rfl (fun h67_2 => ?_) (fun h67_2 => ?_)
      · skip
        refine v_iconst (v := 0) C dX5_isTooMuch_74 (by decide) rfl ?_
        exact v_ret E dX5_isTooMuch_75 (by decide) (by decide) (b2i_f (by first | assumption | (simp [h32_1, h67_2]; done) | grind)) (rfl) rfl
      · skip
        refine v_iconst (v := 1) C dX5_isTooMuch_70 (by decide) rfl ?_
        refine v_goto (pc1 := 75) C dX5_isTooMuch_71 (by decide) ?_
        exact v_ret E dX5_isTooMuch_75 (by decide) (by decide) (b2i_t (by first | assumption | (simp [h32_1, h67_2]; done) | grind)) (rfl) rfl
def fl_X5_lacks (sg : Sg) (p : Int32) : Nat → Nat → Bool
  | 0, _ => false
  | n + 1, k => if ((sg 53 (ix p)) >>> (nI k &&& 31)) &&& 1 = 1 then (if fl_X5_inRig sg (nI k) (ix (sg 41 24)) 0 < 0 then true else fl_X5_lacks sg p n (k + 1)) else fl_X5_lacks sg p n (k + 1)
set_option maxHeartbeats 4000000 in
set_option maxRecDepth 20000 in
theorem lp_X5_lacks {X : Cx} {rk : Nat} (hrk : 2 ≤ rk) (C : CF X cX5_lacks RX5 3 rk 0 0) (sg : Sg) (o : Ot) (p : Int32) (hM : MI sg) (hp : vp_in p 6) (N : Nat) (h6 : N ≤ 6) (hN : sg 41 3 = nI N) {r : Int32} (E : Ei X cX5_lacks 0 0 sg o r) : ∀ (n k : Nat) , n + k = N → r = b2i (fl_X5_lacks sg p n k = true) → V X 0 0 3 sg o [(2, .int (nI k)), (0, .ref (xg X 41)), (1, .int p)] 2 [] := by
  refine loop_ind fun n ih => ?_
  intro k hnk hr
  refine v_iload_n (j := 0) C dX5_lacks_2 rfl rfl rfl ?_
  refine v_aload_n (j := 1) C dX5_lacks_3 rfl rfl rfl ?_
  refine v_geti (c := 41) C flX5_97 (by decide) rfl rfl dX5_lacks_4 rfl ?_
  refine v_icmp_ge (tgt := 40) C dX5_lacks_7 (by decide) rfl (fun h7_1 => ?_) (fun h7_1 => ?_)
  · skip
    rw [hN, nI_lt_iff (by omega) (by omega)] at h7_1; obtain rfl : n = 0 := by omega
    refine v_iconst (v := 0) C dX5_lacks_40 (by decide) rfl ?_
    exact v_ret E dX5_lacks_41 (by decide) (by decide) (by rw [hr]; exact b2i_f (ne_true_of_eq_false (by simp only [fl_X5_lacks]))) (rfl) rfl
  · skip
    rw [hN, nI_lt_iff (by omega) (by omega)] at h7_1; obtain ⟨m, rfl⟩ : ∃ m, n = m + 1 := ⟨n - 1, by omega⟩
    refine v_aload_n (j := 1) C dX5_lacks_10 rfl rfl rfl ?_
    refine v_getr (c := 41) C 53 flX5_44 (by decide) rfl rfl dX5_lacks_11 rfl ?_
    refine v_iload_n (j := 2) C dX5_lacks_14 rfl rfl rfl ?_
    refine v_iald (c := 53) C hp (by decide) rfl dX5_lacks_15 rfl ?_
    refine v_iload_n (j := 0) C dX5_lacks_16 rfl rfl rfl ?_
    refine v_ishr C dX5_lacks_17 rfl ?_
    refine v_iconst (v := 1) C dX5_lacks_18 (by decide) rfl ?_
    refine v_iand C dX5_lacks_19 rfl ?_
    refine v_iconst (v := 1) C dX5_lacks_20 (by decide) rfl ?_
    refine v_icmp_ne (tgt := 34) C dX5_lacks_21 (by decide) rfl (fun h21_2 => ?_) (fun h21_2 => ?_)
    · skip
      refine v_iinc (j := 0) (v := (nI (k + 1))) C [(2, .int (nI (k + 1))), (0, .ref (xg X 41)), (1, .int p)] dX5_lacks_34 rfl (nI_add1 _) (by decide) rfl rfl ?_
      refine v_goto (pc1 := 2) C dX5_lacks_37 (by decide) ?_
      exact ih m (by omega) (k + 1)  (by omega) (by rw [hr]; simp only [fl_X5_lacks, if_neg h21_2])
    · skip
      refine v_aload_n (j := 1) C dX5_lacks_24 rfl rfl rfl ?_
      refine v_iload_n (j := 0) C dX5_lacks_25 rfl rfl rfl ?_
      refine v_callV (rest := []) (q := (RX5, TX5, 35)) C kvX5_117 (k_X5_inRig sg o (nI k) hM) hrk (by decide) rfl rfl rfl rfl rfl (Nat.le_of_ble_eq_true rfl) (by decide) (by decide) dX5_lacks_26 rfl ?_
      refine v_if_ge (tgt := 34) C dX5_lacks_29 (by decide) rfl (fun h29_3 => ?_) (fun h29_3 => ?_)
      · skip
        refine v_iinc (j := 0) (v := (nI (k + 1))) C [(2, .int (nI (k + 1))), (0, .ref (xg X 41)), (1, .int p)] dX5_lacks_34 rfl (nI_add1 _) (by decide) rfl rfl ?_
        refine v_goto (pc1 := 2) C dX5_lacks_37 (by decide) ?_
        exact ih m (by omega) (k + 1)  (by omega) (by rw [hr]; simp only [fl_X5_lacks, if_pos h21_2, if_neg h29_3])
      · skip
        refine v_iconst (v := 1) C dX5_lacks_32 (by decide) rfl ?_
        exact v_ret E dX5_lacks_33 (by decide) (by decide) (by rw [hr]; exact b2i_t (by simp only [fl_X5_lacks, if_pos h21_2, if_pos h29_3])) (rfl) rfl
set_option maxHeartbeats 4000000 in
set_option maxRecDepth 20000 in
theorem k_X5_lacks {l : Launch} {D : va_G} {K : Nat → ClassId} {g : Nat → Nat} (sg : Sg) (o : Ot) (p : Int32) (hM : MI sg) (hp : vp_in p 6) : CN l yX5_lacks cX5_lacks 3 (some .boolean) 2 D K g [.ref (g 41), .int p] sg o (some (.int (b2i (fl_X5_lacks sg p (ix (sg 41 3)) 0 = true)))) sg o :=
  mk_i (own := RX5) (av := fun g => [.ref (g 41), .int p]) (lo := fun g => [(0, .ref (g 41)), (1, .int p)]) (by decide) rfl b2i_nar (fun _ => Nat.le_of_ble_eq_true rfl) (fun _ => rfl) fun X C E => by
    have hb_p := ix_lt hp
    refine v_iconst (v := nI 0) C dX5_lacks_0 (by decide) rfl ?_
    refine v_istore_n C [(2, .int (nI 0)), (0, .ref (xg X 41)), (1, .int p)] dX5_lacks_1 rfl (by decide) rfl rfl ?_
    exact lp_X5_lacks (by decide) C sg o p hM hp _ hM.nc.ixl hM.nc.ixe E _ 0 (Nat.add_zero _) rfl
def fr_X5_why (sg : Sg) (p : Int32) : Int32 := (if (sg 41 23) < 0 then 116 else (if (fl_X5_inRig sg p (ix (sg 41 24)) 0) < 0 then (if (sg 48 (ix p)) = 0 then 102 else (if fl_X5_lacks sg p (ix (sg 41 3)) 0 = true then 110 else (if (sg 56 (ix (sg 41 23))) < (sg 45 (ix p)) then 115 else (if fr_X5_may sg (sg 49 (ix p)) < fl_X5_borne sg (sg 49 (ix p)) (ix (sg 41 24)) 0 0 + fr_X5_load sg p (sg 49 (ix p)) ∨ fr_X5_may sg (sg 50 (ix p)) < fl_X5_borne sg (sg 50 (ix p)) (ix (sg 41 24)) 0 0 + fr_X5_load sg p (sg 50 (ix p)) then 108 else (if (sg 58 (ix (sg 41 23))) < ((fr_X5_beginNext sg p) + (sg 45 (ix p))) then 99 else 45))))) else 104))
theorem chr_X5_why (sg : Sg) (p : Int32) : narrow .char (.int (fr_X5_why sg p)) = .int (fr_X5_why sg p) := (chr_if rfl (chr_if (chr_if rfl (chr_if rfl (chr_if rfl (chr_if rfl (chr_if rfl rfl))))) rfl))
set_option maxHeartbeats 4000000 in
set_option maxRecDepth 20000 in
theorem k_X5_why {l : Launch} {D : va_G} {K : Nat → ClassId} {g : Nat → Nat} (sg : Sg) (o : Ot) (p : Int32) (hM : MI sg) (hp : vp_in p 6) : CN l yX5_why cX5_why 2 (some .char) 5 D K g [.ref (g 41), .int p] sg o (some (.int (fr_X5_why sg p))) sg o :=
  mk_i (own := RX5) (av := fun g => [.ref (g 41), .int p]) (lo := fun g => [(0, .ref (g 41)), (1, .int p)]) (by decide) rfl (chr_X5_why sg p) (fun _ => Nat.le_of_ble_eq_true rfl) (fun _ => rfl) fun X C E => by
    have hb_p := ix_lt hp
    refine v_aload_n (j := 0) C dX5_why_0 rfl rfl rfl ?_
    refine v_geti (c := 41) C flX5_71 (by decide) rfl rfl dX5_why_1 rfl ?_
    refine v_if_ge (tgt := 10) C dX5_why_4 (by decide) rfl (fun h4_1 => ?_) (fun h4_1 => ?_)
    · skip
      refine v_aload_n (j := 0) C dX5_why_10 rfl rfl rfl ?_
      refine v_iload_n (j := 1) C dX5_why_11 rfl rfl rfl ?_
      refine v_callV (rest := []) (q := (RX5, TX5, 35)) C kvX5_117 (k_X5_inRig sg o p hM) (by decide) (by decide) rfl rfl rfl rfl rfl (Nat.le_of_ble_eq_true rfl) (by decide) (by decide) dX5_why_12 rfl ?_
      refine v_if_lt (tgt := 21) C dX5_why_15 (by decide) rfl (fun h15_2 => ?_) (fun h15_2 => ?_)
      · skip
        refine v_aload_n (j := 0) C dX5_why_21 rfl rfl rfl ?_
        refine v_getr (c := 41) C 48 flX5_28 (by decide) rfl rfl dX5_why_22 rfl ?_
        refine v_iload_n (j := 1) C dX5_why_25 rfl rfl rfl ?_
        refine v_zald (c := 48) C hp (by decide) rfl dX5_why_26 rfl ?_
        refine v_if_ne (tgt := 33) C dX5_why_27 (by decide) rfl (fun h27_3 => ?_) (fun h27_3 => ?_)
        · skip
          refine v_aload_n (j := 0) C dX5_why_33 rfl rfl rfl ?_
          refine v_iload_n (j := 1) C dX5_why_34 rfl rfl rfl ?_
          refine v_callV (rest := []) (q := (RX5, TX5, 35)) C kvX5_160 (k_X5_lacks sg o p hM hp) (by decide) (by decide) rfl rfl rfl rfl rfl (Nat.le_of_ble_eq_true rfl) (by decide) (by decide) dX5_why_35 rfl ?_
          refine v_if_eqB (tgt := 44) C dX5_why_38 (by decide) rfl (fun h38_4 => ?_) (fun h38_4 => ?_)
          · skip
            refine v_aload_n (j := 0) C dX5_why_44 rfl rfl rfl ?_
            refine v_getr (c := 41) C 45 flX5_19 (by decide) rfl rfl dX5_why_45 rfl ?_
            refine v_iload_n (j := 1) C dX5_why_48 rfl rfl rfl ?_
            refine v_iald (c := 45) C hp (by decide) rfl dX5_why_49 rfl ?_
            refine v_aload_n (j := 0) C dX5_why_50 rfl rfl rfl ?_
            refine v_getr (c := 41) C 56 flX5_53 (by decide) rfl rfl dX5_why_51 rfl ?_
            refine v_aload_n (j := 0) C dX5_why_54 rfl rfl rfl ?_
            refine v_geti (c := 41) C flX5_71 (by decide) rfl rfl dX5_why_55 rfl ?_
            refine v_iald (c := 56) C (hM.tn (by assumption)) (by decide) rfl dX5_why_58 rfl ?_
            refine v_icmp_le (tgt := 65) C dX5_why_59 (by decide) rfl (fun h59_5 => ?_) (fun h59_5 => ?_)
            · skip
              refine v_aload_n (j := 0) C dX5_why_65 rfl rfl rfl ?_
              refine v_iload_n (j := 1) C dX5_why_66 rfl rfl rfl ?_
              refine v_callV (rest := []) (q := (RX5, TX5, 35)) C kvX5_163 (k_X5_isTooMuch sg o p hM hp (by assumption) (by assumption)) (by decide) (by decide) rfl rfl rfl rfl rfl (Nat.le_of_ble_eq_true rfl) (by decide) (by decide) dX5_why_67 rfl ?_
              refine v_if_eqB (tgt := 76) C dX5_why_70 (by decide) rfl (fun h70_6 => ?_) (fun h70_6 => ?_)
              · skip
                refine v_aload_n (j := 0) C dX5_why_76 rfl rfl rfl ?_
                refine v_iload_n (j := 1) C dX5_why_77 rfl rfl rfl ?_
                refine v_callV (rest := []) (q := (RX5, TX5, 35)) C kvX5_166 (k_X5_beginNext sg o p hM hp (by assumption)) (by decide) (by decide) rfl rfl rfl rfl rfl (Nat.le_of_ble_eq_true rfl) (by decide) (by decide) dX5_why_78 rfl ?_
                refine v_aload_n (j := 0) C dX5_why_81 rfl rfl rfl ?_
                refine v_getr (c := 41) C 45 flX5_19 (by decide) rfl rfl dX5_why_82 rfl ?_
                refine v_iload_n (j := 1) C dX5_why_85 rfl rfl rfl ?_
                refine v_iald (c := 45) C hp (by decide) rfl dX5_why_86 rfl ?_
                refine v_iadd C dX5_why_87 rfl ?_
                refine v_aload_n (j := 0) C dX5_why_88 rfl rfl rfl ?_
                refine v_getr (c := 41) C 58 flX5_59 (by decide) rfl rfl dX5_why_89 rfl ?_
                refine v_aload_n (j := 0) C dX5_why_92 rfl rfl rfl ?_
                refine v_geti (c := 41) C flX5_71 (by decide) rfl rfl dX5_why_93 rfl ?_
                refine v_iald (c := 58) C (hM.tn (by assumption)) (by decide) rfl dX5_why_96 rfl ?_
                refine v_icmp_le (tgt := 105) C dX5_why_97 (by decide) rfl (fun h97_7 => ?_) (fun h97_7 => ?_)
                · skip
                  refine v_bipush (v := 45) C dX5_why_105 (by decide) rfl ?_
                  exact v_ret E dX5_why_107 (by decide) (by decide) ((by first | contradiction | simp only [fr_X5_why, if_neg h4_1, if_pos h15_2, if_neg h27_3, if_neg h38_4, if_neg h59_5, if_neg h70_6, if_neg h97_7])) (rfl) rfl
                · skip
                  refine v_bipush (v := 99) C dX5_why_100 (by decide) rfl ?_
                  refine v_goto (pc1 := 107) C dX5_why_102 (by decide) ?_
                  exact v_ret E dX5_why_107 (by decide) (by decide) ((by first | contradiction | simp only [fr_X5_why, if_neg h4_1, if_pos h15_2, if_neg h27_3, if_neg h38_4, if_neg h59_5, if_neg h70_6, if_pos h97_7])) (rfl) rfl
              · skip
                refine v_bipush (v := 108) C dX5_why_73 (by decide) rfl ?_
                exact v_ret E dX5_why_75 (by decide) (by decide) ((by first | contradiction | simp only [fr_X5_why, if_neg h4_1, if_pos h15_2, if_neg h27_3, if_neg h38_4, if_neg h59_5, if_pos h70_6])) (rfl) rfl
            · skip
              refine v_bipush (v := 115) C dX5_why_62 (by decide) rfl ?_
              exact v_ret E dX5_why_64 (by decide) (by decide) ((by first | contradiction | simp only [fr_X5_why, if_neg h4_1, if_pos h15_2, if_neg h27_3, if_neg h38_4, if_pos h59_5])) (rfl) rfl
          · skip
            refine v_bipush (v := 110) C dX5_why_41 (by decide) rfl ?_
            exact v_ret E dX5_why_43 (by decide) (by decide) ((by first | contradiction | simp only [fr_X5_why, if_neg h4_1, if_pos h15_2, if_neg h27_3, if_pos h38_4])) (rfl) rfl
        · skip
          refine v_bipush (v := 102) C dX5_why_30 (by decide) rfl ?_
          exact v_ret E dX5_why_32 (by decide) (by decide) ((by first | contradiction | simp only [fr_X5_why, if_neg h4_1, if_pos h15_2, if_pos h27_3])) (rfl) rfl
      · skip
        refine v_bipush (v := 104) C dX5_why_18 (by decide) rfl ?_
        exact v_ret E dX5_why_20 (by decide) (by decide) ((by simp only [fr_X5_why, if_neg h4_1, if_neg h15_2])) (rfl) rfl
    · skip
      refine v_bipush (v := 116) C dX5_why_7 (by decide) rfl ?_
      exact v_ret E dX5_why_9 (by decide) (by decide) ((by simp only [fr_X5_why, if_pos h4_1])) (rfl) rfl
def fs_X5_hangs (sg : Sg) (p : Int32) : Sg := (if ¬ (sg 54 (ix (sg 47 (ix p))) - fr_X5_lastEnd sg < sg 57 (ix (sg 41 23))) ∨ sg 56 (ix (sg 41 23)) < fr_X5_lastWork sg + sg 45 (ix p) then (up (up (up (up sg 64 (ix (sg 41 24)) (0 + (sg 45 (ix p)))) 63 (ix (sg 41 24)) (fr_X5_beginNext sg p)) 62 (ix (sg 41 24)) p) 41 24 ((sg 41 24) + 1)) else (up (up (up (up sg 64 (ix (sg 41 24)) ((fr_X5_lastWork sg) + (sg 45 (ix p)))) 63 (ix (sg 41 24)) (fr_X5_beginNext sg p)) 62 (ix (sg 41 24)) p) 41 24 ((sg 41 24) + 1)))
set_option maxHeartbeats 4000000 in
set_option maxRecDepth 20000 in
theorem k_X5_hangs {l : Launch} {D : va_G} {K : Nat → ClassId} {g : Nat → Nat} (sg : Sg) (o : Ot) (p : Int32) (hM : MI sg) (hp : vp_in p 6) (ht : ¬ sg 41 23 < 0) (hu : vp_in (sg 41 24) 6) : CN l yX5_hangs cX5_hangs 3 none 5 D K g [.ref (g 41), .int p] sg o none (fs_X5_hangs sg p) o :=
  mk_v (own := RX5) (av := fun g => [.ref (g 41), .int p]) (lo := fun g => [(0, .ref (g 41)), (1, .int p)]) (by decide) rfl (fun _ => Nat.le_of_ble_eq_true rfl) (fun _ => rfl) fun X C E => by
    have hb_p := ix_lt hp
    refine v_aload_n (j := 0) C dX5_hangs_0 rfl rfl rfl ?_
    refine v_iload_n (j := 1) C dX5_hangs_1 rfl rfl rfl ?_
    refine v_callV (rest := []) (q := (RX5, TX5, 35)) C kvX5_166 (k_X5_beginNext sg o p hM hp ht) (by decide) (by decide) rfl rfl rfl rfl rfl (Nat.le_of_ble_eq_true rfl) (by decide) (by decide) dX5_hangs_2 rfl ?_
    refine v_istore_n C [(2, .int (fr_X5_beginNext sg p)), (0, .ref (xg X 41)), (1, .int p)] dX5_hangs_5 rfl (by decide) rfl rfl ?_
    refine v_aload_n (j := 1) C dX5_hangs_6 rfl rfl rfl ?_
    refine v_getr (c := 41) C 64 flX5_81 (by decide) rfl rfl dX5_hangs_7 rfl ?_
    refine v_aload_n (j := 1) C dX5_hangs_10 rfl rfl rfl ?_
    refine v_geti (c := 41) C flX5_100 (by decide) rfl rfl dX5_hangs_11 rfl ?_
    refine v_aload_n (j := 1) C dX5_hangs_14 rfl rfl rfl ?_
    refine v_iload_n (j := 2) C dX5_hangs_15 rfl rfl rfl ?_
    refine v_callV (rest := [.int (sg 41 24), .ref (xg X 64)]) (q := (RX5, TX5, 35)) C kvX5_157 (k_X5_isAnew sg o p hM hp ht) (by decide) (by decide) rfl rfl rfl rfl rfl (Nat.le_of_ble_eq_true rfl) (by decide) (by decide) dX5_hangs_16 rfl ?_
    refine v_if_eqB (tgt := 26) C dX5_hangs_19 (by decide) rfl (fun h19_1 => ?_) (fun h19_1 => ?_)
    · skip
      refine v_aload_n (j := 1) C dX5_hangs_26 rfl rfl rfl ?_
      refine v_callV (rest := [.int (sg 41 24), .ref (xg X 64)]) (q := (RX5, TX5, 35)) C kvX5_154 (k_X5_lastWork sg o hM) (by decide) (by decide) rfl rfl rfl rfl rfl (Nat.le_of_ble_eq_true rfl) (by decide) (by decide) dX5_hangs_27 rfl ?_
      refine v_aload_n (j := 1) C dX5_hangs_30 rfl rfl rfl ?_
      refine v_getr (c := 41) C 45 flX5_19 (by decide) rfl rfl dX5_hangs_31 rfl ?_
      refine v_iload_n (j := 2) C dX5_hangs_34 rfl rfl rfl ?_
      refine v_iald (c := 45) C hp (by decide) rfl dX5_hangs_35 rfl ?_
      refine v_iadd C dX5_hangs_36 rfl ?_
      refine v_iast (c := 64) C hu (by decide) rfl dX5_hangs_37 rfl ?_
      refine v_aload_n (j := 1) C dX5_hangs_38 rfl rfl rfl ?_
      refine v_getr (c := 41) C 63 flX5_78 (by decide) rfl rfl dX5_hangs_39 rfl ?_
      refine v_aload_n (j := 1) C dX5_hangs_42 rfl rfl rfl ?_
      refine v_geti (c := 41) C flX5_100 (by decide) rfl rfl dX5_hangs_43 rfl ?_
      refine v_rwi (y := sg 41 24) ((up_ne _ _ (Or.inl (by decide))).trans rfl) ?_
      refine v_iload_n (j := 0) C dX5_hangs_46 rfl rfl rfl ?_
      refine v_iast (c := 63) C hu (by decide) rfl dX5_hangs_47 rfl ?_
      refine v_aload_n (j := 1) C dX5_hangs_48 rfl rfl rfl ?_
      refine v_getr (c := 41) C 62 flX5_75 (by decide) rfl rfl dX5_hangs_49 rfl ?_
      refine v_aload_n (j := 1) C dX5_hangs_52 rfl rfl rfl ?_
      refine v_geti (c := 41) C flX5_100 (by decide) rfl rfl dX5_hangs_53 rfl ?_
      refine v_rwi (y := sg 41 24) ((up_ne _ _ (Or.inl (by decide))).trans ((up_ne _ _ (Or.inl (by decide))).trans rfl)) ?_
      refine v_iload_n (j := 2) C dX5_hangs_56 rfl rfl rfl ?_
      refine v_iast (c := 62) C hu (by decide) rfl dX5_hangs_57 rfl ?_
      refine v_aload_n (j := 1) C dX5_hangs_58 rfl rfl rfl ?_
      refine v_dup C dX5_hangs_59 rfl rfl ?_
      refine v_geti (c := 41) C flX5_100 (by decide) rfl rfl dX5_hangs_60 rfl ?_
      refine v_rwi (y := sg 41 24) ((up_ne _ _ (Or.inl (by decide))).trans ((up_ne _ _ (Or.inl (by decide))).trans ((up_ne _ _ (Or.inl (by decide))).trans rfl))) ?_
      refine v_iconst (v := 1) C dX5_hangs_63 (by decide) rfl ?_
      refine v_iadd C dX5_hangs_64 rfl ?_
      refine v_puti (c := 41) C fpX5_100 (by decide) rfl rfl dX5_hangs_65 rfl ?_
      exact v_vret E dX5_hangs_68 (by decide) (by decide) ((by simp only [fs_X5_hangs, if_neg h19_1])) rfl
    · skip
      refine v_iconst (v := 0) C dX5_hangs_22 (by decide) rfl ?_
      refine v_goto (pc1 := 30) C dX5_hangs_23 (by decide) ?_
      refine v_aload_n (j := 1) C dX5_hangs_30 rfl rfl rfl ?_
      refine v_getr (c := 41) C 45 flX5_19 (by decide) rfl rfl dX5_hangs_31 rfl ?_
      refine v_iload_n (j := 2) C dX5_hangs_34 rfl rfl rfl ?_
      refine v_iald (c := 45) C hp (by decide) rfl dX5_hangs_35 rfl ?_
      refine v_iadd C dX5_hangs_36 rfl ?_
      refine v_iast (c := 64) C hu (by decide) rfl dX5_hangs_37 rfl ?_
      refine v_aload_n (j := 1) C dX5_hangs_38 rfl rfl rfl ?_
      refine v_getr (c := 41) C 63 flX5_78 (by decide) rfl rfl dX5_hangs_39 rfl ?_
      refine v_aload_n (j := 1) C dX5_hangs_42 rfl rfl rfl ?_
      refine v_geti (c := 41) C flX5_100 (by decide) rfl rfl dX5_hangs_43 rfl ?_
      refine v_rwi (y := sg 41 24) ((up_ne _ _ (Or.inl (by decide))).trans rfl) ?_
      refine v_iload_n (j := 0) C dX5_hangs_46 rfl rfl rfl ?_
      refine v_iast (c := 63) C hu (by decide) rfl dX5_hangs_47 rfl ?_
      refine v_aload_n (j := 1) C dX5_hangs_48 rfl rfl rfl ?_
      refine v_getr (c := 41) C 62 flX5_75 (by decide) rfl rfl dX5_hangs_49 rfl ?_
      refine v_aload_n (j := 1) C dX5_hangs_52 rfl rfl rfl ?_
      refine v_geti (c := 41) C flX5_100 (by decide) rfl rfl dX5_hangs_53 rfl ?_
      refine v_rwi (y := sg 41 24) ((up_ne _ _ (Or.inl (by decide))).trans ((up_ne _ _ (Or.inl (by decide))).trans rfl)) ?_
      refine v_iload_n (j := 2) C dX5_hangs_56 rfl rfl rfl ?_
      refine v_iast (c := 62) C hu (by decide) rfl dX5_hangs_57 rfl ?_
      refine v_aload_n (j := 1) C dX5_hangs_58 rfl rfl rfl ?_
      refine v_dup C dX5_hangs_59 rfl rfl ?_
      refine v_geti (c := 41) C flX5_100 (by decide) rfl rfl dX5_hangs_60 rfl ?_
      refine v_rwi (y := sg 41 24) ((up_ne _ _ (Or.inl (by decide))).trans ((up_ne _ _ (Or.inl (by decide))).trans ((up_ne _ _ (Or.inl (by decide))).trans rfl))) ?_
      refine v_iconst (v := 1) C dX5_hangs_63 (by decide) rfl ?_
      refine v_iadd C dX5_hangs_64 rfl ?_
      refine v_puti (c := 41) C fpX5_100 (by decide) rfl rfl dX5_hangs_65 rfl ?_
      exact v_vret E dX5_hangs_68 (by decide) (by decide) ((by simp only [fs_X5_hangs, if_pos h19_1])) rfl
def fl_X5_costs (sg : Sg) : Nat → Nat → Int32 → Int32
  | 0, _, s => s
  | n + 1, k, s => if sg 60 (ix (sg 41 23)) - sg 63 k < 0 then fl_X5_costs sg n (k + 1) (s + ((0 * (sg 59 (ix (sg 41 23)))) + (((sg 45 (ix (sg 62 k))) - 0) * (sg 61 (ix (sg 41 23))))))
    else if (sg 45 (ix (sg 62 k))) < sg 60 (ix (sg 41 23)) - sg 63 k then fl_X5_costs sg n (k + 1) (s + (((sg 45 (ix (sg 62 k))) * (sg 59 (ix (sg 41 23)))) + (((sg 45 (ix (sg 62 k))) - (sg 45 (ix (sg 62 k)))) * (sg 61 (ix (sg 41 23))))))
    else fl_X5_costs sg n (k + 1) (s + (((sg 60 (ix (sg 41 23)) - sg 63 k) * (sg 59 (ix (sg 41 23)))) + (((sg 45 (ix (sg 62 k))) - (sg 60 (ix (sg 41 23)) - sg 63 k)) * (sg 61 (ix (sg 41 23))))))
set_option maxHeartbeats 4000000 in
set_option maxRecDepth 20000 in
theorem lp_X5_costs {X : Cx} {rk : Nat} (C : CF X cX5_costs RX5 5 rk 0 0) (sg : Sg) (o : Ot) (hM : MI sg) (hT : ∀ k, k < 6 → nI k < sg 41 24 → ¬ sg 41 23 < 0) (N : Nat) (h6 : N ≤ 6) (hN : sg 41 24 = nI N) {r : Int32} (E : Ei X cX5_costs 0 0 sg o r) : ∀ (n k : Nat) (s : Int32), n + k = N → r = fl_X5_costs sg n k s → V X 0 0 5 sg o [(2, .int (nI k)), (1, .int s), (0, .ref (xg X 41))] 4 [] := by
  refine loop_ind fun n ih => ?_
  intro k s hnk hr
  refine v_iload_n (j := 0) C dX5_costs_4 rfl rfl rfl ?_
  refine v_aload_n (j := 2) C dX5_costs_5 rfl rfl rfl ?_
  refine v_geti (c := 41) C flX5_100 (by decide) rfl rfl dX5_costs_6 rfl ?_
  refine v_icmp_ge (tgt := 115) C dX5_costs_9 (by decide) rfl (fun h9_1 => ?_) (fun h9_1 => ?_)
  · skip
    rw [hN, nI_lt_iff (by omega) (by omega)] at h9_1; obtain rfl : n = 0 := by omega
    refine v_iload_n (j := 1) C dX5_costs_115 rfl rfl rfl ?_
    exact v_ret E dX5_costs_116 (by decide) (by decide) (by rw [hr]; simp only [fl_X5_costs]) (rfl) rfl
  · skip
    have hlt_ := h9_1; rw [hN, nI_lt_iff (by omega) (by omega)] at h9_1; obtain ⟨m, rfl⟩ : ∃ m, n = m + 1 := ⟨n - 1, by omega⟩; have hod := hM.od (k := k) (by omega) hlt_; have ht := hT k (by omega) hlt_
    refine v_aload_n (j := 2) C dX5_costs_12 rfl rfl rfl ?_
    refine v_getr (c := 41) C 60 flX5_65 (by decide) rfl rfl dX5_costs_13 rfl ?_
    refine v_aload_n (j := 2) C dX5_costs_16 rfl rfl rfl ?_
    refine v_geti (c := 41) C flX5_71 (by decide) rfl rfl dX5_costs_17 rfl ?_
    refine v_iald (c := 60) C (hM.tn ht) (by decide) rfl dX5_costs_20 rfl ?_
    refine v_aload_n (j := 2) C dX5_costs_21 rfl rfl rfl ?_
    refine v_getr (c := 41) C 63 flX5_78 (by decide) rfl rfl dX5_costs_22 rfl ?_
    refine v_iload_n (j := 0) C dX5_costs_25 rfl rfl rfl ?_
    refine v_ialdN (c := 63) C (by omega) (by decide) (by decide) rfl dX5_costs_26 rfl ?_
    refine v_isub C dX5_costs_27 rfl ?_
    refine v_istore_n C [(3, .int ((sg 60 (ix (sg 41 23))) - (sg 63 k))), (2, .int (nI k)), (1, .int s), (0, .ref (xg X 41))] dX5_costs_28 rfl (by decide) rfl rfl ?_
    refine v_iload_n (j := 0) C dX5_costs_29 rfl rfl rfl ?_
    refine v_if_ge (tgt := 37) C dX5_costs_30 (by decide) rfl (fun h30_2 => ?_) (fun h30_2 => ?_)
    · skip
      refine v_iload_n (j := 0) C dX5_costs_37 rfl rfl rfl ?_
      refine v_aload_n (j := 3) C dX5_costs_38 rfl rfl rfl ?_
      refine v_getr (c := 41) C 45 flX5_19 (by decide) rfl rfl dX5_costs_39 rfl ?_
      refine v_aload_n (j := 3) C dX5_costs_42 rfl rfl rfl ?_
      refine v_getr (c := 41) C 62 flX5_75 (by decide) rfl rfl dX5_costs_43 rfl ?_
      refine v_iload_n (j := 1) C dX5_costs_46 rfl rfl rfl ?_
      refine v_ialdN (c := 62) C (by omega) (by decide) (by decide) rfl dX5_costs_47 rfl ?_
      refine v_iald (c := 45) C hod (by decide) rfl dX5_costs_48 rfl ?_
      refine v_icmp_le (tgt := 66) C dX5_costs_49 (by decide) rfl (fun h49_3 => ?_) (fun h49_3 => ?_)
      · skip
        refine v_iload_n (j := 0) C dX5_costs_66 rfl rfl rfl ?_
        refine v_istore C [(4, .int ((sg 60 (ix (sg 41 23))) - (sg 63 k))), (3, .int ((sg 60 (ix (sg 41 23))) - (sg 63 k))), (2, .int (nI k)), (1, .int s), (0, .ref (xg X 41))] dX5_costs_67 (by decide) rfl rfl ?_
        refine v_iload_n (j := 3) C dX5_costs_69 rfl rfl rfl ?_
        refine v_iload (j := 0) C dX5_costs_70 rfl rfl ?_
        refine v_aload_n (j := 4) C dX5_costs_72 rfl rfl rfl ?_
        refine v_getr (c := 41) C 59 flX5_62 (by decide) rfl rfl dX5_costs_73 rfl ?_
        refine v_aload_n (j := 4) C dX5_costs_76 rfl rfl rfl ?_
        refine v_geti (c := 41) C flX5_71 (by decide) rfl rfl dX5_costs_77 rfl ?_
        refine v_iald (c := 59) C (hM.tn ht) (by decide) rfl dX5_costs_80 rfl ?_
        refine v_imul C dX5_costs_81 rfl ?_
        refine v_aload_n (j := 4) C dX5_costs_82 rfl rfl rfl ?_
        refine v_getr (c := 41) C 45 flX5_19 (by decide) rfl rfl dX5_costs_83 rfl ?_
        refine v_aload_n (j := 4) C dX5_costs_86 rfl rfl rfl ?_
        refine v_getr (c := 41) C 62 flX5_75 (by decide) rfl rfl dX5_costs_87 rfl ?_
        refine v_iload_n (j := 2) C dX5_costs_90 rfl rfl rfl ?_
        refine v_ialdN (c := 62) C (by omega) (by decide) (by decide) rfl dX5_costs_91 rfl ?_
        refine v_iald (c := 45) C hod (by decide) rfl dX5_costs_92 rfl ?_
        refine v_iload (j := 0) C dX5_costs_93 rfl rfl ?_
        refine v_isub C dX5_costs_95 rfl ?_
        refine v_aload_n (j := 4) C dX5_costs_96 rfl rfl rfl ?_
        refine v_getr (c := 41) C 61 flX5_68 (by decide) rfl rfl dX5_costs_97 rfl ?_
        refine v_aload_n (j := 4) C dX5_costs_100 rfl rfl rfl ?_
        refine v_geti (c := 41) C flX5_71 (by decide) rfl rfl dX5_costs_101 rfl ?_
        refine v_iald (c := 61) C (hM.tn ht) (by decide) rfl dX5_costs_104 rfl ?_
        refine v_imul C dX5_costs_105 rfl ?_
        refine v_iadd C dX5_costs_106 rfl ?_
        refine v_iadd C dX5_costs_107 rfl ?_
        refine v_istore_n C [(1, .int (s + ((((sg 60 (ix (sg 41 23))) - (sg 63 k)) * (sg 59 (ix (sg 41 23)))) + (((sg 45 (ix (sg 62 k))) - ((sg 60 (ix (sg 41 23))) - (sg 63 k))) * (sg 61 (ix (sg 41 23))))))), (4, .int ((sg 60 (ix (sg 41 23))) - (sg 63 k))), (3, .int ((sg 60 (ix (sg 41 23))) - (sg 63 k))), (2, .int (nI k)), (0, .ref (xg X 41))] dX5_costs_108 rfl (by decide) rfl rfl ?_
        refine v_iinc (j := 3) (v := (nI (k + 1))) C [(2, .int (nI (k + 1))), (1, .int (s + ((((sg 60 (ix (sg 41 23))) - (sg 63 k)) * (sg 59 (ix (sg 41 23)))) + (((sg 45 (ix (sg 62 k))) - ((sg 60 (ix (sg 41 23))) - (sg 63 k))) * (sg 61 (ix (sg 41 23))))))), (4, .int ((sg 60 (ix (sg 41 23))) - (sg 63 k))), (3, .int ((sg 60 (ix (sg 41 23))) - (sg 63 k))), (0, .ref (xg X 41))] dX5_costs_109 rfl (nI_add1 _) (by decide) rfl rfl ?_
        refine v_goto (pc1 := 4) C dX5_costs_112 (by decide) ?_
        refine v_sub [0, 1, 4] rfl ?_
        exact ih m (by omega) (k + 1) (s + ((((sg 60 (ix (sg 41 23))) - (sg 63 k)) * (sg 59 (ix (sg 41 23)))) + (((sg 45 (ix (sg 62 k))) - ((sg 60 (ix (sg 41 23))) - (sg 63 k))) * (sg 61 (ix (sg 41 23)))))) (by omega) (by rw [hr]; simp only [fl_X5_costs, if_neg h30_2, if_neg h49_3])
      · skip
        refine v_aload_n (j := 3) C dX5_costs_52 rfl rfl rfl ?_
        refine v_getr (c := 41) C 45 flX5_19 (by decide) rfl rfl dX5_costs_53 rfl ?_
        refine v_aload_n (j := 3) C dX5_costs_56 rfl rfl rfl ?_
        refine v_getr (c := 41) C 62 flX5_75 (by decide) rfl rfl dX5_costs_57 rfl ?_
        refine v_iload_n (j := 1) C dX5_costs_60 rfl rfl rfl ?_
        refine v_ialdN (c := 62) C (by omega) (by decide) (by decide) rfl dX5_costs_61 rfl ?_
        refine v_iald (c := 45) C hod (by decide) rfl dX5_costs_62 rfl ?_
        refine v_goto (pc1 := 67) C dX5_costs_63 (by decide) ?_
        refine v_istore C [(4, .int (sg 45 (ix (sg 62 k)))), (3, .int ((sg 60 (ix (sg 41 23))) - (sg 63 k))), (2, .int (nI k)), (1, .int s), (0, .ref (xg X 41))] dX5_costs_67 (by decide) rfl rfl ?_
        refine v_iload_n (j := 3) C dX5_costs_69 rfl rfl rfl ?_
        refine v_iload (j := 0) C dX5_costs_70 rfl rfl ?_
        refine v_aload_n (j := 4) C dX5_costs_72 rfl rfl rfl ?_
        refine v_getr (c := 41) C 59 flX5_62 (by decide) rfl rfl dX5_costs_73 rfl ?_
        refine v_aload_n (j := 4) C dX5_costs_76 rfl rfl rfl ?_
        refine v_geti (c := 41) C flX5_71 (by decide) rfl rfl dX5_costs_77 rfl ?_
        refine v_iald (c := 59) C (hM.tn ht) (by decide) rfl dX5_costs_80 rfl ?_
        refine v_imul C dX5_costs_81 rfl ?_
        refine v_aload_n (j := 4) C dX5_costs_82 rfl rfl rfl ?_
        refine v_getr (c := 41) C 45 flX5_19 (by decide) rfl rfl dX5_costs_83 rfl ?_
        refine v_aload_n (j := 4) C dX5_costs_86 rfl rfl rfl ?_
        refine v_getr (c := 41) C 62 flX5_75 (by decide) rfl rfl dX5_costs_87 rfl ?_
        refine v_iload_n (j := 2) C dX5_costs_90 rfl rfl rfl ?_
        refine v_ialdN (c := 62) C (by omega) (by decide) (by decide) rfl dX5_costs_91 rfl ?_
        refine v_iald (c := 45) C hod (by decide) rfl dX5_costs_92 rfl ?_
        refine v_iload (j := 0) C dX5_costs_93 rfl rfl ?_
        refine v_isub C dX5_costs_95 rfl ?_
        refine v_aload_n (j := 4) C dX5_costs_96 rfl rfl rfl ?_
        refine v_getr (c := 41) C 61 flX5_68 (by decide) rfl rfl dX5_costs_97 rfl ?_
        refine v_aload_n (j := 4) C dX5_costs_100 rfl rfl rfl ?_
        refine v_geti (c := 41) C flX5_71 (by decide) rfl rfl dX5_costs_101 rfl ?_
        refine v_iald (c := 61) C (hM.tn ht) (by decide) rfl dX5_costs_104 rfl ?_
        refine v_imul C dX5_costs_105 rfl ?_
        refine v_iadd C dX5_costs_106 rfl ?_
        refine v_iadd C dX5_costs_107 rfl ?_
        refine v_istore_n C [(1, .int (s + (((sg 45 (ix (sg 62 k))) * (sg 59 (ix (sg 41 23)))) + (((sg 45 (ix (sg 62 k))) - (sg 45 (ix (sg 62 k)))) * (sg 61 (ix (sg 41 23))))))), (4, .int (sg 45 (ix (sg 62 k)))), (3, .int ((sg 60 (ix (sg 41 23))) - (sg 63 k))), (2, .int (nI k)), (0, .ref (xg X 41))] dX5_costs_108 rfl (by decide) rfl rfl ?_
        refine v_iinc (j := 3) (v := (nI (k + 1))) C [(2, .int (nI (k + 1))), (1, .int (s + (((sg 45 (ix (sg 62 k))) * (sg 59 (ix (sg 41 23)))) + (((sg 45 (ix (sg 62 k))) - (sg 45 (ix (sg 62 k)))) * (sg 61 (ix (sg 41 23))))))), (4, .int (sg 45 (ix (sg 62 k)))), (3, .int ((sg 60 (ix (sg 41 23))) - (sg 63 k))), (0, .ref (xg X 41))] dX5_costs_109 rfl (nI_add1 _) (by decide) rfl rfl ?_
        refine v_goto (pc1 := 4) C dX5_costs_112 (by decide) ?_
        refine v_sub [0, 1, 4] rfl ?_
        exact ih m (by omega) (k + 1) (s + (((sg 45 (ix (sg 62 k))) * (sg 59 (ix (sg 41 23)))) + (((sg 45 (ix (sg 62 k))) - (sg 45 (ix (sg 62 k)))) * (sg 61 (ix (sg 41 23)))))) (by omega) (by rw [hr]; simp only [fl_X5_costs, if_neg h30_2, if_pos h49_3])
    · skip
      refine v_iconst (v := 0) C dX5_costs_33 (by decide) rfl ?_
      refine v_goto (pc1 := 67) C dX5_costs_34 (by decide) ?_
      refine v_istore C [(4, .int 0), (3, .int ((sg 60 (ix (sg 41 23))) - (sg 63 k))), (2, .int (nI k)), (1, .int s), (0, .ref (xg X 41))] dX5_costs_67 (by decide) rfl rfl ?_
      refine v_iload_n (j := 3) C dX5_costs_69 rfl rfl rfl ?_
      refine v_iload (j := 0) C dX5_costs_70 rfl rfl ?_
      refine v_aload_n (j := 4) C dX5_costs_72 rfl rfl rfl ?_
      refine v_getr (c := 41) C 59 flX5_62 (by decide) rfl rfl dX5_costs_73 rfl ?_
      refine v_aload_n (j := 4) C dX5_costs_76 rfl rfl rfl ?_
      refine v_geti (c := 41) C flX5_71 (by decide) rfl rfl dX5_costs_77 rfl ?_
      refine v_iald (c := 59) C (hM.tn ht) (by decide) rfl dX5_costs_80 rfl ?_
      refine v_imul C dX5_costs_81 rfl ?_
      refine v_aload_n (j := 4) C dX5_costs_82 rfl rfl rfl ?_
      refine v_getr (c := 41) C 45 flX5_19 (by decide) rfl rfl dX5_costs_83 rfl ?_
      refine v_aload_n (j := 4) C dX5_costs_86 rfl rfl rfl ?_
      refine v_getr (c := 41) C 62 flX5_75 (by decide) rfl rfl dX5_costs_87 rfl ?_
      refine v_iload_n (j := 2) C dX5_costs_90 rfl rfl rfl ?_
      refine v_ialdN (c := 62) C (by omega) (by decide) (by decide) rfl dX5_costs_91 rfl ?_
      refine v_iald (c := 45) C hod (by decide) rfl dX5_costs_92 rfl ?_
      refine v_iload (j := 0) C dX5_costs_93 rfl rfl ?_
      refine v_isub C dX5_costs_95 rfl ?_
      refine v_aload_n (j := 4) C dX5_costs_96 rfl rfl rfl ?_
      refine v_getr (c := 41) C 61 flX5_68 (by decide) rfl rfl dX5_costs_97 rfl ?_
      refine v_aload_n (j := 4) C dX5_costs_100 rfl rfl rfl ?_
      refine v_geti (c := 41) C flX5_71 (by decide) rfl rfl dX5_costs_101 rfl ?_
      refine v_iald (c := 61) C (hM.tn ht) (by decide) rfl dX5_costs_104 rfl ?_
      refine v_imul C dX5_costs_105 rfl ?_
      refine v_iadd C dX5_costs_106 rfl ?_
      refine v_iadd C dX5_costs_107 rfl ?_
      refine v_istore_n C [(1, .int (s + ((0 * (sg 59 (ix (sg 41 23)))) + (((sg 45 (ix (sg 62 k))) - 0) * (sg 61 (ix (sg 41 23))))))), (4, .int 0), (3, .int ((sg 60 (ix (sg 41 23))) - (sg 63 k))), (2, .int (nI k)), (0, .ref (xg X 41))] dX5_costs_108 rfl (by decide) rfl rfl ?_
      refine v_iinc (j := 3) (v := (nI (k + 1))) C [(2, .int (nI (k + 1))), (1, .int (s + ((0 * (sg 59 (ix (sg 41 23)))) + (((sg 45 (ix (sg 62 k))) - 0) * (sg 61 (ix (sg 41 23))))))), (4, .int 0), (3, .int ((sg 60 (ix (sg 41 23))) - (sg 63 k))), (0, .ref (xg X 41))] dX5_costs_109 rfl (nI_add1 _) (by decide) rfl rfl ?_
      refine v_goto (pc1 := 4) C dX5_costs_112 (by decide) ?_
      refine v_sub [0, 1, 4] rfl ?_
      exact ih m (by omega) (k + 1) (s + ((0 * (sg 59 (ix (sg 41 23)))) + (((sg 45 (ix (sg 62 k))) - 0) * (sg 61 (ix (sg 41 23)))))) (by omega) (by rw [hr]; simp only [fl_X5_costs, if_pos h30_2])
set_option maxHeartbeats 4000000 in
set_option maxRecDepth 20000 in
theorem k_X5_costs {l : Launch} {D : va_G} {K : Nat → ClassId} {g : Nat → Nat} (sg : Sg) (o : Ot)  (hM : MI sg) (hT : ∀ k, k < 6 → nI k < sg 41 24 → ¬ sg 41 23 < 0) : CN l yX5_costs cX5_costs 5 (some .int) 1 D K g [.ref (g 41)] sg o (some (.int (fl_X5_costs sg (ix (sg 41 24)) 0 0))) sg o :=
  mk_i (own := RX5) (av := fun g => [.ref (g 41)]) (lo := fun g => [(0, .ref (g 41))]) (by decide) rfl rfl (fun _ => Nat.le_of_ble_eq_true rfl) (fun _ => rfl) fun X C E => by
    refine v_iconst (v := 0) C dX5_costs_0 (by decide) rfl ?_
    refine v_istore_n C [(1, .int 0), (0, .ref (xg X 41))] dX5_costs_1 rfl (by decide) rfl rfl ?_
    refine v_iconst (v := nI 0) C dX5_costs_2 (by decide) rfl ?_
    refine v_istore_n C [(2, .int (nI 0)), (1, .int 0), (0, .ref (xg X 41))] dX5_costs_3 rfl (by decide) rfl rfl ?_
    exact lp_X5_costs C sg o hM hT _ hM.nh.ixl hM.nh.ixe E _ 0 0 (Nat.add_zero _) rfl
def fl_X5_worth (sg : Sg) : Nat → Nat → Int32 → Int32
  | 0, _, s => s
  | n + 1, k, s => fl_X5_worth sg n (k + 1) (s + (sg 46 (ix (sg 62 k))))
set_option maxHeartbeats 4000000 in
set_option maxRecDepth 20000 in
theorem lp_X5_worth {X : Cx} {rk : Nat} (C : CF X cX5_worth RX5 3 rk 0 0) (sg : Sg) (o : Ot) (hM : MI sg) (N : Nat) (h6 : N ≤ 6) (hN : sg 41 24 = nI N) {r : Int32} (E : Ei X cX5_worth 0 0 sg o r) : ∀ (n k : Nat) (s : Int32), n + k = N → r = fl_X5_worth sg n k s → V X 0 0 3 sg o [(2, .int (nI k)), (1, .int s), (0, .ref (xg X 41))] 4 [] := by
  refine loop_ind fun n ih => ?_
  intro k s hnk hr
  refine v_iload_n (j := 0) C dX5_worth_4 rfl rfl rfl ?_
  refine v_aload_n (j := 2) C dX5_worth_5 rfl rfl rfl ?_
  refine v_geti (c := 41) C flX5_100 (by decide) rfl rfl dX5_worth_6 rfl ?_
  refine v_icmp_ge (tgt := 32) C dX5_worth_9 (by decide) rfl (fun h9_1 => ?_) (fun h9_1 => ?_)
  · skip
    rw [hN, nI_lt_iff (by omega) (by omega)] at h9_1; obtain rfl : n = 0 := by omega
    refine v_iload_n (j := 1) C dX5_worth_32 rfl rfl rfl ?_
    exact v_ret E dX5_worth_33 (by decide) (by decide) (by rw [hr]; simp only [fl_X5_worth]) (rfl) rfl
  · skip
    have hlt_ := h9_1; rw [hN, nI_lt_iff (by omega) (by omega)] at h9_1; obtain ⟨m, rfl⟩ : ∃ m, n = m + 1 := ⟨n - 1, by omega⟩; have hod := hM.od (k := k) (by omega) hlt_
    refine v_iload_n (j := 1) C dX5_worth_12 rfl rfl rfl ?_
    refine v_aload_n (j := 2) C dX5_worth_13 rfl rfl rfl ?_
    refine v_getr (c := 41) C 46 flX5_22 (by decide) rfl rfl dX5_worth_14 rfl ?_
    refine v_aload_n (j := 2) C dX5_worth_17 rfl rfl rfl ?_
    refine v_getr (c := 41) C 62 flX5_75 (by decide) rfl rfl dX5_worth_18 rfl ?_
    refine v_iload_n (j := 0) C dX5_worth_21 rfl rfl rfl ?_
    refine v_ialdN (c := 62) C (by omega) (by decide) (by decide) rfl dX5_worth_22 rfl ?_
    refine v_iald (c := 46) C hod (by decide) rfl dX5_worth_23 rfl ?_
    refine v_iadd C dX5_worth_24 rfl ?_
    refine v_istore_n C [(1, .int (s + (sg 46 (ix (sg 62 k))))), (2, .int (nI k)), (0, .ref (xg X 41))] dX5_worth_25 rfl (by decide) rfl rfl ?_
    refine v_iinc (j := 1) (v := (nI (k + 1))) C [(2, .int (nI (k + 1))), (1, .int (s + (sg 46 (ix (sg 62 k))))), (0, .ref (xg X 41))] dX5_worth_26 rfl (nI_add1 _) (by decide) rfl rfl ?_
    refine v_goto (pc1 := 4) C dX5_worth_29 (by decide) ?_
    exact ih m (by omega) (k + 1) (s + (sg 46 (ix (sg 62 k)))) (by omega) (by rw [hr]; simp only [fl_X5_worth])
set_option maxHeartbeats 4000000 in
set_option maxRecDepth 20000 in
theorem k_X5_worth {l : Launch} {D : va_G} {K : Nat → ClassId} {g : Nat → Nat} (sg : Sg) (o : Ot)  (hM : MI sg) : CN l yX5_worth cX5_worth 3 (some .int) 1 D K g [.ref (g 41)] sg o (some (.int (fl_X5_worth sg (ix (sg 41 24)) 0 0))) sg o :=
  mk_i (own := RX5) (av := fun g => [.ref (g 41)]) (lo := fun g => [(0, .ref (g 41))]) (by decide) rfl rfl (fun _ => Nat.le_of_ble_eq_true rfl) (fun _ => rfl) fun X C E => by
    refine v_iconst (v := 0) C dX5_worth_0 (by decide) rfl ?_
    refine v_istore_n C [(1, .int 0), (0, .ref (xg X 41))] dX5_worth_1 rfl (by decide) rfl rfl ?_
    refine v_iconst (v := nI 0) C dX5_worth_2 (by decide) rfl ?_
    refine v_istore_n C [(2, .int (nI 0)), (1, .int 0), (0, .ref (xg X 41))] dX5_worth_3 rfl (by decide) rfl rfl ?_
    exact lp_X5_worth C sg o hM _ hM.nh.ixl hM.nh.ixe E _ 0 0 (Nat.add_zero _) rfl
def fl_X5_isBusy (sg : Sg) (p : Int32) : Nat → Nat → Bool
  | 0, _ => false
  | n + 1, k => if sg 47 (ix (sg 62 k)) = p then true else fl_X5_isBusy sg p n (k + 1)
set_option maxHeartbeats 4000000 in
set_option maxRecDepth 20000 in
theorem lp_X5_isBusy {X : Cx} {rk : Nat} (C : CF X cX5_isBusy RX5 3 rk 0 0) (sg : Sg) (o : Ot) (p : Int32) (hM : MI sg) (N : Nat) (h6 : N ≤ 6) (hN : sg 41 24 = nI N) {r : Int32} (E : Ei X cX5_isBusy 0 0 sg o r) : ∀ (n k : Nat) , n + k = N → r = b2i (fl_X5_isBusy sg p n k = true) → V X 0 0 3 sg o [(2, .int (nI k)), (0, .ref (xg X 41)), (1, .int p)] 2 [] := by
  refine loop_ind fun n ih => ?_
  intro k hnk hr
  refine v_iload_n (j := 0) C dX5_isBusy_2 rfl rfl rfl ?_
  refine v_aload_n (j := 1) C dX5_isBusy_3 rfl rfl rfl ?_
  refine v_geti (c := 41) C flX5_100 (by decide) rfl rfl dX5_isBusy_4 rfl ?_
  refine v_icmp_ge (tgt := 33) C dX5_isBusy_7 (by decide) rfl (fun h7_1 => ?_) (fun h7_1 => ?_)
  · skip
    rw [hN, nI_lt_iff (by omega) (by omega)] at h7_1; obtain rfl : n = 0 := by omega
    refine v_iconst (v := 0) C dX5_isBusy_33 (by decide) rfl ?_
    exact v_ret E dX5_isBusy_34 (by decide) (by decide) (by rw [hr]; exact b2i_f (ne_true_of_eq_false (by simp only [fl_X5_isBusy]))) (rfl) rfl
  · skip
    have hlt_ := h7_1; rw [hN, nI_lt_iff (by omega) (by omega)] at h7_1; obtain ⟨m, rfl⟩ : ∃ m, n = m + 1 := ⟨n - 1, by omega⟩; have hod := hM.od (k := k) (by omega) hlt_
    refine v_aload_n (j := 1) C dX5_isBusy_10 rfl rfl rfl ?_
    refine v_getr (c := 41) C 47 flX5_25 (by decide) rfl rfl dX5_isBusy_11 rfl ?_
    refine v_aload_n (j := 1) C dX5_isBusy_14 rfl rfl rfl ?_
    refine v_getr (c := 41) C 62 flX5_75 (by decide) rfl rfl dX5_isBusy_15 rfl ?_
    refine v_iload_n (j := 0) C dX5_isBusy_18 rfl rfl rfl ?_
    refine v_ialdN (c := 62) C (by omega) (by decide) (by decide) rfl dX5_isBusy_19 rfl ?_
    refine v_iald (c := 47) C hod (by decide) rfl dX5_isBusy_20 rfl ?_
    refine v_iload_n (j := 2) C dX5_isBusy_21 rfl rfl rfl ?_
    refine v_icmp_ne (tgt := 27) C dX5_isBusy_22 (by decide) rfl (fun h22_2 => ?_) (fun h22_2 => ?_)
    · skip
      refine v_iinc (j := 0) (v := (nI (k + 1))) C [(2, .int (nI (k + 1))), (0, .ref (xg X 41)), (1, .int p)] dX5_isBusy_27 rfl (nI_add1 _) (by decide) rfl rfl ?_
      refine v_goto (pc1 := 2) C dX5_isBusy_30 (by decide) ?_
      exact ih m (by omega) (k + 1)  (by omega) (by rw [hr]; simp only [fl_X5_isBusy, if_neg h22_2])
    · skip
      refine v_iconst (v := 1) C dX5_isBusy_25 (by decide) rfl ?_
      exact v_ret E dX5_isBusy_26 (by decide) (by decide) (by rw [hr]; exact b2i_t (by simp only [fl_X5_isBusy, if_pos h22_2])) (rfl) rfl
set_option maxHeartbeats 4000000 in
set_option maxRecDepth 20000 in
theorem k_X5_isBusy {l : Launch} {D : va_G} {K : Nat → ClassId} {g : Nat → Nat} (sg : Sg) (o : Ot) (p : Int32) (hM : MI sg) : CN l yX5_isBusy cX5_isBusy 3 (some .boolean) 1 D K g [.ref (g 41), .int p] sg o (some (.int (b2i (fl_X5_isBusy sg p (ix (sg 41 24)) 0 = true)))) sg o :=
  mk_i (own := RX5) (av := fun g => [.ref (g 41), .int p]) (lo := fun g => [(0, .ref (g 41)), (1, .int p)]) (by decide) rfl b2i_nar (fun _ => Nat.le_of_ble_eq_true rfl) (fun _ => rfl) fun X C E => by
    refine v_iconst (v := nI 0) C dX5_isBusy_0 (by decide) rfl ?_
    refine v_istore_n C [(2, .int (nI 0)), (0, .ref (xg X 41)), (1, .int p)] dX5_isBusy_1 rfl (by decide) rfl rfl ?_
    exact lp_X5_isBusy C sg o p hM _ hM.nh.ixl hM.nh.ixe E _ 0 (Nat.add_zero _) rfl
theorem fu_X5_inRig {sg : Sg} {v p : Int32} : ∀ n k, fl_X5_inRig (up sg 41 34 v) p n k = fl_X5_inRig sg p n k
  | 0, _ => rfl
  | n + 1, k => by
    show (if sg 62 k = p then nI k else fl_X5_inRig (up sg 41 34 v) p n (k + 1)) = _
    rw [fu_X5_inRig n (k + 1)]
    rfl
theorem fu_X5_borne {sg : Sg} {v q : Int32} : ∀ n k s, fl_X5_borne (up sg 41 34 v) q n k s = fl_X5_borne sg q n k s
  | 0, _, _ => rfl
  | n + 1, k, s => fu_X5_borne n (k + 1) _
theorem fu_X5_lacks {sg : Sg} {v p : Int32} : ∀ n k, fl_X5_lacks (up sg 41 34 v) p n k = fl_X5_lacks sg p n k
  | 0, _ => rfl
  | n + 1, k => by
    show (if ((sg 53 (ix p)) >>> (nI k &&& 31)) &&& 1 = 1 then (if fl_X5_inRig (up sg 41 34 v) (nI k) (ix (sg 41 24)) 0 < 0 then true else fl_X5_lacks (up sg 41 34 v) p n (k + 1)) else fl_X5_lacks (up sg 41 34 v) p n (k + 1)) = _
    rw [fu_X5_lacks n (k + 1), fu_X5_inRig]
    rfl
theorem fu_X5_isBusy {sg : Sg} {v p : Int32} : ∀ n k, fl_X5_isBusy (up sg 41 34 v) p n k = fl_X5_isBusy sg p n k
  | 0, _ => rfl
  | n + 1, k => by
    show (if sg 47 (ix (sg 62 k)) = p then true else fl_X5_isBusy (up sg 41 34 v) p n (k + 1)) = _
    rw [fu_X5_isBusy n (k + 1)]
    rfl
theorem fu_X5_costs {sg : Sg} {v : Int32} : ∀ n k s, fl_X5_costs (up sg 41 34 v) n k s = fl_X5_costs sg n k s
  | 0, _, _ => rfl
  | n + 1, k, s => by
    unfold fl_X5_costs
    rw [fu_X5_costs n (k + 1), fu_X5_costs n (k + 1), fu_X5_costs n (k + 1)]
    rfl
theorem k34_X5_inRig {l : Launch} {D : va_G} {K : Nat → ClassId} {g : Nat → Nat} (sg : Sg) (v34 : Int32) (o : Ot) (p : Int32) (hM : MI sg) : CN l yX5_inRig cX5_inRig 3 (some .int) 1 D K g [.ref (g 41), .int p] (up sg 41 34 v34) o (some (.int (fl_X5_inRig sg p (ix (sg 41 24)) 0))) (up sg 41 34 v34) o := by
  have h := k_X5_inRig (l := l) (D := D) (K := K) (g := g) (up sg 41 34 v34) o p hM
  simp only [fu_X5_inRig] at h
  exact h
theorem k34_X5_load {l : Launch} {D : va_G} {K : Nat → ClassId} {g : Nat → Nat} (sg : Sg) (v34 : Int32) (o : Ot) (p : Int32) (q : Int32) (hM : MI sg) (hp : vp_in p 6) : CN l yX5_load cX5_load 4 (some .int) 2 D K g [.ref (g 41), .int p, .int q] (up sg 41 34 v34) o (some (.int (fr_X5_load sg p q))) (up sg 41 34 v34) o := k_X5_load (up sg 41 34 v34) o p q hM hp
theorem k34_X5_borne {l : Launch} {D : va_G} {K : Nat → ClassId} {g : Nat → Nat} (sg : Sg) (v34 : Int32) (o : Ot) (q : Int32) (hM : MI sg) : CN l yX5_borne cX5_borne 4 (some .int) 3 D K g [.ref (g 41), .int q] (up sg 41 34 v34) o (some (.int (fl_X5_borne sg q (ix (sg 41 24)) 0 0))) (up sg 41 34 v34) o := by
  have h := k_X5_borne (l := l) (D := D) (K := K) (g := g) (up sg 41 34 v34) o q hM
  simp only [fu_X5_borne] at h
  exact h
theorem k34_X5_may {l : Launch} {D : va_G} {K : Nat → ClassId} {g : Nat → Nat} (sg : Sg) (v34 : Int32) (o : Ot) (q : Int32) (hM : MI sg) (hq : vp_in q 8) (ht : ¬ sg 41 23 < 0) : CN l yX5_may cX5_may 2 (some .int) 1 D K g [.ref (g 41), .int q] (up sg 41 34 v34) o (some (.int (fr_X5_may sg q))) (up sg 41 34 v34) o := k_X5_may (up sg 41 34 v34) o q hM hq ht
theorem k34_X5_lastEnd {l : Launch} {D : va_G} {K : Nat → ClassId} {g : Nat → Nat} (sg : Sg) (v34 : Int32) (o : Ot)  (hM : MI sg) : CN l yX5_lastEnd cX5_lastEnd 1 (some .int) 2 D K g [.ref (g 41)] (up sg 41 34 v34) o (some (.int (fr_X5_lastEnd sg))) (up sg 41 34 v34) o := k_X5_lastEnd (up sg 41 34 v34) o  hM
theorem k34_X5_lastWork {l : Launch} {D : va_G} {K : Nat → ClassId} {g : Nat → Nat} (sg : Sg) (v34 : Int32) (o : Ot)  (hM : MI sg) : CN l yX5_lastWork cX5_lastWork 1 (some .int) 1 D K g [.ref (g 41)] (up sg 41 34 v34) o (some (.int (fr_X5_lastWork sg))) (up sg 41 34 v34) o := k_X5_lastWork (up sg 41 34 v34) o  hM
theorem k34_X5_isAnew {l : Launch} {D : va_G} {K : Nat → ClassId} {g : Nat → Nat} (sg : Sg) (v34 : Int32) (o : Ot) (p : Int32) (hM : MI sg) (hp : vp_in p 6) (ht : ¬ sg 41 23 < 0) : CN l yX5_isAnew cX5_isAnew 2 (some .boolean) 3 D K g [.ref (g 41), .int p] (up sg 41 34 v34) o (some (.int (b2i (¬ (sg 54 (ix (sg 47 (ix p))) - fr_X5_lastEnd sg < sg 57 (ix (sg 41 23))) ∨ sg 56 (ix (sg 41 23)) < fr_X5_lastWork sg + sg 45 (ix p))))) (up sg 41 34 v34) o := k_X5_isAnew (up sg 41 34 v34) o p hM hp ht
theorem k34_X5_beginNext {l : Launch} {D : va_G} {K : Nat → ClassId} {g : Nat → Nat} (sg : Sg) (v34 : Int32) (o : Ot) (p : Int32) (hM : MI sg) (hp : vp_in p 6) (ht : ¬ sg 41 23 < 0) : CN l yX5_beginNext cX5_beginNext 4 (some .int) 4 D K g [.ref (g 41), .int p] (up sg 41 34 v34) o (some (.int (fr_X5_beginNext sg p))) (up sg 41 34 v34) o := k_X5_beginNext (up sg 41 34 v34) o p hM hp ht
theorem k34_X5_isTooMuch {l : Launch} {D : va_G} {K : Nat → ClassId} {g : Nat → Nat} (sg : Sg) (v34 : Int32) (o : Ot) (p : Int32) (hM : MI sg) (hp : vp_in p 6) (ht : ¬ sg 41 23 < 0) (hf : ¬ sg 48 (ix p) = 0) : CN l yX5_isTooMuch cX5_isTooMuch 2 (some .boolean) 4 D K g [.ref (g 41), .int p] (up sg 41 34 v34) o (some (.int (b2i (fr_X5_may sg (sg 49 (ix p)) < fl_X5_borne sg (sg 49 (ix p)) (ix (sg 41 24)) 0 0 + fr_X5_load sg p (sg 49 (ix p)) ∨ fr_X5_may sg (sg 50 (ix p)) < fl_X5_borne sg (sg 50 (ix p)) (ix (sg 41 24)) 0 0 + fr_X5_load sg p (sg 50 (ix p)))))) (up sg 41 34 v34) o := by
  have h := k_X5_isTooMuch (l := l) (D := D) (K := K) (g := g) (up sg 41 34 v34) o p hM hp ht hf
  simp only [fu_X5_borne] at h
  exact h
theorem k34_X5_lacks {l : Launch} {D : va_G} {K : Nat → ClassId} {g : Nat → Nat} (sg : Sg) (v34 : Int32) (o : Ot) (p : Int32) (hM : MI sg) (hp : vp_in p 6) : CN l yX5_lacks cX5_lacks 3 (some .boolean) 2 D K g [.ref (g 41), .int p] (up sg 41 34 v34) o (some (.int (b2i (fl_X5_lacks sg p (ix (sg 41 3)) 0 = true)))) (up sg 41 34 v34) o := by
  have h := k_X5_lacks (l := l) (D := D) (K := K) (g := g) (up sg 41 34 v34) o p hM hp
  simp only [fu_X5_lacks] at h
  exact h
theorem k34_X5_isBusy {l : Launch} {D : va_G} {K : Nat → ClassId} {g : Nat → Nat} (sg : Sg) (v34 : Int32) (o : Ot) (p : Int32) (hM : MI sg) : CN l yX5_isBusy cX5_isBusy 3 (some .boolean) 1 D K g [.ref (g 41), .int p] (up sg 41 34 v34) o (some (.int (b2i (fl_X5_isBusy sg p (ix (sg 41 24)) 0 = true)))) (up sg 41 34 v34) o := by
  have h := k_X5_isBusy (l := l) (D := D) (K := K) (g := g) (up sg 41 34 v34) o p hM
  simp only [fu_X5_isBusy] at h
  exact h
theorem k34_X5_costs {l : Launch} {D : va_G} {K : Nat → ClassId} {g : Nat → Nat} (sg : Sg) (v34 : Int32) (o : Ot)  (hM : MI sg) (hT : ∀ k, k < 6 → nI k < sg 41 24 → ¬ sg 41 23 < 0) : CN l yX5_costs cX5_costs 5 (some .int) 1 D K g [.ref (g 41)] (up sg 41 34 v34) o (some (.int (fl_X5_costs sg (ix (sg 41 24)) 0 0))) (up sg 41 34 v34) o := by
  have h := k_X5_costs (l := l) (D := D) (K := K) (g := g) (up sg 41 34 v34) o  hM hT
  simp only [fu_X5_costs] at h
  exact h
theorem fu_X5_why {sg : Sg} {v p : Int32} : fr_X5_why (up sg 41 34 v) p = fr_X5_why sg p := by
  unfold fr_X5_why
  simp only [fu_X5_inRig, fu_X5_borne, fu_X5_lacks]
  rfl
theorem k34_X5_why {l : Launch} {D : va_G} {K : Nat → ClassId} {g : Nat → Nat} (sg : Sg) (v34 : Int32) (o : Ot) (p : Int32) (hM : MI sg) (hp : vp_in p 6) : CN l yX5_why cX5_why 2 (some .char) 5 D K g [.ref (g 41), .int p] (up sg 41 34 v34) o (some (.int (fr_X5_why sg p))) (up sg 41 34 v34) o := by
  have h := k_X5_why (l := l) (D := D) (K := K) (g := g) (up sg 41 34 v34) o p hM hp
  simp only [fu_X5_why] at h
  exact h
