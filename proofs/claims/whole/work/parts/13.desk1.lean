set_option maxHeartbeats 4000000 in
set_option maxRecDepth 20000 in
theorem k_X0_isFixed {l : Launch} {D : va_G} {K : Nat → ClassId} {g : Nat → Nat} (sg : Sg) (o : Ot) (j : Nat) (h_j : j < 6) : CN l yX0_isFixed cX0_isFixed 1 (some .boolean) 1 D K g [.ref (g (31 + j))] sg o (some (.int (b2i (¬ sg (31 + j) 4 < 0 ∧ ¬ sg (31 + j) 5 < 0)))) sg o :=
  mk_i (own := RX0) (av := fun g => [.ref (g (31 + j))]) (lo := fun g => [(0, .ref (g (31 + j)))]) (by decide) rfl b2i_nar (fun _ => Nat.le_of_ble_eq_true rfl) (fun _ => rfl) fun X C E => by
    refine v_aload_n (j := 0) C dX0_isFixed_0 rfl rfl rfl ?_
    refine v_geti (c := (31 + j)) C flX0_24 (lt_pc h_j) (lay_pc h_j) rfl dX0_isFixed_1 rfl ?_
    refine v_if_lt (tgt := 18) C dX0_isFixed_4 (by decide) rfl (fun h4_1 => ?_) (fun h4_1 => ?_)
    · skip
      refine v_iconst (v := 0) C dX0_isFixed_18 (by decide) rfl ?_
      exact v_ret E dX0_isFixed_19 (by decide) (by decide) (b2i_f (by simp [h4_1])) (rfl) rfl
    · skip
      refine v_aload_n (j := 0) C dX0_isFixed_7 rfl rfl rfl ?_
      refine v_geti (c := (31 + j)) C flX0_27 (lt_pc h_j) (lay_pc h_j) rfl dX0_isFixed_8 rfl ?_
      refine v_if_lt (tgt := 18) C dX0_isFixed_11 (by decide) rfl (fun h11_2 => ?_) (fun h11_2 => ?_)
      · skip
        refine v_iconst (v := 0) C dX0_isFixed_18 (by decide) rfl ?_
        exact v_ret E dX0_isFixed_19 (by decide) (by decide) (b2i_f (by simp [h4_1, h11_2])) (rfl) rfl
      · skip
        refine v_iconst (v := 1) C dX0_isFixed_14 (by decide) rfl ?_
        refine v_goto (pc1 := 19) C dX0_isFixed_15 (by decide) ?_
        exact v_ret E dX0_isFixed_19 (by decide) (by decide) (b2i_t (by simp [h4_1, h11_2])) (rfl) rfl
def fr_X0_loadAt (sg : Sg) (j : Nat) (p : Int32) : Int32 := (if p = (sg (31 + j) 4) then (sg (31 + j) 6) else (if p = (sg (31 + j) 5) then (sg (31 + j) 7) else 0))
set_option maxHeartbeats 4000000 in
set_option maxRecDepth 20000 in
theorem k_X0_loadAt {l : Launch} {D : va_G} {K : Nat → ClassId} {g : Nat → Nat} (sg : Sg) (o : Ot) (j : Nat) (p : Int32) (h_j : j < 6) : CN l yX0_loadAt cX0_loadAt 2 (some .int) 1 D K g [.ref (g (31 + j)), .int p] sg o (some (.int (fr_X0_loadAt sg j p))) sg o :=
  mk_i (own := RX0) (av := fun g => [.ref (g (31 + j)), .int p]) (lo := fun g => [(0, .ref (g (31 + j))), (1, .int p)]) (by decide) rfl rfl (fun _ => Nat.le_of_ble_eq_true rfl) (fun _ => rfl) fun X C E => by
    refine v_iload_n (j := 1) C dX0_loadAt_0 rfl rfl rfl ?_
    refine v_aload_n (j := 0) C dX0_loadAt_1 rfl rfl rfl ?_
    refine v_geti (c := (31 + j)) C flX0_24 (lt_pc h_j) (lay_pc h_j) rfl dX0_loadAt_2 rfl ?_
    refine v_icmp_ne (tgt := 13) C dX0_loadAt_5 (by decide) rfl (fun h5_1 => ?_) (fun h5_1 => ?_)
    · skip
      refine v_iload_n (j := 1) C dX0_loadAt_13 rfl rfl rfl ?_
      refine v_aload_n (j := 0) C dX0_loadAt_14 rfl rfl rfl ?_
      refine v_geti (c := (31 + j)) C flX0_27 (lt_pc h_j) (lay_pc h_j) rfl dX0_loadAt_15 rfl ?_
      refine v_icmp_ne (tgt := 28) C dX0_loadAt_18 (by decide) rfl (fun h18_2 => ?_) (fun h18_2 => ?_)
      · skip
        refine v_iconst (v := 0) C dX0_loadAt_28 (by decide) rfl ?_
        exact v_ret E dX0_loadAt_29 (by decide) (by decide) ((by simp only [fr_X0_loadAt, if_neg h5_1, if_neg h18_2])) (rfl) rfl
      · skip
        refine v_aload_n (j := 0) C dX0_loadAt_21 rfl rfl rfl ?_
        refine v_geti (c := (31 + j)) C flX0_33 (lt_pc h_j) (lay_pc h_j) rfl dX0_loadAt_22 rfl ?_
        refine v_goto (pc1 := 29) C dX0_loadAt_25 (by decide) ?_
        exact v_ret E dX0_loadAt_29 (by decide) (by decide) ((by simp only [fr_X0_loadAt, if_neg h5_1, if_pos h18_2])) (rfl) rfl
    · skip
      refine v_aload_n (j := 0) C dX0_loadAt_8 rfl rfl rfl ?_
      refine v_geti (c := (31 + j)) C flX0_30 (lt_pc h_j) (lay_pc h_j) rfl dX0_loadAt_9 rfl ?_
      exact v_ret E dX0_loadAt_12 (by decide) (by decide) ((by simp only [fr_X0_loadAt, if_pos h5_1])) (rfl) rfl
def fr_X3_allows (sg : Sg) (t : Nat) (q : Nat) : Int32 := (((sg (23 + q) 1) * (sg (37 + t) 1)) / 100)
set_option maxHeartbeats 4000000 in
set_option maxRecDepth 20000 in
theorem k_X3_allows {l : Launch} {D : va_G} {K : Nat → ClassId} {g : Nat → Nat} (sg : Sg) (o : Ot) (t : Nat) (q : Nat) (h_t : t < 4) (h_q : q < 8) : CN l yX3_allows cX3_allows 2 (some .int) 1 D K g [.ref (g (37 + t)), .ref (g (23 + q))] sg o (some (.int (fr_X3_allows sg t q))) sg o :=
  mk_i (own := RX3) (av := fun g => [.ref (g (37 + t)), .ref (g (23 + q))]) (lo := fun g => [(0, .ref (g (37 + t))), (1, .ref (g (23 + q)))]) (by decide) rfl rfl (fun _ => Nat.le_of_ble_eq_true rfl) (fun _ => rfl) fun X C E => by
    refine v_aload_n (j := 1) C dX3_allows_0 rfl rfl rfl ?_
    refine v_geti (c := (23 + q)) C flX3_34 (lt_pt h_q) (lay_pt h_q) rfl dX3_allows_1 rfl ?_
    refine v_aload_n (j := 0) C dX3_allows_4 rfl rfl rfl ?_
    refine v_geti (c := (37 + t)) C flX3_7 (lt_tn h_t) (lay_tn h_t) rfl dX3_allows_5 rfl ?_
    refine v_imul C dX3_allows_8 rfl ?_
    refine v_bipush (v := 100) C dX3_allows_9 (by decide) rfl ?_
    refine v_idiv C dX3_allows_11 (by decide) rfl ?_
    exact v_ret E dX3_allows_12 (by decide) (by decide) ((by rfl)) (rfl) rfl
def fr_X2_lastMinute (sg : Sg) (r : Nat) : Int32 := (if 0 < (sg r 5) then (sg (r + 3) (ix ((sg r 5) - 1))) else 0)
set_option maxHeartbeats 4000000 in
set_option maxRecDepth 20000 in
theorem k_X2_lastMinute {l : Launch} {D : va_G} {K : Nat → ClassId} {g : Nat → Nat} (sg : Sg) (o : Ot) (r : Nat) (h_r : isR r) (hz : 0 < sg r 5 → vp_in (sg r 5 - 1) 6) : CN l yX2_lastMinute cX2_lastMinute 1 (some .int) 1 D K g [.ref (g r)] sg o (some (.int (fr_X2_lastMinute sg r))) sg o :=
  mk_i (own := RX2) (av := fun g => [.ref (g r)]) (lo := fun g => [(0, .ref (g r))]) (by decide) rfl rfl (fun _ => Nat.le_of_ble_eq_true rfl) (fun _ => rfl) fun X C E => by
    refine v_aload_n (j := 0) C dX2_lastMinute_0 rfl rfl rfl ?_
    refine v_geti (c := r) C flX2_27 (lt_rg h_r) (lay_rg h_r) rfl dX2_lastMinute_1 rfl ?_
    refine v_if_le (tgt := 21) C dX2_lastMinute_4 (by decide) rfl (fun h4_1 => ?_) (fun h4_1 => ?_)
    · skip
      refine v_iconst (v := 0) C dX2_lastMinute_21 (by decide) rfl ?_
      exact v_ret E dX2_lastMinute_22 (by decide) (by decide) ((by simp only [fr_X2_lastMinute, if_neg h4_1])) (rfl) rfl
    · skip
      refine v_aload_n (j := 0) C dX2_lastMinute_7 rfl rfl rfl ?_
      refine v_getr (c := r) (r + 3) C flX2_18 (lt_rg h_r) (lay_rg h_r) rfl dX2_lastMinute_8 rfl ?_
      refine v_aload_n (j := 0) C dX2_lastMinute_11 rfl rfl rfl ?_
      refine v_geti (c := r) C flX2_27 (lt_rg h_r) (lay_rg h_r) rfl dX2_lastMinute_12 rfl ?_
      refine v_iconst (v := 1) C dX2_lastMinute_15 (by decide) rfl ?_
      refine v_isub C dX2_lastMinute_16 rfl ?_
      refine v_iald (c := (r + 3)) C (by assumption) (lt_ra h_r (by decide)) (lay_r3 h_r) dX2_lastMinute_17 rfl ?_
      refine v_goto (pc1 := 22) C dX2_lastMinute_18 (by decide) ?_
      exact v_ret E dX2_lastMinute_22 (by decide) (by decide) ((by simp only [fr_X2_lastMinute, if_pos h4_1])) (rfl) rfl
def fr_X2_workAtEnd (sg : Sg) (r : Nat) : Int32 := (if 0 < (sg r 5) then (sg (r + 4) (ix ((sg r 5) - 1))) else 0)
set_option maxHeartbeats 4000000 in
set_option maxRecDepth 20000 in
theorem k_X2_workAtEnd {l : Launch} {D : va_G} {K : Nat → ClassId} {g : Nat → Nat} (sg : Sg) (o : Ot) (r : Nat) (h_r : isR r) (hz : 0 < sg r 5 → vp_in (sg r 5 - 1) 6) : CN l yX2_workAtEnd cX2_workAtEnd 1 (some .int) 1 D K g [.ref (g r)] sg o (some (.int (fr_X2_workAtEnd sg r))) sg o :=
  mk_i (own := RX2) (av := fun g => [.ref (g r)]) (lo := fun g => [(0, .ref (g r))]) (by decide) rfl rfl (fun _ => Nat.le_of_ble_eq_true rfl) (fun _ => rfl) fun X C E => by
    refine v_aload_n (j := 0) C dX2_workAtEnd_0 rfl rfl rfl ?_
    refine v_geti (c := r) C flX2_27 (lt_rg h_r) (lay_rg h_r) rfl dX2_workAtEnd_1 rfl ?_
    refine v_if_le (tgt := 21) C dX2_workAtEnd_4 (by decide) rfl (fun h4_1 => ?_) (fun h4_1 => ?_)
    · skip
      refine v_iconst (v := 0) C dX2_workAtEnd_21 (by decide) rfl ?_
      exact v_ret E dX2_workAtEnd_22 (by decide) (by decide) ((by simp only [fr_X2_workAtEnd, if_neg h4_1])) (rfl) rfl
    · skip
      refine v_aload_n (j := 0) C dX2_workAtEnd_7 rfl rfl rfl ?_
      refine v_getr (c := r) (r + 4) C flX2_21 (lt_rg h_r) (lay_rg h_r) rfl dX2_workAtEnd_8 rfl ?_
      refine v_aload_n (j := 0) C dX2_workAtEnd_11 rfl rfl rfl ?_
      refine v_geti (c := r) C flX2_27 (lt_rg h_r) (lay_rg h_r) rfl dX2_workAtEnd_12 rfl ?_
      refine v_iconst (v := 1) C dX2_workAtEnd_15 (by decide) rfl ?_
      refine v_isub C dX2_workAtEnd_16 rfl ?_
      refine v_iald (c := (r + 4)) C (by assumption) (lt_ra h_r (by decide)) (lay_r4 h_r) dX2_workAtEnd_17 rfl ?_
      refine v_goto (pc1 := 22) C dX2_workAtEnd_18 (by decide) ?_
      exact v_ret E dX2_workAtEnd_22 (by decide) (by decide) ((by simp only [fr_X2_workAtEnd, if_pos h4_1])) (rfl) rfl
set_option maxHeartbeats 4000000 in
set_option maxRecDepth 20000 in
theorem k_X4_isOutside {l : Launch} {D : va_G} {K : Nat → ClassId} {g : Nat → Nat} (sg : Sg) (o : Ot) (v : Int32) (a : Int32) (b : Int32) : CN l yX4_isOutside cX4_isOutside 3 (some .boolean) 1 D K g [.int v, .int a, .int b] sg o (some (.int (b2i (v < a ∨ b < v)))) sg o :=
  mk_i (own := RX4) (av := fun g => [.int v, .int a, .int b]) (lo := fun g => [(0, .int v), (1, .int a), (2, .int b)]) (by decide) rfl b2i_nar (fun _ => Nat.le_of_ble_eq_true rfl) (fun _ => rfl) fun X C E => by
    refine v_iload_n (j := 0) C dX4_isOutside_0 rfl rfl rfl ?_
    refine v_iload_n (j := 1) C dX4_isOutside_1 rfl rfl rfl ?_
    refine v_icmp_lt (tgt := 10) C dX4_isOutside_2 (by decide) rfl (fun h2_1 => ?_) (fun h2_1 => ?_)
    · skip
      refine v_iconst (v := 1) C dX4_isOutside_10 (by decide) rfl ?_
      refine v_goto (pc1 := 15) C dX4_isOutside_11 (by decide) ?_
      exact v_ret E dX4_isOutside_15 (by decide) (by decide) (b2i_t (by simp [h2_1])) (rfl) rfl
    · skip
      refine v_iload_n (j := 0) C dX4_isOutside_5 rfl rfl rfl ?_
      refine v_iload_n (j := 2) C dX4_isOutside_6 rfl rfl rfl ?_
      refine v_icmp_le (tgt := 14) C dX4_isOutside_7 (by decide) rfl (fun h7_2 => ?_) (fun h7_2 => ?_)
      · skip
        refine v_iconst (v := 0) C dX4_isOutside_14 (by decide) rfl ?_
        exact v_ret E dX4_isOutside_15 (by decide) (by decide) (b2i_f (by simp [h2_1, h7_2])) (rfl) rfl
      · skip
        refine v_iconst (v := 1) C dX4_isOutside_10 (by decide) rfl ?_
        refine v_goto (pc1 := 15) C dX4_isOutside_11 (by decide) ?_
        exact v_ret E dX4_isOutside_15 (by decide) (by decide) (b2i_t (by simp [h2_1, h7_2])) (rfl) rfl
set_option maxHeartbeats 4000000 in
set_option maxRecDepth 20000 in
theorem k_X4_isIn {l : Launch} {D : va_G} {K : Nat → ClassId} {g : Nat → Nat} (sg : Sg) (o : Ot) (p : Int32) (z : Int32) : CN l yX4_isIn cX4_isIn 2 (some .boolean) 1 D K g [.int p, .int z] sg o (some (.int (b2i (¬ z >>> (p &&& 31) &&& 1 = 0)))) sg o :=
  mk_i (own := RX4) (av := fun g => [.int p, .int z]) (lo := fun g => [(0, .int p), (1, .int z)]) (by decide) rfl b2i_nar (fun _ => Nat.le_of_ble_eq_true rfl) (fun _ => rfl) fun X C E => by
    refine v_iload_n (j := 1) C dX4_isIn_0 rfl rfl rfl ?_
    refine v_iload_n (j := 0) C dX4_isIn_1 rfl rfl rfl ?_
    refine v_ishr C dX4_isIn_2 rfl ?_
    refine v_iconst (v := 1) C dX4_isIn_3 (by decide) rfl ?_
    refine v_iand C dX4_isIn_4 rfl ?_
    refine v_if_eq (tgt := 12) C dX4_isIn_5 (by decide) rfl (fun h5_1 => ?_) (fun h5_1 => ?_)
    · skip
      refine v_iconst (v := 0) C dX4_isIn_12 (by decide) rfl ?_
      exact v_ret E dX4_isIn_13 (by decide) (by decide) (b2i_f (by simp [h5_1])) (rfl) rfl
    · skip
      refine v_iconst (v := 1) C dX4_isIn_8 (by decide) rfl ?_
      refine v_goto (pc1 := 13) C dX4_isIn_9 (by decide) ?_
      exact v_ret E dX4_isIn_13 (by decide) (by decide) (b2i_t (by simp [h5_1])) (rfl) rfl
def fr_X4_loadOfPart (sg : Sg) (p : Int32) (z : Int32) : Int32 := (((p * (100 + z)) + 99) / 100)
set_option maxHeartbeats 4000000 in
set_option maxRecDepth 20000 in
theorem k_X4_loadOfPart {l : Launch} {D : va_G} {K : Nat → ClassId} {g : Nat → Nat} (sg : Sg) (o : Ot) (p : Int32) (z : Int32) : CN l yX4_loadOfPart cX4_loadOfPart 2 (some .int) 1 D K g [.int p, .int z] sg o (some (.int (fr_X4_loadOfPart sg p z))) sg o :=
  mk_i (own := RX4) (av := fun g => [.int p, .int z]) (lo := fun g => [(0, .int p), (1, .int z)]) (by decide) rfl rfl (fun _ => Nat.le_of_ble_eq_true rfl) (fun _ => rfl) fun X C E => by
    refine v_iload_n (j := 0) C dX4_loadOfPart_0 rfl rfl rfl ?_
    refine v_bipush (v := 100) C dX4_loadOfPart_1 (by decide) rfl ?_
    refine v_iload_n (j := 1) C dX4_loadOfPart_3 rfl rfl rfl ?_
    refine v_iadd C dX4_loadOfPart_4 rfl ?_
    refine v_imul C dX4_loadOfPart_5 rfl ?_
    refine v_bipush (v := 99) C dX4_loadOfPart_6 (by decide) rfl ?_
    refine v_iadd C dX4_loadOfPart_8 rfl ?_
    refine v_bipush (v := 100) C dX4_loadOfPart_9 (by decide) rfl ?_
    refine v_idiv C dX4_loadOfPart_11 (by decide) rfl ?_
    exact v_ret E dX4_loadOfPart_12 (by decide) (by decide) ((by rfl)) (rfl) rfl
