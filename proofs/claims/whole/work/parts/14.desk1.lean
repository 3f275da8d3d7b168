set_option maxHeartbeats 4000000 in
set_option maxRecDepth 20000 in
theorem k_X0_isFixed {l : Launch} {D : va_G} {K : Nat → ClassId} {g : Nat → Nat} (sg : Sg) (o : Ot) (j : Nat) (h_j : j < 6) : CN l yX0_isFixed cX0_isFixed 1 (some .boolean) 1 D K g [.ref (g (31 + j))] sg o (some (.int (b2i (¬ sg (31 + j) 4 < 0 ∧ ¬ sg (31 + j) 5 < 0)))) sg o :=
  mk_i (own := RX0) (av := fun g => [.ref (g (31 + j))]) (lo := fun g => [(0, .ref (g (31 + j)))]) (by decide) rfl b2i_nar (fun _ => Nat.le_of_ble_eq_true rfl) (fun _ => rfl) fun X C E => by
    refine v_aload_n (j := 0) C dX0_isFixed_0 rfl rfl rfl ?_
    refine v_geti (c := (31 + j)) C flX0_24 (lt_pc h_j) (lay_pc h_j) rfl dX0_isFixed_1 rfl ?_
    refine v_if_lt (tgt := 18) C dX0_isFixed_4 (by decide) rfl (fun h4_1 => ?_) (fun h4_1 => ?_)
    · skip
      refine v_iconst (v := 0) C dX0_isFixed_18 (by decide) rfl ?_
      exact v_ret E dX0_isFixed_19 (by decide) (by decide) (b2i_f (by first | assumption | (simp [h4_1]; done) | grind)) (rfl) rfl
    · skip
      refine v_aload_n (j := 0) C dX0_isFixed_7 rfl rfl rfl ?_
      refine v_geti (c := (31 + j)) C flX0_27 (lt_pc h_j) (lay_pc h_j) rfl dX0_isFixed_8 rfl ?_
      refine v_if_lt (tgt := 18) C dX0_isFixed_11 (by decide) rfl (fun h11_2 => ?_) (fun h11_2 => ?_)
      · skip
        refine v_iconst (v := 0) C dX0_isFixed_18 (by decide) rfl ?_
        exact v_ret E dX0_isFixed_19 (by decide) (by decide) (b2i_f (by first | assumption | (simp [h4_1, h11_2]; done) | grind)) (rfl) rfl
      · skip
        refine v_iconst (v := 1) C dX0_isFixed_14 (by decide) rfl ?_
        refine v_goto (pc1 := 19) C dX0_isFixed_15 (by decide) ?_
        exact v_ret E dX0_isFixed_19 (by decide) (by decide) (b2i_t (by first | assumption | (simp [h4_1, h11_2]; done) | grind)) (rfl) rfl
def fr_X0_loadAt (sg : Sg) (j : Nat) (p : Int32) : Int32 := (if p = (sg (31 + j) 4) then (sg (31 + j) 6) else (if p = (sg (31 + j) 5) then (sg (31 + j) 7) else 0))
set_option maxHeartbeats 4000000 in
set_option maxRecDepth 20000 in
theorem k_X0_loadAt {l : Launch} {D : va_G} {K : Nat → ClassId} {g : Nat → Nat} (sg : Sg) (o : Ot) (j : Nat) (p : Int32) (h_j : j < 6) : CN l yX0_loadAt cX0_loadAt 2 (some .int) 1 D K g [.ref (g (31 + j)), .int p] sg o (some (.int (fr_X0_loadAt sg j p))) sg o :=
  mk_i (own := RX0) (av := fun g => [.ref (g (31 + j)), .int p]) (lo := fun g => [(0, .ref (g (31 + j))), (1, .int p)]) (by decide) rfl rfl (fun _ => Nat.le_of_ble_eq_true rfl) (fun _ => rfl) fun X C E => by
    refine v_iload_n (j := 1) C dX0_loadAt_0 rfl rfl rfl ?_
    refine v_aload_n (j := 0) C dX0_loadAt_1 rfl rfl rfl ?_
    refine v_geti (c := (31 + j)) C flX0_24 (lt_pc h_j) (lay_pc h_j) rfl dX0_loadAt_2 rfl ?_
    refine v_icmp_ne (tgt := 13) C dX0_loadAt_5 (by decide) rfl (fun h5_1 => ?_) (fun h5_1 => ?_)
    · skip
      refine v_iload_n (j := 1) C dX0_loadAt_13 rfl rfl rfl ?_
      refine v_aload_n (j := 0) C dX0_loadAt_14 rfl rfl rfl ?_
      refine v_geti (c := (31 + j)) C flX0_27 (lt_pc h_j) (lay_pc h_j) rfl dX0_loadAt_15 rfl ?_
      refine v_icmp_ne (tgt := 28) C dX0_loadAt_18 (by decide) rfl (fun h18_2 => ?_) (fun h18_2 => ?_)
      · skip
        refine v_iconst (v := 0) C dX0_loadAt_28 (by decide) rfl ?_
        exact v_ret E dX0_loadAt_29 (by decide) (by decide) ((by simp only [fr_X0_loadAt, if_neg h5_1, if_neg h18_2])) (rfl) rfl
      · skip
        refine v_aload_n (j := 0) C dX0_loadAt_21 rfl rfl rfl ?_
        refine v_geti (c := (31 + j)) C flX0_33 (lt_pc h_j) (lay_pc h_j) rfl dX0_loadAt_22 rfl ?_
        refine v_goto (pc1 := 29) C dX0_loadAt_25 (by decide) ?_
        exact v_ret E dX0_loadAt_29 (by decide) (by decide) ((by simp only [fr_X0_loadAt, if_neg h5_1, if_pos h18_2])) (rfl) rfl
    · skip
      refine v_aload_n (j := 0) C dX0_loadAt_8 rfl rfl rfl ?_
      refine v_geti (c := (31 + j)) C flX0_30 (lt_pc h_j) (lay_pc h_j) rfl dX0_loadAt_9 rfl ?_
      exact v_ret E dX0_loadAt_12 (by decide) (by decide) ((by simp only [fr_X0_loadAt, if_pos h5_1])) (rfl) rfl
def fr_X3_allows (sg : Sg) (t : Nat) (q : Nat) : Int32 := (((sg (23 + q) 1) * (sg (37 + t) 1)) / 100)
set_option maxHeartbeats 4000000 in
set_option maxRecDepth 20000 in
theorem k_X3_allows {l : Launch} {D : va_G} {K : Nat → ClassId} {g : Nat → Nat} (sg : Sg) (o : Ot) (t : Nat) (q : Nat) (h_t : t < 4) (h_q : q < 8) : CN l yX3_allows cX3_allows 2 (some .int) 1 D K g [.ref (g (37 + t)), .ref (g (23 + q))] sg o (some (.int (fr_X3_allows sg t q))) sg o :=
  mk_i (own := RX3) (av := fun g => [.ref (g (37 + t)), .ref (g (23 + q))]) (lo := fun g => [(0, .ref (g (37 + t))), (1, .ref (g (23 + q)))]) (by decide) rfl rfl (fun _ => Nat.le_of_ble_eq_true rfl) (fun _ => rfl) fun X C E => by
    refine v_aload_n (j := 1) C dX3_allows_0 rfl rfl rfl ?_
    refine v_geti (c := (23 + q)) C flX3_34 (lt_pt h_q) (lay_pt h_q) rfl dX3_allows_1 rfl ?_
    refine v_aload_n (j := 0) C dX3_allows_4 rfl rfl rfl ?_
    refine v_geti (c := (37 + t)) C flX3_7 (lt_tn h_t) (lay_tn h_t) rfl dX3_allows_5 rfl ?_
    refine v_imul C dX3_allows_8 rfl ?_
    refine v_bipush (v := 100) C dX3_allows_9 (by decide) rfl ?_
    refine v_idiv C dX3_allows_11 (by decide) rfl ?_
    exact v_ret E dX3_allows_12 (by decide) (by decide) ((by rfl)) (rfl) rfl
def fr_X2_lastMinute (sg : Sg) (r : Nat) : Int32 := (if 0 < (sg r 5) then (sg (r + 3) (ix ((sg r 5) - 1))) else 0)
set_option maxHeartbeats 4000000 in
set_option maxRecDepth 20000 in
theorem k_X2_lastMinute {l : Launch} {D : va_G} {K : Nat → ClassId} {g : Nat → Nat} (sg : Sg) (o : Ot) (r : Nat) (h_r : isR r) (hD : DI sg) : CN l yX2_lastMinute cX2_lastMinute 1 (some .int) 1 D K g [.ref (g r)] sg o (some (.int (fr_X2_lastMinute sg r))) sg o :=
  mk_i (own := RX2) (av := fun g => [.ref (g r)]) (lo := fun g => [(0, .ref (g r))]) (by decide) rfl rfl (fun _ => Nat.le_of_ble_eq_true rfl) (fun _ => rfl) fun X C E => by
    have hR_r : r = 5 ∨ r = 11 ∨ r = 17 := h_r
    refine v_aload_n (j := 0) C dX2_lastMinute_0 rfl rfl rfl ?_
    refine v_geti (c := r) C flX2_27 (lt_rg h_r) (lay_rg h_r) rfl dX2_lastMinute_1 rfl ?_
    refine v_if_le (tgt := 21) C dX2_lastMinute_4 (by decide) rfl (fun h4_1 => ?_) (fun h4_1 => ?_)
    · skip
      refine v_iconst (v := 0) C dX2_lastMinute_21 (by decide) rfl ?_
      exact v_ret E dX2_lastMinute_22 (by decide) (by decide) ((by simp only [fr_X2_lastMinute, if_neg h4_1])) (rfl) rfl
    · skip
      refine v_aload_n (j := 0) C dX2_lastMinute_7 rfl rfl rfl ?_
      refine v_getr (c := r) C (r + 3) flX2_18 (lt_rg h_r) (lay_rg h_r) rfl dX2_lastMinute_8 rfl ?_
      refine v_aload_n (j := 0) C dX2_lastMinute_11 rfl rfl rfl ?_
      refine v_geti (c := r) C flX2_27 (lt_rg h_r) (lay_rg h_r) rfl dX2_lastMinute_12 rfl ?_
      refine v_iconst (v := 1) C dX2_lastMinute_15 (by decide) rfl ?_
      refine v_isub C dX2_lastMinute_16 rfl ?_
      refine v_iald (c := (r + 3)) C (hD.last h_r (by assumption)) (lt_ra h_r (by decide)) (lay_r3 h_r) dX2_lastMinute_17 rfl ?_
      refine v_goto (pc1 := 22) C dX2_lastMinute_18 (by decide) ?_
      exact v_ret E dX2_lastMinute_22 (by decide) (by decide) ((by simp only [fr_X2_lastMinute, if_pos h4_1])) (rfl) rfl
def fr_X2_workAtEnd (sg : Sg) (r : Nat) : Int32 := (if 0 < (sg r 5) then (sg (r + 4) (ix ((sg r 5) - 1))) else 0)
set_option maxHeartbeats 4000000 in
set_option maxRecDepth 20000 in
theorem k_X2_workAtEnd {l : Launch} {D : va_G} {K : Nat → ClassId} {g : Nat → Nat} (sg : Sg) (o : Ot) (r : Nat) (h_r : isR r) (hD : DI sg) : CN l yX2_workAtEnd cX2_workAtEnd 1 (some .int) 1 D K g [.ref (g r)] sg o (some (.int (fr_X2_workAtEnd sg r))) sg o :=
  mk_i (own := RX2) (av := fun g => [.ref (g r)]) (lo := fun g => [(0, .ref (g r))]) (by decide) rfl rfl (fun _ => Nat.le_of_ble_eq_true rfl) (fun _ => rfl) fun X C E => by
    have hR_r : r = 5 ∨ r = 11 ∨ r = 17 := h_r
    refine v_aload_n (j := 0) C dX2_workAtEnd_0 rfl rfl rfl ?_
    refine v_geti (c := r) C flX2_27 (lt_rg h_r) (lay_rg h_r) rfl dX2_workAtEnd_1 rfl ?_
    refine v_if_le (tgt := 21) C dX2_workAtEnd_4 (by decide) rfl (fun h4_1 => ?_) (fun h4_1 => ?_)
    · skip
      refine v_iconst (v := 0) C dX2_workAtEnd_21 (by decide) rfl ?_
      exact v_ret E dX2_workAtEnd_22 (by decide) (by decide) ((by simp only [fr_X2_workAtEnd, if_neg h4_1])) (rfl) rfl
    · skip
      refine v_aload_n (j := 0) C dX2_workAtEnd_7 rfl rfl rfl ?_
      refine v_getr (c := r) C (r + 4) flX2_21 (lt_rg h_r) (lay_rg h_r) rfl dX2_workAtEnd_8 rfl ?_
      refine v_aload_n (j := 0) C dX2_workAtEnd_11 rfl rfl rfl ?_
      refine v_geti (c := r) C flX2_27 (lt_rg h_r) (lay_rg h_r) rfl dX2_workAtEnd_12 rfl ?_
      refine v_iconst (v := 1) C dX2_workAtEnd_15 (by decide) rfl ?_
      refine v_isub C dX2_workAtEnd_16 rfl ?_
      refine v_iald (c := (r + 4)) C (hD.last h_r (by assumption)) (lt_ra h_r (by decide)) (lay_r4 h_r) dX2_workAtEnd_17 rfl ?_
      refine v_goto (pc1 := 22) C dX2_workAtEnd_18 (by decide) ?_
      exact v_ret E dX2_workAtEnd_22 (by decide) (by decide) ((by simp only [fr_X2_workAtEnd, if_pos h4_1])) (rfl) rfl
set_option maxHeartbeats 4000000 in
set_option maxRecDepth 20000 in
theorem k_X4_isOutside {l : Launch} {D : va_G} {K : Nat → ClassId} {g : Nat → Nat} (sg : Sg) (o : Ot) (v : Int32) (a : Int32) (b : Int32) : CN l yX4_isOutside cX4_isOutside 3 (some .boolean) 1 D K g [.int v, .int a, .int b] sg o (some (.int (b2i (v < a ∨ b < v)))) sg o :=
  mk_i (own := RX4) (av := fun g => [.int v, .int a, .int b]) (lo := fun g => [(0, .int v), (1, .int a), (2, .int b)]) (by decide) rfl b2i_nar (fun _ => Nat.le_of_ble_eq_true rfl) (fun _ => rfl) fun X C E => by
    refine v_iload_n (j := 0) C dX4_isOutside_0 rfl rfl rfl ?_
    refine v_iload_n (j := 1) C dX4_isOutside_1 rfl rfl rfl ?_
    refine v_icmp_lt (tgt := 10) C dX4_isOutside_2 (by decide) rfl (fun h2_1 => ?_) (fun h2_1 => ?_)
    · skip
      refine v_iconst (v := 1) C dX4_isOutside_10 (by decide) rfl ?_
      refine v_goto (pc1 := 15) C dX4_isOutside_11 (by decide) ?_
      exact v_ret E dX4_isOutside_15 (by decide) (by decide) (b2i_t (by first | assumption | (simp [h2_1]; done) | grind)) (rfl) rfl
    · skip
      refine v_iload_n (j := 0) C dX4_isOutside_5 rfl rfl rfl ?_
      refine v_iload_n (j := 2) C dX4_isOutside_6 rfl rfl rfl ?_
      refine v_icmp_le (tgt := 14) C dX4_isOutside_7 (by decide) rfl (fun h7_2 => ?_) (fun h7_2 => ?_)
      · skip
        refine v_iconst (v := 0) C dX4_isOutside_14 (by decide) rfl ?_
        exact v_ret E dX4_isOutside_15 (by decide) (by decide) (b2i_f (by first | assumption | (simp [h2_1, h7_2]; done) | grind)) (rfl) rfl
      · skip
        refine v_iconst (v := 1) C dX4_isOutside_10 (by decide) rfl ?_
        refine v_goto (pc1 := 15) C dX4_isOutside_11 (by decide) ?_
        exact v_ret E dX4_isOutside_15 (by decide) (by decide) (b2i_t (by first | assumption | (simp [h2_1, h7_2]; done) | grind)) (rfl) rfl
set_option maxHeartbeats 4000000 in
set_option maxRecDepth 20000 in
theorem k_X4_isIn {l : Launch} {D : va_G} {K : Nat → ClassId} {g : Nat → Nat} (sg : Sg) (o : Ot) (p : Int32) (z : Int32) : CN l yX4_isIn cX4_isIn 2 (some .boolean) 1 D K g [.int p, .int z] sg o (some (.int (b2i (¬ z >>> (p &&& 31) &&& 1 = 0)))) sg o :=
  mk_i (own := RX4) (av := fun g => [.int p, .int z]) (lo := fun g => [(0, .int p), (1, .int z)]) (by decide) rfl b2i_nar (fun _ => Nat.le_of_ble_eq_true rfl) (fun _ => rfl) fun X C E => by
    refine v_iload_n (j := 1) C dX4_isIn_0 rfl rfl rfl ?_
    refine v_iload_n (j := 0) C dX4_isIn_1 rfl rfl rfl ?_
    refine v_ishr C dX4_isIn_2 rfl ?_
    refine v_iconst (v := 1) C dX4_isIn_3 (by decide) rfl ?_
    refine v_iand C dX4_isIn_4 rfl ?_
    refine v_if_eq (tgt := 12) C dX4_isIn_5 (by decide) rfl (fun h5_1 => ?_) (fun h5_1 => ?_)
    · skip
      refine v_iconst (v := 0) C dX4_isIn_12 (by decide) rfl ?_
      exact v_ret E dX4_isIn_13 (by decide) (by decide) (b2i_f (by first | assumption | (simp [h5_1]; done) | grind)) (rfl) rfl
    · skip
      refine v_iconst (v := 1) C dX4_isIn_8 (by decide) rfl ?_
      refine v_goto (pc1 := 13) C dX4_isIn_9 (by decide) ?_
      exact v_ret E dX4_isIn_13 (by decide) (by decide) (b2i_t (by first | assumption | (simp [h5_1]; done) | grind)) (rfl) rfl
def fr_X4_loadOfPart (sg : Sg) (p : Int32) (z : Int32) : Int32 := (((p * (100 + z)) + 99) / 100)
set_option maxHeartbeats 4000000 in
set_option maxRecDepth 20000 in
theorem k_X4_loadOfPart {l : Launch} {D : va_G} {K : Nat → ClassId} {g : Nat → Nat} (sg : Sg) (o : Ot) (p : Int32) (z : Int32) : CN l yX4_loadOfPart cX4_loadOfPart 2 (some .int) 1 D K g [.int p, .int z] sg o (some (.int (fr_X4_loadOfPart sg p z))) sg o :=
  mk_i (own := RX4) (av := fun g => [.int p, .int z]) (lo := fun g => [(0, .int p), (1, .int z)]) (by decide) rfl rfl (fun _ => Nat.le_of_ble_eq_true rfl) (fun _ => rfl) fun X C E => by
    refine v_iload_n (j := 0) C dX4_loadOfPart_0 rfl rfl rfl ?_
    refine v_bipush (v := 100) C dX4_loadOfPart_1 (by decide) rfl ?_
    refine v_iload_n (j := 1) C dX4_loadOfPart_3 rfl rfl rfl ?_
    refine v_iadd C dX4_loadOfPart_4 rfl ?_
    refine v_imul C dX4_loadOfPart_5 rfl ?_
    refine v_bipush (v := 99) C dX4_loadOfPart_6 (by decide) rfl ?_
    refine v_iadd C dX4_loadOfPart_8 rfl ?_
    refine v_bipush (v := 100) C dX4_loadOfPart_9 (by decide) rfl ?_
    refine v_idiv C dX4_loadOfPart_11 (by decide) rfl ?_
    exact v_ret E dX4_loadOfPart_12 (by decide) (by decide) ((by rfl)) (rfl) rfl
def fr_X4_leftAt (sg : Sg) (p : Int32) (t : Nat) : Int32 := ((fr_X3_allows sg t (ix p)) - (sg 10 (ix p)))
set_option maxHeartbeats 4000000 in
set_option maxRecDepth 20000 in
theorem k_X4_leftAt {l : Launch} {D : va_G} {K : Nat → ClassId} {g : Nat → Nat} (sg : Sg) (o : Ot) (p : Int32) (t : Nat) (h_t : t < 4) (hp : vp_in p 8) : CN l yX4_leftAt cX4_leftAt 3 (some .int) 2 D K g [.ref (g 0), .int p, .ref (g (37 + t))] sg o (some (.int (fr_X4_leftAt sg p t))) sg o :=
  mk_i (own := RX4) (av := fun g => [.ref (g 0), .int p, .ref (g (37 + t))]) (lo := fun g => [(0, .ref (g 0)), (1, .int p), (2, .ref (g (37 + t)))]) (by decide) rfl rfl (fun _ => Nat.le_of_ble_eq_true rfl) (fun _ => rfl) fun X C E => by
    have hb_p := ix_lt hp
    refine v_aload_n (j := 2) C dX4_leftAt_0 rfl rfl rfl ?_
    refine v_aload_n (j := 0) C dX4_leftAt_1 rfl rfl rfl ?_
    refine v_getr (c := 0) C 1 flX4_11 (by decide) rfl rfl dX4_leftAt_2 rfl ?_
    refine v_iload_n (j := 1) C dX4_leftAt_5 rfl rfl rfl ?_
    refine v_aald (c := 1) C (Or.inl rfl) (by assumption) (by decide) rfl dX4_leftAt_6 rfl ?_
    refine v_callV (rest := []) (q := (RX3, TX3, 8)) C kvX4_217 (k_X3_allows sg o t (ix p) h_t (ix_lt (by assumption))) (by decide) (lt_tn h_t) (lay_tn h_t) rfl rfl rfl rfl (Nat.le_of_ble_eq_true rfl) (by decide) (by decide) dX4_leftAt_7 rfl ?_
    refine v_aload_n (j := 0) C dX4_leftAt_10 rfl rfl rfl ?_
    refine v_getr (c := 0) C 5 flX4_34 (by decide) rfl rfl dX4_leftAt_11 rfl ?_
    refine v_getr (c := 5) C 10 flX4_221 (by decide) rfl rfl dX4_leftAt_14 rfl ?_
    refine v_iload_n (j := 1) C dX4_leftAt_17 rfl rfl rfl ?_
    refine v_iald (c := 10) C (by assumption) (by decide) rfl dX4_leftAt_18 rfl ?_
    refine v_isub C dX4_leftAt_19 rfl ?_
    exact v_ret E dX4_leftAt_20 (by decide) (by decide) ((by rfl)) (rfl) rfl
set_option maxHeartbeats 4000000 in
set_option maxRecDepth 20000 in
theorem k_X4_overloads {l : Launch} {D : va_G} {K : Nat → ClassId} {g : Nat → Nat} (sg : Sg) (o : Ot) (r : Nat) (j : Nat) (t : Nat) (h_r : isR r) (h_j : j < 6) (h_t : t < 4) (hD : DI sg) : CN l yX4_overloads cX4_overloads 6 (some .boolean) 2 D K g [.ref (g 0), .ref (g r), .ref (g (31 + j)), .ref (g (37 + t))] sg o (some (.int (b2i (¬ sg (31 + j) 4 < 0 ∧ ¬ sg (31 + j) 5 < 0 ∧ (fr_X3_allows sg t (ix (sg (31 + j) 4)) < sg (r + 5) (ix (sg (31 + j) 4)) + sg (31 + j) 6 ∨ fr_X3_allows sg t (ix (sg (31 + j) 5)) < sg (r + 5) (ix (sg (31 + j) 5)) + sg (31 + j) 7))))) sg o :=
  mk_i (own := RX4) (av := fun g => [.ref (g 0), .ref (g r), .ref (g (31 + j)), .ref (g (37 + t))]) (lo := fun g => [(0, .ref (g 0)), (1, .ref (g r)), (2, .ref (g (31 + j))), (3, .ref (g (37 + t)))]) (by decide) rfl b2i_nar (fun _ => Nat.le_of_ble_eq_true rfl) (fun _ => rfl) fun X C E => by
    have hR_r : r = 5 ∨ r = 11 ∨ r = 17 := h_r
    refine v_aload_n (j := 2) C dX4_overloads_0 rfl rfl rfl ?_
    refine v_geti (c := (31 + j)) C flX4_118 (lt_pc h_j) (lay_pc h_j) rfl dX4_overloads_1 rfl ?_
    refine v_istore C [(4, .int (sg (31 + j) 4)), (0, .ref (xg X 0)), (1, .ref (xg X r)), (2, .ref (xg X (31 + j))), (3, .ref (xg X (37 + t)))] dX4_overloads_4 (by decide) rfl rfl ?_
    refine v_aload_n (j := 3) C dX4_overloads_6 rfl rfl rfl ?_
    refine v_geti (c := (31 + j)) C flX4_121 (lt_pc h_j) (lay_pc h_j) rfl dX4_overloads_7 rfl ?_
    refine v_istore C [(5, .int (sg (31 + j) 5)), (4, .int (sg (31 + j) 4)), (0, .ref (xg X 0)), (1, .ref (xg X r)), (2, .ref (xg X (31 + j))), (3, .ref (xg X (37 + t)))] dX4_overloads_10 (by decide) rfl rfl ?_
    refine v_iload (j := 1) C dX4_overloads_12 rfl rfl ?_
    refine v_if_lt (tgt := 22) C dX4_overloads_14 (by decide) rfl (fun h14_1 => ?_) (fun h14_1 => ?_)
    · skip
      refine v_iconst (v := 0) C dX4_overloads_22 (by decide) rfl ?_
      exact v_ret E dX4_overloads_23 (by decide) (by decide) (b2i_f (by first | assumption | (simp [h14_1]; done) | grind)) (rfl) rfl
    · skip
      refine v_iload (j := 0) C dX4_overloads_17 rfl rfl ?_
      refine v_if_ge (tgt := 24) C dX4_overloads_19 (by decide) rfl (fun h19_2 => ?_) (fun h19_2 => ?_)
      · skip
        refine v_aload_n (j := 3) C dX4_overloads_24 rfl rfl rfl ?_
        refine v_getr (c := r) C (r + 5) flX4_221 (lt_rg h_r) (lay_rg h_r) rfl dX4_overloads_25 rfl ?_
        refine v_iload (j := 1) C dX4_overloads_28 rfl rfl ?_
        refine v_iald (c := (r + 5)) C (hD.lf h_j (by assumption)) (lt_ra h_r (by decide)) (lay_r5 h_r) dX4_overloads_30 rfl ?_
        refine v_aload_n (j := 4) C dX4_overloads_31 rfl rfl rfl ?_
        refine v_geti (c := (31 + j)) C flX4_128 (lt_pc h_j) (lay_pc h_j) rfl dX4_overloads_32 rfl ?_
        refine v_iadd C dX4_overloads_35 rfl ?_
        refine v_aload_n (j := 5) C dX4_overloads_36 rfl rfl rfl ?_
        refine v_aload_n (j := 2) C dX4_overloads_37 rfl rfl rfl ?_
        refine v_getr (c := 0) C 1 flX4_11 (by decide) rfl rfl dX4_overloads_38 rfl ?_
        refine v_iload (j := 1) C dX4_overloads_41 rfl rfl ?_
        refine v_aald (c := 1) C (Or.inl rfl) (hD.lf h_j (by assumption)) (by decide) rfl dX4_overloads_43 rfl ?_
        refine v_callV (rest := [.int ((sg (r + 5) (ix (sg (31 + j) 4))) + (sg (31 + j) 6))]) (q := (RX3, TX3, 8)) C kvX4_217 (k_X3_allows sg o t (ix (sg (31 + j) 4)) h_t (ix_lt (hD.lf h_j (by assumption)))) (by decide) (lt_tn h_t) (lay_tn h_t) rfl rfl rfl rfl (Nat.le_of_ble_eq_true rfl) (by decide) (by decide) dX4_overloads_44 rfl ?_
        refine v_icmp_gt (tgt := 76) C dX4_overloads_47 (by decide) rfl (fun h47_3 => ?_) (fun h47_3 => ?_)
        · skip
          refine v_iconst (v := 1) C dX4_overloads_76 (by decide) rfl ?_
          refine v_goto (pc1 := 81) C dX4_overloads_77 (by decide) ?_
          exact v_ret E dX4_overloads_81 (by decide) (by decide) (b2i_t (by first | assumption | (simp [h14_1, h19_2, h47_3]; done) | grind)) (rfl) rfl
        · skip
          refine v_aload_n (j := 3) C dX4_overloads_50 rfl rfl rfl ?_
          refine v_getr (c := r) C (r + 5) flX4_221 (lt_rg h_r) (lay_rg h_r) rfl dX4_overloads_51 rfl ?_
          refine v_iload (j := 0) C dX4_overloads_54 rfl rfl ?_
          refine v_iald (c := (r + 5)) C (hD.rt h_j (by assumption)) (lt_ra h_r (by decide)) (lay_r5 h_r) dX4_overloads_56 rfl ?_
          refine v_aload_n (j := 4) C dX4_overloads_57 rfl rfl rfl ?_
          refine v_geti (c := (31 + j)) C flX4_131 (lt_pc h_j) (lay_pc h_j) rfl dX4_overloads_58 rfl ?_
          refine v_iadd C dX4_overloads_61 rfl ?_
          refine v_aload_n (j := 5) C dX4_overloads_62 rfl rfl rfl ?_
          refine v_aload_n (j := 2) C dX4_overloads_63 rfl rfl rfl ?_
          refine v_getr (c := 0) C 1 flX4_11 (by decide) rfl rfl dX4_overloads_64 rfl ?_
          refine v_iload (j := 0) C dX4_overloads_67 rfl rfl ?_
          refine v_aald (c := 1) C (Or.inl rfl) (hD.rt h_j (by assumption)) (by decide) rfl dX4_overloads_69 rfl ?_
          refine v_callV (rest := [.int ((sg (r + 5) (ix (sg (31 + j) 5))) + (sg (31 + j) 7))]) (q := (RX3, TX3, 8)) C kvX4_217 (k_X3_allows sg o t (ix (sg (31 + j) 5)) h_t (ix_lt (hD.rt h_j (by assumption)))) (by decide) (lt_tn h_t) (lay_tn h_t) rfl rfl rfl rfl (Nat.le_of_ble_eq_true rfl) (by decide) (by decide) dX4_overloads_70 rfl ?_
          refine v_icmp_le (tgt := 80) C dX4_overloads_73 (by decide) rfl (fun h73_4 => ?_) (fun h73_4 => ?_)
          · skip
            refine v_iconst (v := 0) C dX4_overloads_80 (by decide) rfl ?_
            exact v_ret E dX4_overloads_81 (by decide) (by decide) (b2i_f (by first | assumption | (simp [h14_1, h19_2, h47_3, h73_4]; done) | grind)) (rfl) rfl
          · skip
            refine v_iconst (v := 1) C dX4_overloads_76 (by decide) rfl ?_
            refine v_goto (pc1 := 81) C dX4_overloads_77 (by decide) ?_
            exact v_ret E dX4_overloads_81 (by decide) (by decide) (b2i_t (by first | assumption | (simp [h14_1, h19_2, h47_3, h73_4]; done) | grind)) (rfl) rfl
      · skip
        refine v_iconst (v := 0) C dX4_overloads_22 (by decide) rfl ?_
        exact v_ret E dX4_overloads_23 (by decide) (by decide) (b2i_f (by first | assumption | (simp [h14_1, h19_2]; done) | grind)) (rfl) rfl
def fr_X4_workCarried (sg : Sg) (r : Nat) (j : Nat) (t : Nat) : Int32 := (if ((sg 4 (ix (sg (31 + j) 3))) - (fr_X2_lastMinute sg r)) < (sg (37 + t) 3) then (fr_X2_workAtEnd sg r) else 0)
set_option maxHeartbeats 4000000 in
set_option maxRecDepth 20000 in
theorem k_X4_workCarried {l : Launch} {D : va_G} {K : Nat → ClassId} {g : Nat → Nat} (sg : Sg) (o : Ot) (r : Nat) (j : Nat) (t : Nat) (h_r : isR r) (h_j : j < 6) (h_t : t < 4) (hD : DI sg) : CN l yX4_workCarried cX4_workCarried 5 (some .int) 2 D K g [.ref (g 0), .ref (g r), .ref (g (31 + j)), .ref (g (37 + t))] sg o (some (.int (fr_X4_workCarried sg r j t))) sg o :=
  mk_i (own := RX4) (av := fun g => [.ref (g 0), .ref (g r), .ref (g (31 + j)), .ref (g (37 + t))]) (lo := fun g => [(0, .ref (g 0)), (1, .ref (g r)), (2, .ref (g (31 + j))), (3, .ref (g (37 + t)))]) (by decide) rfl rfl (fun _ => Nat.le_of_ble_eq_true rfl) (fun _ => rfl) fun X C E => by
    have hR_r : r = 5 ∨ r = 11 ∨ r = 17 := h_r
    refine v_aload_n (j := 0) C dX4_workCarried_0 rfl rfl rfl ?_
    refine v_getr (c := 0) C 4 flX4_27 (by decide) rfl rfl dX4_workCarried_1 rfl ?_
    refine v_aload_n (j := 2) C dX4_workCarried_4 rfl rfl rfl ?_
    refine v_geti (c := (31 + j)) C flX4_104 (lt_pc h_j) (lay_pc h_j) rfl dX4_workCarried_5 rfl ?_
    refine v_iald (c := 4) C (hD.tr h_j) (by decide) rfl dX4_workCarried_8 rfl ?_
    refine v_aload_n (j := 1) C dX4_workCarried_9 rfl rfl rfl ?_
    refine v_callV (rest := [.int (sg 4 (ix (sg (31 + j) 3)))]) (q := (RX2, TX2, 8)) C kvX4_234 (k_X2_lastMinute sg o r h_r hD) (by decide) (lt_rg h_r) (lay_rg h_r) rfl rfl rfl rfl (Nat.le_of_ble_eq_true rfl) (by decide) (by decide) dX4_workCarried_10 rfl ?_
    refine v_isub C dX4_workCarried_13 rfl ?_
    refine v_aload_n (j := 3) C dX4_workCarried_14 rfl rfl rfl ?_
    refine v_geti (c := (37 + t)) C flX4_180 (lt_tn h_t) (lay_tn h_t) rfl dX4_workCarried_15 rfl ?_
    refine v_icmp_lt (tgt := 25) C dX4_workCarried_18 (by decide) rfl (fun h18_1 => ?_) (fun h18_1 => ?_)
    · skip
      refine v_iconst (v := 0) C dX4_workCarried_25 (by decide) rfl ?_
      refine v_istore C [(4, .int 0), (0, .ref (xg X 0)), (1, .ref (xg X r)), (2, .ref (xg X (31 + j))), (3, .ref (xg X (37 + t)))] dX4_workCarried_26 (by decide) rfl rfl ?_
      refine v_iload (j := 0) C dX4_workCarried_28 rfl rfl ?_
      refine v_if_eq (tgt := 37) C dX4_workCarried_30 (by decide) rfl (fun _ => ?_) (fun h => absurd h (by decide))
      refine v_aload_n (j := 2) C dX4_workCarried_37 rfl rfl rfl ?_
      refine v_callV (rest := []) (q := (RX2, TX2, 8)) C kvX4_259 (k_X2_workAtEnd sg o r h_r hD) (by decide) (lt_rg h_r) (lay_rg h_r) rfl rfl rfl rfl (Nat.le_of_ble_eq_true rfl) (by decide) (by decide) dX4_workCarried_38 rfl ?_
      exact v_ret E dX4_workCarried_41 (by decide) (by decide) ((by simp only [fr_X4_workCarried, if_pos h18_1])) (rfl) rfl
    · skip
      refine v_iconst (v := 1) C dX4_workCarried_21 (by decide) rfl ?_
      refine v_goto (pc1 := 26) C dX4_workCarried_22 (by decide) ?_
      refine v_istore C [(4, .int 1), (0, .ref (xg X 0)), (1, .ref (xg X r)), (2, .ref (xg X (31 + j))), (3, .ref (xg X (37 + t)))] dX4_workCarried_26 (by decide) rfl rfl ?_
      refine v_iload (j := 0) C dX4_workCarried_28 rfl rfl ?_
      refine v_if_eq (tgt := 37) C dX4_workCarried_30 (by decide) rfl (fun h => absurd h (by decide)) (fun _ => ?_)
      refine v_iconst (v := 0) C dX4_workCarried_33 (by decide) rfl ?_
      refine v_goto (pc1 := 41) C dX4_workCarried_34 (by decide) ?_
      exact v_ret E dX4_workCarried_41 (by decide) (by decide) ((by simp only [fr_X4_workCarried, if_neg h18_1])) (rfl) rfl
def fr_X4_beginNext (sg : Sg) (r : Nat) (j : Nat) (t : Nat) : Int32 := (if (sg (37 + t) 2) < ((fr_X4_workCarried sg r j t) + (sg (31 + j) 1)) then (((if (fr_X2_lastMinute sg r) < (sg 4 (ix (sg (31 + j) 3))) then (sg 4 (ix (sg (31 + j) 3))) else (fr_X2_lastMinute sg r))) + (sg (37 + t) 3)) else ((if (fr_X2_lastMinute sg r) < (sg 4 (ix (sg (31 + j) 3))) then (sg 4 (ix (sg (31 + j) 3))) else (fr_X2_lastMinute sg r))))
set_option maxHeartbeats 4000000 in
set_option maxRecDepth 20000 in
theorem k_X4_beginNext {l : Launch} {D : va_G} {K : Nat → ClassId} {g : Nat → Nat} (sg : Sg) (o : Ot) (r : Nat) (j : Nat) (t : Nat) (h_r : isR r) (h_j : j < 6) (h_t : t < 4) (hD : DI sg) : CN l yX4_beginNext cX4_beginNext 6 (some .int) 3 D K g [.ref (g 0), .ref (g r), .ref (g (31 + j)), .ref (g (37 + t))] sg o (some (.int (fr_X4_beginNext sg r j t))) sg o :=
  mk_i (own := RX4) (av := fun g => [.ref (g 0), .ref (g r), .ref (g (31 + j)), .ref (g (37 + t))]) (lo := fun g => [(0, .ref (g 0)), (1, .ref (g r)), (2, .ref (g (31 + j))), (3, .ref (g (37 + t)))]) (by decide) rfl rfl (fun _ => Nat.le_of_ble_eq_true rfl) (fun _ => rfl) fun X C E => by
    have hR_r : r = 5 ∨ r = 11 ∨ r = 17 := h_r
    refine v_aload_n (j := 1) C dX4_beginNext_0 rfl rfl rfl ?_
    refine v_callV (rest := []) (q := (RX2, TX2, 8)) C kvX4_234 (k_X2_lastMinute sg o r h_r hD) (by decide) (lt_rg h_r) (lay_rg h_r) rfl rfl rfl rfl (Nat.le_of_ble_eq_true rfl) (by decide) (by decide) dX4_beginNext_1 rfl ?_
    refine v_aload_n (j := 0) C dX4_beginNext_4 rfl rfl rfl ?_
    refine v_getr (c := 0) C 4 flX4_27 (by decide) rfl rfl dX4_beginNext_5 rfl ?_
    refine v_aload_n (j := 2) C dX4_beginNext_8 rfl rfl rfl ?_
    refine v_geti (c := (31 + j)) C flX4_104 (lt_pc h_j) (lay_pc h_j) rfl dX4_beginNext_9 rfl ?_
    refine v_iald (c := 4) C (hD.tr h_j) (by decide) rfl dX4_beginNext_12 rfl ?_
    refine v_mmax C ksX4_323 (by omega) (Nat.le_of_ble_eq_true rfl) (by decide) (by decide) dX4_beginNext_13 rfl ?_
    refine v_istore C [(4, .int ((if (fr_X2_lastMinute sg r) < (sg 4 (ix (sg (31 + j) 3))) then (sg 4 (ix (sg (31 + j) 3))) else (fr_X2_lastMinute sg r)))), (0, .ref (xg X 0)), (1, .ref (xg X r)), (2, .ref (xg X (31 + j))), (3, .ref (xg X (37 + t)))] dX4_beginNext_16 (by decide) rfl rfl ?_
    refine v_aload_n (j := 1) C dX4_beginNext_18 rfl rfl rfl ?_
    refine v_aload_n (j := 2) C dX4_beginNext_19 rfl rfl rfl ?_
    refine v_aload_n (j := 3) C dX4_beginNext_20 rfl rfl rfl ?_
    refine v_aload_n (j := 4) C dX4_beginNext_21 rfl rfl rfl ?_
    refine v_callV (rest := []) (q := (RX4, TX4, 13)) C kvX4_328 (k_X4_workCarried sg o r j t h_r h_j h_t hD) (by decide) (by decide) rfl rfl rfl rfl rfl (Nat.le_of_ble_eq_true rfl) (by decide) (by decide) dX4_beginNext_22 rfl ?_
    refine v_aload_n (j := 3) C dX4_beginNext_25 rfl rfl rfl ?_
    refine v_geti (c := (31 + j)) C flX4_98 (lt_pc h_j) (lay_pc h_j) rfl dX4_beginNext_26 rfl ?_
    refine v_iadd C dX4_beginNext_29 rfl ?_
    refine v_aload_n (j := 4) C dX4_beginNext_30 rfl rfl rfl ?_
    refine v_geti (c := (37 + t)) C flX4_177 (lt_tn h_t) (lay_tn h_t) rfl dX4_beginNext_31 rfl ?_
    refine v_icmp_le (tgt := 41) C dX4_beginNext_34 (by decide) rfl (fun h34_1 => ?_) (fun h34_1 => ?_)
    · skip
      refine v_iconst (v := 0) C dX4_beginNext_41 (by decide) rfl ?_
      refine v_istore C [(5, .int 0), (4, .int ((if (fr_X2_lastMinute sg r) < (sg 4 (ix (sg (31 + j) 3))) then (sg 4 (ix (sg (31 + j) 3))) else (fr_X2_lastMinute sg r)))), (0, .ref (xg X 0)), (1, .ref (xg X r)), (2, .ref (xg X (31 + j))), (3, .ref (xg X (37 + t)))] dX4_beginNext_42 (by decide) rfl rfl ?_
      refine v_iload (j := 0) C dX4_beginNext_44 rfl rfl ?_
      refine v_if_eq (tgt := 59) C dX4_beginNext_46 (by decide) rfl (fun _ => ?_) (fun h => absurd h (by decide))
      refine v_iload (j := 1) C dX4_beginNext_59 rfl rfl ?_
      exact v_ret E dX4_beginNext_61 (by decide) (by decide) ((by simp only [fr_X4_beginNext, if_neg h34_1])) (rfl) rfl
    · skip
      refine v_iconst (v := 1) C dX4_beginNext_37 (by decide) rfl ?_
      refine v_goto (pc1 := 42) C dX4_beginNext_38 (by decide) ?_
      refine v_istore C [(5, .int 1), (4, .int ((if (fr_X2_lastMinute sg r) < (sg 4 (ix (sg (31 + j) 3))) then (sg 4 (ix (sg (31 + j) 3))) else (fr_X2_lastMinute sg r)))), (0, .ref (xg X 0)), (1, .ref (xg X r)), (2, .ref (xg X (31 + j))), (3, .ref (xg X (37 + t)))] dX4_beginNext_42 (by decide) rfl rfl ?_
      refine v_iload (j := 0) C dX4_beginNext_44 rfl rfl ?_
      refine v_if_eq (tgt := 59) C dX4_beginNext_46 (by decide) rfl (fun h => absurd h (by decide)) (fun _ => ?_)
      refine v_iload (j := 1) C dX4_beginNext_49 rfl rfl ?_
      refine v_aload_n (j := 5) C dX4_beginNext_51 rfl rfl rfl ?_
      refine v_geti (c := (37 + t)) C flX4_180 (lt_tn h_t) (lay_tn h_t) rfl dX4_beginNext_52 rfl ?_
      refine v_iadd C dX4_beginNext_55 rfl ?_
      refine v_goto (pc1 := 61) C dX4_beginNext_56 (by decide) ?_
      exact v_ret E dX4_beginNext_61 (by decide) (by decide) ((by simp only [fr_X4_beginNext, if_pos h34_1])) (rfl) rfl
def fr_X4_workNext (sg : Sg) (r : Nat) (j : Nat) (t : Nat) : Int32 := (if (sg (37 + t) 2) < ((fr_X4_workCarried sg r j t) + (sg (31 + j) 1)) then (sg (31 + j) 1) else ((fr_X4_workCarried sg r j t) + (sg (31 + j) 1)))
set_option maxHeartbeats 4000000 in
set_option maxRecDepth 20000 in
theorem k_X4_workNext {l : Launch} {D : va_G} {K : Nat → ClassId} {g : Nat → Nat} (sg : Sg) (o : Ot) (r : Nat) (j : Nat) (t : Nat) (h_r : isR r) (h_j : j < 6) (h_t : t < 4) (hD : DI sg) : CN l yX4_workNext cX4_workNext 5 (some .int) 3 D K g [.ref (g 0), .ref (g r), .ref (g (31 + j)), .ref (g (37 + t))] sg o (some (.int (fr_X4_workNext sg r j t))) sg o :=
  mk_i (own := RX4) (av := fun g => [.ref (g 0), .ref (g r), .ref (g (31 + j)), .ref (g (37 + t))]) (lo := fun g => [(0, .ref (g 0)), (1, .ref (g r)), (2, .ref (g (31 + j))), (3, .ref (g (37 + t)))]) (by decide) rfl rfl (fun _ => Nat.le_of_ble_eq_true rfl) (fun _ => rfl) fun X C E => by
    have hR_r : r = 5 ∨ r = 11 ∨ r = 17 := h_r
    refine v_aload_n (j := 0) C dX4_workNext_0 rfl rfl rfl ?_
    refine v_aload_n (j := 1) C dX4_workNext_1 rfl rfl rfl ?_
    refine v_aload_n (j := 2) C dX4_workNext_2 rfl rfl rfl ?_
    refine v_aload_n (j := 3) C dX4_workNext_3 rfl rfl rfl ?_
    refine v_callV (rest := []) (q := (RX4, TX4, 13)) C kvX4_328 (k_X4_workCarried sg o r j t h_r h_j h_t hD) (by decide) (by decide) rfl rfl rfl rfl rfl (Nat.le_of_ble_eq_true rfl) (by decide) (by decide) dX4_workNext_4 rfl ?_
    refine v_aload_n (j := 2) C dX4_workNext_7 rfl rfl rfl ?_
    refine v_geti (c := (31 + j)) C flX4_98 (lt_pc h_j) (lay_pc h_j) rfl dX4_workNext_8 rfl ?_
    refine v_iadd C dX4_workNext_11 rfl ?_
    refine v_istore C [(4, .int ((fr_X4_workCarried sg r j t) + (sg (31 + j) 1))), (0, .ref (xg X 0)), (1, .ref (xg X r)), (2, .ref (xg X (31 + j))), (3, .ref (xg X (37 + t)))] dX4_workNext_12 (by decide) rfl rfl ?_
    refine v_iload (j := 0) C dX4_workNext_14 rfl rfl ?_
    refine v_aload_n (j := 4) C dX4_workNext_16 rfl rfl rfl ?_
    refine v_geti (c := (37 + t)) C flX4_177 (lt_tn h_t) (lay_tn h_t) rfl dX4_workNext_17 rfl ?_
    refine v_icmp_le (tgt := 30) C dX4_workNext_20 (by decide) rfl (fun h20_1 => ?_) (fun h20_1 => ?_)
    · skip
      refine v_iload (j := 0) C dX4_workNext_30 rfl rfl ?_
      exact v_ret E dX4_workNext_32 (by decide) (by decide) ((by simp only [fr_X4_workNext, if_neg h20_1])) (rfl) rfl
    · skip
      refine v_aload_n (j := 3) C dX4_workNext_23 rfl rfl rfl ?_
      refine v_geti (c := (31 + j)) C flX4_98 (lt_pc h_j) (lay_pc h_j) rfl dX4_workNext_24 rfl ?_
      refine v_goto (pc1 := 32) C dX4_workNext_27 (by decide) ?_
      exact v_ret E dX4_workNext_32 (by decide) (by decide) ((by simp only [fr_X4_workNext, if_pos h20_1])) (rfl) rfl
def fr_X4_reasonAgainst (sg : Sg) (r : Nat) (p : Int32) : Int32 := (if sg 0 10 < 0 then 116 else (if ¬ (sg r 6) >>> (p &&& 31) &&& 1 = 0 then 104 else (if ¬ sg (31 + (ix p)) 4 < 0 ∧ ¬ sg (31 + (ix p)) 5 < 0 then (if ((sg (31 + (ix p)) 8) &&& ((sg r 6) ^^^ ((-1)))) = 0 then (if (sg (37 + ix (sg 0 10)) 2) < (sg (31 + (ix p)) 1) then 115 else (if ¬ sg (31 + (ix p)) 4 < 0 ∧ ¬ sg (31 + (ix p)) 5 < 0 ∧ (fr_X3_allows sg (ix (sg 0 10)) (ix (sg (31 + (ix p)) 4)) < sg (r + 5) (ix (sg (31 + (ix p)) 4)) + sg (31 + (ix p)) 6 ∨ fr_X3_allows sg (ix (sg 0 10)) (ix (sg (31 + (ix p)) 5)) < sg (r + 5) (ix (sg (31 + (ix p)) 5)) + sg (31 + (ix p)) 7) then 108 else (if (sg (37 + ix (sg 0 10)) 4) < ((fr_X4_beginNext sg r (ix p) (ix (sg 0 10))) + (sg (31 + (ix p)) 1)) then 99 else 45))) else 110) else 102)))
theorem chr_X4_reasonAgainst (sg : Sg) (r : Nat) (p : Int32) : narrow .char (.int (fr_X4_reasonAgainst sg r p)) = .int (fr_X4_reasonAgainst sg r p) := (chr_if rfl (chr_if rfl (chr_if (chr_if (chr_if rfl (chr_if rfl (chr_if rfl rfl))) rfl) rfl)))
set_option maxHeartbeats 4000000 in
set_option maxRecDepth 20000 in
theorem k_X4_reasonAgainst {l : Launch} {D : va_G} {K : Nat → ClassId} {g : Nat → Nat} (sg : Sg) (o : Ot) (r : Nat) (p : Int32) (h_r : isR r) (hD : DI sg) (hp : vp_in p 6) : CN l yX4_reasonAgainst cX4_reasonAgainst 5 (some .char) 4 D K g [.ref (g 0), .ref (g r), .int p] sg o (some (.int (fr_X4_reasonAgainst sg r p))) sg o :=
  mk_i (own := RX4) (av := fun g => [.ref (g 0), .ref (g r), .int p]) (lo := fun g => [(0, .ref (g 0)), (1, .ref (g r)), (2, .int p)]) (by decide) rfl (chr_X4_reasonAgainst sg r p) (fun _ => Nat.le_of_ble_eq_true rfl) (fun _ => rfl) fun X C E => by
    have hR_r : r = 5 ∨ r = 11 ∨ r = 17 := h_r
    have hb_p := ix_lt hp
    refine v_aload_n (j := 0) C dX4_reasonAgainst_0 rfl rfl rfl ?_
    refine v_getp (c := 0) C flX4_54 (by decide) rfl rfl dX4_reasonAgainst_1 rfl (fun h1_1 => ?_) (fun h1_1 => ?_)
    · skip
      refine v_astore_nN C [(3, .null), (0, .ref (xg X 0)), (1, .ref (xg X r)), (2, .int p)] dX4_reasonAgainst_4 rfl (by decide) rfl rfl ?_
      refine v_aload_nN (j := 0) C dX4_reasonAgainst_5 rfl rfl rfl ?_
      refine v_ifnonnullN C dX4_reasonAgainst_6 rfl ?_
      refine v_bipush (v := 116) C dX4_reasonAgainst_9 (by decide) rfl ?_
      exact v_ret E dX4_reasonAgainst_11 (by decide) (by decide) ((by simp only [fr_X4_reasonAgainst, if_pos h1_1])) (rfl) rfl
    · skip
      refine v_astore_n C [(3, .ref (xg X (37 + ix (sg 0 10)))), (0, .ref (xg X 0)), (1, .ref (xg X r)), (2, .int p)] dX4_reasonAgainst_4 rfl (by decide) rfl rfl ?_
      refine v_aload_n (j := 0) C dX4_reasonAgainst_5 rfl rfl rfl ?_
      refine v_ifnonnull (tgt := 12) C dX4_reasonAgainst_6 (by decide) ?_
      refine v_iload_n (j := 3) C dX4_reasonAgainst_12 rfl rfl rfl ?_
      refine v_aload_n (j := 2) C dX4_reasonAgainst_13 rfl rfl rfl ?_
      refine v_geti (c := r) C flX4_307 (lt_rg h_r) (lay_rg h_r) rfl dX4_reasonAgainst_14 rfl ?_
      refine v_callS (rest := []) C ksX4_140 (k_X4_isIn sg o p (sg r 6)) (by decide) rfl rfl (Nat.le_of_ble_eq_true rfl) (by decide) (by decide) dX4_reasonAgainst_17 rfl ?_
      refine v_if_eqB (tgt := 26) C dX4_reasonAgainst_20 (by decide) rfl (fun h20_2 => ?_) (fun h20_2 => ?_)
      · skip
        refine v_aload_n (j := 1) C dX4_reasonAgainst_26 rfl rfl rfl ?_
        refine v_getr (c := 0) C 2 flX4_17 (by decide) rfl rfl dX4_reasonAgainst_27 rfl ?_
        refine v_iload_n (j := 3) C dX4_reasonAgainst_30 rfl rfl rfl ?_
        refine v_aald (c := 2) C (Or.inr (Or.inl rfl)) hp (by decide) rfl dX4_reasonAgainst_31 rfl ?_
        refine v_astore C [(4, .ref (xg X (31 + (ix p)))), (3, .ref (xg X (37 + ix (sg 0 10)))), (0, .ref (xg X 0)), (1, .ref (xg X r)), (2, .int p)] dX4_reasonAgainst_32 (by decide) rfl rfl ?_
        refine v_aload (j := 0) C dX4_reasonAgainst_34 rfl rfl ?_
        refine v_callV (rest := []) (q := (RX0, TX0, 9)) C kvX4_312 (k_X0_isFixed sg o (ix p) (ix_lt hp)) (by decide) (lt_pc (ix_lt hp)) (lay_pc (ix_lt hp)) rfl rfl rfl rfl (Nat.le_of_ble_eq_true rfl) (by decide) (by decide) dX4_reasonAgainst_36 rfl ?_
        refine v_if_neB (tgt := 45) C dX4_reasonAgainst_39 (by decide) rfl (fun h39_3 => ?_) (fun h39_3 => ?_)
        · skip
          refine v_aload (j := 0) C dX4_reasonAgainst_45 rfl rfl ?_
          refine v_geti (c := (31 + (ix p))) C flX4_149 (lt_pc (ix_lt hp)) (lay_pc (ix_lt hp)) rfl dX4_reasonAgainst_47 rfl ?_
          refine v_aload_n (j := 3) C dX4_reasonAgainst_50 rfl rfl rfl ?_
          refine v_geti (c := r) C flX4_307 (lt_rg h_r) (lay_rg h_r) rfl dX4_reasonAgainst_51 rfl ?_
          refine v_iconst (v := (-1)) C dX4_reasonAgainst_54 (by decide) rfl ?_
          refine v_ixor C dX4_reasonAgainst_55 rfl ?_
          refine v_iand C dX4_reasonAgainst_56 rfl ?_
          refine v_if_eq (tgt := 63) C dX4_reasonAgainst_57 (by decide) rfl (fun h57_4 => ?_) (fun h57_4 => ?_)
          · skip
            refine v_aload (j := 0) C dX4_reasonAgainst_63 rfl rfl ?_
            refine v_geti (c := (31 + (ix p))) C flX4_98 (lt_pc (ix_lt hp)) (lay_pc (ix_lt hp)) rfl dX4_reasonAgainst_65 rfl ?_
            refine v_aload_n (j := 1) C dX4_reasonAgainst_68 rfl rfl rfl ?_
            refine v_geti (c := (37 + ix (sg 0 10))) C flX4_177 (lt_tn (ix_lt (hD.tn h1_1))) (lay_tn (ix_lt (hD.tn h1_1))) rfl dX4_reasonAgainst_69 rfl ?_
            refine v_icmp_le (tgt := 78) C dX4_reasonAgainst_72 (by decide) rfl (fun h72_5 => ?_) (fun h72_5 => ?_)
            · skip
              refine v_aload_n (j := 2) C dX4_reasonAgainst_78 rfl rfl rfl ?_
              refine v_aload_n (j := 3) C dX4_reasonAgainst_79 rfl rfl rfl ?_
              refine v_aload (j := 0) C dX4_reasonAgainst_80 rfl rfl ?_
              refine v_aload_n (j := 1) C dX4_reasonAgainst_82 rfl rfl rfl ?_
              refine v_callV (rest := []) (q := (RX4, TX4, 13)) C kvX4_315 (k_X4_overloads sg o r (ix p) (ix (sg 0 10)) h_r (ix_lt hp) (ix_lt (hD.tn h1_1)) hD) (by decide) (by decide) rfl rfl rfl rfl rfl (Nat.le_of_ble_eq_true rfl) (by decide) (by decide) dX4_reasonAgainst_83 rfl ?_
              refine v_if_eqB (tgt := 92) C dX4_reasonAgainst_86 (by decide) rfl (fun h86_6 => ?_) (fun h86_6 => ?_)
              · skip
                refine v_aload_n (j := 2) C dX4_reasonAgainst_92 rfl rfl rfl ?_
                refine v_aload_n (j := 3) C dX4_reasonAgainst_93 rfl rfl rfl ?_
                refine v_aload (j := 0) C dX4_reasonAgainst_94 rfl rfl ?_
                refine v_aload_n (j := 1) C dX4_reasonAgainst_96 rfl rfl rfl ?_
                refine v_callV (rest := []) (q := (RX4, TX4, 13)) C kvX4_319 (k_X4_beginNext sg o r (ix p) (ix (sg 0 10)) h_r (ix_lt hp) (ix_lt (hD.tn h1_1)) hD) (by decide) (by decide) rfl rfl rfl rfl rfl (Nat.le_of_ble_eq_true rfl) (by decide) (by decide) dX4_reasonAgainst_97 rfl ?_
                refine v_aload (j := 0) C dX4_reasonAgainst_100 rfl rfl ?_
                refine v_geti (c := (31 + (ix p))) C flX4_98 (lt_pc (ix_lt hp)) (lay_pc (ix_lt hp)) rfl dX4_reasonAgainst_102 rfl ?_
                refine v_iadd C dX4_reasonAgainst_105 rfl ?_
                refine v_aload_n (j := 1) C dX4_reasonAgainst_106 rfl rfl rfl ?_
                refine v_geti (c := (37 + ix (sg 0 10))) C flX4_183 (lt_tn (ix_lt (hD.tn h1_1))) (lay_tn (ix_lt (hD.tn h1_1))) rfl dX4_reasonAgainst_107 rfl ?_
                refine v_icmp_le (tgt := 116) C dX4_reasonAgainst_110 (by decide) rfl (fun h110_7 => ?_) (fun h110_7 => ?_)
                · skip
                  refine v_bipush (v := 45) C dX4_reasonAgainst_116 (by decide) rfl ?_
                  exact v_ret E dX4_reasonAgainst_118 (by decide) (by decide) ((by first | contradiction | simp only [fr_X4_reasonAgainst, if_neg h1_1, if_neg h20_2, if_pos h39_3, if_pos h57_4, if_neg h72_5, if_neg h86_6, if_neg h110_7])) (rfl) rfl
                · skip
                  refine v_bipush (v := 99) C dX4_reasonAgainst_113 (by decide) rfl ?_
                  exact v_ret E dX4_reasonAgainst_115 (by decide) (by decide) ((by first | contradiction | simp only [fr_X4_reasonAgainst, if_neg h1_1, if_neg h20_2, if_pos h39_3, if_pos h57_4, if_neg h72_5, if_neg h86_6, if_pos h110_7])) (rfl) rfl
              · skip
                refine v_bipush (v := 108) C dX4_reasonAgainst_89 (by decide) rfl ?_
                exact v_ret E dX4_reasonAgainst_91 (by decide) (by decide) ((by first | contradiction | simp only [fr_X4_reasonAgainst, if_neg h1_1, if_neg h20_2, if_pos h39_3, if_pos h57_4, if_neg h72_5, if_pos h86_6])) (rfl) rfl
            · skip
              refine v_bipush (v := 115) C dX4_reasonAgainst_75 (by decide) rfl ?_
              exact v_ret E dX4_reasonAgainst_77 (by decide) (by decide) ((by first | contradiction | simp only [fr_X4_reasonAgainst, if_neg h1_1, if_neg h20_2, if_pos h39_3, if_pos h57_4, if_pos h72_5])) (rfl) rfl
          · skip
            refine v_bipush (v := 110) C dX4_reasonAgainst_60 (by decide) rfl ?_
            exact v_ret E dX4_reasonAgainst_62 (by decide) (by decide) ((by first | contradiction | simp only [fr_X4_reasonAgainst, if_neg h1_1, if_neg h20_2, if_pos h39_3, if_neg h57_4])) (rfl) rfl
        · skip
          refine v_bipush (v := 102) C dX4_reasonAgainst_42 (by decide) rfl ?_
          exact v_ret E dX4_reasonAgainst_44 (by decide) (by decide) ((by first | contradiction | simp only [fr_X4_reasonAgainst, if_neg h1_1, if_neg h20_2, if_neg h39_3])) (rfl) rfl
      · skip
        refine v_bipush (v := 104) C dX4_reasonAgainst_23 (by decide) rfl ?_
        exact v_ret E dX4_reasonAgainst_25 (by decide) (by decide) ((by simp only [fr_X4_reasonAgainst, if_neg h1_1, if_pos h20_2])) (rfl) rfl
def fs_X4_putOn (sg : Sg) (r : Nat) (p : Int32) (t : Nat) : Sg := (if (sg r 5) < 6 then (if (sg (31 + (ix p)) 4) < 0 then sg else (if (sg (31 + (ix p)) 5) < 0 then sg else (up (up (up (up (up (up (up (up (up sg (r + 1) (ix (sg r 5)) p) (r + 2) (ix (sg r 5)) (fr_X4_beginNext sg r (ix p) t)) (r + 3) (ix (sg r 5)) ((fr_X4_beginNext sg r (ix p) t) + (sg (31 + (ix p)) 1))) (r + 4) (ix (sg r 5)) (fr_X4_workNext sg r (ix p) t)) (r + 5) (ix (sg (31 + (ix p)) 4)) ((sg (r + 5) (ix (sg (31 + (ix p)) 4))) + (sg (31 + (ix p)) 6))) (r + 5) (ix (sg (31 + (ix p)) 5)) ((if (ix (sg (31 + (ix p)) 5)) = (ix (sg (31 + (ix p)) 4)) then ((sg (r + 5) (ix (sg (31 + (ix p)) 4))) + (sg (31 + (ix p)) 6)) else sg (r + 5) (ix (sg (31 + (ix p)) 5))) + (sg (31 + (ix p)) 7))) r 6 ((sg r 6) ||| (1 <<< (p &&& 31)))) r 7 ((sg r 7) + (sg (31 + (ix p)) 2))) r 5 ((sg r 5) + 1)))) else sg)
set_option maxHeartbeats 4000000 in
set_option maxRecDepth 20000 in
theorem k_X4_putOn {l : Launch} {D : va_G} {K : Nat → ClassId} {g : Nat → Nat} (sg : Sg) (o : Ot) (r : Nat) (p : Int32) (t : Nat) (h_r : isR r) (h_t : t < 4) (hD : DI sg) (hp : vp_in p 6) : CN l yX4_putOn cX4_putOn 8 none 4 D K g [.ref (g 0), .ref (g r), .int p, .ref (g (37 + t))] sg o none (fs_X4_putOn sg r p t) o :=
  mk_v (own := RX4) (av := fun g => [.ref (g 0), .ref (g r), .int p, .ref (g (37 + t))]) (lo := fun g => [(0, .ref (g 0)), (1, .ref (g r)), (2, .int p), (3, .ref (g (37 + t)))]) (by decide) rfl (fun _ => Nat.le_of_ble_eq_true rfl) (fun _ => rfl) fun X C E => by
    have hR_r : r = 5 ∨ r = 11 ∨ r = 17 := h_r
    have hb_p := ix_lt hp
    refine v_aload_n (j := 0) C dX4_putOn_0 rfl rfl rfl ?_
    refine v_getr (c := 0) C 2 flX4_17 (by decide) rfl rfl dX4_putOn_1 rfl ?_
    refine v_iload_n (j := 2) C dX4_putOn_4 rfl rfl rfl ?_
    refine v_aald (c := 2) C (Or.inr (Or.inl rfl)) hp (by decide) rfl dX4_putOn_5 rfl ?_
    refine v_astore C [(4, .ref (xg X (31 + (ix p)))), (0, .ref (xg X 0)), (1, .ref (xg X r)), (2, .int p), (3, .ref (xg X (37 + t)))] dX4_putOn_6 (by decide) rfl rfl ?_
    refine v_aload_n (j := 2) C dX4_putOn_8 rfl rfl rfl ?_
    refine v_geti (c := r) C flX4_200 (lt_rg h_r) (lay_rg h_r) rfl dX4_putOn_9 rfl ?_
    refine v_istore C [(5, .int (sg r 5)), (4, .ref (xg X (31 + (ix p)))), (0, .ref (xg X 0)), (1, .ref (xg X r)), (2, .int p), (3, .ref (xg X (37 + t)))] dX4_putOn_12 (by decide) rfl rfl ?_
    refine v_iload (j := 0) C dX4_putOn_14 rfl rfl ?_
    refine v_bipush (v := 6) C dX4_putOn_16 (by decide) rfl ?_
    refine v_icmp_ge (tgt := 37) C dX4_putOn_18 (by decide) rfl (fun h18_1 => ?_) (fun h18_1 => ?_)
    · skip
      skip
      exact v_vret E dX4_putOn_37 (by decide) (by decide) ((by simp only [fs_X4_putOn, if_neg h18_1])) rfl
    · skip
      have hsz := (hD.sz h_r).lt' (by decide) h18_1
      refine v_aload (j := 1) C dX4_putOn_21 rfl rfl ?_
      refine v_geti (c := (31 + (ix p))) C flX4_118 (lt_pc (ix_lt hp)) (lay_pc (ix_lt hp)) rfl dX4_putOn_23 rfl ?_
      refine v_if_lt (tgt := 37) C dX4_putOn_26 (by decide) rfl (fun h26_2 => ?_) (fun h26_2 => ?_)
      · skip
        exact v_vret E dX4_putOn_37 (by decide) (by decide) ((by simp only [fs_X4_putOn, if_pos h18_1, if_pos h26_2])) rfl
      · skip
        refine v_aload (j := 1) C dX4_putOn_29 rfl rfl ?_
        refine v_geti (c := (31 + (ix p))) C flX4_121 (lt_pc (ix_lt hp)) (lay_pc (ix_lt hp)) rfl dX4_putOn_31 rfl ?_
        refine v_if_ge (tgt := 38) C dX4_putOn_34 (by decide) rfl (fun h34_3 => ?_) (fun h34_3 => ?_)
        · skip
          refine v_aload_n (j := 2) C dX4_putOn_38 rfl rfl rfl ?_
          refine v_aload_n (j := 3) C dX4_putOn_39 rfl rfl rfl ?_
          refine v_aload (j := 1) C dX4_putOn_40 rfl rfl ?_
          refine v_aload_n (j := 5) C dX4_putOn_42 rfl rfl rfl ?_
          refine v_callV (rest := []) (q := (RX4, TX4, 13)) C kvX4_319 (k_X4_beginNext sg o r (ix p) t h_r (ix_lt hp) h_t hD) (by decide) (by decide) rfl rfl rfl rfl rfl (Nat.le_of_ble_eq_true rfl) (by decide) (by decide) dX4_putOn_43 rfl ?_
          refine v_istore C [(6, .int (fr_X4_beginNext sg r (ix p) t)), (5, .int (sg r 5)), (4, .ref (xg X (31 + (ix p)))), (0, .ref (xg X 0)), (1, .ref (xg X r)), (2, .int p), (3, .ref (xg X (37 + t)))] dX4_putOn_46 (by decide) rfl rfl ?_
          refine v_aload_n (j := 3) C dX4_putOn_48 rfl rfl rfl ?_
          refine v_aload_n (j := 4) C dX4_putOn_49 rfl rfl rfl ?_
          refine v_aload (j := 2) C dX4_putOn_50 rfl rfl ?_
          refine v_aload_n (j := 6) C dX4_putOn_52 rfl rfl rfl ?_
          refine v_callV (rest := []) (q := (RX4, TX4, 13)) C kvX4_331 (k_X4_workNext sg o r (ix p) t h_r (ix_lt hp) h_t hD) (by decide) (by decide) rfl rfl rfl rfl rfl (Nat.le_of_ble_eq_true rfl) (by decide) (by decide) dX4_putOn_53 rfl ?_
          refine v_istore C [(7, .int (fr_X4_workNext sg r (ix p) t)), (6, .int (fr_X4_beginNext sg r (ix p) t)), (5, .int (sg r 5)), (4, .ref (xg X (31 + (ix p)))), (0, .ref (xg X 0)), (1, .ref (xg X r)), (2, .int p), (3, .ref (xg X (37 + t)))] dX4_putOn_56 (by decide) rfl rfl ?_
          refine v_aload_n (j := 5) C dX4_putOn_58 rfl rfl rfl ?_
          refine v_getr (c := r) C (r + 1) flX4_240 (lt_rg h_r) (lay_rg h_r) rfl dX4_putOn_59 rfl ?_
          refine v_iload (j := 2) C dX4_putOn_62 rfl rfl ?_
          refine v_iload_n (j := 6) C dX4_putOn_64 rfl rfl rfl ?_
          refine v_iast (c := (r + 1)) C hsz (lt_ra h_r (by decide)) (lay_r1 h_r) dX4_putOn_65 rfl ?_
          refine v_aload_n (j := 5) C dX4_putOn_66 rfl rfl rfl ?_
          refine v_getr (c := r) C (r + 2) flX4_256 (lt_rg h_r) (lay_rg h_r) rfl dX4_putOn_67 rfl ?_
          refine v_iload (j := 2) C dX4_putOn_70 rfl rfl ?_
          refine v_iload (j := 1) C dX4_putOn_72 rfl rfl ?_
          refine v_iast (c := (r + 2)) C hsz (lt_ra h_r (by decide)) (lay_r2 h_r) dX4_putOn_74 rfl ?_
          refine v_aload_n (j := 5) C dX4_putOn_75 rfl rfl rfl ?_
          refine v_getr (c := r) C (r + 3) flX4_334 (lt_rg h_r) (lay_rg h_r) rfl dX4_putOn_76 rfl ?_
          refine v_iload (j := 2) C dX4_putOn_79 rfl rfl ?_
          refine v_iload (j := 1) C dX4_putOn_81 rfl rfl ?_
          refine v_aload (j := 3) C dX4_putOn_83 rfl rfl ?_
          refine v_geti (c := (31 + (ix p))) C flX4_98 (lt_pc (ix_lt hp)) (lay_pc (ix_lt hp)) rfl dX4_putOn_85 rfl ?_
          refine v_rwi (y := sg (31 + (ix p)) 1) ((up_ne _ _ (Or.inl (by omega))).trans ((up_ne _ _ (Or.inl (by omega))).trans rfl)) ?_
          refine v_iadd C dX4_putOn_88 rfl ?_
          refine v_iast (c := (r + 3)) C hsz (lt_ra h_r (by decide)) (lay_r3 h_r) dX4_putOn_89 rfl ?_
          refine v_aload_n (j := 5) C dX4_putOn_90 rfl rfl rfl ?_
          refine v_getr (c := r) C (r + 4) flX4_337 (lt_rg h_r) (lay_rg h_r) rfl dX4_putOn_91 rfl ?_
          refine v_iload (j := 2) C dX4_putOn_94 rfl rfl ?_
          refine v_iload (j := 0) C dX4_putOn_96 rfl rfl ?_
          refine v_iast (c := (r + 4)) C hsz (lt_ra h_r (by decide)) (lay_r4 h_r) dX4_putOn_98 rfl ?_
          refine v_aload_n (j := 5) C dX4_putOn_99 rfl rfl rfl ?_
          refine v_getr (c := r) C (r + 5) flX4_221 (lt_rg h_r) (lay_rg h_r) rfl dX4_putOn_100 rfl ?_
          refine v_aload (j := 3) C dX4_putOn_103 rfl rfl ?_
          refine v_geti (c := (31 + (ix p))) C flX4_118 (lt_pc (ix_lt hp)) (lay_pc (ix_lt hp)) rfl dX4_putOn_105 rfl ?_
          refine v_rwi (y := sg (31 + (ix p)) 4) ((up_ne _ _ (Or.inl (by omega))).trans ((up_ne _ _ (Or.inl (by omega))).trans ((up_ne _ _ (Or.inl (by omega))).trans ((up_ne _ _ (Or.inl (by omega))).trans rfl)))) ?_
          refine v_dup2 C dX4_putOn_108 rfl rfl rfl ?_
          refine v_iald (c := (r + 5)) C (hD.lf (ix_lt hp) (by assumption)) (lt_ra h_r (by decide)) (lay_r5 h_r) dX4_putOn_109 rfl ?_
          refine v_rwi (y := sg (r + 5) (ix (sg (31 + (ix p)) 4))) ((up_ne _ _ (Or.inl (by omega))).trans ((up_ne _ _ (Or.inl (by omega))).trans ((up_ne _ _ (Or.inl (by omega))).trans ((up_ne _ _ (Or.inl (by omega))).trans rfl)))) ?_
          refine v_aload (j := 3) C dX4_putOn_110 rfl rfl ?_
          refine v_geti (c := (31 + (ix p))) C flX4_128 (lt_pc (ix_lt hp)) (lay_pc (ix_lt hp)) rfl dX4_putOn_112 rfl ?_
          refine v_rwi (y := sg (31 + (ix p)) 6) ((up_ne _ _ (Or.inl (by omega))).trans ((up_ne _ _ (Or.inl (by omega))).trans ((up_ne _ _ (Or.inl (by omega))).trans ((up_ne _ _ (Or.inl (by omega))).trans rfl)))) ?_
          refine v_iadd C dX4_putOn_115 rfl ?_
          refine v_iast (c := (r + 5)) C (hD.lf (ix_lt hp) (by assumption)) (lt_ra h_r (by decide)) (lay_r5 h_r) dX4_putOn_116 rfl ?_
          refine v_aload_n (j := 5) C dX4_putOn_117 rfl rfl rfl ?_
          refine v_getr (c := r) C (r + 5) flX4_221 (lt_rg h_r) (lay_rg h_r) rfl dX4_putOn_118 rfl ?_
          refine v_aload (j := 3) C dX4_putOn_121 rfl rfl ?_
          refine v_geti (c := (31 + (ix p))) C flX4_121 (lt_pc (ix_lt hp)) (lay_pc (ix_lt hp)) rfl dX4_putOn_123 rfl ?_
          refine v_rwi (y := sg (31 + (ix p)) 5) ((up_ne _ _ (Or.inl (by omega))).trans ((up_ne _ _ (Or.inl (by omega))).trans ((up_ne _ _ (Or.inl (by omega))).trans ((up_ne _ _ (Or.inl (by omega))).trans ((up_ne _ _ (Or.inl (by omega))).trans rfl))))) ?_
          refine v_dup2 C dX4_putOn_126 rfl rfl rfl ?_
          refine v_iald (c := (r + 5)) C (hD.rt (ix_lt hp) (by assumption)) (lt_ra h_r (by decide)) (lay_r5 h_r) dX4_putOn_127 rfl ?_
          refine v_rwi (y := if (ix (sg (31 + (ix p)) 5)) = (ix (sg (31 + (ix p)) 4)) then ((sg (r + 5) (ix (sg (31 + (ix p)) 4))) + (sg (31 + (ix p)) 6)) else sg (r + 5) (ix (sg (31 + (ix p)) 5))) (up_if ((up_ne _ _ (Or.inl (by omega))).trans ((up_ne _ _ (Or.inl (by omega))).trans ((up_ne _ _ (Or.inl (by omega))).trans ((up_ne _ _ (Or.inl (by omega))).trans rfl))))) ?_
          refine v_aload (j := 3) C dX4_putOn_128 rfl rfl ?_
          refine v_geti (c := (31 + (ix p))) C flX4_131 (lt_pc (ix_lt hp)) (lay_pc (ix_lt hp)) rfl dX4_putOn_130 rfl ?_
          refine v_rwi (y := sg (31 + (ix p)) 7) ((up_ne _ _ (Or.inl (by omega))).trans ((up_ne _ _ (Or.inl (by omega))).trans ((up_ne _ _ (Or.inl (by omega))).trans ((up_ne _ _ (Or.inl (by omega))).trans ((up_ne _ _ (Or.inl (by omega))).trans rfl))))) ?_
          refine v_iadd C dX4_putOn_133 rfl ?_
          refine v_iast (c := (r + 5)) C (hD.rt (ix_lt hp) (by assumption)) (lt_ra h_r (by decide)) (lay_r5 h_r) dX4_putOn_134 rfl ?_
          refine v_aload_n (j := 5) C dX4_putOn_135 rfl rfl rfl ?_
          refine v_dup C dX4_putOn_136 rfl rfl ?_
          refine v_geti (c := r) C flX4_307 (lt_rg h_r) (lay_rg h_r) rfl dX4_putOn_137 rfl ?_
          refine v_rwi (y := sg r 6) ((up_ne _ _ (Or.inl (by omega))).trans ((up_ne _ _ (Or.inl (by omega))).trans ((up_ne _ _ (Or.inl (by omega))).trans ((up_ne _ _ (Or.inl (by omega))).trans ((up_ne _ _ (Or.inl (by omega))).trans ((up_ne _ _ (Or.inl (by omega))).trans rfl)))))) ?_
          refine v_iconst (v := 1) C dX4_putOn_140 (by decide) rfl ?_
          refine v_iload_n (j := 6) C dX4_putOn_141 rfl rfl rfl ?_
          refine v_ishl C dX4_putOn_142 rfl ?_
          refine v_ior C dX4_putOn_143 rfl ?_
          refine v_puti (c := r) C fpX4_307 (lt_rg h_r) (lay_rg h_r) rfl dX4_putOn_144 rfl ?_
          refine v_aload_n (j := 5) C dX4_putOn_147 rfl rfl rfl ?_
          refine v_dup C dX4_putOn_148 rfl rfl ?_
          refine v_geti (c := r) C flX4_273 (lt_rg h_r) (lay_rg h_r) rfl dX4_putOn_149 rfl ?_
          refine v_rwi (y := sg r 7) ((up_ne _ _ (Or.inr (by decide))).trans ((up_ne _ _ (Or.inl (by omega))).trans ((up_ne _ _ (Or.inl (by omega))).trans ((up_ne _ _ (Or.inl (by omega))).trans ((up_ne _ _ (Or.inl (by omega))).trans ((up_ne _ _ (Or.inl (by omega))).trans ((up_ne _ _ (Or.inl (by omega))).trans rfl))))))) ?_
          refine v_aload (j := 3) C dX4_putOn_152 rfl rfl ?_
          refine v_geti (c := (31 + (ix p))) C flX4_101 (lt_pc (ix_lt hp)) (lay_pc (ix_lt hp)) rfl dX4_putOn_154 rfl ?_
          refine v_rwi (y := sg (31 + (ix p)) 2) ((up_ne _ _ (Or.inl (by omega))).trans ((up_ne _ _ (Or.inl (by omega))).trans ((up_ne _ _ (Or.inl (by omega))).trans ((up_ne _ _ (Or.inl (by omega))).trans ((up_ne _ _ (Or.inl (by omega))).trans ((up_ne _ _ (Or.inl (by omega))).trans ((up_ne _ _ (Or.inl (by omega))).trans rfl))))))) ?_
          refine v_iadd C dX4_putOn_157 rfl ?_
          refine v_puti (c := r) C fpX4_273 (lt_rg h_r) (lay_rg h_r) rfl dX4_putOn_158 rfl ?_
          refine v_aload_n (j := 5) C dX4_putOn_161 rfl rfl rfl ?_
          refine v_iload (j := 2) C dX4_putOn_162 rfl rfl ?_
          refine v_iconst (v := 1) C dX4_putOn_164 (by decide) rfl ?_
          refine v_iadd C dX4_putOn_165 rfl ?_
          refine v_puti (c := r) C fpX4_200 (lt_rg h_r) (lay_rg h_r) rfl dX4_putOn_166 rfl ?_
          exact v_vret E dX4_putOn_169 (by decide) (by decide) ((by first | contradiction | simp only [fs_X4_putOn, if_pos h18_1, if_neg h26_2, if_neg h34_3])) rfl
        · skip
          exact v_vret E dX4_putOn_37 (by decide) (by decide) ((by first | contradiction | simp only [fs_X4_putOn, if_pos h18_1, if_neg h26_2, if_pos h34_3])) rfl
def fs_X4_takeLastOff (sg : Sg) (r : Nat) : Sg := (if ((sg r 5) - 1) < 0 then sg else (if (sg (31 + (ix (sg (r + 1) (ix ((sg r 5) - 1))))) 4) < 0 then sg else (if (sg (31 + (ix (sg (r + 1) (ix ((sg r 5) - 1))))) 5) < 0 then sg else (up (up (up (up (up sg (r + 5) (ix (sg (31 + (ix (sg (r + 1) (ix ((sg r 5) - 1))))) 4)) ((sg (r + 5) (ix (sg (31 + (ix (sg (r + 1) (ix ((sg r 5) - 1))))) 4))) - (sg (31 + (ix (sg (r + 1) (ix ((sg r 5) - 1))))) 6))) (r + 5) (ix (sg (31 + (ix (sg (r + 1) (ix ((sg r 5) - 1))))) 5)) ((if (ix (sg (31 + (ix (sg (r + 1) (ix ((sg r 5) - 1))))) 5)) = (ix (sg (31 + (ix (sg (r + 1) (ix ((sg r 5) - 1))))) 4)) then ((sg (r + 5) (ix (sg (31 + (ix (sg (r + 1) (ix ((sg r 5) - 1))))) 4))) - (sg (31 + (ix (sg (r + 1) (ix ((sg r 5) - 1))))) 6)) else sg (r + 5) (ix (sg (31 + (ix (sg (r + 1) (ix ((sg r 5) - 1))))) 5))) - (sg (31 + (ix (sg (r + 1) (ix ((sg r 5) - 1))))) 7))) r 6 ((sg r 6) &&& ((1 <<< ((sg (r + 1) (ix ((sg r 5) - 1))) &&& 31)) ^^^ ((-1))))) r 7 ((sg r 7) - (sg (31 + (ix (sg (r + 1) (ix ((sg r 5) - 1))))) 2))) r 5 ((sg r 5) - 1)))))
set_option maxHeartbeats 4000000 in
set_option maxRecDepth 20000 in
theorem k_X4_takeLastOff {l : Launch} {D : va_G} {K : Nat → ClassId} {g : Nat → Nat} (sg : Sg) (o : Ot) (r : Nat) (h_r : isR r) (hD : DI sg) : CN l yX4_takeLastOff cX4_takeLastOff 5 none 1 D K g [.ref (g 0), .ref (g r)] sg o none (fs_X4_takeLastOff sg r) o :=
  mk_v (own := RX4) (av := fun g => [.ref (g 0), .ref (g r)]) (lo := fun g => [(0, .ref (g 0)), (1, .ref (g r))]) (by decide) rfl (fun _ => Nat.le_of_ble_eq_true rfl) (fun _ => rfl) fun X C E => by
    have hR_r : r = 5 ∨ r = 11 ∨ r = 17 := h_r
    refine v_aload_n (j := 1) C dX4_takeLastOff_0 rfl rfl rfl ?_
    refine v_geti (c := r) C flX4_200 (lt_rg h_r) (lay_rg h_r) rfl dX4_takeLastOff_1 rfl ?_
    refine v_iconst (v := 1) C dX4_takeLastOff_4 (by decide) rfl ?_
    refine v_isub C dX4_takeLastOff_5 rfl ?_
    refine v_istore_n C [(2, .int ((sg r 5) - 1)), (0, .ref (xg X 0)), (1, .ref (xg X r))] dX4_takeLastOff_6 rfl (by decide) rfl rfl ?_
    refine v_iload_n (j := 0) C dX4_takeLastOff_7 rfl rfl rfl ?_
    refine v_if_ge (tgt := 12) C dX4_takeLastOff_8 (by decide) rfl (fun h8_1 => ?_) (fun h8_1 => ?_)
    · skip
      have hq0 := sub_nn (hD.sz h_r) (by decide) h8_1; have hq1 := hD.last h_r hq0; have hq2 := hD.lasto h_r hq0; have hb_q := ix_lt hq2
      refine v_aload_n (j := 2) C dX4_takeLastOff_12 rfl rfl rfl ?_
      refine v_getr (c := r) C (r + 1) flX4_240 (lt_rg h_r) (lay_rg h_r) rfl dX4_takeLastOff_13 rfl ?_
      refine v_iload_n (j := 0) C dX4_takeLastOff_16 rfl rfl rfl ?_
      refine v_iald (c := (r + 1)) C hq1 (lt_ra h_r (by decide)) (lay_r1 h_r) dX4_takeLastOff_17 rfl ?_
      refine v_istore_n C [(3, .int (sg (r + 1) (ix ((sg r 5) - 1)))), (2, .int ((sg r 5) - 1)), (0, .ref (xg X 0)), (1, .ref (xg X r))] dX4_takeLastOff_18 rfl (by decide) rfl rfl ?_
      refine v_aload_n (j := 2) C dX4_takeLastOff_19 rfl rfl rfl ?_
      refine v_getr (c := 0) C 2 flX4_17 (by decide) rfl rfl dX4_takeLastOff_20 rfl ?_
      refine v_iload_n (j := 0) C dX4_takeLastOff_23 rfl rfl rfl ?_
      refine v_aald (c := 2) C (Or.inr (Or.inl rfl)) hq2 (by decide) rfl dX4_takeLastOff_24 rfl ?_
      refine v_astore C [(4, .ref (xg X (31 + (ix (sg (r + 1) (ix ((sg r 5) - 1))))))), (3, .int (sg (r + 1) (ix ((sg r 5) - 1)))), (2, .int ((sg r 5) - 1)), (0, .ref (xg X 0)), (1, .ref (xg X r))] dX4_takeLastOff_25 (by decide) rfl rfl ?_
      refine v_aload (j := 0) C dX4_takeLastOff_27 rfl rfl ?_
      refine v_geti (c := (31 + (ix (sg (r + 1) (ix ((sg r 5) - 1)))))) C flX4_118 (lt_pc (ix_lt hq2)) (lay_pc (ix_lt hq2)) rfl dX4_takeLastOff_29 rfl ?_
      refine v_if_lt (tgt := 43) C dX4_takeLastOff_32 (by decide) rfl (fun h32_2 => ?_) (fun h32_2 => ?_)
      · skip
        exact v_vret E dX4_takeLastOff_43 (by decide) (by decide) ((by simp only [fs_X4_takeLastOff, if_neg h8_1, if_pos h32_2])) rfl
      · skip
        refine v_aload (j := 0) C dX4_takeLastOff_35 rfl rfl ?_
        refine v_geti (c := (31 + (ix (sg (r + 1) (ix ((sg r 5) - 1)))))) C flX4_121 (lt_pc (ix_lt hq2)) (lay_pc (ix_lt hq2)) rfl dX4_takeLastOff_37 rfl ?_
        refine v_if_ge (tgt := 44) C dX4_takeLastOff_40 (by decide) rfl (fun h40_3 => ?_) (fun h40_3 => ?_)
        · skip
          refine v_aload_n (j := 4) C dX4_takeLastOff_44 rfl rfl rfl ?_
          refine v_getr (c := r) C (r + 5) flX4_221 (lt_rg h_r) (lay_rg h_r) rfl dX4_takeLastOff_45 rfl ?_
          refine v_aload (j := 0) C dX4_takeLastOff_48 rfl rfl ?_
          refine v_geti (c := (31 + (ix (sg (r + 1) (ix ((sg r 5) - 1)))))) C flX4_118 (lt_pc (ix_lt hq2)) (lay_pc (ix_lt hq2)) rfl dX4_takeLastOff_50 rfl ?_
          refine v_dup2 C dX4_takeLastOff_53 rfl rfl rfl ?_
          refine v_iald (c := (r + 5)) C (hD.lf (ix_lt hq2) (by assumption)) (lt_ra h_r (by decide)) (lay_r5 h_r) dX4_takeLastOff_54 rfl ?_
          refine v_aload (j := 0) C dX4_takeLastOff_55 rfl rfl ?_
          refine v_geti (c := (31 + (ix (sg (r + 1) (ix ((sg r 5) - 1)))))) C flX4_128 (lt_pc (ix_lt hq2)) (lay_pc (ix_lt hq2)) rfl dX4_takeLastOff_57 rfl ?_
          refine v_isub C dX4_takeLastOff_60 rfl ?_
          refine v_iast (c := (r + 5)) C (hD.lf (ix_lt hq2) (by assumption)) (lt_ra h_r (by decide)) (lay_r5 h_r) dX4_takeLastOff_61 rfl ?_
          refine v_aload_n (j := 4) C dX4_takeLastOff_62 rfl rfl rfl ?_
          refine v_getr (c := r) C (r + 5) flX4_221 (lt_rg h_r) (lay_rg h_r) rfl dX4_takeLastOff_63 rfl ?_
          refine v_aload (j := 0) C dX4_takeLastOff_66 rfl rfl ?_
          refine v_geti (c := (31 + (ix (sg (r + 1) (ix ((sg r 5) - 1)))))) C flX4_121 (lt_pc (ix_lt hq2)) (lay_pc (ix_lt hq2)) rfl dX4_takeLastOff_68 rfl ?_
          refine v_rwi (y := sg (31 + (ix (sg (r + 1) (ix ((sg r 5) - 1))))) 5) ((up_ne _ _ (Or.inl (by omega))).trans rfl) ?_
          refine v_dup2 C dX4_takeLastOff_71 rfl rfl rfl ?_
          refine v_iald (c := (r + 5)) C (hD.rt (ix_lt hq2) (by assumption)) (lt_ra h_r (by decide)) (lay_r5 h_r) dX4_takeLastOff_72 rfl ?_
          refine v_rwi (y := if (ix (sg (31 + (ix (sg (r + 1) (ix ((sg r 5) - 1))))) 5)) = (ix (sg (31 + (ix (sg (r + 1) (ix ((sg r 5) - 1))))) 4)) then ((sg (r + 5) (ix (sg (31 + (ix (sg (r + 1) (ix ((sg r 5) - 1))))) 4))) - (sg (31 + (ix (sg (r + 1) (ix ((sg r 5) - 1))))) 6)) else sg (r + 5) (ix (sg (31 + (ix (sg (r + 1) (ix ((sg r 5) - 1))))) 5))) (up_if rfl) ?_
          refine v_aload (j := 0) C dX4_takeLastOff_73 rfl rfl ?_
          refine v_geti (c := (31 + (ix (sg (r + 1) (ix ((sg r 5) - 1)))))) C flX4_131 (lt_pc (ix_lt hq2)) (lay_pc (ix_lt hq2)) rfl dX4_takeLastOff_75 rfl ?_
          refine v_rwi (y := sg (31 + (ix (sg (r + 1) (ix ((sg r 5) - 1))))) 7) ((up_ne _ _ (Or.inl (by omega))).trans rfl) ?_
          refine v_isub C dX4_takeLastOff_78 rfl ?_
          refine v_iast (c := (r + 5)) C (hD.rt (ix_lt hq2) (by assumption)) (lt_ra h_r (by decide)) (lay_r5 h_r) dX4_takeLastOff_79 rfl ?_
          refine v_aload_n (j := 4) C dX4_takeLastOff_80 rfl rfl rfl ?_
          refine v_dup C dX4_takeLastOff_81 rfl rfl ?_
          refine v_geti (c := r) C flX4_307 (lt_rg h_r) (lay_rg h_r) rfl dX4_takeLastOff_82 rfl ?_
          refine v_rwi (y := sg r 6) ((up_ne _ _ (Or.inl (by omega))).trans ((up_ne _ _ (Or.inl (by omega))).trans rfl)) ?_
          refine v_iconst (v := 1) C dX4_takeLastOff_85 (by decide) rfl ?_
          refine v_iload_n (j := 1) C dX4_takeLastOff_86 rfl rfl rfl ?_
          refine v_ishl C dX4_takeLastOff_87 rfl ?_
          refine v_iconst (v := (-1)) C dX4_takeLastOff_88 (by decide) rfl ?_
          refine v_ixor C dX4_takeLastOff_89 rfl ?_
          refine v_iand C dX4_takeLastOff_90 rfl ?_
          refine v_puti (c := r) C fpX4_307 (lt_rg h_r) (lay_rg h_r) rfl dX4_takeLastOff_91 rfl ?_
          refine v_aload_n (j := 4) C dX4_takeLastOff_94 rfl rfl rfl ?_
          refine v_dup C dX4_takeLastOff_95 rfl rfl ?_
          refine v_geti (c := r) C flX4_273 (lt_rg h_r) (lay_rg h_r) rfl dX4_takeLastOff_96 rfl ?_
          refine v_rwi (y := sg r 7) ((up_ne _ _ (Or.inr (by decide))).trans ((up_ne _ _ (Or.inl (by omega))).trans ((up_ne _ _ (Or.inl (by omega))).trans rfl))) ?_
          refine v_aload (j := 0) C dX4_takeLastOff_99 rfl rfl ?_
          refine v_geti (c := (31 + (ix (sg (r + 1) (ix ((sg r 5) - 1)))))) C flX4_101 (lt_pc (ix_lt hq2)) (lay_pc (ix_lt hq2)) rfl dX4_takeLastOff_101 rfl ?_
          refine v_rwi (y := sg (31 + (ix (sg (r + 1) (ix ((sg r 5) - 1))))) 2) ((up_ne _ _ (Or.inl (by omega))).trans ((up_ne _ _ (Or.inl (by omega))).trans ((up_ne _ _ (Or.inl (by omega))).trans rfl))) ?_
          refine v_isub C dX4_takeLastOff_104 rfl ?_
          refine v_puti (c := r) C fpX4_273 (lt_rg h_r) (lay_rg h_r) rfl dX4_takeLastOff_105 rfl ?_
          refine v_aload_n (j := 4) C dX4_takeLastOff_108 rfl rfl rfl ?_
          refine v_iload_n (j := 2) C dX4_takeLastOff_109 rfl rfl rfl ?_
          refine v_puti (c := r) C fpX4_200 (lt_rg h_r) (lay_rg h_r) rfl dX4_takeLastOff_110 rfl ?_
          exact v_vret E dX4_takeLastOff_113 (by decide) (by decide) ((by first | contradiction | simp only [fs_X4_takeLastOff, if_neg h8_1, if_neg h32_2, if_neg h40_3])) rfl
        · skip
          exact v_vret E dX4_takeLastOff_43 (by decide) (by decide) ((by first | contradiction | simp only [fs_X4_takeLastOff, if_neg h8_1, if_neg h32_2, if_pos h40_3])) rfl
    · skip
      skip
      exact v_vret E dX4_takeLastOff_11 (by decide) (by decide) ((by simp only [fs_X4_takeLastOff, if_pos h8_1])) rfl
