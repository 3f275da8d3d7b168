theorem g_nrm {X : Cx} {a b a1 b1 nL pc : Nat} {ws ws1 : va_W} {lo : List (Nat × Value)} {st : List Value} (h1 : a = a1) (h2 : b = b1) (h0 : ws = ws1) (k : GV X a1 b1 nL ws1 lo pc st) : GV X a b nL ws lo pc st := by
  subst h1; subst h2; subst h0; exact k
def F_X1 (D : va_G) (K : Nat → ClassId) (h0 : Nat) (t : State) (w1 : va_W) : Prop := w1 = [(h0, .inr (3, [.int 0, .int 0]))]
set_option maxHeartbeats 4000000 in
set_option maxRecDepth 100000 in
theorem k_X1_init {l : Launch} {D : va_G} {K : Nat → ClassId} (h0 : Nat) : CI l yX1_init cX1_init 1 1 0 0 D K [] h0 (.inr (3, [.int 0, .int 0])) (F_X1 D K h0) :=
  mk_in (own := RX1) (lo := [(0, .ref h0)]) (by decide) rfl rfl (Nat.le_of_ble_eq_true rfl) rfl fun X eD eK C hin R => by
  subst eD; subst eK
  have cK := C.2.2.2.2.2.1
  refine g_aload_n (j := 0) C dX1_init_0 rfl rfl rfl ?_
  refine g_obj C olX1 obI obC (by decide) (Nat.le_of_ble_eq_true rfl) dX1_init_1 rfl ?_
  refine g_aload_n (j := 0) C dX1_init_4 rfl rfl rfl ?_
  refine g_iconst (v := 0) C dX1_init_5 (by decide) rfl ?_
  refine g_put (fs := [.int 0, .int 0]) C fpX1_7 0 rfl rfl rfl (Nat.le_of_ble_eq_true rfl) dX1_init_6 rfl ?_
  refine g_nrm (a1 := 0) (b1 := 0) (ws1 := [(h0, .inr (3, [.int 0, .int 0]))]) rfl rfl rfl ?_
  refine g_aload_n (j := 0) C dX1_init_9 rfl rfl rfl ?_
  refine g_iconst (v := 0) C dX1_init_10 (by decide) rfl ?_
  refine g_put (fs := [.int 0, .int 0]) C fpX1_13 0 rfl rfl rfl (Nat.le_of_ble_eq_true rfl) dX1_init_11 rfl ?_
  refine g_nrm (a1 := 0) (b1 := 0) (ws1 := [(h0, .inr (3, [.int 0, .int 0]))]) rfl rfl rfl ?_
  exact R 0 0 _ _ _ _ (Nat.le_refl _) (Nat.le_refl _) dX1_init_14 (fun t hW => rfl)
def F_X0 (D : va_G) (K : Nat → ClassId) (h0 : Nat) (t : State) (w1 : va_W) : Prop := w1 = [(h0, .inr (2, [.int 0, .int 0, .int 0, .int 0, .int (-1), .int (-1), .int 0, .int 0, .int 0]))]
set_option maxHeartbeats 4000000 in
set_option maxRecDepth 100000 in
theorem k_X0_init {l : Launch} {D : va_G} {K : Nat → ClassId} (h0 : Nat) : CI l yX0_init cX0_init 1 1 0 0 D K [] h0 (.inr (2, [.int 0, .int 0, .int 0, .int 0, .int 0, .int 0, .int 0, .int 0, .int 0])) (F_X0 D K h0) :=
  mk_in (own := RX0) (lo := [(0, .ref h0)]) (by decide) rfl rfl (Nat.le_of_ble_eq_true rfl) rfl fun X eD eK C hin R => by
  subst eD; subst eK
  have cK := C.2.2.2.2.2.1
  refine g_aload_n (j := 0) C dX0_init_0 rfl rfl rfl ?_
  refine g_obj C olX0 obI obC (by decide) (Nat.le_of_ble_eq_true rfl) dX0_init_1 rfl ?_
  refine g_aload_n (j := 0) C dX0_init_4 rfl rfl rfl ?_
  refine g_iconst (v := 0) C dX0_init_5 (by decide) rfl ?_
  refine g_put (fs := [.int 0, .int 0, .int 0, .int 0, .int 0, .int 0, .int 0, .int 0, .int 0]) C fpX0_9 0 rfl rfl rfl (Nat.le_of_ble_eq_true rfl) dX0_init_6 rfl ?_
  refine g_nrm (a1 := 0) (b1 := 0) (ws1 := [(h0, .inr (2, [.int 0, .int 0, .int 0, .int 0, .int 0, .int 0, .int 0, .int 0, .int 0]))]) rfl rfl rfl ?_
  refine g_aload_n (j := 0) C dX0_init_9 rfl rfl rfl ?_
  refine g_iconst (v := 0) C dX0_init_10 (by decide) rfl ?_
  refine g_put (fs := [.int 0, .int 0, .int 0, .int 0, .int 0, .int 0, .int 0, .int 0, .int 0]) C fpX0_15 0 rfl rfl rfl (Nat.le_of_ble_eq_true rfl) dX0_init_11 rfl ?_
  refine g_nrm (a1 := 0) (b1 := 0) (ws1 := [(h0, .inr (2, [.int 0, .int 0, .int 0, .int 0, .int 0, .int 0, .int 0, .int 0, .int 0]))]) rfl rfl rfl ?_
  refine g_aload_n (j := 0) C dX0_init_14 rfl rfl rfl ?_
  refine g_iconst (v := 0) C dX0_init_15 (by decide) rfl ?_
  refine g_put (fs := [.int 0, .int 0, .int 0, .int 0, .int 0, .int 0, .int 0, .int 0, .int 0]) C fpX0_18 0 rfl rfl rfl (Nat.le_of_ble_eq_true rfl) dX0_init_16 rfl ?_
  refine g_nrm (a1 := 0) (b1 := 0) (ws1 := [(h0, .inr (2, [.int 0, .int 0, .int 0, .int 0, .int 0, .int 0, .int 0, .int 0, .int 0]))]) rfl rfl rfl ?_
  refine g_aload_n (j := 0) C dX0_init_19 rfl rfl rfl ?_
  refine g_iconst (v := 0) C dX0_init_20 (by decide) rfl ?_
  refine g_put (fs := [.int 0, .int 0, .int 0, .int 0, .int 0, .int 0, .int 0, .int 0, .int 0]) C fpX0_21 0 rfl rfl rfl (Nat.le_of_ble_eq_true rfl) dX0_init_21 rfl ?_
  refine g_nrm (a1 := 0) (b1 := 0) (ws1 := [(h0, .inr (2, [.int 0, .int 0, .int 0, .int 0, .int 0, .int 0, .int 0, .int 0, .int 0]))]) rfl rfl rfl ?_
  refine g_aload_n (j := 0) C dX0_init_24 rfl rfl rfl ?_
  refine g_iconst (v := (-1)) C dX0_init_25 (by decide) rfl ?_
  refine g_put (fs := [.int 0, .int 0, .int 0, .int 0, .int 0, .int 0, .int 0, .int 0, .int 0]) C fpX0_24 0 rfl rfl rfl (Nat.le_of_ble_eq_true rfl) dX0_init_26 rfl ?_
  refine g_nrm (a1 := 0) (b1 := 0) (ws1 := [(h0, .inr (2, [.int 0, .int 0, .int 0, .int 0, .int (-1), .int 0, .int 0, .int 0, .int 0]))]) rfl rfl rfl ?_
  refine g_aload_n (j := 0) C dX0_init_29 rfl rfl rfl ?_
  refine g_iconst (v := (-1)) C dX0_init_30 (by decide) rfl ?_
  refine g_put (fs := [.int 0, .int 0, .int 0, .int 0, .int (-1), .int 0, .int 0, .int 0, .int 0]) C fpX0_27 0 rfl rfl rfl (Nat.le_of_ble_eq_true rfl) dX0_init_31 rfl ?_
  refine g_nrm (a1 := 0) (b1 := 0) (ws1 := [(h0, .inr (2, [.int 0, .int 0, .int 0, .int 0, .int (-1), .int (-1), .int 0, .int 0, .int 0]))]) rfl rfl rfl ?_
  refine g_aload_n (j := 0) C dX0_init_34 rfl rfl rfl ?_
  refine g_iconst (v := 0) C dX0_init_35 (by decide) rfl ?_
  refine g_put (fs := [.int 0, .int 0, .int 0, .int 0, .int (-1), .int (-1), .int 0, .int 0, .int 0]) C fpX0_30 0 rfl rfl rfl (Nat.le_of_ble_eq_true rfl) dX0_init_36 rfl ?_
  refine g_nrm (a1 := 0) (b1 := 0) (ws1 := [(h0, .inr (2, [.int 0, .int 0, .int 0, .int 0, .int (-1), .int (-1), .int 0, .int 0, .int 0]))]) rfl rfl rfl ?_
  refine g_aload_n (j := 0) C dX0_init_39 rfl rfl rfl ?_
  refine g_iconst (v := 0) C dX0_init_40 (by decide) rfl ?_
  refine g_put (fs := [.int 0, .int 0, .int 0, .int 0, .int (-1), .int (-1), .int 0, .int 0, .int 0]) C fpX0_33 0 rfl rfl rfl (Nat.le_of_ble_eq_true rfl) dX0_init_41 rfl ?_
  refine g_nrm (a1 := 0) (b1 := 0) (ws1 := [(h0, .inr (2, [.int 0, .int 0, .int 0, .int 0, .int (-1), .int (-1), .int 0, .int 0, .int 0]))]) rfl rfl rfl ?_
  refine g_aload_n (j := 0) C dX0_init_44 rfl rfl rfl ?_
  refine g_iconst (v := 0) C dX0_init_45 (by decide) rfl ?_
  refine g_put (fs := [.int 0, .int 0, .int 0, .int 0, .int (-1), .int (-1), .int 0, .int 0, .int 0]) C fpX0_36 0 rfl rfl rfl (Nat.le_of_ble_eq_true rfl) dX0_init_46 rfl ?_
  refine g_nrm (a1 := 0) (b1 := 0) (ws1 := [(h0, .inr (2, [.int 0, .int 0, .int 0, .int 0, .int (-1), .int (-1), .int 0, .int 0, .int 0]))]) rfl rfl rfl ?_
  exact R 0 0 _ _ _ _ (Nat.le_refl _) (Nat.le_refl _) dX0_init_49 (fun t hW => rfl)
def F_X3 (D : va_G) (K : Nat → ClassId) (h0 : Nat) (n : Int32) (t : State) (w1 : va_W) : Prop := w1 = [(h0, .inr (5, [.int n, .int 0, .int 0, .int 0, .int 0, .int 0, .int 0, .int 0]))]
set_option maxHeartbeats 4000000 in
set_option maxRecDepth 100000 in
theorem k_X3_init {l : Launch} {D : va_G} {K : Nat → ClassId} (h0 : Nat) (n : Int32) : CI l yX3_init cX3_init 2 1 0 0 D K [.int n] h0 (.inr (5, [.int 0, .int 0, .int 0, .int 0, .int 0, .int 0, .int 0, .int 0])) (F_X3 D K h0 n) :=
  mk_in (own := RX3) (lo := [(0, .ref h0), (1, .int n)]) (by decide) rfl rfl (Nat.le_of_ble_eq_true rfl) rfl fun X eD eK C hin R => by
  subst eD; subst eK
  have cK := C.2.2.2.2.2.1
  refine g_aload_n (j := 0) C dX3_init_0 rfl rfl rfl ?_
  refine g_obj C olX3 obI obC (by decide) (Nat.le_of_ble_eq_true rfl) dX3_init_1 rfl ?_
  refine g_aload_n (j := 0) C dX3_init_4 rfl rfl rfl ?_
  refine g_iconst (v := 0) C dX3_init_5 (by decide) rfl ?_
  refine g_put (fs := [.int 0, .int 0, .int 0, .int 0, .int 0, .int 0, .int 0, .int 0]) C fpX3_7 0 rfl rfl rfl (Nat.le_of_ble_eq_true rfl) dX3_init_6 rfl ?_
  refine g_nrm (a1 := 0) (b1 := 0) (ws1 := [(h0, .inr (5, [.int 0, .int 0, .int 0, .int 0, .int 0, .int 0, .int 0, .int 0]))]) rfl rfl rfl ?_
  refine g_aload_n (j := 0) C dX3_init_9 rfl rfl rfl ?_
  refine g_iconst (v := 0) C dX3_init_10 (by decide) rfl ?_
  refine g_put (fs := [.int 0, .int 0, .int 0, .int 0, .int 0, .int 0, .int 0, .int 0]) C fpX3_13 0 rfl rfl rfl (Nat.le_of_ble_eq_true rfl) dX3_init_11 rfl ?_
  refine g_nrm (a1 := 0) (b1 := 0) (ws1 := [(h0, .inr (5, [.int 0, .int 0, .int 0, .int 0, .int 0, .int 0, .int 0, .int 0]))]) rfl rfl rfl ?_
  refine g_aload_n (j := 0) C dX3_init_14 rfl rfl rfl ?_
  refine g_iconst (v := 0) C dX3_init_15 (by decide) rfl ?_
  refine g_put (fs := [.int 0, .int 0, .int 0, .int 0, .int 0, .int 0, .int 0, .int 0]) C fpX3_16 0 rfl rfl rfl (Nat.le_of_ble_eq_true rfl) dX3_init_16 rfl ?_
  refine g_nrm (a1 := 0) (b1 := 0) (ws1 := [(h0, .inr (5, [.int 0, .int 0, .int 0, .int 0, .int 0, .int 0, .int 0, .int 0]))]) rfl rfl rfl ?_
  refine g_aload_n (j := 0) C dX3_init_19 rfl rfl rfl ?_
  refine g_iconst (v := 0) C dX3_init_20 (by decide) rfl ?_
  refine g_put (fs := [.int 0, .int 0, .int 0, .int 0, .int 0, .int 0, .int 0, .int 0]) C fpX3_19 0 rfl rfl rfl (Nat.le_of_ble_eq_true rfl) dX3_init_21 rfl ?_
  refine g_nrm (a1 := 0) (b1 := 0) (ws1 := [(h0, .inr (5, [.int 0, .int 0, .int 0, .int 0, .int 0, .int 0, .int 0, .int 0]))]) rfl rfl rfl ?_
  refine g_aload_n (j := 0) C dX3_init_24 rfl rfl rfl ?_
  refine g_iconst (v := 0) C dX3_init_25 (by decide) rfl ?_
  refine g_put (fs := [.int 0, .int 0, .int 0, .int 0, .int 0, .int 0, .int 0, .int 0]) C fpX3_22 0 rfl rfl rfl (Nat.le_of_ble_eq_true rfl) dX3_init_26 rfl ?_
  refine g_nrm (a1 := 0) (b1 := 0) (ws1 := [(h0, .inr (5, [.int 0, .int 0, .int 0, .int 0, .int 0, .int 0, .int 0, .int 0]))]) rfl rfl rfl ?_
  refine g_aload_n (j := 0) C dX3_init_29 rfl rfl rfl ?_
  refine g_iconst (v := 0) C dX3_init_30 (by decide) rfl ?_
  refine g_put (fs := [.int 0, .int 0, .int 0, .int 0, .int 0, .int 0, .int 0, .int 0]) C fpX3_25 0 rfl rfl rfl (Nat.le_of_ble_eq_true rfl) dX3_init_31 rfl ?_
  refine g_nrm (a1 := 0) (b1 := 0) (ws1 := [(h0, .inr (5, [.int 0, .int 0, .int 0, .int 0, .int 0, .int 0, .int 0, .int 0]))]) rfl rfl rfl ?_
  refine g_aload_n (j := 0) C dX3_init_34 rfl rfl rfl ?_
  refine g_iconst (v := 0) C dX3_init_35 (by decide) rfl ?_
  refine g_put (fs := [.int 0, .int 0, .int 0, .int 0, .int 0, .int 0, .int 0, .int 0]) C fpX3_28 0 rfl rfl rfl (Nat.le_of_ble_eq_true rfl) dX3_init_36 rfl ?_
  refine g_nrm (a1 := 0) (b1 := 0) (ws1 := [(h0, .inr (5, [.int 0, .int 0, .int 0, .int 0, .int 0, .int 0, .int 0, .int 0]))]) rfl rfl rfl ?_
  refine g_aload_n (j := 0) C dX3_init_39 rfl rfl rfl ?_
  refine g_iload_n (j := 1) C dX3_init_40 rfl rfl rfl ?_
  refine g_putF (fs := [.int 0, .int 0, .int 0, .int 0, .int 0, .int 0, .int 0, .int 0]) C hin ffX3_31 0 rfl rfl rfl (Nat.le_of_ble_eq_true rfl) dX3_init_41 rfl ?_
  refine g_nrm (a1 := 0) (b1 := 0) (ws1 := [(h0, .inr (5, [.int n, .int 0, .int 0, .int 0, .int 0, .int 0, .int 0, .int 0]))]) rfl rfl rfl ?_
  exact R 0 0 _ _ _ _ (Nat.le_refl _) (Nat.le_refl _) dX3_init_44 (fun t hW => rfl)
def F_X2 (D : va_G) (K : Nat → ClassId) (h0 : Nat) (t : State) (w1 : va_W) : Prop := ∃ q1 q2 q3 q4 q5 : Nat, w1 = [(h0, .inr (4, [.ref q1, .ref q2, .ref q3, .ref q4, .ref q5, .int 0, .int 0, .int 0])), (q1, .inl (K 0, 6, .inl (fun _ => 0))), (q2, .inl (K 0, 6, .inl (fun _ => 0))), (q3, .inl (K 0, 6, .inl (fun _ => 0))), (q4, .inl (K 0, 6, .inl (fun _ => 0))), (q5, .inl (K 0, 8, .inl (fun _ => 0)))]
set_option maxHeartbeats 4000000 in
set_option maxRecDepth 100000 in
theorem k_X2_init {l : Launch} {D : va_G} {K : Nat → ClassId} (h0 : Nat) : CI l yX2_init cX2_init 1 1 5 32 D K [] h0 (.inr (4, [.null, .null, .null, .null, .null, .int 0, .int 0, .int 0])) (F_X2 D K h0) :=
  mk_in (own := RX2) (lo := [(0, .ref h0)]) (by decide) rfl rfl (Nat.le_of_ble_eq_true rfl) rfl fun X eD eK C hin R => by
  subst eD; subst eK
  have cK := C.2.2.2.2.2.1
  refine g_aload_n (j := 0) C dX2_init_0 rfl rfl rfl ?_
  refine g_obj C olX2 obI obC (by decide) (Nat.le_of_ble_eq_true rfl) dX2_init_1 rfl ?_
  refine g_aload_n (j := 0) C dX2_init_4 rfl rfl rfl ?_
  refine g_bipush (v := 6) C dX2_init_5 (by decide) rfl ?_
  refine g_newi (N := 6) C acI (by decide) (by decide) (by decide) (Nat.le_of_ble_eq_true rfl) (Nat.le_of_ble_eq_true rfl) dX2_init_7 rfl (fun q1 => ?_)
  refine g_nrm (a1 := 1) (b1 := 6) (ws1 := [(h0, .inr (4, [.null, .null, .null, .null, .null, .int 0, .int 0, .int 0])), (q1, .inl (xK X 0, 6, .inl (fun _ => 0)))]) rfl rfl rfl ?_
  refine g_putF (fs := [.null, .null, .null, .null, .null, .int 0, .int 0, .int 0]) C hin ffX2_9 0 rfl rfl rfl (Nat.le_of_ble_eq_true rfl) dX2_init_9 rfl ?_
  refine g_nrm (a1 := 1) (b1 := 6) (ws1 := [(h0, .inr (4, [.ref q1, .null, .null, .null, .null, .int 0, .int 0, .int 0])), (q1, .inl (xK X 0, 6, .inl (fun _ => 0)))]) rfl rfl rfl ?_
  refine g_aload_n (j := 0) C dX2_init_12 rfl rfl rfl ?_
  refine g_bipush (v := 6) C dX2_init_13 (by decide) rfl ?_
  refine g_newi (N := 6) C acI (by decide) (by decide) (by decide) (Nat.le_of_ble_eq_true rfl) (Nat.le_of_ble_eq_true rfl) dX2_init_15 rfl (fun q2 => ?_)
  refine g_nrm (a1 := 2) (b1 := 12) (ws1 := [(h0, .inr (4, [.ref q1, .null, .null, .null, .null, .int 0, .int 0, .int 0])), (q1, .inl (xK X 0, 6, .inl (fun _ => 0))), (q2, .inl (xK X 0, 6, .inl (fun _ => 0)))]) rfl rfl rfl ?_
  refine g_putF (fs := [.ref q1, .null, .null, .null, .null, .int 0, .int 0, .int 0]) C hin ffX2_15 0 rfl rfl rfl (Nat.le_of_ble_eq_true rfl) dX2_init_17 rfl ?_
  refine g_nrm (a1 := 2) (b1 := 12) (ws1 := [(h0, .inr (4, [.ref q1, .ref q2, .null, .null, .null, .int 0, .int 0, .int 0])), (q1, .inl (xK X 0, 6, .inl (fun _ => 0))), (q2, .inl (xK X 0, 6, .inl (fun _ => 0)))]) rfl rfl rfl ?_
  refine g_aload_n (j := 0) C dX2_init_20 rfl rfl rfl ?_
  refine g_bipush (v := 6) C dX2_init_21 (by decide) rfl ?_
  refine g_newi (N := 6) C acI (by decide) (by decide) (by decide) (Nat.le_of_ble_eq_true rfl) (Nat.le_of_ble_eq_true rfl) dX2_init_23 rfl (fun q3 => ?_)
  refine g_nrm (a1 := 3) (b1 := 18) (ws1 := [(h0, .inr (4, [.ref q1, .ref q2, .null, .null, .null, .int 0, .int 0, .int 0])), (q1, .inl (xK X 0, 6, .inl (fun _ => 0))), (q2, .inl (xK X 0, 6, .inl (fun _ => 0))), (q3, .inl (xK X 0, 6, .inl (fun _ => 0)))]) rfl rfl rfl ?_
  refine g_putF (fs := [.ref q1, .ref q2, .null, .null, .null, .int 0, .int 0, .int 0]) C hin ffX2_18 0 rfl rfl rfl (Nat.le_of_ble_eq_true rfl) dX2_init_25 rfl ?_
  refine g_nrm (a1 := 3) (b1 := 18) (ws1 := [(h0, .inr (4, [.ref q1, .ref q2, .ref q3, .null, .null, .int 0, .int 0, .int 0])), (q1, .inl (xK X 0, 6, .inl (fun _ => 0))), (q2, .inl (xK X 0, 6, .inl (fun _ => 0))), (q3, .inl (xK X 0, 6, .inl (fun _ => 0)))]) rfl rfl rfl ?_
  refine g_aload_n (j := 0) C dX2_init_28 rfl rfl rfl ?_
  refine g_bipush (v := 6) C dX2_init_29 (by decide) rfl ?_
  refine g_newi (N := 6) C acI (by decide) (by decide) (by decide) (Nat.le_of_ble_eq_true rfl) (Nat.le_of_ble_eq_true rfl) dX2_init_31 rfl (fun q4 => ?_)
  refine g_nrm (a1 := 4) (b1 := 24) (ws1 := [(h0, .inr (4, [.ref q1, .ref q2, .ref q3, .null, .null, .int 0, .int 0, .int 0])), (q1, .inl (xK X 0, 6, .inl (fun _ => 0))), (q2, .inl (xK X 0, 6, .inl (fun _ => 0))), (q3, .inl (xK X 0, 6, .inl (fun _ => 0))), (q4, .inl (xK X 0, 6, .inl (fun _ => 0)))]) rfl rfl rfl ?_
  refine g_putF (fs := [.ref q1, .ref q2, .ref q3, .null, .null, .int 0, .int 0, .int 0]) C hin ffX2_21 0 rfl rfl rfl (Nat.le_of_ble_eq_true rfl) dX2_init_33 rfl ?_
  refine g_nrm (a1 := 4) (b1 := 24) (ws1 := [(h0, .inr (4, [.ref q1, .ref q2, .ref q3, .ref q4, .null, .int 0, .int 0, .int 0])), (q1, .inl (xK X 0, 6, .inl (fun _ => 0))), (q2, .inl (xK X 0, 6, .inl (fun _ => 0))), (q3, .inl (xK X 0, 6, .inl (fun _ => 0))), (q4, .inl (xK X 0, 6, .inl (fun _ => 0)))]) rfl rfl rfl ?_
  refine g_aload_n (j := 0) C dX2_init_36 rfl rfl rfl ?_
  refine g_bipush (v := 8) C dX2_init_37 (by decide) rfl ?_
  refine g_newi (N := 8) C acI (by decide) (by decide) (by decide) (Nat.le_of_ble_eq_true rfl) (Nat.le_of_ble_eq_true rfl) dX2_init_39 rfl (fun q5 => ?_)
  refine g_nrm (a1 := 5) (b1 := 32) (ws1 := [(h0, .inr (4, [.ref q1, .ref q2, .ref q3, .ref q4, .null, .int 0, .int 0, .int 0])), (q1, .inl (xK X 0, 6, .inl (fun _ => 0))), (q2, .inl (xK X 0, 6, .inl (fun _ => 0))), (q3, .inl (xK X 0, 6, .inl (fun _ => 0))), (q4, .inl (xK X 0, 6, .inl (fun _ => 0))), (q5, .inl (xK X 0, 8, .inl (fun _ => 0)))]) rfl rfl rfl ?_
  refine g_putF (fs := [.ref q1, .ref q2, .ref q3, .ref q4, .null, .int 0, .int 0, .int 0]) C hin ffX2_24 0 rfl rfl rfl (Nat.le_of_ble_eq_true rfl) dX2_init_41 rfl ?_
  refine g_nrm (a1 := 5) (b1 := 32) (ws1 := [(h0, .inr (4, [.ref q1, .ref q2, .ref q3, .ref q4, .ref q5, .int 0, .int 0, .int 0])), (q1, .inl (xK X 0, 6, .inl (fun _ => 0))), (q2, .inl (xK X 0, 6, .inl (fun _ => 0))), (q3, .inl (xK X 0, 6, .inl (fun _ => 0))), (q4, .inl (xK X 0, 6, .inl (fun _ => 0))), (q5, .inl (xK X 0, 8, .inl (fun _ => 0)))]) rfl rfl rfl ?_
  refine g_aload_n (j := 0) C dX2_init_44 rfl rfl rfl ?_
  refine g_iconst (v := 0) C dX2_init_45 (by decide) rfl ?_
  refine g_put (fs := [.ref q1, .ref q2, .ref q3, .ref q4, .ref q5, .int 0, .int 0, .int 0]) C fpX2_27 0 rfl rfl rfl (Nat.le_of_ble_eq_true rfl) dX2_init_46 rfl ?_
  refine g_nrm (a1 := 5) (b1 := 32) (ws1 := [(h0, .inr (4, [.ref q1, .ref q2, .ref q3, .ref q4, .ref q5, .int 0, .int 0, .int 0])), (q1, .inl (xK X 0, 6, .inl (fun _ => 0))), (q2, .inl (xK X 0, 6, .inl (fun _ => 0))), (q3, .inl (xK X 0, 6, .inl (fun _ => 0))), (q4, .inl (xK X 0, 6, .inl (fun _ => 0))), (q5, .inl (xK X 0, 8, .inl (fun _ => 0)))]) rfl rfl rfl ?_
  refine g_aload_n (j := 0) C dX2_init_49 rfl rfl rfl ?_
  refine g_iconst (v := 0) C dX2_init_50 (by decide) rfl ?_
  refine g_put (fs := [.ref q1, .ref q2, .ref q3, .ref q4, .ref q5, .int 0, .int 0, .int 0]) C fpX2_31 0 rfl rfl rfl (Nat.le_of_ble_eq_true rfl) dX2_init_51 rfl ?_
  refine g_nrm (a1 := 5) (b1 := 32) (ws1 := [(h0, .inr (4, [.ref q1, .ref q2, .ref q3, .ref q4, .ref q5, .int 0, .int 0, .int 0])), (q1, .inl (xK X 0, 6, .inl (fun _ => 0))), (q2, .inl (xK X 0, 6, .inl (fun _ => 0))), (q3, .inl (xK X 0, 6, .inl (fun _ => 0))), (q4, .inl (xK X 0, 6, .inl (fun _ => 0))), (q5, .inl (xK X 0, 8, .inl (fun _ => 0)))]) rfl rfl rfl ?_
  refine g_aload_n (j := 0) C dX2_init_54 rfl rfl rfl ?_
  refine g_iconst (v := 0) C dX2_init_55 (by decide) rfl ?_
  refine g_put (fs := [.ref q1, .ref q2, .ref q3, .ref q4, .ref q5, .int 0, .int 0, .int 0]) C fpX2_34 0 rfl rfl rfl (Nat.le_of_ble_eq_true rfl) dX2_init_56 rfl ?_
  refine g_nrm (a1 := 5) (b1 := 32) (ws1 := [(h0, .inr (4, [.ref q1, .ref q2, .ref q3, .ref q4, .ref q5, .int 0, .int 0, .int 0])), (q1, .inl (xK X 0, 6, .inl (fun _ => 0))), (q2, .inl (xK X 0, 6, .inl (fun _ => 0))), (q3, .inl (xK X 0, 6, .inl (fun _ => 0))), (q4, .inl (xK X 0, 6, .inl (fun _ => 0))), (q5, .inl (xK X 0, 8, .inl (fun _ => 0)))]) rfl rfl rfl ?_
  exact R 5 32 _ _ _ _ (Nat.le_refl _) (Nat.le_refl _) dX2_init_59 (fun t hW => ⟨q1, q2, q3, q4, q5, rfl⟩)
