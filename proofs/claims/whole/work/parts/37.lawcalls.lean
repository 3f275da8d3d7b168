def wf_addPoint : String → Int32 := fun E => if E = eIAE then 1 else if E = eISE then 2 else 99
set_option maxHeartbeats 4000000 in
set_option maxRecDepth 20000 in
theorem k_L_addPoint {l : Launch} {D : va_G} {K : Nat → ClassId} {g : Nat → Nat} (hl : l.stackTraces = false) (sg : Sg) (o : Ot) (p : Int32) (z : Int32) (hD : DI sg) : CW l yL_addPoint cL_addPoint 5 [(0, 10, 13, 13), (0, 10, 17, 15)] 22 1 6 D K g [.ref (g 0), .int p, .int z, .ref (g 66)] sg o (wC wf_addPoint (fe_X4_addPoint sg p z)) (wS (fe_X4_addPoint sg p z) (fs_X4_addPoint sg p z) sg) (wO (fe_X4_addPoint sg p z) (Int32.toInt64 (fr_X4_addPoint sg p z), o.2) o) :=
  mk_w (own := RL) (av := fun g => [.ref (g 0), .int p, .int z, .ref (g 66)]) (lo := fun g => [(0, .ref (g 0)), (1, .int p), (2, .int z), (3, .ref (g 66))]) (by decide) rfl (fun _ => Nat.le_of_ble_eq_true rfl) (fun _ => rfl) fun X C T eL E0 => by
    subst eL
    refine v_aload_n (j := 3) C dL_addPoint_0 rfl rfl rfl ?_
    refine v_iconst (v := 0) C dL_addPoint_1 (by decide) rfl ?_
    refine v_aload_n (j := 0) C dL_addPoint_2 rfl rfl rfl ?_
    refine v_iload_n (j := 1) C dL_addPoint_3 rfl rfl rfl ?_
    refine v_iload_n (j := 2) C dL_addPoint_4 rfl rfl rfl ?_
    refine v_callVX2 (rest := [.int 0, .ref (xg X 66)]) (As := [.int p, .int z]) (q := (RX4, TX4, 13)) (c := 0) C T.1 kvL_7 (CX.two (k_X4_addPoint hl sg o p z hD)) (by decide) (by decide) rfl rfl rfl rfl rfl (Nat.le_of_ble_eq_true rfl) (by decide) (by decide) dL_addPoint_5 rfl (fun E hE => ?_) (fun hE => ?_)
    · rcases hx_addPoint hE with rfl | rfl
      · refine v_catch (pc := 5) (E := eIAE) C T.1 T.2.2 [] (0, 10, 13, 13) [(0, 10, 17, 15)] rfl (by decide) (by decide) (by decide) lk13 (fun z hz => by cases hz) (fun qx => ?_)
        refine v_astore C [(4, .ref qx), (0, .ref (xg X 0)), (1, .int p), (2, .int z), (3, .ref (xg X 66))] dL_addPoint_13 (by decide) rfl rfl ?_
        refine v_iconst (v := 1) C dL_addPoint_15 (by decide) rfl ?_
        exact v_ret E0 dL_addPoint_16 (by decide) (by decide) (by rw [hE]; decide +kernel) (by rw [hE]; rfl) (by rw [hE]; rfl)
      · refine v_catch (pc := 5) (E := eISE) C T.1 T.2.2 [(0, 10, 13, 13)] (0, 10, 17, 15) [] rfl (by decide) (by decide) (by decide) lk15 (List.forall_mem_cons.mpr ⟨⟨by decide, eIAE, lk13, T.2.1 (eISE, eIAE) (by decide)⟩, (fun z hz => by cases hz)⟩) (fun qx => ?_)
        refine v_astore C [(4, .ref qx), (0, .ref (xg X 0)), (1, .int p), (2, .int z), (3, .ref (xg X 66))] dL_addPoint_17 (by decide) rfl rfl ?_
        refine v_iconst (v := 2) C dL_addPoint_19 (by decide) rfl ?_
        exact v_ret E0 dL_addPoint_20 (by decide) (by decide) (by rw [hE]; decide +kernel) (by rw [hE]; rfl) (by rw [hE]; rfl)
    · skip
      refine v_i2l C dL_addPoint_8 rfl ?_
      refine v_last C dL_addPoint_9 rfl ?_
      refine v_goto (pc1 := 21) C dL_addPoint_10 (by decide) ?_
      refine v_iconst (v := 0) C dL_addPoint_21 (by decide) rfl ?_
      exact v_ret E0 dL_addPoint_22 (by decide) (by decide) (by rw [hE]; rfl) (by rw [hE]; rfl) (by rw [hE]; rfl)
theorem kw_addPoint : KW RL 96 yL_addPoint cL_addPoint 5 [(0, 10, 13, 13), (0, 10, 17, 15)] 4 := ⟨(all_in2 130 (by decide +kernel) rfl), (all_in1 0 (by decide +kernel) rfl), (all_in2 128 (by decide +kernel) rfl), (all_in2 129 (by decide +kernel) rfl), ⟨by decide +kernel, by decide +kernel⟩, by decide +kernel, by decide⟩
def wf_addPiece : String → Int32 := fun E => if E = eIAE then 1 else if E = eISE then 2 else 99
set_option maxHeartbeats 4000000 in
set_option maxRecDepth 20000 in
theorem k_L_addPiece {l : Launch} {D : va_G} {K : Nat → ClassId} {g : Nat → Nat} (hl : l.stackTraces = false) (sg : Sg) (o : Ot) (p : Int32) (z : Int32) (w : Int32) (t : Int32) (hD : DI sg) : CW l yL_addPiece cL_addPiece 7 [(0, 14, 17, 13), (0, 14, 21, 15)] 22 1 6 D K g [.ref (g 0), .int p, .int z, .int w, .int t, .ref (g 66)] sg o (wC wf_addPiece (fe_X4_addPiece sg p z w t)) (wS (fe_X4_addPiece sg p z w t) (fs_X4_addPiece sg p z w t) sg) (wO (fe_X4_addPiece sg p z w t) (Int32.toInt64 (fr_X4_addPiece sg p z w t), o.2) o) :=
  mk_w (own := RL) (av := fun g => [.ref (g 0), .int p, .int z, .int w, .int t, .ref (g 66)]) (lo := fun g => [(0, .ref (g 0)), (1, .int p), (2, .int z), (3, .int w), (4, .int t), (5, .ref (g 66))]) (by decide) rfl (fun _ => Nat.le_of_ble_eq_true rfl) (fun _ => rfl) fun X C T eL E0 => by
    subst eL
    refine v_aload (j := 5) C dL_addPiece_0 rfl rfl ?_
    refine v_iconst (v := 0) C dL_addPiece_2 (by decide) rfl ?_
    refine v_aload_n (j := 0) C dL_addPiece_3 rfl rfl rfl ?_
    refine v_iload_n (j := 1) C dL_addPiece_4 rfl rfl rfl ?_
    refine v_iload_n (j := 2) C dL_addPiece_5 rfl rfl rfl ?_
    refine v_iload_n (j := 3) C dL_addPiece_6 rfl rfl rfl ?_
    refine v_iload (j := 4) C dL_addPiece_7 rfl rfl ?_
    refine v_callVX2 (rest := [.int 0, .ref (xg X 66)]) (As := [.int p, .int z, .int w, .int t]) (q := (RX4, TX4, 13)) (c := 0) C T.1 kvL_17 (CX.two (k_X4_addPiece hl sg o p z w t hD)) (by decide) (by decide) rfl rfl rfl rfl rfl (Nat.le_of_ble_eq_true rfl) (by decide) (by decide) dL_addPiece_9 rfl (fun E hE => ?_) (fun hE => ?_)
    · rcases hx_addPiece hE with rfl | rfl
      · refine v_catch (pc := 9) (E := eIAE) C T.1 T.2.2 [] (0, 14, 17, 13) [(0, 14, 21, 15)] rfl (by decide) (by decide) (by decide) lk13 (fun z hz => by cases hz) (fun qx => ?_)
        refine v_astore C [(6, .ref qx), (0, .ref (xg X 0)), (1, .int p), (2, .int z), (3, .int w), (4, .int t), (5, .ref (xg X 66))] dL_addPiece_17 (by decide) rfl rfl ?_
        refine v_iconst (v := 1) C dL_addPiece_19 (by decide) rfl ?_
        exact v_ret E0 dL_addPiece_20 (by decide) (by decide) (by rw [hE]; decide +kernel) (by rw [hE]; rfl) (by rw [hE]; rfl)
      · refine v_catch (pc := 9) (E := eISE) C T.1 T.2.2 [(0, 14, 17, 13)] (0, 14, 21, 15) [] rfl (by decide) (by decide) (by decide) lk15 (List.forall_mem_cons.mpr ⟨⟨by decide, eIAE, lk13, T.2.1 (eISE, eIAE) (by decide)⟩, (fun z hz => by cases hz)⟩) (fun qx => ?_)
        refine v_astore C [(6, .ref qx), (0, .ref (xg X 0)), (1, .int p), (2, .int z), (3, .int w), (4, .int t), (5, .ref (xg X 66))] dL_addPiece_21 (by decide) rfl rfl ?_
        refine v_iconst (v := 2) C dL_addPiece_23 (by decide) rfl ?_
        exact v_ret E0 dL_addPiece_24 (by decide) (by decide) (by rw [hE]; decide +kernel) (by rw [hE]; rfl) (by rw [hE]; rfl)
    · skip
      refine v_i2l C dL_addPiece_12 rfl ?_
      refine v_last C dL_addPiece_13 rfl ?_
      refine v_goto (pc1 := 25) C dL_addPiece_14 (by decide) ?_
      refine v_iconst (v := 0) C dL_addPiece_25 (by decide) rfl ?_
      exact v_ret E0 dL_addPiece_26 (by decide) (by decide) (by rw [hE]; rfl) (by rw [hE]; rfl) (by rw [hE]; rfl)
theorem kw_addPiece : KW RL 105 yL_addPiece cL_addPiece 7 [(0, 14, 17, 13), (0, 14, 21, 15)] 6 := ⟨(all_in2 230 (by decide +kernel) rfl), (all_in1 0 (by decide +kernel) rfl), (all_in2 228 (by decide +kernel) rfl), (all_in2 229 (by decide +kernel) rfl), ⟨by decide +kernel, by decide +kernel⟩, by decide +kernel, by decide⟩
def wf_fix : String → Int32 := fun E => if E = eNSE then 1 else if E = eIOB then 2 else if E = eIAE then 3 else if E = eISE then 4 else 99
set_option maxHeartbeats 4000000 in
set_option maxRecDepth 20000 in
theorem k_L_fix {l : Launch} {D : va_G} {K : Nat → ClassId} {g : Nat → Nat} (hl : l.stackTraces = false) (sg : Sg) (o : Ot) (p : Int32) (a : Int32) (b : Int32) (z : Int32) (w : Int32) (hD : DI sg) : CW l yL_fix cL_fix 8 [(0, 16, 19, 25), (0, 16, 23, 27), (0, 16, 27, 13), (0, 16, 31, 15)] 22 4 24 D K g [.ref (g 0), .int p, .int a, .int b, .int z, .int w, .ref (g 66)] sg o (wC wf_fix (fe_X4_fix sg p a b z w)) (wS (fe_X4_fix sg p a b z w) (fs_X4_fix sg p a b z w) sg) (wO (fe_X4_fix sg p a b z w) (Int32.toInt64 (fr_X4_fix sg p a b z w), o.2) o) :=
  mk_w (own := RL) (av := fun g => [.ref (g 0), .int p, .int a, .int b, .int z, .int w, .ref (g 66)]) (lo := fun g => [(0, .ref (g 0)), (1, .int p), (2, .int a), (3, .int b), (4, .int z), (5, .int w), (6, .ref (g 66))]) (by decide) rfl (fun _ => Nat.le_of_ble_eq_true rfl) (fun _ => rfl) fun X C T eL E0 => by
    subst eL
    refine v_aload (j := 6) C dL_fix_0 rfl rfl ?_
    refine v_iconst (v := 0) C dL_fix_2 (by decide) rfl ?_
    refine v_aload_n (j := 0) C dL_fix_3 rfl rfl rfl ?_
    refine v_iload_n (j := 1) C dL_fix_4 rfl rfl rfl ?_
    refine v_iload_n (j := 2) C dL_fix_5 rfl rfl rfl ?_
    refine v_iload_n (j := 3) C dL_fix_6 rfl rfl rfl ?_
    refine v_iload (j := 4) C dL_fix_7 rfl rfl ?_
    refine v_iload (j := 5) C dL_fix_9 rfl rfl ?_
    refine v_callVX2 (rest := [.int 0, .ref (xg X 66)]) (As := [.int p, .int a, .int b, .int z, .int w]) (q := (RX4, TX4, 13)) (c := 0) C T.1 kvL_21 (CX.two (k_X4_fix hl sg o p a b z w hD)) (by decide) (by decide) rfl rfl rfl rfl rfl (Nat.le_of_ble_eq_true rfl) (by decide) (by decide) dL_fix_11 rfl (fun E hE => ?_) (fun hE => ?_)
    · rcases hx_fix hE with rfl | rfl | rfl | rfl
      · refine v_catch (pc := 11) (E := eNSE) C T.1 T.2.2 [] (0, 16, 19, 25) [(0, 16, 23, 27), (0, 16, 27, 13), (0, 16, 31, 15)] rfl (by decide) (by decide) (by decide) lk25 (fun z hz => by cases hz) (fun qx => ?_)
        refine v_astore C [(7, .ref qx), (0, .ref (xg X 0)), (1, .int p), (2, .int a), (3, .int b), (4, .int z), (5, .int w), (6, .ref (xg X 66))] dL_fix_19 (by decide) rfl rfl ?_
        refine v_iconst (v := 1) C dL_fix_21 (by decide) rfl ?_
        exact v_ret E0 dL_fix_22 (by decide) (by decide) (by rw [hE]; decide +kernel) (by rw [hE]; rfl) (by rw [hE]; rfl)
      · refine v_catch (pc := 11) (E := eIOB) C T.1 T.2.2 [(0, 16, 19, 25)] (0, 16, 23, 27) [(0, 16, 27, 13), (0, 16, 31, 15)] rfl (by decide) (by decide) (by decide) lk27 (List.forall_mem_cons.mpr ⟨⟨by decide, eNSE, lk25, T.2.1 (eIOB, eNSE) (by decide)⟩, (fun z hz => by cases hz)⟩) (fun qx => ?_)
        refine v_astore C [(7, .ref qx), (0, .ref (xg X 0)), (1, .int p), (2, .int a), (3, .int b), (4, .int z), (5, .int w), (6, .ref (xg X 66))] dL_fix_23 (by decide) rfl rfl ?_
        refine v_iconst (v := 2) C dL_fix_25 (by decide) rfl ?_
        exact v_ret E0 dL_fix_26 (by decide) (by decide) (by rw [hE]; decide +kernel) (by rw [hE]; rfl) (by rw [hE]; rfl)
      · refine v_catch (pc := 11) (E := eIAE) C T.1 T.2.2 [(0, 16, 19, 25), (0, 16, 23, 27)] (0, 16, 27, 13) [(0, 16, 31, 15)] rfl (by decide) (by decide) (by decide) lk13 (List.forall_mem_cons.mpr ⟨⟨by decide, eNSE, lk25, T.2.1 (eIAE, eNSE) (by decide)⟩, (List.forall_mem_cons.mpr ⟨⟨by decide, eIOB, lk27, T.2.1 (eIAE, eIOB) (by decide)⟩, (fun z hz => by cases hz)⟩)⟩) (fun qx => ?_)
        refine v_astore C [(7, .ref qx), (0, .ref (xg X 0)), (1, .int p), (2, .int a), (3, .int b), (4, .int z), (5, .int w), (6, .ref (xg X 66))] dL_fix_27 (by decide) rfl rfl ?_
        refine v_iconst (v := 3) C dL_fix_29 (by decide) rfl ?_
        exact v_ret E0 dL_fix_30 (by decide) (by decide) (by rw [hE]; decide +kernel) (by rw [hE]; rfl) (by rw [hE]; rfl)
      · refine v_catch (pc := 11) (E := eISE) C T.1 T.2.2 [(0, 16, 19, 25), (0, 16, 23, 27), (0, 16, 27, 13)] (0, 16, 31, 15) [] rfl (by decide) (by decide) (by decide) lk15 (List.forall_mem_cons.mpr ⟨⟨by decide, eNSE, lk25, T.2.1 (eISE, eNSE) (by decide)⟩, (List.forall_mem_cons.mpr ⟨⟨by decide, eIOB, lk27, T.2.1 (eISE, eIOB) (by decide)⟩, (List.forall_mem_cons.mpr ⟨⟨by decide, eIAE, lk13, T.2.1 (eISE, eIAE) (by decide)⟩, (fun z hz => by cases hz)⟩)⟩)⟩) (fun qx => ?_)
        refine v_astore C [(7, .ref qx), (0, .ref (xg X 0)), (1, .int p), (2, .int a), (3, .int b), (4, .int z), (5, .int w), (6, .ref (xg X 66))] dL_fix_31 (by decide) rfl rfl ?_
        refine v_iconst (v := 4) C dL_fix_33 (by decide) rfl ?_
        exact v_ret E0 dL_fix_34 (by decide) (by decide) (by rw [hE]; decide +kernel) (by rw [hE]; rfl) (by rw [hE]; rfl)
    · skip
      refine v_i2l C dL_fix_14 rfl ?_
      refine v_last C dL_fix_15 rfl ?_
      refine v_goto (pc1 := 35) C dL_fix_16 (by decide) ?_
      refine v_iconst (v := 0) C dL_fix_35 (by decide) rfl ?_
      exact v_ret E0 dL_fix_36 (by decide) (by decide) (by rw [hE]; rfl) (by rw [hE]; rfl) (by rw [hE]; rfl)
theorem kw_fix : KW RL 109 yL_fix cL_fix 8 [(0, 16, 19, 25), (0, 16, 23, 27), (0, 16, 27, 13), (0, 16, 31, 15)] 7 := ⟨(all_in2 239 (by decide +kernel) rfl), (all_in1 0 (by decide +kernel) rfl), (all_in2 237 (by decide +kernel) rfl), (all_in2 238 (by decide +kernel) rfl), ⟨by decide +kernel, by decide +kernel⟩, by decide +kernel, by decide⟩
def wf_need : String → Int32 := fun E => if E = eNSE then 1 else if E = eIAE then 2 else if E = eUOE then 3 else if E = eISE then 4 else 99
set_option maxHeartbeats 4000000 in
set_option maxRecDepth 20000 in
theorem k_L_need {l : Launch} {D : va_G} {K : Nat → ClassId} {g : Nat → Nat} (hl : l.stackTraces = false) (sg : Sg) (o : Ot) (p : Int32) (a : Int32) (hD : DI sg) : CW l yL_need cL_need 5 [(0, 10, 13, 25), (0, 10, 17, 13), (0, 10, 21, 32), (0, 10, 25, 15)] 22 3 18 D K g [.ref (g 0), .int p, .int a, .ref (g 66)] sg o (wC wf_need (fe_X4_need sg p a)) (wS (fe_X4_need sg p a) (fs_X4_need sg p a) sg) (wO (fe_X4_need sg p a) (Int32.toInt64 (fr_X4_need sg p a), o.2) o) :=
  mk_w (own := RL) (av := fun g => [.ref (g 0), .int p, .int a, .ref (g 66)]) (lo := fun g => [(0, .ref (g 0)), (1, .int p), (2, .int a), (3, .ref (g 66))]) (by decide) rfl (fun _ => Nat.le_of_ble_eq_true rfl) (fun _ => rfl) fun X C T eL E0 => by
    subst eL
    refine v_aload_n (j := 3) C dL_need_0 rfl rfl rfl ?_
    refine v_iconst (v := 0) C dL_need_1 (by decide) rfl ?_
    refine v_aload_n (j := 0) C dL_need_2 rfl rfl rfl ?_
    refine v_iload_n (j := 1) C dL_need_3 rfl rfl rfl ?_
    refine v_iload_n (j := 2) C dL_need_4 rfl rfl rfl ?_
    refine v_callVX2 (rest := [.int 0, .ref (xg X 66)]) (As := [.int p, .int a]) (q := (RX4, TX4, 13)) (c := 0) C T.1 kvL_29 (CX.two (k_X4_need hl sg o p a hD)) (by decide) (by decide) rfl rfl rfl rfl rfl (Nat.le_of_ble_eq_true rfl) (by decide) (by decide) dL_need_5 rfl (fun E hE => ?_) (fun hE => ?_)
    · rcases hx_need hE with rfl | rfl | rfl | rfl
      · refine v_catch (pc := 5) (E := eNSE) C T.1 T.2.2 [] (0, 10, 13, 25) [(0, 10, 17, 13), (0, 10, 21, 32), (0, 10, 25, 15)] rfl (by decide) (by decide) (by decide) lk25 (fun z hz => by cases hz) (fun qx => ?_)
        refine v_astore C [(4, .ref qx), (0, .ref (xg X 0)), (1, .int p), (2, .int a), (3, .ref (xg X 66))] dL_need_13 (by decide) rfl rfl ?_
        refine v_iconst (v := 1) C dL_need_15 (by decide) rfl ?_
        exact v_ret E0 dL_need_16 (by decide) (by decide) (by rw [hE]; decide +kernel) (by rw [hE]; rfl) (by rw [hE]; rfl)
      · refine v_catch (pc := 5) (E := eIAE) C T.1 T.2.2 [(0, 10, 13, 25)] (0, 10, 17, 13) [(0, 10, 21, 32), (0, 10, 25, 15)] rfl (by decide) (by decide) (by decide) lk13 (List.forall_mem_cons.mpr ⟨⟨by decide, eNSE, lk25, T.2.1 (eIAE, eNSE) (by decide)⟩, (fun z hz => by cases hz)⟩) (fun qx => ?_)
        refine v_astore C [(4, .ref qx), (0, .ref (xg X 0)), (1, .int p), (2, .int a), (3, .ref (xg X 66))] dL_need_17 (by decide) rfl rfl ?_
        refine v_iconst (v := 2) C dL_need_19 (by decide) rfl ?_
        exact v_ret E0 dL_need_20 (by decide) (by decide) (by rw [hE]; decide +kernel) (by rw [hE]; rfl) (by rw [hE]; rfl)
      · refine v_catch (pc := 5) (E := eUOE) C T.1 T.2.2 [(0, 10, 13, 25), (0, 10, 17, 13)] (0, 10, 21, 32) [(0, 10, 25, 15)] rfl (by decide) (by decide) (by decide) lk32 (List.forall_mem_cons.mpr ⟨⟨by decide, eNSE, lk25, T.2.1 (eUOE, eNSE) (by decide)⟩, (List.forall_mem_cons.mpr ⟨⟨by decide, eIAE, lk13, T.2.1 (eUOE, eIAE) (by decide)⟩, (fun z hz => by cases hz)⟩)⟩) (fun qx => ?_)
        refine v_astore C [(4, .ref qx), (0, .ref (xg X 0)), (1, .int p), (2, .int a), (3, .ref (xg X 66))] dL_need_21 (by decide) rfl rfl ?_
        refine v_iconst (v := 3) C dL_need_23 (by decide) rfl ?_
        exact v_ret E0 dL_need_24 (by decide) (by decide) (by rw [hE]; decide +kernel) (by rw [hE]; rfl) (by rw [hE]; rfl)
      · refine v_catch (pc := 5) (E := eISE) C T.1 T.2.2 [(0, 10, 13, 25), (0, 10, 17, 13), (0, 10, 21, 32)] (0, 10, 25, 15) [] rfl (by decide) (by decide) (by decide) lk15 (List.forall_mem_cons.mpr ⟨⟨by decide, eNSE, lk25, T.2.1 (eISE, eNSE) (by decide)⟩, (List.forall_mem_cons.mpr ⟨⟨by decide, eIAE, lk13, T.2.1 (eISE, eIAE) (by decide)⟩, (List.forall_mem_cons.mpr ⟨⟨by decide, eUOE, lk32, T.2.1 (eISE, eUOE) (by decide)⟩, (fun z hz => by cases hz)⟩)⟩)⟩) (fun qx => ?_)
        refine v_astore C [(4, .ref qx), (0, .ref (xg X 0)), (1, .int p), (2, .int a), (3, .ref (xg X 66))] dL_need_25 (by decide) rfl rfl ?_
        refine v_iconst (v := 4) C dL_need_27 (by decide) rfl ?_
        exact v_ret E0 dL_need_28 (by decide) (by decide) (by rw [hE]; decide +kernel) (by rw [hE]; rfl) (by rw [hE]; rfl)
    · skip
      refine v_i2l C dL_need_8 rfl ?_
      refine v_last C dL_need_9 rfl ?_
      refine v_goto (pc1 := 29) C dL_need_10 (by decide) ?_
      refine v_iconst (v := 0) C dL_need_29 (by decide) rfl ?_
      exact v_ret E0 dL_need_30 (by decide) (by decide) (by rw [hE]; rfl) (by rw [hE]; rfl) (by rw [hE]; rfl)
theorem kw_need : KW RL 113 yL_need cL_need 5 [(0, 10, 13, 25), (0, 10, 17, 13), (0, 10, 21, 32), (0, 10, 25, 15)] 4 := ⟨(all_in3 77 (by decide +kernel) rfl), (all_in1 0 (by decide +kernel) rfl), (all_in3 75 (by decide +kernel) rfl), (all_in3 76 (by decide +kernel) rfl), ⟨by decide +kernel, by decide +kernel⟩, by decide +kernel, by decide⟩
def wf_setArrival : String → Int32 := fun E => if E = eIOB then 1 else if E = eIAE then 2 else if E = eISE then 3 else 99
set_option maxHeartbeats 4000000 in
set_option maxRecDepth 20000 in
theorem k_L_setArrival {l : Launch} {D : va_G} {K : Nat → ClassId} {g : Nat → Nat} (hl : l.stackTraces = false) (sg : Sg) (o : Ot) (p : Int32) (z : Int32) (hD : DI sg) : CW l yL_setArrival cL_setArrival 5 [(0, 10, 13, 27), (0, 10, 17, 13), (0, 10, 21, 15)] 22 1 6 D K g [.ref (g 0), .int p, .int z, .ref (g 66)] sg o (wC wf_setArrival (fe_X4_setArrival sg p z)) (wS (fe_X4_setArrival sg p z) (fs_X4_setArrival sg p z) sg) (wO (fe_X4_setArrival sg p z) (Int32.toInt64 (fr_X4_setArrival sg p z), o.2) o) :=
  mk_w (own := RL) (av := fun g => [.ref (g 0), .int p, .int z, .ref (g 66)]) (lo := fun g => [(0, .ref (g 0)), (1, .int p), (2, .int z), (3, .ref (g 66))]) (by decide) rfl (fun _ => Nat.le_of_ble_eq_true rfl) (fun _ => rfl) fun X C T eL E0 => by
    subst eL
    refine v_aload_n (j := 3) C dL_setArrival_0 rfl rfl rfl ?_
    refine v_iconst (v := 0) C dL_setArrival_1 (by decide) rfl ?_
    refine v_aload_n (j := 0) C dL_setArrival_2 rfl rfl rfl ?_
    refine v_iload_n (j := 1) C dL_setArrival_3 rfl rfl rfl ?_
    refine v_iload_n (j := 2) C dL_setArrival_4 rfl rfl rfl ?_
    refine v_callVX2 (rest := [.int 0, .ref (xg X 66)]) (As := [.int p, .int z]) (q := (RX4, TX4, 13)) (c := 0) C T.1 kvL_34 (CX.two (k_X4_setArrival hl sg o p z hD)) (by decide) (by decide) rfl rfl rfl rfl rfl (Nat.le_of_ble_eq_true rfl) (by decide) (by decide) dL_setArrival_5 rfl (fun E hE => ?_) (fun hE => ?_)
    · rcases hx_setArrival hE with rfl | rfl | rfl
      · refine v_catch (pc := 5) (E := eIOB) C T.1 T.2.2 [] (0, 10, 13, 27) [(0, 10, 17, 13), (0, 10, 21, 15)] rfl (by decide) (by decide) (by decide) lk27 (fun z hz => by cases hz) (fun qx => ?_)
        refine v_astore C [(4, .ref qx), (0, .ref (xg X 0)), (1, .int p), (2, .int z), (3, .ref (xg X 66))] dL_setArrival_13 (by decide) rfl rfl ?_
        refine v_iconst (v := 1) C dL_setArrival_15 (by decide) rfl ?_
        exact v_ret E0 dL_setArrival_16 (by decide) (by decide) (by rw [hE]; decide +kernel) (by rw [hE]; rfl) (by rw [hE]; rfl)
      · refine v_catch (pc := 5) (E := eIAE) C T.1 T.2.2 [(0, 10, 13, 27)] (0, 10, 17, 13) [(0, 10, 21, 15)] rfl (by decide) (by decide) (by decide) lk13 (List.forall_mem_cons.mpr ⟨⟨by decide, eIOB, lk27, T.2.1 (eIAE, eIOB) (by decide)⟩, (fun z hz => by cases hz)⟩) (fun qx => ?_)
        refine v_astore C [(4, .ref qx), (0, .ref (xg X 0)), (1, .int p), (2, .int z), (3, .ref (xg X 66))] dL_setArrival_17 (by decide) rfl rfl ?_
        refine v_iconst (v := 2) C dL_setArrival_19 (by decide) rfl ?_
        exact v_ret E0 dL_setArrival_20 (by decide) (by decide) (by rw [hE]; decide +kernel) (by rw [hE]; rfl) (by rw [hE]; rfl)
      · refine v_catch (pc := 5) (E := eISE) C T.1 T.2.2 [(0, 10, 13, 27), (0, 10, 17, 13)] (0, 10, 21, 15) [] rfl (by decide) (by decide) (by decide) lk15 (List.forall_mem_cons.mpr ⟨⟨by decide, eIOB, lk27, T.2.1 (eISE, eIOB) (by decide)⟩, (List.forall_mem_cons.mpr ⟨⟨by decide, eIAE, lk13, T.2.1 (eISE, eIAE) (by decide)⟩, (fun z hz => by cases hz)⟩)⟩) (fun qx => ?_)
        refine v_astore C [(4, .ref qx), (0, .ref (xg X 0)), (1, .int p), (2, .int z), (3, .ref (xg X 66))] dL_setArrival_21 (by decide) rfl rfl ?_
        refine v_iconst (v := 3) C dL_setArrival_23 (by decide) rfl ?_
        exact v_ret E0 dL_setArrival_24 (by decide) (by decide) (by rw [hE]; decide +kernel) (by rw [hE]; rfl) (by rw [hE]; rfl)
    · skip
      refine v_i2l C dL_setArrival_8 rfl ?_
      refine v_last C dL_setArrival_9 rfl ?_
      refine v_goto (pc1 := 25) C dL_setArrival_10 (by decide) ?_
      refine v_iconst (v := 0) C dL_setArrival_25 (by decide) rfl ?_
      exact v_ret E0 dL_setArrival_26 (by decide) (by decide) (by rw [hE]; rfl) (by rw [hE]; rfl) (by rw [hE]; rfl)
theorem kw_setArrival : KW RL 116 yL_setArrival cL_setArrival 5 [(0, 10, 13, 27), (0, 10, 17, 13), (0, 10, 21, 15)] 4 := ⟨(all_in3 112 (by decide +kernel) rfl), (all_in1 0 (by decide +kernel) rfl), (all_in3 110 (by decide +kernel) rfl), (all_in3 111 (by decide +kernel) rfl), ⟨by decide +kernel, by decide +kernel⟩, by decide +kernel, by decide⟩
def wf_addTown : String → Int32 := fun E => if E = eIAE then 1 else if E = eISE then 2 else 99
set_option maxHeartbeats 4000000 in
set_option maxRecDepth 20000 in
theorem k_L_addTown {l : Launch} {D : va_G} {K : Nat → ClassId} {g : Nat → Nat} (hl : l.stackTraces = false) (sg : Sg) (o : Ot) (p : Int32) (z : Int32) (w : Int32) (t : Int32) (hD : DI sg) : CW l yL_addTown cL_addTown 7 [(0, 14, 17, 13), (0, 14, 21, 15)] 22 1 6 D K g [.ref (g 0), .int p, .int z, .int w, .int t, .ref (g 66)] sg o (wC wf_addTown (fe_X4_addTown sg p z w t)) (wS (fe_X4_addTown sg p z w t) (fs_X4_addTown sg p z w t) sg) (wO (fe_X4_addTown sg p z w t) (Int32.toInt64 (fr_X4_addTown sg p z w t), o.2) o) :=
  mk_w (own := RL) (av := fun g => [.ref (g 0), .int p, .int z, .int w, .int t, .ref (g 66)]) (lo := fun g => [(0, .ref (g 0)), (1, .int p), (2, .int z), (3, .int w), (4, .int t), (5, .ref (g 66))]) (by decide) rfl (fun _ => Nat.le_of_ble_eq_true rfl) (fun _ => rfl) fun X C T eL E0 => by
    subst eL
    refine v_aload (j := 5) C dL_addTown_0 rfl rfl ?_
    refine v_iconst (v := 0) C dL_addTown_2 (by decide) rfl ?_
    refine v_aload_n (j := 0) C dL_addTown_3 rfl rfl rfl ?_
    refine v_iload_n (j := 1) C dL_addTown_4 rfl rfl rfl ?_
    refine v_iload_n (j := 2) C dL_addTown_5 rfl rfl rfl ?_
    refine v_iload_n (j := 3) C dL_addTown_6 rfl rfl rfl ?_
    refine v_iload (j := 4) C dL_addTown_7 rfl rfl ?_
    refine v_callVX2 (rest := [.int 0, .ref (xg X 66)]) (As := [.int p, .int z, .int w, .int t]) (q := (RX4, TX4, 13)) (c := 0) C T.1 kvL_37 (CX.two (k_X4_addTown hl sg o p z w t hD)) (by decide) (by decide) rfl rfl rfl rfl rfl (Nat.le_of_ble_eq_true rfl) (by decide) (by decide) dL_addTown_9 rfl (fun E hE => ?_) (fun hE => ?_)
    · rcases hx_addTown hE with rfl | rfl
      · refine v_catch (pc := 9) (E := eIAE) C T.1 T.2.2 [] (0, 14, 17, 13) [(0, 14, 21, 15)] rfl (by decide) (by decide) (by decide) lk13 (fun z hz => by cases hz) (fun qx => ?_)
        refine v_astore C [(6, .ref qx), (0, .ref (xg X 0)), (1, .int p), (2, .int z), (3, .int w), (4, .int t), (5, .ref (xg X 66))] dL_addTown_17 (by decide) rfl rfl ?_
        refine v_iconst (v := 1) C dL_addTown_19 (by decide) rfl ?_
        exact v_ret E0 dL_addTown_20 (by decide) (by decide) (by rw [hE]; decide +kernel) (by rw [hE]; rfl) (by rw [hE]; rfl)
      · refine v_catch (pc := 9) (E := eISE) C T.1 T.2.2 [(0, 14, 17, 13)] (0, 14, 21, 15) [] rfl (by decide) (by decide) (by decide) lk15 (List.forall_mem_cons.mpr ⟨⟨by decide, eIAE, lk13, T.2.1 (eISE, eIAE) (by decide)⟩, (fun z hz => by cases hz)⟩) (fun qx => ?_)
        refine v_astore C [(6, .ref qx), (0, .ref (xg X 0)), (1, .int p), (2, .int z), (3, .int w), (4, .int t), (5, .ref (xg X 66))] dL_addTown_21 (by decide) rfl rfl ?_
        refine v_iconst (v := 2) C dL_addTown_23 (by decide) rfl ?_
        exact v_ret E0 dL_addTown_24 (by decide) (by decide) (by rw [hE]; decide +kernel) (by rw [hE]; rfl) (by rw [hE]; rfl)
    · skip
      refine v_i2l C dL_addTown_12 rfl ?_
      refine v_last C dL_addTown_13 rfl ?_
      refine v_goto (pc1 := 25) C dL_addTown_14 (by decide) ?_
      refine v_iconst (v := 0) C dL_addTown_25 (by decide) rfl ?_
      exact v_ret E0 dL_addTown_26 (by decide) (by decide) (by rw [hE]; rfl) (by rw [hE]; rfl) (by rw [hE]; rfl)
theorem kw_addTown : KW RL 119 yL_addTown cL_addTown 7 [(0, 14, 17, 13), (0, 14, 21, 15)] 6 := ⟨(all_in3 126 (by decide +kernel) rfl), (all_in1 0 (by decide +kernel) rfl), (all_in3 124 (by decide +kernel) rfl), (all_in3 125 (by decide +kernel) rfl), ⟨by decide +kernel, by decide +kernel⟩, by decide +kernel, by decide⟩
def wf_setRates : String → Int32 := fun E => if E = eNSE then 1 else if E = eIAE then 2 else 99
set_option maxHeartbeats 4000000 in
set_option maxRecDepth 20000 in
theorem k_L_setRates {l : Launch} {D : va_G} {K : Nat → ClassId} {g : Nat → Nat} (hl : l.stackTraces = false) (sg : Sg) (o : Ot) (p : Int32) (z : Int32) (w : Int32) (t : Int32) (hD : DI sg) : CW l yL_setRates cL_setRates 7 [(0, 14, 17, 25), (0, 14, 21, 13)] 22 2 12 D K g [.ref (g 0), .int p, .int z, .int w, .int t, .ref (g 66)] sg o (wC wf_setRates (fe_X4_setRates sg p z w t)) (wS (fe_X4_setRates sg p z w t) (fs_X4_setRates sg p z w t) sg) (wO (fe_X4_setRates sg p z w t) (Int32.toInt64 (fr_X4_setRates sg p z w t), o.2) o) :=
  mk_w (own := RL) (av := fun g => [.ref (g 0), .int p, .int z, .int w, .int t, .ref (g 66)]) (lo := fun g => [(0, .ref (g 0)), (1, .int p), (2, .int z), (3, .int w), (4, .int t), (5, .ref (g 66))]) (by decide) rfl (fun _ => Nat.le_of_ble_eq_true rfl) (fun _ => rfl) fun X C T eL E0 => by
    subst eL
    refine v_aload (j := 5) C dL_setRates_0 rfl rfl ?_
    refine v_iconst (v := 0) C dL_setRates_2 (by decide) rfl ?_
    refine v_aload_n (j := 0) C dL_setRates_3 rfl rfl rfl ?_
    refine v_iload_n (j := 1) C dL_setRates_4 rfl rfl rfl ?_
    refine v_iload_n (j := 2) C dL_setRates_5 rfl rfl rfl ?_
    refine v_iload_n (j := 3) C dL_setRates_6 rfl rfl rfl ?_
    refine v_iload (j := 4) C dL_setRates_7 rfl rfl ?_
    refine v_callVX2 (rest := [.int 0, .ref (xg X 66)]) (As := [.int p, .int z, .int w, .int t]) (q := (RX4, TX4, 13)) (c := 0) C T.1 kvL_40 (CX.two (k_X4_setRates hl sg o p z w t hD)) (by decide) (by decide) rfl rfl rfl rfl rfl (Nat.le_of_ble_eq_true rfl) (by decide) (by decide) dL_setRates_9 rfl (fun E hE => ?_) (fun hE => ?_)
    · rcases hx_setRates hE with rfl | rfl
      · refine v_catch (pc := 9) (E := eNSE) C T.1 T.2.2 [] (0, 14, 17, 25) [(0, 14, 21, 13)] rfl (by decide) (by decide) (by decide) lk25 (fun z hz => by cases hz) (fun qx => ?_)
        refine v_astore C [(6, .ref qx), (0, .ref (xg X 0)), (1, .int p), (2, .int z), (3, .int w), (4, .int t), (5, .ref (xg X 66))] dL_setRates_17 (by decide) rfl rfl ?_
        refine v_iconst (v := 1) C dL_setRates_19 (by decide) rfl ?_
        exact v_ret E0 dL_setRates_20 (by decide) (by decide) (by rw [hE]; decide +kernel) (by rw [hE]; rfl) (by rw [hE]; rfl)
      · refine v_catch (pc := 9) (E := eIAE) C T.1 T.2.2 [(0, 14, 17, 25)] (0, 14, 21, 13) [] rfl (by decide) (by decide) (by decide) lk13 (List.forall_mem_cons.mpr ⟨⟨by decide, eNSE, lk25, T.2.1 (eIAE, eNSE) (by decide)⟩, (fun z hz => by cases hz)⟩) (fun qx => ?_)
        refine v_astore C [(6, .ref qx), (0, .ref (xg X 0)), (1, .int p), (2, .int z), (3, .int w), (4, .int t), (5, .ref (xg X 66))] dL_setRates_21 (by decide) rfl rfl ?_
        refine v_iconst (v := 2) C dL_setRates_23 (by decide) rfl ?_
        exact v_ret E0 dL_setRates_24 (by decide) (by decide) (by rw [hE]; decide +kernel) (by rw [hE]; rfl) (by rw [hE]; rfl)
    · skip
      refine v_i2l C dL_setRates_12 rfl ?_
      refine v_last C dL_setRates_13 rfl ?_
      refine v_goto (pc1 := 25) C dL_setRates_14 (by decide) ?_
      refine v_iconst (v := 0) C dL_setRates_25 (by decide) rfl ?_
      exact v_ret E0 dL_setRates_26 (by decide) (by decide) (by rw [hE]; rfl) (by rw [hE]; rfl) (by rw [hE]; rfl)
theorem kw_setRates : KW RL 122 yL_setRates cL_setRates 7 [(0, 14, 17, 25), (0, 14, 21, 13)] 6 := ⟨(all_in3 135 (by decide +kernel) rfl), (all_in1 0 (by decide +kernel) rfl), (all_in3 133 (by decide +kernel) rfl), (all_in3 134 (by decide +kernel) rfl), ⟨by decide +kernel, by decide +kernel⟩, by decide +kernel, by decide⟩
def wf_come : String → Int32 := fun E => if E = eNSE then 1 else 99
set_option maxHeartbeats 4000000 in
set_option maxRecDepth 20000 in
theorem k_L_come {l : Launch} {D : va_G} {K : Nat → ClassId} {g : Nat → Nat} (hl : l.stackTraces = false) (sg : Sg) (o : Ot) (p : Int32) (hD : DI sg) : CW l yL_come cL_come 4 [(0, 9, 12, 25)] 22 1 6 D K g [.ref (g 0), .int p, .ref (g 66)] sg o (wC wf_come (fe_X4_come sg p)) (wS (fe_X4_come sg p) (fs_X4_come sg p) sg) (wO (fe_X4_come sg p) (Int32.toInt64 (fr_X4_come sg p), o.2) o) :=
  mk_w (own := RL) (av := fun g => [.ref (g 0), .int p, .ref (g 66)]) (lo := fun g => [(0, .ref (g 0)), (1, .int p), (2, .ref (g 66))]) (by decide) rfl (fun _ => Nat.le_of_ble_eq_true rfl) (fun _ => rfl) fun X C T eL E0 => by
    subst eL
    refine v_aload_n (j := 2) C dL_come_0 rfl rfl rfl ?_
    refine v_iconst (v := 0) C dL_come_1 (by decide) rfl ?_
    refine v_aload_n (j := 0) C dL_come_2 rfl rfl rfl ?_
    refine v_iload_n (j := 1) C dL_come_3 rfl rfl rfl ?_
    refine v_callVX2 (rest := [.int 0, .ref (xg X 66)]) (As := [.int p]) (q := (RX4, TX4, 13)) (c := 0) C T.1 kvL_43 (CX.two (k_X4_come hl sg o p hD)) (by decide) (by decide) rfl rfl rfl rfl rfl (Nat.le_of_ble_eq_true rfl) (by decide) (by decide) dL_come_4 rfl (fun E hE => ?_) (fun hE => ?_)
    · rcases hx_come hE with rfl
      · refine v_catch (pc := 4) (E := eNSE) C T.1 T.2.2 [] (0, 9, 12, 25) [] rfl (by decide) (by decide) (by decide) lk25 (fun z hz => by cases hz) (fun qx => ?_)
        refine v_astore_n C [(3, .ref qx), (0, .ref (xg X 0)), (1, .int p), (2, .ref (xg X 66))] dL_come_12 rfl (by decide) rfl rfl ?_
        refine v_iconst (v := 1) C dL_come_13 (by decide) rfl ?_
        exact v_ret E0 dL_come_14 (by decide) (by decide) (by rw [hE]; decide +kernel) (by rw [hE]; rfl) (by rw [hE]; rfl)
    · skip
      refine v_i2l C dL_come_7 rfl ?_
      refine v_last C dL_come_8 rfl ?_
      refine v_goto (pc1 := 15) C dL_come_9 (by decide) ?_
      refine v_iconst (v := 0) C dL_come_15 (by decide) rfl ?_
      exact v_ret E0 dL_come_16 (by decide) (by decide) (by rw [hE]; rfl) (by rw [hE]; rfl) (by rw [hE]; rfl)
theorem kw_come : KW RL 125 yL_come cL_come 4 [(0, 9, 12, 25)] 3 := ⟨(all_in3 148 (by decide +kernel) rfl), (all_in1 0 (by decide +kernel) rfl), (all_in3 146 (by decide +kernel) rfl), (all_in3 147 (by decide +kernel) rfl), ⟨by decide +kernel, by decide +kernel⟩, by decide +kernel, by decide⟩
def wf_town : String → Int32 := fun E => if E = eNSE then 1 else 99
set_option maxHeartbeats 4000000 in
set_option maxRecDepth 20000 in
theorem k_L_town {l : Launch} {D : va_G} {K : Nat → ClassId} {g : Nat → Nat} (hl : l.stackTraces = false) (sg : Sg) (o : Ot)  (hD : DI sg) : CW l yL_town cL_town 3 [(0, 8, 11, 25)] 22 1 6 D K g [.ref (g 0), .ref (g 66)] sg o (wC wf_town (fe_X4_town sg)) (wS (fe_X4_town sg) sg sg) (wO (fe_X4_town sg) (Int32.toInt64 (fr_X4_town sg), o.2) o) :=
  mk_w (own := RL) (av := fun g => [.ref (g 0), .ref (g 66)]) (lo := fun g => [(0, .ref (g 0)), (1, .ref (g 66))]) (by decide) rfl (fun _ => Nat.le_of_ble_eq_true rfl) (fun _ => rfl) fun X C T eL E0 => by
    subst eL
    refine v_aload_n (j := 1) C dL_town_0 rfl rfl rfl ?_
    refine v_iconst (v := 0) C dL_town_1 (by decide) rfl ?_
    refine v_aload_n (j := 0) C dL_town_2 rfl rfl rfl ?_
    refine v_callVX2 (rest := [.int 0, .ref (xg X 66)]) (As := []) (q := (RX4, TX4, 13)) (c := 0) C T.1 kvL_47 (CX.two (k_X4_town hl sg o hD)) (by decide) (by decide) rfl rfl rfl rfl rfl (Nat.le_of_ble_eq_true rfl) (by decide) (by decide) dL_town_3 rfl (fun E hE => ?_) (fun hE => ?_)
    · rcases hx_town hE with rfl
      · refine v_catch (pc := 3) (E := eNSE) C T.1 T.2.2 [] (0, 8, 11, 25) [] rfl (by decide) (by decide) (by decide) lk25 (fun z hz => by cases hz) (fun qx => ?_)
        refine v_astore_n C [(2, .ref qx), (0, .ref (xg X 0)), (1, .ref (xg X 66))] dL_town_11 rfl (by decide) rfl rfl ?_
        refine v_iconst (v := 1) C dL_town_12 (by decide) rfl ?_
        exact v_ret E0 dL_town_13 (by decide) (by decide) (by rw [hE]; decide +kernel) (by rw [hE]; rfl) (by rw [hE]; rfl)
    · skip
      refine v_i2l C dL_town_6 rfl ?_
      refine v_last C dL_town_7 rfl ?_
      refine v_goto (pc1 := 14) C dL_town_8 (by decide) ?_
      refine v_iconst (v := 0) C dL_town_14 (by decide) rfl ?_
      exact v_ret E0 dL_town_15 (by decide) (by decide) (by rw [hE]; rfl) (by rw [hE]; rfl) (by rw [hE]; rfl)
theorem kw_town : KW RL 129 yL_town cL_town 3 [(0, 8, 11, 25)] 2 := ⟨(all_in3 159 (by decide +kernel) rfl), (all_in1 0 (by decide +kernel) rfl), (all_in3 157 (by decide +kernel) rfl), (all_in3 158 (by decide +kernel) rfl), ⟨by decide +kernel, by decide +kernel⟩, by decide +kernel, by decide⟩
def wf_loadOn : String → Int32 := fun E => if E = eNSE then 1 else if E = eIOB then 2 else 99
set_option maxHeartbeats 4000000 in
set_option maxRecDepth 20000 in
theorem k_L_loadOn {l : Launch} {D : va_G} {K : Nat → ClassId} {g : Nat → Nat} (hl : l.stackTraces = false) (sg : Sg) (o : Ot) (p : Int32) (q : Int32) (hD : DI sg) : CW l yL_loadOn cL_loadOn 5 [(0, 10, 13, 25), (0, 10, 17, 27)] 22 2 12 D K g [.ref (g 0), .int p, .int q, .ref (g 66)] sg o (wC wf_loadOn (fe_X4_loadOn sg p q)) (wS (fe_X4_loadOn sg p q) sg sg) (wO (fe_X4_loadOn sg p q) (Int32.toInt64 (fr_X4_loadOn sg p q), o.2) o) :=
  mk_w (own := RL) (av := fun g => [.ref (g 0), .int p, .int q, .ref (g 66)]) (lo := fun g => [(0, .ref (g 0)), (1, .int p), (2, .int q), (3, .ref (g 66))]) (by decide) rfl (fun _ => Nat.le_of_ble_eq_true rfl) (fun _ => rfl) fun X C T eL E0 => by
    subst eL
    refine v_aload_n (j := 3) C dL_loadOn_0 rfl rfl rfl ?_
    refine v_iconst (v := 0) C dL_loadOn_1 (by decide) rfl ?_
    refine v_aload_n (j := 0) C dL_loadOn_2 rfl rfl rfl ?_
    refine v_iload_n (j := 1) C dL_loadOn_3 rfl rfl rfl ?_
    refine v_iload_n (j := 2) C dL_loadOn_4 rfl rfl rfl ?_
    refine v_callVX2 (rest := [.int 0, .ref (xg X 66)]) (As := [.int p, .int q]) (q := (RX4, TX4, 13)) (c := 0) C T.1 kvL_51 (CX.two (k_X4_loadOn hl sg o p q hD)) (by decide) (by decide) rfl rfl rfl rfl rfl (Nat.le_of_ble_eq_true rfl) (by decide) (by decide) dL_loadOn_5 rfl (fun E hE => ?_) (fun hE => ?_)
    · rcases hx_loadOn hE with rfl | rfl
      · refine v_catch (pc := 5) (E := eNSE) C T.1 T.2.2 [] (0, 10, 13, 25) [(0, 10, 17, 27)] rfl (by decide) (by decide) (by decide) lk25 (fun z hz => by cases hz) (fun qx => ?_)
        refine v_astore C [(4, .ref qx), (0, .ref (xg X 0)), (1, .int p), (2, .int q), (3, .ref (xg X 66))] dL_loadOn_13 (by decide) rfl rfl ?_
        refine v_iconst (v := 1) C dL_loadOn_15 (by decide) rfl ?_
        exact v_ret E0 dL_loadOn_16 (by decide) (by decide) (by rw [hE]; decide +kernel) (by rw [hE]; rfl) (by rw [hE]; rfl)
      · refine v_catch (pc := 5) (E := eIOB) C T.1 T.2.2 [(0, 10, 13, 25)] (0, 10, 17, 27) [] rfl (by decide) (by decide) (by decide) lk27 (List.forall_mem_cons.mpr ⟨⟨by decide, eNSE, lk25, T.2.1 (eIOB, eNSE) (by decide)⟩, (fun z hz => by cases hz)⟩) (fun qx => ?_)
        refine v_astore C [(4, .ref qx), (0, .ref (xg X 0)), (1, .int p), (2, .int q), (3, .ref (xg X 66))] dL_loadOn_17 (by decide) rfl rfl ?_
        refine v_iconst (v := 2) C dL_loadOn_19 (by decide) rfl ?_
        exact v_ret E0 dL_loadOn_20 (by decide) (by decide) (by rw [hE]; decide +kernel) (by rw [hE]; rfl) (by rw [hE]; rfl)
    · skip
      refine v_i2l C dL_loadOn_8 rfl ?_
      refine v_last C dL_loadOn_9 rfl ?_
      refine v_goto (pc1 := 21) C dL_loadOn_10 (by decide) ?_
      refine v_iconst (v := 0) C dL_loadOn_21 (by decide) rfl ?_
      exact v_ret E0 dL_loadOn_22 (by decide) (by decide) (by rw [hE]; rfl) (by rw [hE]; rfl) (by rw [hE]; rfl)
theorem kw_loadOn : KW RL 133 yL_loadOn cL_loadOn 5 [(0, 10, 13, 25), (0, 10, 17, 27)] 4 := ⟨(all_in3 167 (by decide +kernel) rfl), (all_in1 0 (by decide +kernel) rfl), (all_in3 165 (by decide +kernel) rfl), (all_in3 166 (by decide +kernel) rfl), ⟨by decide +kernel, by decide +kernel⟩, by decide +kernel, by decide⟩
def wf_mayBear : String → Int32 := fun E => if E = eIOB then 1 else if E = eISE then 2 else 99
set_option maxHeartbeats 4000000 in
set_option maxRecDepth 20000 in
theorem k_L_mayBear {l : Launch} {D : va_G} {K : Nat → ClassId} {g : Nat → Nat} (hl : l.stackTraces = false) (sg : Sg) (o : Ot) (q : Int32) (hD : DI sg) : CW l yL_mayBear cL_mayBear 4 [(0, 9, 12, 27), (0, 9, 15, 15)] 22 2 12 D K g [.ref (g 0), .int q, .ref (g 66)] sg o (wC wf_mayBear (fe_X4_mayBear sg q)) (wS (fe_X4_mayBear sg q) sg sg) (wO (fe_X4_mayBear sg q) (Int32.toInt64 (fr_X4_mayBear sg q), o.2) o) :=
  mk_w (own := RL) (av := fun g => [.ref (g 0), .int q, .ref (g 66)]) (lo := fun g => [(0, .ref (g 0)), (1, .int q), (2, .ref (g 66))]) (by decide) rfl (fun _ => Nat.le_of_ble_eq_true rfl) (fun _ => rfl) fun X C T eL E0 => by
    subst eL
    refine v_aload_n (j := 2) C dL_mayBear_0 rfl rfl rfl ?_
    refine v_iconst (v := 0) C dL_mayBear_1 (by decide) rfl ?_
    refine v_aload_n (j := 0) C dL_mayBear_2 rfl rfl rfl ?_
    refine v_iload_n (j := 1) C dL_mayBear_3 rfl rfl rfl ?_
    refine v_callVX2 (rest := [.int 0, .ref (xg X 66)]) (As := [.int q]) (q := (RX4, TX4, 13)) (c := 0) C T.1 kvL_54 (CX.two (k_X4_mayBear hl sg o q hD)) (by decide) (by decide) rfl rfl rfl rfl rfl (Nat.le_of_ble_eq_true rfl) (by decide) (by decide) dL_mayBear_4 rfl (fun E hE => ?_) (fun hE => ?_)
    · rcases hx_mayBear hE with rfl | rfl
      · refine v_catch (pc := 4) (E := eIOB) C T.1 T.2.2 [] (0, 9, 12, 27) [(0, 9, 15, 15)] rfl (by decide) (by decide) (by decide) lk27 (fun z hz => by cases hz) (fun qx => ?_)
        refine v_astore_n C [(3, .ref qx), (0, .ref (xg X 0)), (1, .int q), (2, .ref (xg X 66))] dL_mayBear_12 rfl (by decide) rfl rfl ?_
        refine v_iconst (v := 1) C dL_mayBear_13 (by decide) rfl ?_
        exact v_ret E0 dL_mayBear_14 (by decide) (by decide) (by rw [hE]; decide +kernel) (by rw [hE]; rfl) (by rw [hE]; rfl)
      · refine v_catch (pc := 4) (E := eISE) C T.1 T.2.2 [(0, 9, 12, 27)] (0, 9, 15, 15) [] rfl (by decide) (by decide) (by decide) lk15 (List.forall_mem_cons.mpr ⟨⟨by decide, eIOB, lk27, T.2.1 (eISE, eIOB) (by decide)⟩, (fun z hz => by cases hz)⟩) (fun qx => ?_)
        refine v_astore_n C [(3, .ref qx), (0, .ref (xg X 0)), (1, .int q), (2, .ref (xg X 66))] dL_mayBear_15 rfl (by decide) rfl rfl ?_
        refine v_iconst (v := 2) C dL_mayBear_16 (by decide) rfl ?_
        exact v_ret E0 dL_mayBear_17 (by decide) (by decide) (by rw [hE]; decide +kernel) (by rw [hE]; rfl) (by rw [hE]; rfl)
    · skip
      refine v_i2l C dL_mayBear_7 rfl ?_
      refine v_last C dL_mayBear_8 rfl ?_
      refine v_goto (pc1 := 18) C dL_mayBear_9 (by decide) ?_
      refine v_iconst (v := 0) C dL_mayBear_18 (by decide) rfl ?_
      exact v_ret E0 dL_mayBear_19 (by decide) (by decide) (by rw [hE]; rfl) (by rw [hE]; rfl) (by rw [hE]; rfl)
theorem kw_mayBear : KW RL 136 yL_mayBear cL_mayBear 4 [(0, 9, 12, 27), (0, 9, 15, 15)] 3 := ⟨(all_in3 178 (by decide +kernel) rfl), (all_in1 0 (by decide +kernel) rfl), (all_in3 176 (by decide +kernel) rfl), (all_in3 177 (by decide +kernel) rfl), ⟨by decide +kernel, by decide +kernel⟩, by decide +kernel, by decide⟩
def wf_bears : String → Int32 := fun E => if E = eIOB then 1 else 99
set_option maxHeartbeats 4000000 in
set_option maxRecDepth 20000 in
theorem k_L_bears {l : Launch} {D : va_G} {K : Nat → ClassId} {g : Nat → Nat} (hl : l.stackTraces = false) (sg : Sg) (o : Ot) (q : Int32) (hD : DI sg) : CW l yL_bears cL_bears 4 [(0, 9, 12, 27)] 22 1 6 D K g [.ref (g 0), .int q, .ref (g 66)] sg o (wC wf_bears (fe_X4_bears sg q)) (wS (fe_X4_bears sg q) sg sg) (wO (fe_X4_bears sg q) (Int32.toInt64 (fr_X4_bears sg q), o.2) o) :=
  mk_w (own := RL) (av := fun g => [.ref (g 0), .int q, .ref (g 66)]) (lo := fun g => [(0, .ref (g 0)), (1, .int q), (2, .ref (g 66))]) (by decide) rfl (fun _ => Nat.le_of_ble_eq_true rfl) (fun _ => rfl) fun X C T eL E0 => by
    subst eL
    refine v_aload_n (j := 2) C dL_bears_0 rfl rfl rfl ?_
    refine v_iconst (v := 0) C dL_bears_1 (by decide) rfl ?_
    refine v_aload_n (j := 0) C dL_bears_2 rfl rfl rfl ?_
    refine v_iload_n (j := 1) C dL_bears_3 rfl rfl rfl ?_
    refine v_callVX2 (rest := [.int 0, .ref (xg X 66)]) (As := [.int q]) (q := (RX4, TX4, 13)) (c := 0) C T.1 kvL_57 (CX.two (k_X4_bears hl sg o q hD)) (by decide) (by decide) rfl rfl rfl rfl rfl (Nat.le_of_ble_eq_true rfl) (by decide) (by decide) dL_bears_4 rfl (fun E hE => ?_) (fun hE => ?_)
    · rcases hx_bears hE with rfl
      · refine v_catch (pc := 4) (E := eIOB) C T.1 T.2.2 [] (0, 9, 12, 27) [] rfl (by decide) (by decide) (by decide) lk27 (fun z hz => by cases hz) (fun qx => ?_)
        refine v_astore_n C [(3, .ref qx), (0, .ref (xg X 0)), (1, .int q), (2, .ref (xg X 66))] dL_bears_12 rfl (by decide) rfl rfl ?_
        refine v_iconst (v := 1) C dL_bears_13 (by decide) rfl ?_
        exact v_ret E0 dL_bears_14 (by decide) (by decide) (by rw [hE]; decide +kernel) (by rw [hE]; rfl) (by rw [hE]; rfl)
    · skip
      refine v_i2l C dL_bears_7 rfl ?_
      refine v_last C dL_bears_8 rfl ?_
      refine v_goto (pc1 := 15) C dL_bears_9 (by decide) ?_
      refine v_iconst (v := 0) C dL_bears_15 (by decide) rfl ?_
      exact v_ret E0 dL_bears_16 (by decide) (by decide) (by rw [hE]; rfl) (by rw [hE]; rfl) (by rw [hE]; rfl)
theorem kw_bears : KW RL 139 yL_bears cL_bears 4 [(0, 9, 12, 27)] 3 := ⟨(all_in3 185 (by decide +kernel) rfl), (all_in1 0 (by decide +kernel) rfl), (all_in3 183 (by decide +kernel) rfl), (all_in3 184 (by decide +kernel) rfl), ⟨by decide +kernel, by decide +kernel⟩, by decide +kernel, by decide⟩
def wf_reason : String → Int32 := fun E => if E = eNSE then 1 else 99
set_option maxHeartbeats 4000000 in
set_option maxRecDepth 20000 in
theorem k_L_reason {l : Launch} {D : va_G} {K : Nat → ClassId} {g : Nat → Nat} (hl : l.stackTraces = false) (sg : Sg) (o : Ot) (p : Int32) (hD : DI sg) : CW l yL_reason cL_reason 4 [(0, 9, 12, 25)] 22 1 6 D K g [.ref (g 0), .int p, .ref (g 66)] sg o (wC wf_reason (fe_X4_reason sg p)) (wS (fe_X4_reason sg p) sg sg) (wO (fe_X4_reason sg p) (Int32.toInt64 (fr_X4_reason sg p), o.2) o) :=
  mk_w (own := RL) (av := fun g => [.ref (g 0), .int p, .ref (g 66)]) (lo := fun g => [(0, .ref (g 0)), (1, .int p), (2, .ref (g 66))]) (by decide) rfl (fun _ => Nat.le_of_ble_eq_true rfl) (fun _ => rfl) fun X C T eL E0 => by
    subst eL
    refine v_aload_n (j := 2) C dL_reason_0 rfl rfl rfl ?_
    refine v_iconst (v := 0) C dL_reason_1 (by decide) rfl ?_
    refine v_aload_n (j := 0) C dL_reason_2 rfl rfl rfl ?_
    refine v_iload_n (j := 1) C dL_reason_3 rfl rfl rfl ?_
    refine v_callVX2 (rest := [.int 0, .ref (xg X 66)]) (As := [.int p]) (q := (RX4, TX4, 13)) (c := 0) C T.1 kvL_60 (CX.two (k_X4_reason hl sg o p hD)) (by decide) (by decide) rfl rfl rfl rfl rfl (Nat.le_of_ble_eq_true rfl) (by decide) (by decide) dL_reason_4 rfl (fun E hE => ?_) (fun hE => ?_)
    · rcases hx_reason hE with rfl
      · refine v_catch (pc := 4) (E := eNSE) C T.1 T.2.2 [] (0, 9, 12, 25) [] rfl (by decide) (by decide) (by decide) lk25 (fun z hz => by cases hz) (fun qx => ?_)
        refine v_astore_n C [(3, .ref qx), (0, .ref (xg X 0)), (1, .int p), (2, .ref (xg X 66))] dL_reason_12 rfl (by decide) rfl rfl ?_
        refine v_iconst (v := 1) C dL_reason_13 (by decide) rfl ?_
        exact v_ret E0 dL_reason_14 (by decide) (by decide) (by rw [hE]; decide +kernel) (by rw [hE]; rfl) (by rw [hE]; rfl)
    · skip
      refine v_i2l C dL_reason_7 rfl ?_
      refine v_last C dL_reason_8 rfl ?_
      refine v_goto (pc1 := 15) C dL_reason_9 (by decide) ?_
      refine v_iconst (v := 0) C dL_reason_15 (by decide) rfl ?_
      exact v_ret E0 dL_reason_16 (by decide) (by decide) (by rw [hE]; rfl) (by rw [hE]; rfl) (by rw [hE]; rfl)
theorem kw_reason : KW RL 142 yL_reason cL_reason 4 [(0, 9, 12, 25)] 3 := ⟨(all_in3 192 (by decide +kernel) rfl), (all_in1 0 (by decide +kernel) rfl), (all_in3 190 (by decide +kernel) rfl), (all_in3 191 (by decide +kernel) rfl), ⟨by decide +kernel, by decide +kernel⟩, by decide +kernel, by decide⟩
def wf_hang : String → Int32 := fun E => if E = eNSE then 1 else if E = eISE then 2 else 99
set_option maxHeartbeats 4000000 in
set_option maxRecDepth 20000 in
theorem k_L_hang {l : Launch} {D : va_G} {K : Nat → ClassId} {g : Nat → Nat} (hl : l.stackTraces = false) (sg : Sg) (o : Ot) (p : Int32) (hD : DI sg) : CW l yL_hang cL_hang 4 [(0, 9, 12, 25), (0, 9, 15, 15)] 22 2 12 D K g [.ref (g 0), .int p, .ref (g 66)] sg o (wC wf_hang (fe_X4_hang sg p)) (wS (fe_X4_hang sg p) (fs_X4_hang sg p) sg) (wO (fe_X4_hang sg p) (Int32.toInt64 (fr_X4_hang sg p), o.2) o) :=
  mk_w (own := RL) (av := fun g => [.ref (g 0), .int p, .ref (g 66)]) (lo := fun g => [(0, .ref (g 0)), (1, .int p), (2, .ref (g 66))]) (by decide) rfl (fun _ => Nat.le_of_ble_eq_true rfl) (fun _ => rfl) fun X C T eL E0 => by
    subst eL
    refine v_aload_n (j := 2) C dL_hang_0 rfl rfl rfl ?_
    refine v_iconst (v := 0) C dL_hang_1 (by decide) rfl ?_
    refine v_aload_n (j := 0) C dL_hang_2 rfl rfl rfl ?_
    refine v_iload_n (j := 1) C dL_hang_3 rfl rfl rfl ?_
    refine v_callVX2 (rest := [.int 0, .ref (xg X 66)]) (As := [.int p]) (q := (RX4, TX4, 13)) (c := 0) C T.1 kvL_64 (CX.two (k_X4_hang hl sg o p hD)) (by decide) (by decide) rfl rfl rfl rfl rfl (Nat.le_of_ble_eq_true rfl) (by decide) (by decide) dL_hang_4 rfl (fun E hE => ?_) (fun hE => ?_)
    · rcases hx_hang hE with rfl | rfl
      · refine v_catch (pc := 4) (E := eNSE) C T.1 T.2.2 [] (0, 9, 12, 25) [(0, 9, 15, 15)] rfl (by decide) (by decide) (by decide) lk25 (fun z hz => by cases hz) (fun qx => ?_)
        refine v_astore_n C [(3, .ref qx), (0, .ref (xg X 0)), (1, .int p), (2, .ref (xg X 66))] dL_hang_12 rfl (by decide) rfl rfl ?_
        refine v_iconst (v := 1) C dL_hang_13 (by decide) rfl ?_
        exact v_ret E0 dL_hang_14 (by decide) (by decide) (by rw [hE]; decide +kernel) (by rw [hE]; rfl) (by rw [hE]; rfl)
      · refine v_catch (pc := 4) (E := eISE) C T.1 T.2.2 [(0, 9, 12, 25)] (0, 9, 15, 15) [] rfl (by decide) (by decide) (by decide) lk15 (List.forall_mem_cons.mpr ⟨⟨by decide, eNSE, lk25, T.2.1 (eISE, eNSE) (by decide)⟩, (fun z hz => by cases hz)⟩) (fun qx => ?_)
        refine v_astore_n C [(3, .ref qx), (0, .ref (xg X 0)), (1, .int p), (2, .ref (xg X 66))] dL_hang_15 rfl (by decide) rfl rfl ?_
        refine v_iconst (v := 2) C dL_hang_16 (by decide) rfl ?_
        exact v_ret E0 dL_hang_17 (by decide) (by decide) (by rw [hE]; decide +kernel) (by rw [hE]; rfl) (by rw [hE]; rfl)
    · skip
      refine v_i2l C dL_hang_7 rfl ?_
      refine v_last C dL_hang_8 rfl ?_
      refine v_goto (pc1 := 18) C dL_hang_9 (by decide) ?_
      refine v_iconst (v := 0) C dL_hang_18 (by decide) rfl ?_
      exact v_ret E0 dL_hang_19 (by decide) (by decide) (by rw [hE]; rfl) (by rw [hE]; rfl) (by rw [hE]; rfl)
theorem kw_hang : KW RL 145 yL_hang cL_hang 4 [(0, 9, 12, 25), (0, 9, 15, 15)] 3 := ⟨(all_in3 199 (by decide +kernel) rfl), (all_in1 0 (by decide +kernel) rfl), (all_in3 197 (by decide +kernel) rfl), (all_in3 198 (by decide +kernel) rfl), ⟨by decide +kernel, by decide +kernel⟩, by decide +kernel, by decide⟩
def wf_takeDown : String → Int32 := fun E => if E = eISE then 1 else 99
set_option maxHeartbeats 4000000 in
set_option maxRecDepth 20000 in
theorem k_L_takeDown {l : Launch} {D : va_G} {K : Nat → ClassId} {g : Nat → Nat} (hl : l.stackTraces = false) (sg : Sg) (o : Ot)  (hD : DI sg) : CW l yL_takeDown cL_takeDown 3 [(0, 8, 11, 15)] 22 1 6 D K g [.ref (g 0), .ref (g 66)] sg o (wC wf_takeDown (fe_X4_takeDown sg)) (wS (fe_X4_takeDown sg) (fs_X4_takeDown sg) sg) (wO (fe_X4_takeDown sg) (Int32.toInt64 (fr_X4_takeDown sg), o.2) o) :=
  mk_w (own := RL) (av := fun g => [.ref (g 0), .ref (g 66)]) (lo := fun g => [(0, .ref (g 0)), (1, .ref (g 66))]) (by decide) rfl (fun _ => Nat.le_of_ble_eq_true rfl) (fun _ => rfl) fun X C T eL E0 => by
    subst eL
    refine v_aload_n (j := 1) C dL_takeDown_0 rfl rfl rfl ?_
    refine v_iconst (v := 0) C dL_takeDown_1 (by decide) rfl ?_
    refine v_aload_n (j := 0) C dL_takeDown_2 rfl rfl rfl ?_
    refine v_callVX2 (rest := [.int 0, .ref (xg X 66)]) (As := []) (q := (RX4, TX4, 13)) (c := 0) C T.1 kvL_67 (CX.two (k_X4_takeDown hl sg o hD)) (by decide) (by decide) rfl rfl rfl rfl rfl (Nat.le_of_ble_eq_true rfl) (by decide) (by decide) dL_takeDown_3 rfl (fun E hE => ?_) (fun hE => ?_)
    · rcases hx_takeDown hE with rfl
      · refine v_catch (pc := 3) (E := eISE) C T.1 T.2.2 [] (0, 8, 11, 15) [] rfl (by decide) (by decide) (by decide) lk15 (fun z hz => by cases hz) (fun qx => ?_)
        refine v_astore_n C [(2, .ref qx), (0, .ref (xg X 0)), (1, .ref (xg X 66))] dL_takeDown_11 rfl (by decide) rfl rfl ?_
        refine v_iconst (v := 1) C dL_takeDown_12 (by decide) rfl ?_
        exact v_ret E0 dL_takeDown_13 (by decide) (by decide) (by rw [hE]; decide +kernel) (by rw [hE]; rfl) (by rw [hE]; rfl)
    · skip
      refine v_i2l C dL_takeDown_6 rfl ?_
      refine v_last C dL_takeDown_7 rfl ?_
      refine v_goto (pc1 := 14) C dL_takeDown_8 (by decide) ?_
      refine v_iconst (v := 0) C dL_takeDown_14 (by decide) rfl ?_
      exact v_ret E0 dL_takeDown_15 (by decide) (by decide) (by rw [hE]; rfl) (by rw [hE]; rfl) (by rw [hE]; rfl)
theorem kw_takeDown : KW RL 148 yL_takeDown cL_takeDown 3 [(0, 8, 11, 15)] 2 := ⟨(all_in3 207 (by decide +kernel) rfl), (all_in1 0 (by decide +kernel) rfl), (all_in3 205 (by decide +kernel) rfl), (all_in3 206 (by decide +kernel) rfl), ⟨by decide +kernel, by decide +kernel⟩, by decide +kernel, by decide⟩
def wf_hungAt : String → Int32 := fun E => if E = eIOB then 1 else 99
set_option maxHeartbeats 4000000 in
set_option maxRecDepth 20000 in
theorem k_L_hungAt {l : Launch} {D : va_G} {K : Nat → ClassId} {g : Nat → Nat} (hl : l.stackTraces = false) (sg : Sg) (o : Ot) (p : Int32) (hD : DI sg) : CW l yL_hungAt cL_hungAt 4 [(0, 9, 12, 27)] 22 1 6 D K g [.ref (g 0), .int p, .ref (g 66)] sg o (wC wf_hungAt (fe_X4_hungAt sg p)) (wS (fe_X4_hungAt sg p) sg sg) (wO (fe_X4_hungAt sg p) (Int32.toInt64 (fr_X4_hungAt sg p), o.2) o) :=
  mk_w (own := RL) (av := fun g => [.ref (g 0), .int p, .ref (g 66)]) (lo := fun g => [(0, .ref (g 0)), (1, .int p), (2, .ref (g 66))]) (by decide) rfl (fun _ => Nat.le_of_ble_eq_true rfl) (fun _ => rfl) fun X C T eL E0 => by
    subst eL
    refine v_aload_n (j := 2) C dL_hungAt_0 rfl rfl rfl ?_
    refine v_iconst (v := 0) C dL_hungAt_1 (by decide) rfl ?_
    refine v_aload_n (j := 0) C dL_hungAt_2 rfl rfl rfl ?_
    refine v_iload_n (j := 1) C dL_hungAt_3 rfl rfl rfl ?_
    refine v_callVX2 (rest := [.int 0, .ref (xg X 66)]) (As := [.int p]) (q := (RX4, TX4, 13)) (c := 0) C T.1 kvL_70 (CX.two (k_X4_hungAt hl sg o p hD)) (by decide) (by decide) rfl rfl rfl rfl rfl (Nat.le_of_ble_eq_true rfl) (by decide) (by decide) dL_hungAt_4 rfl (fun E hE => ?_) (fun hE => ?_)
    · rcases hx_hungAt hE with rfl
      · refine v_catch (pc := 4) (E := eIOB) C T.1 T.2.2 [] (0, 9, 12, 27) [] rfl (by decide) (by decide) (by decide) lk27 (fun z hz => by cases hz) (fun qx => ?_)
        refine v_astore_n C [(3, .ref qx), (0, .ref (xg X 0)), (1, .int p), (2, .ref (xg X 66))] dL_hungAt_12 rfl (by decide) rfl rfl ?_
        refine v_iconst (v := 1) C dL_hungAt_13 (by decide) rfl ?_
        exact v_ret E0 dL_hungAt_14 (by decide) (by decide) (by rw [hE]; decide +kernel) (by rw [hE]; rfl) (by rw [hE]; rfl)
    · skip
      refine v_i2l C dL_hungAt_7 rfl ?_
      refine v_last C dL_hungAt_8 rfl ?_
      refine v_goto (pc1 := 15) C dL_hungAt_9 (by decide) ?_
      refine v_iconst (v := 0) C dL_hungAt_15 (by decide) rfl ?_
      exact v_ret E0 dL_hungAt_16 (by decide) (by decide) (by rw [hE]; rfl) (by rw [hE]; rfl) (by rw [hE]; rfl)
theorem kw_hungAt : KW RL 155 yL_hungAt cL_hungAt 4 [(0, 9, 12, 27)] 3 := ⟨(all_in3 215 (by decide +kernel) rfl), (all_in1 0 (by decide +kernel) rfl), (all_in3 213 (by decide +kernel) rfl), (all_in3 214 (by decide +kernel) rfl), ⟨by decide +kernel, by decide +kernel⟩, by decide +kernel, by decide⟩
def wf_beginOf : String → Int32 := fun E => if E = eNSE then 1 else 99
set_option maxHeartbeats 4000000 in
set_option maxRecDepth 20000 in
theorem k_L_beginOf {l : Launch} {D : va_G} {K : Nat → ClassId} {g : Nat → Nat} (hl : l.stackTraces = false) (sg : Sg) (o : Ot) (p : Int32) (hD : DI sg) : CW l yL_beginOf cL_beginOf 4 [(0, 9, 12, 25)] 22 1 6 D K g [.ref (g 0), .int p, .ref (g 66)] sg o (wC wf_beginOf (fe_X4_beginOf sg p)) (wS (fe_X4_beginOf sg p) sg sg) (wO (fe_X4_beginOf sg p) (Int32.toInt64 (fr_X4_beginOf sg p), o.2) o) :=
  mk_w (own := RL) (av := fun g => [.ref (g 0), .int p, .ref (g 66)]) (lo := fun g => [(0, .ref (g 0)), (1, .int p), (2, .ref (g 66))]) (by decide) rfl (fun _ => Nat.le_of_ble_eq_true rfl) (fun _ => rfl) fun X C T eL E0 => by
    subst eL
    refine v_aload_n (j := 2) C dL_beginOf_0 rfl rfl rfl ?_
    refine v_iconst (v := 0) C dL_beginOf_1 (by decide) rfl ?_
    refine v_aload_n (j := 0) C dL_beginOf_2 rfl rfl rfl ?_
    refine v_iload_n (j := 1) C dL_beginOf_3 rfl rfl rfl ?_
    refine v_callVX2 (rest := [.int 0, .ref (xg X 66)]) (As := [.int p]) (q := (RX4, TX4, 13)) (c := 0) C T.1 kvL_73 (CX.two (k_X4_beginOf hl sg o p hD)) (by decide) (by decide) rfl rfl rfl rfl rfl (Nat.le_of_ble_eq_true rfl) (by decide) (by decide) dL_beginOf_4 rfl (fun E hE => ?_) (fun hE => ?_)
    · rcases hx_beginOf hE with rfl
      · refine v_catch (pc := 4) (E := eNSE) C T.1 T.2.2 [] (0, 9, 12, 25) [] rfl (by decide) (by decide) (by decide) lk25 (fun z hz => by cases hz) (fun qx => ?_)
        refine v_astore_n C [(3, .ref qx), (0, .ref (xg X 0)), (1, .int p), (2, .ref (xg X 66))] dL_beginOf_12 rfl (by decide) rfl rfl ?_
        refine v_iconst (v := 1) C dL_beginOf_13 (by decide) rfl ?_
        exact v_ret E0 dL_beginOf_14 (by decide) (by decide) (by rw [hE]; decide +kernel) (by rw [hE]; rfl) (by rw [hE]; rfl)
    · skip
      refine v_i2l C dL_beginOf_7 rfl ?_
      refine v_last C dL_beginOf_8 rfl ?_
      refine v_goto (pc1 := 15) C dL_beginOf_9 (by decide) ?_
      refine v_iconst (v := 0) C dL_beginOf_15 (by decide) rfl ?_
      exact v_ret E0 dL_beginOf_16 (by decide) (by decide) (by rw [hE]; rfl) (by rw [hE]; rfl) (by rw [hE]; rfl)
theorem kw_beginOf : KW RL 158 yL_beginOf cL_beginOf 4 [(0, 9, 12, 25)] 3 := ⟨(all_in3 225 (by decide +kernel) rfl), (all_in1 0 (by decide +kernel) rfl), (all_in3 223 (by decide +kernel) rfl), (all_in3 224 (by decide +kernel) rfl), ⟨by decide +kernel, by decide +kernel⟩, by decide +kernel, by decide⟩
def wf_bestAt : String → Int32 := fun E => if E = eIOB then 1 else 99
set_option maxHeartbeats 4000000 in
set_option maxRecDepth 20000 in
theorem k_L_bestAt {l : Launch} {D : va_G} {K : Nat → ClassId} {g : Nat → Nat} (hl : l.stackTraces = false) (sg : Sg) (o : Ot) (p : Int32) (hD : DI sg) : CW l yL_bestAt cL_bestAt 4 [(0, 9, 12, 27)] 22 1 6 D K g [.ref (g 0), .int p, .ref (g 66)] sg o (wC wf_bestAt (fe_X4_bestAt sg p)) (wS (fe_X4_bestAt sg p) (fs_X4_bestAt sg p) (fs_X4_findBest sg)) (wO (fe_X4_bestAt sg p) (Int32.toInt64 (fr_X4_bestAt sg p), o.2) o) :=
  mk_w (own := RL) (av := fun g => [.ref (g 0), .int p, .ref (g 66)]) (lo := fun g => [(0, .ref (g 0)), (1, .int p), (2, .ref (g 66))]) (by decide) rfl (fun _ => Nat.le_of_ble_eq_true rfl) (fun _ => rfl) fun X C T eL E0 => by
    subst eL
    refine v_aload_n (j := 2) C dL_bestAt_0 rfl rfl rfl ?_
    refine v_iconst (v := 0) C dL_bestAt_1 (by decide) rfl ?_
    refine v_aload_n (j := 0) C dL_bestAt_2 rfl rfl rfl ?_
    refine v_iload_n (j := 1) C dL_bestAt_3 rfl rfl rfl ?_
    refine v_callVX2 (rest := [.int 0, .ref (xg X 66)]) (As := [.int p]) (q := (RX4, TX4, 13)) (c := 0) C T.1 kvL_76 (k_X4_bestAt hl sg o p hD) (by decide) (by decide) rfl rfl rfl rfl rfl (Nat.le_of_ble_eq_true rfl) (by decide) (by decide) dL_bestAt_4 rfl (fun E hE => ?_) (fun hE => ?_)
    · rcases hx_bestAt hE with rfl
      · refine v_catch (pc := 4) (E := eIOB) C T.1 T.2.2 [] (0, 9, 12, 27) [] rfl (by decide) (by decide) (by decide) lk27 (fun z hz => by cases hz) (fun qx => ?_)
        refine v_astore_n C [(3, .ref qx), (0, .ref (xg X 0)), (1, .int p), (2, .ref (xg X 66))] dL_bestAt_12 rfl (by decide) rfl rfl ?_
        refine v_iconst (v := 1) C dL_bestAt_13 (by decide) rfl ?_
        exact v_ret E0 dL_bestAt_14 (by decide) (by decide) (by rw [hE]; decide +kernel) (by rw [hE]; rfl) (by rw [hE]; rfl)
    · skip
      refine v_i2l C dL_bestAt_7 rfl ?_
      refine v_last C dL_bestAt_8 rfl ?_
      refine v_goto (pc1 := 15) C dL_bestAt_9 (by decide) ?_
      refine v_iconst (v := 0) C dL_bestAt_15 (by decide) rfl ?_
      exact v_ret E0 dL_bestAt_16 (by decide) (by decide) (by rw [hE]; rfl) (by rw [hE]; rfl) (by rw [hE]; rfl)
theorem kw_bestAt : KW RL 198 yL_bestAt cL_bestAt 4 [(0, 9, 12, 27)] 3 := ⟨(all_in3 237 (by decide +kernel) rfl), (all_in1 0 (by decide +kernel) rfl), (all_in3 235 (by decide +kernel) rfl), (all_in3 236 (by decide +kernel) rfl), ⟨by decide +kernel, by decide +kernel⟩, by decide +kernel, by decide⟩
def wf_tightest : String → Int32 := fun E => if E = eISE then 1 else if E = eNSE then 2 else 99
set_option maxHeartbeats 4000000 in
set_option maxRecDepth 20000 in
theorem k_L_tightest {l : Launch} {D : va_G} {K : Nat → ClassId} {g : Nat → Nat} (hl : l.stackTraces = false) (sg : Sg) (o : Ot)  (hD : DI sg) : CW l yL_tightest cL_tightest 3 [(0, 8, 11, 15), (0, 8, 14, 25)] 22 1 6 D K g [.ref (g 0), .ref (g 66)] sg o (wC wf_tightest (fe_X4_tightest sg)) (wS (fe_X4_tightest sg) sg sg) (wO (fe_X4_tightest sg) (Int32.toInt64 (fr_X4_tightest sg), o.2) o) :=
  mk_w (own := RL) (av := fun g => [.ref (g 0), .ref (g 66)]) (lo := fun g => [(0, .ref (g 0)), (1, .ref (g 66))]) (by decide) rfl (fun _ => Nat.le_of_ble_eq_true rfl) (fun _ => rfl) fun X C T eL E0 => by
    subst eL
    refine v_aload_n (j := 1) C dL_tightest_0 rfl rfl rfl ?_
    refine v_iconst (v := 0) C dL_tightest_1 (by decide) rfl ?_
    refine v_aload_n (j := 0) C dL_tightest_2 rfl rfl rfl ?_
    refine v_callVX2 (rest := [.int 0, .ref (xg X 66)]) (As := []) (q := (RX4, TX4, 13)) (c := 0) C T.1 kvL_79 (CX.two (k_X4_tightest hl sg o hD)) (by decide) (by decide) rfl rfl rfl rfl rfl (Nat.le_of_ble_eq_true rfl) (by decide) (by decide) dL_tightest_3 rfl (fun E hE => ?_) (fun hE => ?_)
    · rcases hx_tightest hE with rfl | rfl
      · refine v_catch (pc := 3) (E := eISE) C T.1 T.2.2 [] (0, 8, 11, 15) [(0, 8, 14, 25)] rfl (by decide) (by decide) (by decide) lk15 (fun z hz => by cases hz) (fun qx => ?_)
        refine v_astore_n C [(2, .ref qx), (0, .ref (xg X 0)), (1, .ref (xg X 66))] dL_tightest_11 rfl (by decide) rfl rfl ?_
        refine v_iconst (v := 1) C dL_tightest_12 (by decide) rfl ?_
        exact v_ret E0 dL_tightest_13 (by decide) (by decide) (by rw [hE]; decide +kernel) (by rw [hE]; rfl) (by rw [hE]; rfl)
      · refine v_catch (pc := 3) (E := eNSE) C T.1 T.2.2 [(0, 8, 11, 15)] (0, 8, 14, 25) [] rfl (by decide) (by decide) (by decide) lk25 (List.forall_mem_cons.mpr ⟨⟨by decide, eISE, lk15, T.2.1 (eNSE, eISE) (by decide)⟩, (fun z hz => by cases hz)⟩) (fun qx => ?_)
        refine v_astore_n C [(2, .ref qx), (0, .ref (xg X 0)), (1, .ref (xg X 66))] dL_tightest_14 rfl (by decide) rfl rfl ?_
        refine v_iconst (v := 2) C dL_tightest_15 (by decide) rfl ?_
        exact v_ret E0 dL_tightest_16 (by decide) (by decide) (by rw [hE]; decide +kernel) (by rw [hE]; rfl) (by rw [hE]; rfl)
    · skip
      refine v_i2l C dL_tightest_6 rfl ?_
      refine v_last C dL_tightest_7 rfl ?_
      refine v_goto (pc1 := 17) C dL_tightest_8 (by decide) ?_
      refine v_iconst (v := 0) C dL_tightest_17 (by decide) rfl ?_
      exact v_ret E0 dL_tightest_18 (by decide) (by decide) (by rw [hE]; rfl) (by rw [hE]; rfl) (by rw [hE]; rfl)
theorem kw_tightest : KW RL 209 yL_tightest cL_tightest 3 [(0, 8, 11, 15), (0, 8, 14, 25)] 2 := ⟨(all_in4 4 (by decide +kernel) rfl), (all_in1 0 (by decide +kernel) rfl), (all_in4 2 (by decide +kernel) rfl), (all_in4 3 (by decide +kernel) rfl), ⟨by decide +kernel, by decide +kernel⟩, by decide +kernel, by decide⟩
def wf_hungShare : String → Int32 := fun E => if E = eAE then 1 else 99
set_option maxHeartbeats 4000000 in
set_option maxRecDepth 20000 in
theorem k_L_hungShare {l : Launch} {D : va_G} {K : Nat → ClassId} {g : Nat → Nat} (hl : l.stackTraces = false) (sg : Sg) (o : Ot)  (hD : DI sg) (hf : ¬ sg 0 8 = 0 → vf_n32 (FP.fdiv (FP.i2f (sg 5 5)) (FP.i2f (sg 0 8)))) (hf2 : fe_X4_hungShare sg = none → vf_n64 (FP.f2d (fr_X4_hungShare sg))) : CW l yL_hungShare cL_hungShare 3 [(0, 8, 11, 86)] 22 1 6 D K g [.ref (g 0), .ref (g 67)] sg o (wC wf_hungShare (fe_X4_hungShare sg)) (wS (fe_X4_hungShare sg) sg sg) (wO (fe_X4_hungShare sg) (o.1, FP.f2d (fr_X4_hungShare sg)) o) :=
  mk_w (own := RL) (av := fun g => [.ref (g 0), .ref (g 67)]) (lo := fun g => [(0, .ref (g 0)), (1, .ref (g 67))]) (by decide) rfl (fun _ => Nat.le_of_ble_eq_true rfl) (fun _ => rfl) fun X C T eL E0 => by
    subst eL
    refine v_aload_n (j := 1) C dL_hungShare_0 rfl rfl rfl ?_
    refine v_iconst (v := 0) C dL_hungShare_1 (by decide) rfl ?_
    refine v_aload_n (j := 0) C dL_hungShare_2 rfl rfl rfl ?_
    refine v_callVX2 (rest := [.int 0, .ref (xg X 67)]) (As := []) (q := (RX4, TX4, 13)) (c := 0) C T.1 kvL_82 (CX.two (k_X4_hungShare hl sg o hD hf)) (by decide) (by decide) rfl rfl rfl rfl rfl (Nat.le_of_ble_eq_true rfl) (by decide) (by decide) dL_hungShare_3 rfl (fun E hE => ?_) (fun hE => ?_)
    · rcases hx_hungShare hE with rfl
      · refine v_catch (pc := 3) (E := eAE) C T.1 T.2.2 [] (0, 8, 11, 86) [] rfl (by decide) (by decide) (by decide) lk86 (fun z hz => by cases hz) (fun qx => ?_)
        refine v_astore_n C [(2, .ref qx), (0, .ref (xg X 0)), (1, .ref (xg X 67))] dL_hungShare_11 rfl (by decide) rfl rfl ?_
        refine v_iconst (v := 1) C dL_hungShare_12 (by decide) rfl ?_
        exact v_ret E0 dL_hungShare_13 (by decide) (by decide) (by rw [hE]; decide +kernel) (by rw [hE]; rfl) (by rw [hE]; rfl)
    · skip
      refine v_f2d C dL_hungShare_6 (hf2 hE) rfl ?_
      refine v_dast C dL_hungShare_7 rfl ?_
      refine v_goto (pc1 := 14) C dL_hungShare_8 (by decide) ?_
      refine v_iconst (v := 0) C dL_hungShare_14 (by decide) rfl ?_
      exact v_ret E0 dL_hungShare_15 (by decide) (by decide) (by rw [hE]; rfl) (by rw [hE]; rfl) (by rw [hE]; rfl)
theorem kw_hungShare : KW RL 212 yL_hungShare cL_hungShare 3 [(0, 8, 11, 86)] 2 := ⟨(all_in4 12 (by decide +kernel) rfl), (all_in1 0 (by decide +kernel) rfl), (all_in4 10 (by decide +kernel) rfl), (all_in4 11 (by decide +kernel) rfl), ⟨by decide +kernel, by decide +kernel⟩, by decide +kernel, by decide⟩
def wf_meanLoad : String → Int32 := fun E => if E = eAE then 1 else 99
set_option maxHeartbeats 4000000 in
set_option maxRecDepth 20000 in
theorem k_L_meanLoad {l : Launch} {D : va_G} {K : Nat → ClassId} {g : Nat → Nat} (hl : l.stackTraces = false) (sg : Sg) (o : Ot)  (hD : DI sg) (hf : ¬ sg 0 7 = 0 → vf_n64 (FP.ddiv (FP.i2d (fl_ml sg (ix (sg 0 7)) 0 0)) (FP.i2d (sg 0 7)))) : CW l yL_meanLoad cL_meanLoad 3 [(0, 7, 10, 86)] 22 1 6 D K g [.ref (g 0), .ref (g 67)] sg o (wC wf_meanLoad (fe_X4_meanLoad sg)) (wS (fe_X4_meanLoad sg) sg sg) (wO (fe_X4_meanLoad sg) (o.1, fr_X4_meanLoad sg) o) :=
  mk_w (own := RL) (av := fun g => [.ref (g 0), .ref (g 67)]) (lo := fun g => [(0, .ref (g 0)), (1, .ref (g 67))]) (by decide) rfl (fun _ => Nat.le_of_ble_eq_true rfl) (fun _ => rfl) fun X C T eL E0 => by
    subst eL
    refine v_aload_n (j := 1) C dL_meanLoad_0 rfl rfl rfl ?_
    refine v_iconst (v := 0) C dL_meanLoad_1 (by decide) rfl ?_
    refine v_aload_n (j := 0) C dL_meanLoad_2 rfl rfl rfl ?_
    refine v_callVX2 (rest := [.int 0, .ref (xg X 67)]) (As := []) (q := (RX4, TX4, 13)) (c := 0) C T.1 kvL_88 (CX.two (k_X4_meanLoad hl sg o hD hf)) (by decide) (by decide) rfl rfl rfl rfl rfl (Nat.le_of_ble_eq_true rfl) (by decide) (by decide) dL_meanLoad_3 rfl (fun E hE => ?_) (fun hE => ?_)
    · rcases hx_meanLoad hE with rfl
      · refine v_catch (pc := 3) (E := eAE) C T.1 T.2.2 [] (0, 7, 10, 86) [] rfl (by decide) (by decide) (by decide) lk86 (fun z hz => by cases hz) (fun qx => ?_)
        refine v_astore_n C [(2, .ref qx), (0, .ref (xg X 0)), (1, .ref (xg X 67))] dL_meanLoad_10 rfl (by decide) rfl rfl ?_
        refine v_iconst (v := 1) C dL_meanLoad_11 (by decide) rfl ?_
        exact v_ret E0 dL_meanLoad_12 (by decide) (by decide) (by rw [hE]; decide +kernel) (by rw [hE]; rfl) (by rw [hE]; rfl)
    · skip
      refine v_dast C dL_meanLoad_6 rfl ?_
      refine v_goto (pc1 := 13) C dL_meanLoad_7 (by decide) ?_
      refine v_iconst (v := 0) C dL_meanLoad_13 (by decide) rfl ?_
      exact v_ret E0 dL_meanLoad_14 (by decide) (by decide) (by rw [hE]; rfl) (by rw [hE]; rfl) (by rw [hE]; rfl)
theorem kw_meanLoad : KW RL 216 yL_meanLoad cL_meanLoad 3 [(0, 7, 10, 86)] 2 := ⟨(all_in4 36 (by decide +kernel) rfl), (all_in1 0 (by decide +kernel) rfl), (all_in4 34 (by decide +kernel) rfl), (all_in4 35 (by decide +kernel) rfl), ⟨by decide +kernel, by decide +kernel⟩, by decide +kernel, by decide⟩
