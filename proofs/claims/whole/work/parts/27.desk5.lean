theorem pres_of {X : Cx} {p : Int32} {n : Nat} (hp : vp_in p n) : (Value.ref (xg X (37 + ix p))) = slv (xg X) p 1 := by
  show _ = pres _ _
  rw [pres, if_neg (in_ne hp)]
section MX2
variable {l : Launch} {y : MethodName} {bytes : ByteArray} {maxL rk mc ms : Nat} {rt : FieldType} {av : (Nat → Nat) → List Value} {sg sg1 sgx : Sg} {o o1 : Ot} {D : va_G} {K : Nat → ClassId} {g : Nat → Nat} {own : String} {lo : (Nat → Nat) → List (Nat × Value)} {ex : Option String}
/-- a method that returns or throws; what it leaves when it throws is sgx -/
def CX2 (l : Launch) (y : MethodName) (bytes : ByteArray) (maxL : Nat) (ret : Option FieldType) (rk mc ms : Nat) (D : va_G) (K : Nat → ClassId) (g : Nat → Nat) (av : List Value) (sg : Sg) (o : Ot) (ex : Option String) (sgx : Sg) (rv : Option Value) (sg1 : Sg) (o1 : Ot) : Prop :=
  vx_Met l y (wsM y bytes maxL ret) (rmR rk mc ms) (va_Pc av (Pwx D K g sg o)) (fun a st oc t => ex = none ∧ Rt D K g rv sg1 o1 a st oc t) (vx_X (fun E : String => ex = some E) (fun E1 E t => E1 = E ∧ Wd D K g sgx o t.heap) (inG g)) mc ms (inG g)
theorem CX.two {ret : Option FieldType} {av : List Value} {rv : Option Value} (h : CX l y bytes maxL ret rk mc ms D K g av sg o ex rv sg1 o1) : CX2 l y bytes maxL ret rk mc ms D K g av sg o ex sg rv sg1 o1 := h
theorem mk_xstart2 {ret : Option FieldType} {rv : Option Value} (hy : plainName y.cls = true) (hown : y.cls = own) (hlen : ∀ g, (lg_sl (av g)).length ≤ maxL) (hlo : ∀ g, lv_args 0 (av g) = lo g) (hl : l.stackTraces = false)
    (body : ∀ X : Cx, CF X bytes own maxL rk mc ms → (∀ (H : Heap) (locs : List Loc) (a b : Nat) (g1 : JFrame), (ex = none → W (xp X) (xl X) (xe X) (xR X) (xs_ X) (xm X) (xa X) (xb X) (xh X) (xc X) H locs a b (MQ (xb X) (QCf (xD X) (xK X) (xg X) rv sg1 o1 ex) (xa X) (xs_ X) mc ms (inG (xg X))) g1) → ex = none → WW X H locs a b g1) → (xh X).sig.returnType = ret → xA X = inG (xg X) → Th X bytes own maxL rk mc ms sgx o ex → V X 0 0 maxL sg o (lo (xg X)) 0 []) : CX2 l y bytes maxL ret rk mc ms D K g (av g) sg o ex sgx rv sg1 o1 := by
  refine vx_ofW (cc := bytes) (maxL := maxL) (ret := ret) hy rfl ?_
  intro p e s m args below meth c s₁ B hml hex hv
  obtain ⟨rfl, ⟨hP, hK, hG⟩, hw⟩ := hv
  have hts0 := atoms_spec (ws := wsM y bytes maxL ret) B.pre
  have C := mk_C (Q := vx_MQ below (QCf D K g rv sg1 o1 ex) (XCf D K g sgx o ex) (av g).toArray s mc ms (inG g)) (own := own) hown hK hG (fun w h => hts0 w (List.mem_cons_of_mem _ h)) B hml
  refine mk_start (X := (p, l, e, rmR rk mc ms, s, m, (av g).toArray, below, meth, c, D, K, g, inG g, vx_MQ below (QCf D K g rv sg1 o1 ex) (XCf D K g sgx o ex) (av g).toArray s mc ms (inG g))) (hlen g) (hlo g) hP (body _ C ?_ B.returns rfl (mk_Th rfl rfl C hl hex hw))
  intro H locs a b g1 h he
  exact vx_ret (h he)
theorem mk_xi2 {r : Int32} (hy : plainName y.cls = true) (hown : y.cls = own) (hn : narrow rt (.int r) = .int r) (hlen : ∀ g, (lg_sl (av g)).length ≤ maxL) (hlo : ∀ g, lv_args 0 (av g) = lo g) (hl : l.stackTraces = false)
    (body : ∀ X : Cx, CF X bytes own maxL rk mc ms → (ex = none → Ei X bytes mc ms sg1 o1 r) → Th X bytes own maxL rk mc ms sgx o ex → V X 0 0 maxL sg o (lo (xg X)) 0 []) : CX2 l y bytes maxL (some rt) rk mc ms D K g (av g) sg o ex sgx (some (.int r)) sg1 o1 := by
  refine mk_xstart2 hy hown hlen hlo hl fun X C hq hr hA T => body X C (fun he => ?_) T
  intro a b nL lo pc ha hb d H locs ls hP hS hl
  refine hq H locs a b _ (fun _ => W.widen ha hb (W.zret C.1 C.2.1 hr hn (fun t ht hW => ⟨he, ⟨rfl, by rw [ht]; exact hP⟩, by have := hS.F (t := t) ht; rw [hA] at this; exact this⟩) (fun z hz => by rw [← hA]; exact hS.2.2 z hz) d C.2.2.2.2.2.2.2.2.2)) he
end MX2
theorem idx_in {sg : Sg} {r : Nat} {p : Int32} : ∀ (n k : Nat), n + k ≤ 6 → ¬ fl_X2_indexOf sg r p n k < 0 → vp_in (fl_X2_indexOf sg r p n k) 6
  | 0, _, _, h => absurd (show ((-1 : Int32) < 0) by decide) h
  | n + 1, k, hk, h => by
    unfold fl_X2_indexOf at h ⊢
    split
    · exact in_nI (by omega) (by decide)
    · rename_i q
      rw [if_neg q] at h
      exact idx_in n (k + 1) (by omega) h
def fs_X4_tryAllCompletions (sg : Sg) : Sg := (fA 6 (fs_copy (up (up sg 0 11 0) 0 12 0) 11 5))
set_option maxHeartbeats 4000000 in
set_option maxRecDepth 20000 in
theorem k_X4_tryAllCompletions {l : Launch} {D : va_G} {K : Nat → ClassId} {g : Nat → Nat} (sg : Sg) (o : Ot)  (hD : DI sg) : CN l yX4_tryAllCompletions cX4_tryAllCompletions 1 none 19 D K g [.ref (g 0)] sg o none (fs_X4_tryAllCompletions sg) o :=
  mk_v (own := RX4) (av := fun g => [.ref (g 0)]) (lo := fun g => [(0, .ref (g 0))]) (by decide) rfl (fun _ => Nat.le_of_ble_eq_true rfl) (fun _ => rfl) fun X C E => by
    refine v_aload_n (j := 0) C dX4_tryAllCompletions_0 rfl rfl rfl ?_
    refine v_iconst (v := 0) C dX4_tryAllCompletions_1 (by decide) rfl ?_
    refine v_puti (c := 0) C fpX4_58 (by decide) rfl rfl dX4_tryAllCompletions_2 rfl ?_
    refine v_aload_n (j := 0) C dX4_tryAllCompletions_5 rfl rfl rfl ?_
    refine v_iconst (v := 0) C dX4_tryAllCompletions_6 (by decide) rfl ?_
    refine v_puti (c := 0) C fpX4_61 (by decide) rfl rfl dX4_tryAllCompletions_7 rfl ?_
    refine v_aload_n (j := 0) C dX4_tryAllCompletions_10 rfl rfl rfl ?_
    refine v_getr (c := 0) C 11 flX4_38 (by decide) rfl rfl dX4_tryAllCompletions_11 rfl ?_
    refine v_aload_n (j := 0) C dX4_tryAllCompletions_14 rfl rfl rfl ?_
    refine v_getr (c := 0) C 5 flX4_34 (by decide) rfl rfl dX4_tryAllCompletions_15 rfl ?_
    refine v_callV (rest := []) (q := (RX2, TX2, 8)) C kvX4_277 (k_X2_copyFrom (up (up sg 0 11 0) 0 12 0) o 11 5 isR11 isR5 (by decide)) (by decide) (by decide) rfl rfl rfl rfl rfl (Nat.le_of_ble_eq_true rfl) (by decide) (by decide) dX4_tryAllCompletions_18 rfl ?_
    refine v_aload_n (j := 0) C dX4_tryAllCompletions_21 rfl rfl rfl ?_
    refine v_iconst (v := nI 0) C dX4_tryAllCompletions_22 (by decide) rfl ?_
    refine v_callS (rest := []) C ksX4_361 (k_X4_tryAllFrom 6 0 rfl _ o (((hD.upn (by unfold relD; omega)).upn (by unfold relD; omega)).copy isR11 isR5 (by decide))) (by decide) rfl rfl (Nat.le_of_ble_eq_true rfl) (by decide) (by decide) dX4_tryAllCompletions_23 rfl ?_
    exact v_vret E dX4_tryAllCompletions_26 (by decide) (by decide) (rfl) rfl
def fs_X4_findBest (sg : Sg) : Sg := (if (fs_copy sg 17 5) 0 10 < 0 then (fs_copy sg 17 5) else (fK (ix ((fs_copy sg 17 5) 0 10)) 6 (fs_copy (fs_copy sg 17 5) 11 5)))
set_option maxHeartbeats 4000000 in
set_option maxRecDepth 20000 in
theorem k_X4_findBest {l : Launch} {D : va_G} {K : Nat → ClassId} {g : Nat → Nat} (sg : Sg) (o : Ot)  (hD : DI sg) : CN l yX4_findBest cX4_findBest 2 none 19 D K g [.ref (g 0)] sg o none (fs_X4_findBest sg) o :=
  mk_v (own := RX4) (av := fun g => [.ref (g 0)]) (lo := fun g => [(0, .ref (g 0))]) (by decide) rfl (fun _ => Nat.le_of_ble_eq_true rfl) (fun _ => rfl) fun X C E => by
    refine v_aload_n (j := 0) C dX4_findBest_0 rfl rfl rfl ?_
    refine v_getr (c := 0) C 17 flX4_41 (by decide) rfl rfl dX4_findBest_1 rfl ?_
    refine v_aload_n (j := 0) C dX4_findBest_4 rfl rfl rfl ?_
    refine v_getr (c := 0) C 5 flX4_34 (by decide) rfl rfl dX4_findBest_5 rfl ?_
    refine v_callV (rest := []) (q := (RX2, TX2, 8)) C kvX4_277 (k_X2_copyFrom sg o 17 5 isR17 isR5 (by decide)) (by decide) (by decide) rfl rfl rfl rfl rfl (Nat.le_of_ble_eq_true rfl) (by decide) (by decide) dX4_findBest_8 rfl ?_
    refine v_aload_n (j := 0) C dX4_findBest_11 rfl rfl rfl ?_
    refine v_getp (c := 0) C flX4_54 (by decide) rfl rfl dX4_findBest_12 rfl (fun h12_1 => ?_) (fun h12_1 => ?_)
    · skip
      refine v_astore_nN C [(1, .null), (0, .ref (xg X 0))] dX4_findBest_15 rfl (by decide) rfl rfl ?_
      refine v_aload_nN (j := 0) C dX4_findBest_16 rfl rfl rfl ?_
      refine v_ifnullN (tgt := 37) C dX4_findBest_17 (by decide) ?_
      exact v_vret E dX4_findBest_37 (by decide) (by decide) ((by simp only [fs_X4_findBest, if_pos h12_1])) rfl
    · skip
      refine v_astore_n C [(1, .ref (xg X (37 + ix ((fs_copy sg 17 5) 0 10)))), (0, .ref (xg X 0))] dX4_findBest_15 rfl (by decide) rfl rfl ?_
      refine v_aload_n (j := 0) C dX4_findBest_16 rfl rfl rfl ?_
      refine v_ifnull C dX4_findBest_17 rfl ?_
      refine v_aload_n (j := 1) C dX4_findBest_20 rfl rfl rfl ?_
      refine v_getr (c := 0) C 11 flX4_38 (by decide) rfl rfl dX4_findBest_21 rfl ?_
      refine v_aload_n (j := 1) C dX4_findBest_24 rfl rfl rfl ?_
      refine v_getr (c := 0) C 5 flX4_34 (by decide) rfl rfl dX4_findBest_25 rfl ?_
      refine v_callV (rest := []) (q := (RX2, TX2, 8)) C kvX4_277 (k_X2_copyFrom (fs_copy sg 17 5) o 11 5 isR11 isR5 (by decide)) (by decide) (by decide) rfl rfl rfl rfl rfl (Nat.le_of_ble_eq_true rfl) (by decide) (by decide) dX4_findBest_28 rfl ?_
      refine v_aload_n (j := 1) C dX4_findBest_31 rfl rfl rfl ?_
      refine v_aload_n (j := 0) C dX4_findBest_32 rfl rfl rfl ?_
      refine v_iconst (v := nI 0) C dX4_findBest_33 (by decide) rfl ?_
      refine v_callS (rest := []) C ksX4_346 (k_X4_seekBest 6 0 rfl _ o ((hD.copy (Or.inr (Or.inr rfl)) isR5 (by decide)).copy isR11 isR5 (by decide)) _ (ix_lt ((hD.copy (Or.inr (Or.inr rfl)) isR5 (by decide)).tn h12_1))) (by decide) rfl rfl (Nat.le_of_ble_eq_true rfl) (by decide) (by decide) dX4_findBest_34 rfl ?_
      exact v_vret E dX4_findBest_37 (by decide) (by decide) ((by simp only [fs_X4_findBest, if_neg h12_1])) rfl
theorem try_DI {s : Sg} (hD : DI s) : DI (fs_X4_tryAllCompletions s) := A_DI 6 _ (((hD.upn (by unfold relD; omega)).upn (by unfold relD; omega)).copy isR11 isR5 (by decide))
theorem ad_try {s : Sg} (hD : DI s) : Ad s (fs_X4_tryAllCompletions s) := ((((Ad.rf s).up (Or.inr ⟨rfl, by decide⟩)).up (Or.inr ⟨rfl, by decide⟩)).tr (ad_copy (Or.inl rfl) isR5 (by decide))).tr (ad_A 6 _ (((hD.upn (by unfold relD; omega)).upn (by unfold relD; omega)).copy isR11 isR5 (by decide)))
theorem find_DI {s : Sg} (hD : DI s) : DI (fs_X4_findBest s) := by
  unfold fs_X4_findBest
  split
  · exact (hD.copy (Or.inr (Or.inr rfl)) isR5 (by decide))
  · exact K_DI 6 _ ((hD.copy (Or.inr (Or.inr rfl)) isR5 (by decide)).copy isR11 isR5 (by decide))
theorem ad_find {s : Sg} (hD : DI s) : Ad s (fs_X4_findBest s) := by
  unfold fs_X4_findBest
  split
  · exact ad_copy (Or.inr rfl) isR5 (by decide)
  · exact ((ad_copy (Or.inr rfl) isR5 (by decide)).tr (ad_copy (Or.inl rfl) isR5 (by decide))).tr (ad_K 6 _ ((hD.copy (Or.inr (Or.inr rfl)) isR5 (by decide)).copy isR11 isR5 (by decide)))
def fr_X4_addPoint (sg : Sg) (p : Int32) (z : Int32) : Int32 := (sg 0 7)
def fs_X4_addPoint (sg : Sg) (p : Int32) (z : Int32) : Sg := (up (up (up sg (23 + (ix (sg 0 7))) 0 p) (23 + (ix (sg 0 7))) 1 z) 0 7 ((sg 0 7) + 1))
def fe_X4_addPoint (sg : Sg) (p : Int32) (z : Int32) : Option String := (if p < 0 ∨ 60 < p then (some eIAE) else (if z < 100 ∨ 5000 < z then (some eIAE) else (if (sg 0 7) < 8 then none else (some eISE))))
set_option maxHeartbeats 4000000 in
set_option maxRecDepth 20000 in
theorem k_X4_addPoint {l : Launch} {D : va_G} {K : Nat → ClassId} {g : Nat → Nat} (hl : l.stackTraces = false) (sg : Sg) (o : Ot) (p : Int32) (z : Int32) (hD : DI sg) : CX l yX4_addPoint cX4_addPoint 4 (some .int) 9 1 6 D K g [.ref (g 0), .int p, .int z] sg o (fe_X4_addPoint sg p z) (some (.int (fr_X4_addPoint sg p z))) (fs_X4_addPoint sg p z) o :=
  mk_xi (own := RX4) (av := fun g => [.ref (g 0), .int p, .int z]) (lo := fun g => [(0, .ref (g 0)), (1, .int p), (2, .int z)]) (by decide) rfl rfl (fun _ => Nat.le_of_ble_eq_true rfl) (fun _ => rfl) hl fun X C E T => by
    refine v_iload_n (j := 1) C dX4_addPoint_0 rfl rfl rfl ?_
    refine v_iconst (v := 0) C dX4_addPoint_1 (by decide) rfl ?_
    refine v_bipush (v := 60) C dX4_addPoint_2 (by decide) rfl ?_
    refine v_callS (rest := []) C ksX4_69 (k_X4_isOutside sg o p 0 60) (by decide) rfl rfl (Nat.le_of_ble_eq_true rfl) (by decide) (by decide) dX4_addPoint_4 rfl ?_
    refine v_if_neB (tgt := 22) C dX4_addPoint_7 (by decide) rfl (fun h7_1 => ?_) (fun h7_1 => ?_)
    · skip
      exact T.2.2.1 _ _ _ _ _ _ _ _ _ _ ts_73_75_77 dX4_addPoint_22 dX4_addPoint_25 dX4_addPoint_26 dX4_addPoint_28 dX4_addPoint_31 (by decide) (Nat.le_of_ble_eq_true rfl) (by decide) (by decide) ((by simp only [fe_X4_addPoint, if_pos h7_1]))
    · skip
      refine v_iload_n (j := 2) C dX4_addPoint_10 rfl rfl rfl ?_
      refine v_bipush (v := 100) C dX4_addPoint_11 (by decide) rfl ?_
      refine v_sipush (v := 5000) C dX4_addPoint_13 (by decide) rfl ?_
      refine v_callS (rest := []) C ksX4_69 (k_X4_isOutside sg o z 100 5000) (by decide) rfl rfl (Nat.le_of_ble_eq_true rfl) (by decide) (by decide) dX4_addPoint_16 rfl ?_
      refine v_if_eqB (tgt := 32) C dX4_addPoint_19 (by decide) rfl (fun h19_2 => ?_) (fun h19_2 => ?_)
      · skip
        refine v_aload_n (j := 0) C dX4_addPoint_32 rfl rfl rfl ?_
        refine v_geti (c := 0) C flX4_44 (by decide) rfl rfl dX4_addPoint_33 rfl ?_
        refine v_bipush (v := 8) C dX4_addPoint_36 (by decide) rfl ?_
        refine v_icmp_lt (tgt := 51) C dX4_addPoint_38 (by decide) rfl (fun h38_3 => ?_) (fun h38_3 => ?_)
        · skip
          have hsz := (hD.np).lt' (by decide) h38_3
          refine v_aload_n (j := 0) C dX4_addPoint_51 rfl rfl rfl ?_
          refine v_geti (c := 0) C flX4_44 (by decide) rfl rfl dX4_addPoint_52 rfl ?_
          refine v_istore_n C [(3, .int (sg 0 7)), (0, .ref (xg X 0)), (1, .int p), (2, .int z)] dX4_addPoint_55 rfl (by decide) rfl rfl ?_
          refine v_aload_n (j := 1) C dX4_addPoint_56 rfl rfl rfl ?_
          refine v_getr (c := 0) C 1 flX4_11 (by decide) rfl rfl dX4_addPoint_57 rfl ?_
          refine v_iload_n (j := 0) C dX4_addPoint_60 rfl rfl rfl ?_
          refine v_aald (c := 1) C (Or.inl rfl) hsz (by decide) rfl dX4_addPoint_61 rfl ?_
          refine v_iload_n (j := 2) C dX4_addPoint_62 rfl rfl rfl ?_
          refine v_puti (c := (23 + (ix (sg 0 7)))) C fpX4_85 (lt_pt (ix_lt hsz)) (lay_pt (ix_lt hsz)) rfl dX4_addPoint_63 rfl ?_
          refine v_aload_n (j := 1) C dX4_addPoint_66 rfl rfl rfl ?_
          refine v_getr (c := 0) C 1 flX4_11 (by decide) rfl rfl dX4_addPoint_67 rfl ?_
          refine v_iload_n (j := 0) C dX4_addPoint_70 rfl rfl rfl ?_
          refine v_aald (c := 1) C (Or.inl rfl) hsz (by decide) rfl dX4_addPoint_71 rfl ?_
          refine v_iload_n (j := 3) C dX4_addPoint_72 rfl rfl rfl ?_
          refine v_puti (c := (23 + (ix (sg 0 7)))) C fpX4_88 (lt_pt (ix_lt hsz)) (lay_pt (ix_lt hsz)) rfl dX4_addPoint_73 rfl ?_
          refine v_aload_n (j := 1) C dX4_addPoint_76 rfl rfl rfl ?_
          refine v_iload_n (j := 0) C dX4_addPoint_77 rfl rfl rfl ?_
          refine v_iconst (v := 1) C dX4_addPoint_78 (by decide) rfl ?_
          refine v_iadd C dX4_addPoint_79 rfl ?_
          refine v_puti (c := 0) C fpX4_44 (by decide) rfl rfl dX4_addPoint_80 rfl ?_
          refine v_iload_n (j := 0) C dX4_addPoint_83 rfl rfl rfl ?_
          exact v_ret (E ((by first | contradiction | simp only [fe_X4_addPoint, if_neg h7_1, if_neg h19_2, if_pos h38_3]))) dX4_addPoint_84 (by decide) (by decide) ((by first | contradiction | simp only [fr_X4_addPoint, if_neg h7_1, if_neg h19_2, if_pos h38_3])) ((by first | contradiction | simp only [fs_X4_addPoint, if_neg h7_1, if_neg h19_2, if_pos h38_3])) rfl
        · skip
          skip
          exact T.2.2.1 _ _ _ _ _ _ _ _ _ _ ts_80_82_84 dX4_addPoint_41 dX4_addPoint_44 dX4_addPoint_45 dX4_addPoint_47 dX4_addPoint_50 (by decide) (Nat.le_of_ble_eq_true rfl) (by decide) (by decide) ((by first | contradiction | simp only [fe_X4_addPoint, if_neg h7_1, if_neg h19_2, if_neg h38_3]))
      · skip
        exact T.2.2.1 _ _ _ _ _ _ _ _ _ _ ts_73_75_77 dX4_addPoint_22 dX4_addPoint_25 dX4_addPoint_26 dX4_addPoint_28 dX4_addPoint_31 (by decide) (Nat.le_of_ble_eq_true rfl) (by decide) (by decide) ((by simp only [fe_X4_addPoint, if_neg h7_1, if_pos h19_2]))
def fr_X4_addPiece (sg : Sg) (p : Int32) (z : Int32) (w : Int32) (t : Int32) : Int32 := (sg 0 8)
def fs_X4_addPiece (sg : Sg) (p : Int32) (z : Int32) (w : Int32) (t : Int32) : Sg := (up (up (up (up (up sg (31 + (ix (sg 0 8))) 0 p) (31 + (ix (sg 0 8))) 1 z) (31 + (ix (sg 0 8))) 2 w) (31 + (ix (sg 0 8))) 3 t) 0 8 ((sg 0 8) + 1))
def fe_X4_addPiece (sg : Sg) (p : Int32) (z : Int32) (w : Int32) (t : Int32) : Option String := (if p < 10 ∨ 2000 < p then (some eIAE) else (if z < 5 ∨ 240 < z then (some eIAE) else (if w < 1 ∨ 99 < w then (some eIAE) else (if t < 0 ∨ 2 < t then (some eIAE) else (if (sg 0 8) < 6 then none else (some eISE))))))
set_option maxHeartbeats 4000000 in
set_option maxRecDepth 20000 in
theorem k_X4_addPiece {l : Launch} {D : va_G} {K : Nat → ClassId} {g : Nat → Nat} (hl : l.stackTraces = false) (sg : Sg) (o : Ot) (p : Int32) (z : Int32) (w : Int32) (t : Int32) (hD : DI sg) : CX l yX4_addPiece cX4_addPiece 7 (some .int) 9 1 6 D K g [.ref (g 0), .int p, .int z, .int w, .int t] sg o (fe_X4_addPiece sg p z w t) (some (.int (fr_X4_addPiece sg p z w t))) (fs_X4_addPiece sg p z w t) o :=
  mk_xi (own := RX4) (av := fun g => [.ref (g 0), .int p, .int z, .int w, .int t]) (lo := fun g => [(0, .ref (g 0)), (1, .int p), (2, .int z), (3, .int w), (4, .int t)]) (by decide) rfl rfl (fun _ => Nat.le_of_ble_eq_true rfl) (fun _ => rfl) hl fun X C E T => by
    refine v_iload_n (j := 1) C dX4_addPiece_0 rfl rfl rfl ?_
    refine v_bipush (v := 10) C dX4_addPiece_1 (by decide) rfl ?_
    refine v_sipush (v := 2000) C dX4_addPiece_3 (by decide) rfl ?_
    refine v_callS (rest := []) C ksX4_69 (k_X4_isOutside sg o p 10 2000) (by decide) rfl rfl (Nat.le_of_ble_eq_true rfl) (by decide) (by decide) dX4_addPiece_6 rfl ?_
    refine v_if_neB (tgt := 43) C dX4_addPiece_9 (by decide) rfl (fun h9_1 => ?_) (fun h9_1 => ?_)
    · skip
      exact T.2.2.1 _ _ _ _ _ _ _ _ _ _ ts_73_91_77 dX4_addPiece_43 dX4_addPiece_46 dX4_addPiece_47 dX4_addPiece_49 dX4_addPiece_52 (by decide) (Nat.le_of_ble_eq_true rfl) (by decide) (by decide) ((by simp only [fe_X4_addPiece, if_pos h9_1]))
    · skip
      refine v_iload_n (j := 2) C dX4_addPiece_12 rfl rfl rfl ?_
      refine v_iconst (v := 5) C dX4_addPiece_13 (by decide) rfl ?_
      refine v_sipush (v := 240) C dX4_addPiece_14 (by decide) rfl ?_
      refine v_callS (rest := []) C ksX4_69 (k_X4_isOutside sg o z 5 240) (by decide) rfl rfl (Nat.le_of_ble_eq_true rfl) (by decide) (by decide) dX4_addPiece_17 rfl ?_
      refine v_if_neB (tgt := 43) C dX4_addPiece_20 (by decide) rfl (fun h20_2 => ?_) (fun h20_2 => ?_)
      · skip
        exact T.2.2.1 _ _ _ _ _ _ _ _ _ _ ts_73_91_77 dX4_addPiece_43 dX4_addPiece_46 dX4_addPiece_47 dX4_addPiece_49 dX4_addPiece_52 (by decide) (Nat.le_of_ble_eq_true rfl) (by decide) (by decide) ((by simp only [fe_X4_addPiece, if_neg h9_1, if_pos h20_2]))
      · skip
        refine v_iload_n (j := 3) C dX4_addPiece_23 rfl rfl rfl ?_
        refine v_iconst (v := 1) C dX4_addPiece_24 (by decide) rfl ?_
        refine v_bipush (v := 99) C dX4_addPiece_25 (by decide) rfl ?_
        refine v_callS (rest := []) C ksX4_69 (k_X4_isOutside sg o w 1 99) (by decide) rfl rfl (Nat.le_of_ble_eq_true rfl) (by decide) (by decide) dX4_addPiece_27 rfl ?_
        refine v_if_neB (tgt := 43) C dX4_addPiece_30 (by decide) rfl (fun h30_3 => ?_) (fun h30_3 => ?_)
        · skip
          exact T.2.2.1 _ _ _ _ _ _ _ _ _ _ ts_73_91_77 dX4_addPiece_43 dX4_addPiece_46 dX4_addPiece_47 dX4_addPiece_49 dX4_addPiece_52 (by decide) (Nat.le_of_ble_eq_true rfl) (by decide) (by decide) ((by first | contradiction | simp only [fe_X4_addPiece, if_neg h9_1, if_neg h20_2, if_pos h30_3]))
        · skip
          refine v_iload (j := 4) C dX4_addPiece_33 rfl rfl ?_
          refine v_iconst (v := 0) C dX4_addPiece_35 (by decide) rfl ?_
          refine v_iconst (v := 2) C dX4_addPiece_36 (by decide) rfl ?_
          refine v_callS (rest := []) C ksX4_69 (k_X4_isOutside sg o t 0 2) (by decide) rfl rfl (Nat.le_of_ble_eq_true rfl) (by decide) (by decide) dX4_addPiece_37 rfl ?_
          refine v_if_eqB (tgt := 53) C dX4_addPiece_40 (by decide) rfl (fun h40_4 => ?_) (fun h40_4 => ?_)
          · skip
            refine v_aload_n (j := 0) C dX4_addPiece_53 rfl rfl rfl ?_
            refine v_geti (c := 0) C flX4_48 (by decide) rfl rfl dX4_addPiece_54 rfl ?_
            refine v_bipush (v := 6) C dX4_addPiece_57 (by decide) rfl ?_
            refine v_icmp_lt (tgt := 72) C dX4_addPiece_59 (by decide) rfl (fun h59_5 => ?_) (fun h59_5 => ?_)
            · skip
              have hsz := (hD.nc).lt' (by decide) h59_5
              refine v_aload_n (j := 0) C dX4_addPiece_72 rfl rfl rfl ?_
              refine v_geti (c := 0) C flX4_48 (by decide) rfl rfl dX4_addPiece_73 rfl ?_
              refine v_istore C [(5, .int (sg 0 8)), (0, .ref (xg X 0)), (1, .int p), (2, .int z), (3, .int w), (4, .int t)] dX4_addPiece_76 (by decide) rfl rfl ?_
              refine v_aload_n (j := 1) C dX4_addPiece_78 rfl rfl rfl ?_
              refine v_getr (c := 0) C 2 flX4_17 (by decide) rfl rfl dX4_addPiece_79 rfl ?_
              refine v_iload (j := 0) C dX4_addPiece_82 rfl rfl ?_
              refine v_aald (c := 2) C (Or.inr (Or.inl rfl)) hsz (by decide) rfl dX4_addPiece_84 rfl ?_
              refine v_astore C [(6, .ref (xg X (31 + (ix (sg 0 8))))), (5, .int (sg 0 8)), (0, .ref (xg X 0)), (1, .int p), (2, .int z), (3, .int w), (4, .int t)] dX4_addPiece_85 (by decide) rfl rfl ?_
              refine v_aload (j := 0) C dX4_addPiece_87 rfl rfl ?_
              refine v_iload_n (j := 3) C dX4_addPiece_89 rfl rfl rfl ?_
              refine v_puti (c := (31 + (ix (sg 0 8)))) C fpX4_95 (lt_pc (ix_lt hsz)) (lay_pc (ix_lt hsz)) rfl dX4_addPiece_90 rfl ?_
              refine v_aload (j := 0) C dX4_addPiece_93 rfl rfl ?_
              refine v_iload_n (j := 4) C dX4_addPiece_95 rfl rfl rfl ?_
              refine v_puti (c := (31 + (ix (sg 0 8)))) C fpX4_98 (lt_pc (ix_lt hsz)) (lay_pc (ix_lt hsz)) rfl dX4_addPiece_96 rfl ?_
              refine v_aload (j := 0) C dX4_addPiece_99 rfl rfl ?_
              refine v_iload_n (j := 5) C dX4_addPiece_101 rfl rfl rfl ?_
              refine v_puti (c := (31 + (ix (sg 0 8)))) C fpX4_101 (lt_pc (ix_lt hsz)) (lay_pc (ix_lt hsz)) rfl dX4_addPiece_102 rfl ?_
              refine v_aload (j := 0) C dX4_addPiece_105 rfl rfl ?_
              refine v_iload (j := 6) C dX4_addPiece_107 rfl rfl ?_
              refine v_puti (c := (31 + (ix (sg 0 8)))) C fpX4_104 (lt_pc (ix_lt hsz)) (lay_pc (ix_lt hsz)) rfl dX4_addPiece_109 rfl ?_
              refine v_aload_n (j := 2) C dX4_addPiece_112 rfl rfl rfl ?_
              refine v_iload (j := 1) C dX4_addPiece_113 rfl rfl ?_
              refine v_iconst (v := 1) C dX4_addPiece_115 (by decide) rfl ?_
              refine v_iadd C dX4_addPiece_116 rfl ?_
              refine v_puti (c := 0) C fpX4_48 (by decide) rfl rfl dX4_addPiece_117 rfl ?_
              refine v_iload (j := 1) C dX4_addPiece_120 rfl rfl ?_
              exact v_ret (E ((by first | contradiction | simp only [fe_X4_addPiece, if_neg h9_1, if_neg h20_2, if_neg h30_3, if_neg h40_4, if_pos h59_5]))) dX4_addPiece_122 (by decide) (by decide) ((by first | contradiction | simp only [fr_X4_addPiece, if_neg h9_1, if_neg h20_2, if_neg h30_3, if_neg h40_4, if_pos h59_5])) ((by first | contradiction | simp only [fs_X4_addPiece, if_neg h9_1, if_neg h20_2, if_neg h30_3, if_neg h40_4, if_pos h59_5])) rfl
            · skip
              skip
              exact T.2.2.1 _ _ _ _ _ _ _ _ _ _ ts_80_93_84 dX4_addPiece_62 dX4_addPiece_65 dX4_addPiece_66 dX4_addPiece_68 dX4_addPiece_71 (by decide) (Nat.le_of_ble_eq_true rfl) (by decide) (by decide) ((by first | contradiction | simp only [fe_X4_addPiece, if_neg h9_1, if_neg h20_2, if_neg h30_3, if_neg h40_4, if_neg h59_5]))
          · skip
            exact T.2.2.1 _ _ _ _ _ _ _ _ _ _ ts_73_91_77 dX4_addPiece_43 dX4_addPiece_46 dX4_addPiece_47 dX4_addPiece_49 dX4_addPiece_52 (by decide) (Nat.le_of_ble_eq_true rfl) (by decide) (by decide) ((by first | contradiction | simp only [fe_X4_addPiece, if_neg h9_1, if_neg h20_2, if_neg h30_3, if_pos h40_4]))
def fr_X4_addTown (sg : Sg) (p : Int32) (z : Int32) (w : Int32) (t : Int32) : Int32 := (sg 0 9)
def fs_X4_addTown (sg : Sg) (p : Int32) (z : Int32) (w : Int32) (t : Int32) : Sg := (up (up (up (up (up sg (37 + (ix (sg 0 9))) 1 p) (37 + (ix (sg 0 9))) 2 z) (37 + (ix (sg 0 9))) 3 w) (37 + (ix (sg 0 9))) 4 t) 0 9 ((sg 0 9) + 1))
def fe_X4_addTown (sg : Sg) (p : Int32) (z : Int32) (w : Int32) (t : Int32) : Option String := (if p < 10 ∨ 100 < p then (some eIAE) else (if z < 30 ∨ 480 < z then (some eIAE) else (if w < 5 ∨ 120 < w then (some eIAE) else (if t < 60 ∨ 1440 < t then (some eIAE) else (if (sg 0 9) < 4 then none else (some eISE))))))
set_option maxHeartbeats 4000000 in
set_option maxRecDepth 20000 in
theorem k_X4_addTown {l : Launch} {D : va_G} {K : Nat → ClassId} {g : Nat → Nat} (hl : l.stackTraces = false) (sg : Sg) (o : Ot) (p : Int32) (z : Int32) (w : Int32) (t : Int32) (hD : DI sg) : CX l yX4_addTown cX4_addTown 7 (some .int) 9 1 6 D K g [.ref (g 0), .int p, .int z, .int w, .int t] sg o (fe_X4_addTown sg p z w t) (some (.int (fr_X4_addTown sg p z w t))) (fs_X4_addTown sg p z w t) o :=
  mk_xi (own := RX4) (av := fun g => [.ref (g 0), .int p, .int z, .int w, .int t]) (lo := fun g => [(0, .ref (g 0)), (1, .int p), (2, .int z), (3, .int w), (4, .int t)]) (by decide) rfl rfl (fun _ => Nat.le_of_ble_eq_true rfl) (fun _ => rfl) hl fun X C E T => by
    refine v_iload_n (j := 1) C dX4_addTown_0 rfl rfl rfl ?_
    refine v_bipush (v := 10) C dX4_addTown_1 (by decide) rfl ?_
    refine v_bipush (v := 100) C dX4_addTown_3 (by decide) rfl ?_
    refine v_callS (rest := []) C ksX4_69 (k_X4_isOutside sg o p 10 100) (by decide) rfl rfl (Nat.le_of_ble_eq_true rfl) (by decide) (by decide) dX4_addTown_5 rfl ?_
    refine v_if_neB (tgt := 46) C dX4_addTown_8 (by decide) rfl (fun h8_1 => ?_) (fun h8_1 => ?_)
    · skip
      exact T.2.2.1 _ _ _ _ _ _ _ _ _ _ ts_73_170_77 dX4_addTown_46 dX4_addTown_49 dX4_addTown_50 dX4_addTown_52 dX4_addTown_55 (by decide) (Nat.le_of_ble_eq_true rfl) (by decide) (by decide) ((by simp only [fe_X4_addTown, if_pos h8_1]))
    · skip
      refine v_iload_n (j := 2) C dX4_addTown_11 rfl rfl rfl ?_
      refine v_bipush (v := 30) C dX4_addTown_12 (by decide) rfl ?_
      refine v_sipush (v := 480) C dX4_addTown_14 (by decide) rfl ?_
      refine v_callS (rest := []) C ksX4_69 (k_X4_isOutside sg o z 30 480) (by decide) rfl rfl (Nat.le_of_ble_eq_true rfl) (by decide) (by decide) dX4_addTown_17 rfl ?_
      refine v_if_neB (tgt := 46) C dX4_addTown_20 (by decide) rfl (fun h20_2 => ?_) (fun h20_2 => ?_)
      · skip
        exact T.2.2.1 _ _ _ _ _ _ _ _ _ _ ts_73_170_77 dX4_addTown_46 dX4_addTown_49 dX4_addTown_50 dX4_addTown_52 dX4_addTown_55 (by decide) (Nat.le_of_ble_eq_true rfl) (by decide) (by decide) ((by simp only [fe_X4_addTown, if_neg h8_1, if_pos h20_2]))
      · skip
        refine v_iload_n (j := 3) C dX4_addTown_23 rfl rfl rfl ?_
        refine v_iconst (v := 5) C dX4_addTown_24 (by decide) rfl ?_
        refine v_bipush (v := 120) C dX4_addTown_25 (by decide) rfl ?_
        refine v_callS (rest := []) C ksX4_69 (k_X4_isOutside sg o w 5 120) (by decide) rfl rfl (Nat.le_of_ble_eq_true rfl) (by decide) (by decide) dX4_addTown_27 rfl ?_
        refine v_if_neB (tgt := 46) C dX4_addTown_30 (by decide) rfl (fun h30_3 => ?_) (fun h30_3 => ?_)
        · skip
          exact T.2.2.1 _ _ _ _ _ _ _ _ _ _ ts_73_170_77 dX4_addTown_46 dX4_addTown_49 dX4_addTown_50 dX4_addTown_52 dX4_addTown_55 (by decide) (Nat.le_of_ble_eq_true rfl) (by decide) (by decide) ((by first | contradiction | simp only [fe_X4_addTown, if_neg h8_1, if_neg h20_2, if_pos h30_3]))
        · skip
          refine v_iload (j := 4) C dX4_addTown_33 rfl rfl ?_
          refine v_bipush (v := 60) C dX4_addTown_35 (by decide) rfl ?_
          refine v_sipush (v := 1440) C dX4_addTown_37 (by decide) rfl ?_
          refine v_callS (rest := []) C ksX4_69 (k_X4_isOutside sg o t 60 1440) (by decide) rfl rfl (Nat.le_of_ble_eq_true rfl) (by decide) (by decide) dX4_addTown_40 rfl ?_
          refine v_if_eqB (tgt := 56) C dX4_addTown_43 (by decide) rfl (fun h43_4 => ?_) (fun h43_4 => ?_)
          · skip
            refine v_aload_n (j := 0) C dX4_addTown_56 rfl rfl rfl ?_
            refine v_geti (c := 0) C flX4_51 (by decide) rfl rfl dX4_addTown_57 rfl ?_
            refine v_iconst (v := 4) C dX4_addTown_60 (by decide) rfl ?_
            refine v_icmp_lt (tgt := 74) C dX4_addTown_61 (by decide) rfl (fun h61_5 => ?_) (fun h61_5 => ?_)
            · skip
              have hsz := (hD.nt).lt' (by decide) h61_5
              refine v_aload_n (j := 0) C dX4_addTown_74 rfl rfl rfl ?_
              refine v_geti (c := 0) C flX4_51 (by decide) rfl rfl dX4_addTown_75 rfl ?_
              refine v_istore C [(5, .int (sg 0 9)), (0, .ref (xg X 0)), (1, .int p), (2, .int z), (3, .int w), (4, .int t)] dX4_addTown_78 (by decide) rfl rfl ?_
              refine v_aload_n (j := 1) C dX4_addTown_80 rfl rfl rfl ?_
              refine v_getr (c := 0) C 3 flX4_23 (by decide) rfl rfl dX4_addTown_81 rfl ?_
              refine v_iload (j := 0) C dX4_addTown_84 rfl rfl ?_
              refine v_aald (c := 3) C (Or.inr (Or.inr rfl)) hsz (by decide) rfl dX4_addTown_86 rfl ?_
              refine v_astore C [(6, .ref (xg X (37 + (ix (sg 0 9))))), (5, .int (sg 0 9)), (0, .ref (xg X 0)), (1, .int p), (2, .int z), (3, .int w), (4, .int t)] dX4_addTown_87 (by decide) rfl rfl ?_
              refine v_aload (j := 0) C dX4_addTown_89 rfl rfl ?_
              refine v_iload_n (j := 3) C dX4_addTown_91 rfl rfl rfl ?_
              refine v_puti (c := (37 + (ix (sg 0 9)))) C fpX4_174 (lt_tn (ix_lt hsz)) (lay_tn (ix_lt hsz)) rfl dX4_addTown_92 rfl ?_
              refine v_aload (j := 0) C dX4_addTown_95 rfl rfl ?_
              refine v_iload_n (j := 4) C dX4_addTown_97 rfl rfl rfl ?_
              refine v_puti (c := (37 + (ix (sg 0 9)))) C fpX4_177 (lt_tn (ix_lt hsz)) (lay_tn (ix_lt hsz)) rfl dX4_addTown_98 rfl ?_
              refine v_aload (j := 0) C dX4_addTown_101 rfl rfl ?_
              refine v_iload_n (j := 5) C dX4_addTown_103 rfl rfl rfl ?_
              refine v_puti (c := (37 + (ix (sg 0 9)))) C fpX4_180 (lt_tn (ix_lt hsz)) (lay_tn (ix_lt hsz)) rfl dX4_addTown_104 rfl ?_
              refine v_aload (j := 0) C dX4_addTown_107 rfl rfl ?_
              refine v_iload (j := 6) C dX4_addTown_109 rfl rfl ?_
              refine v_puti (c := (37 + (ix (sg 0 9)))) C fpX4_183 (lt_tn (ix_lt hsz)) (lay_tn (ix_lt hsz)) rfl dX4_addTown_111 rfl ?_
              refine v_aload_n (j := 2) C dX4_addTown_114 rfl rfl rfl ?_
              refine v_iload (j := 1) C dX4_addTown_115 rfl rfl ?_
              refine v_iconst (v := 1) C dX4_addTown_117 (by decide) rfl ?_
              refine v_iadd C dX4_addTown_118 rfl ?_
              refine v_puti (c := 0) C fpX4_51 (by decide) rfl rfl dX4_addTown_119 rfl ?_
              refine v_iload (j := 1) C dX4_addTown_122 rfl rfl ?_
              exact v_ret (E ((by first | contradiction | simp only [fe_X4_addTown, if_neg h8_1, if_neg h20_2, if_neg h30_3, if_neg h43_4, if_pos h61_5]))) dX4_addTown_124 (by decide) (by decide) ((by first | contradiction | simp only [fr_X4_addTown, if_neg h8_1, if_neg h20_2, if_neg h30_3, if_neg h43_4, if_pos h61_5])) ((by first | contradiction | simp only [fs_X4_addTown, if_neg h8_1, if_neg h20_2, if_neg h30_3, if_neg h43_4, if_pos h61_5])) rfl
            · skip
              skip
              exact T.2.2.1 _ _ _ _ _ _ _ _ _ _ ts_80_172_84 dX4_addTown_64 dX4_addTown_67 dX4_addTown_68 dX4_addTown_70 dX4_addTown_73 (by decide) (Nat.le_of_ble_eq_true rfl) (by decide) (by decide) ((by first | contradiction | simp only [fe_X4_addTown, if_neg h8_1, if_neg h20_2, if_neg h30_3, if_neg h43_4, if_neg h61_5]))
          · skip
            exact T.2.2.1 _ _ _ _ _ _ _ _ _ _ ts_73_170_77 dX4_addTown_46 dX4_addTown_49 dX4_addTown_50 dX4_addTown_52 dX4_addTown_55 (by decide) (Nat.le_of_ble_eq_true rfl) (by decide) (by decide) ((by first | contradiction | simp only [fe_X4_addTown, if_neg h8_1, if_neg h20_2, if_neg h30_3, if_pos h43_4]))
def fr_X4_setRates (sg : Sg) (p : Int32) (z : Int32) (w : Int32) (t : Int32) : Int32 := (sg (37 + (ix p)) 5)
def fs_X4_setRates (sg : Sg) (p : Int32) (z : Int32) (w : Int32) (t : Int32) : Sg := (up (up (up sg (37 + (ix p)) 5 z) (37 + (ix p)) 6 w) (37 + (ix p)) 7 t)
def fe_X4_setRates (sg : Sg) (p : Int32) (z : Int32) (w : Int32) (t : Int32) : Option String := (match (fe_X4_checkTown sg p) with | some e => some e | none => (if z < 0 ∨ 99 < z then (some eIAE) else (if w < 0 ∨ 1440 < w then (some eIAE) else (if t < 0 ∨ 99 < t then (some eIAE) else none))))
set_option maxHeartbeats 4000000 in
set_option maxRecDepth 20000 in
theorem k_X4_setRates {l : Launch} {D : va_G} {K : Nat → ClassId} {g : Nat → Nat} (hl : l.stackTraces = false) (sg : Sg) (o : Ot) (p : Int32) (z : Int32) (w : Int32) (t : Int32) (hD : DI sg) : CX l yX4_setRates cX4_setRates 7 (some .int) 10 2 12 D K g [.ref (g 0), .int p, .int z, .int w, .int t] sg o (fe_X4_setRates sg p z w t) (some (.int (fr_X4_setRates sg p z w t))) (fs_X4_setRates sg p z w t) o :=
  mk_xi (own := RX4) (av := fun g => [.ref (g 0), .int p, .int z, .int w, .int t]) (lo := fun g => [(0, .ref (g 0)), (1, .int p), (2, .int z), (3, .int w), (4, .int t)]) (by decide) rfl rfl (fun _ => Nat.le_of_ble_eq_true rfl) (fun _ => rfl) hl fun X C E T => by
    refine v_aload_n (j := 0) C dX4_setRates_0 rfl rfl rfl ?_
    refine v_iload_n (j := 1) C dX4_setRates_1 rfl rfl rfl ?_
    refine v_callVX (rest := []) (q := (RX4, TX4, 13)) C T.1 kvX4_186 (k_X4_checkTown T.2.2.2.2.2.2 sg o p) (by decide) (by decide) rfl rfl rfl rfl rfl (Nat.le_of_ble_eq_true rfl) (by decide) (by decide) dX4_setRates_2 rfl (fun eh2_1 h2_1 => ?_) (fun h2_1 => ?_)
    · exact T.2.1 _ _ _ _ _ _ _ (by decide) (by decide) ((by simp only [fe_X4_setRates, h2_1]))
    · skip
      have hp := ck_checkTown (p := p) hD h2_1
      refine v_iload_n (j := 2) C dX4_setRates_5 rfl rfl rfl ?_
      refine v_iconst (v := 0) C dX4_setRates_6 (by decide) rfl ?_
      refine v_bipush (v := 99) C dX4_setRates_7 (by decide) rfl ?_
      refine v_callS (rest := []) C ksX4_69 (k_X4_isOutside sg o z 0 99) (by decide) rfl rfl (Nat.le_of_ble_eq_true rfl) (by decide) (by decide) dX4_setRates_9 rfl ?_
      refine v_if_neB (tgt := 37) C dX4_setRates_12 (by decide) rfl (fun h12_2 => ?_) (fun h12_2 => ?_)
      · skip
        exact T.2.2.1 _ _ _ _ _ _ _ _ _ _ ts_73_189_77 dX4_setRates_37 dX4_setRates_40 dX4_setRates_41 dX4_setRates_43 dX4_setRates_46 (by decide) (Nat.le_of_ble_eq_true rfl) (by decide) (by decide) ((by simp only [fe_X4_setRates, h2_1, if_pos h12_2]))
      · skip
        refine v_iload_n (j := 3) C dX4_setRates_15 rfl rfl rfl ?_
        refine v_iconst (v := 0) C dX4_setRates_16 (by decide) rfl ?_
        refine v_sipush (v := 1440) C dX4_setRates_17 (by decide) rfl ?_
        refine v_callS (rest := []) C ksX4_69 (k_X4_isOutside sg o w 0 1440) (by decide) rfl rfl (Nat.le_of_ble_eq_true rfl) (by decide) (by decide) dX4_setRates_20 rfl ?_
        refine v_if_neB (tgt := 37) C dX4_setRates_23 (by decide) rfl (fun h23_3 => ?_) (fun h23_3 => ?_)
        · skip
          exact T.2.2.1 _ _ _ _ _ _ _ _ _ _ ts_73_189_77 dX4_setRates_37 dX4_setRates_40 dX4_setRates_41 dX4_setRates_43 dX4_setRates_46 (by decide) (Nat.le_of_ble_eq_true rfl) (by decide) (by decide) ((by first | contradiction | simp only [fe_X4_setRates, h2_1, if_neg h12_2, if_pos h23_3]))
        · skip
          refine v_iload (j := 4) C dX4_setRates_26 rfl rfl ?_
          refine v_iconst (v := 0) C dX4_setRates_28 (by decide) rfl ?_
          refine v_bipush (v := 99) C dX4_setRates_29 (by decide) rfl ?_
          refine v_callS (rest := []) C ksX4_69 (k_X4_isOutside sg o t 0 99) (by decide) rfl rfl (Nat.le_of_ble_eq_true rfl) (by decide) (by decide) dX4_setRates_31 rfl ?_
          refine v_if_eqB (tgt := 47) C dX4_setRates_34 (by decide) rfl (fun h34_4 => ?_) (fun h34_4 => ?_)
          · skip
            refine v_aload_n (j := 0) C dX4_setRates_47 rfl rfl rfl ?_
            refine v_getr (c := 0) C 3 flX4_23 (by decide) rfl rfl dX4_setRates_48 rfl ?_
            refine v_iload_n (j := 1) C dX4_setRates_51 rfl rfl rfl ?_
            refine v_aald (c := 3) C (Or.inr (Or.inr rfl)) hp (by decide) rfl dX4_setRates_52 rfl ?_
            refine v_astore C [(5, .ref (xg X (37 + (ix p)))), (0, .ref (xg X 0)), (1, .int p), (2, .int z), (3, .int w), (4, .int t)] dX4_setRates_53 (by decide) rfl rfl ?_
            refine v_aload (j := 0) C dX4_setRates_55 rfl rfl ?_
            refine v_geti (c := (37 + (ix p))) C flX4_191 (lt_tn (ix_lt hp)) (lay_tn (ix_lt hp)) rfl dX4_setRates_57 rfl ?_
            refine v_istore C [(6, .int (sg (37 + (ix p)) 5)), (5, .ref (xg X (37 + (ix p)))), (0, .ref (xg X 0)), (1, .int p), (2, .int z), (3, .int w), (4, .int t)] dX4_setRates_60 (by decide) rfl rfl ?_
            refine v_aload (j := 1) C dX4_setRates_62 rfl rfl ?_
            refine v_iload_n (j := 4) C dX4_setRates_64 rfl rfl rfl ?_
            refine v_puti (c := (37 + (ix p))) C fpX4_191 (lt_tn (ix_lt hp)) (lay_tn (ix_lt hp)) rfl dX4_setRates_65 rfl ?_
            refine v_aload (j := 1) C dX4_setRates_68 rfl rfl ?_
            refine v_iload_n (j := 5) C dX4_setRates_70 rfl rfl rfl ?_
            refine v_puti (c := (37 + (ix p))) C fpX4_194 (lt_tn (ix_lt hp)) (lay_tn (ix_lt hp)) rfl dX4_setRates_71 rfl ?_
            refine v_aload (j := 1) C dX4_setRates_74 rfl rfl ?_
            refine v_iload (j := 6) C dX4_setRates_76 rfl rfl ?_
            refine v_puti (c := (37 + (ix p))) C fpX4_197 (lt_tn (ix_lt hp)) (lay_tn (ix_lt hp)) rfl dX4_setRates_78 rfl ?_
            refine v_iload (j := 0) C dX4_setRates_81 rfl rfl ?_
            exact v_ret (E ((by first | contradiction | simp only [fe_X4_setRates, h2_1, if_neg h12_2, if_neg h23_3, if_neg h34_4]))) dX4_setRates_83 (by decide) (by decide) ((by first | contradiction | simp only [fr_X4_setRates, h2_1, if_neg h12_2, if_neg h23_3, if_neg h34_4])) ((by first | contradiction | simp only [fs_X4_setRates, h2_1, if_neg h12_2, if_neg h23_3, if_neg h34_4])) rfl
          · skip
            exact T.2.2.1 _ _ _ _ _ _ _ _ _ _ ts_73_189_77 dX4_setRates_37 dX4_setRates_40 dX4_setRates_41 dX4_setRates_43 dX4_setRates_46 (by decide) (Nat.le_of_ble_eq_true rfl) (by decide) (by decide) ((by first | contradiction | simp only [fe_X4_setRates, h2_1, if_neg h12_2, if_neg h23_3, if_pos h34_4]))
def fr_X4_fix (sg : Sg) (p : Int32) (a : Int32) (b : Int32) (z : Int32) (w : Int32) : Int32 := (((sg (31 + (ix p)) 0) * (z - (sg (23 + (ix a)) 0))) / ((sg (23 + (ix b)) 0) - (sg (23 + (ix a)) 0)))
def fs_X4_fix (sg : Sg) (p : Int32) (a : Int32) (b : Int32) (z : Int32) (w : Int32) : Sg := (up (up (up (up sg (31 + (ix p)) 4 a) (31 + (ix p)) 5 b) (31 + (ix p)) 6 (fr_X4_loadOfPart (up (up sg (31 + (ix p)) 4 a) (31 + (ix p)) 5 b) ((sg (31 + (ix p)) 0) - (((sg (31 + (ix p)) 0) * (z - (sg (23 + (ix a)) 0))) / ((sg (23 + (ix b)) 0) - (sg (23 + (ix a)) 0)))) w)) (31 + (ix p)) 7 (fr_X4_loadOfPart (up (up (up sg (31 + (ix p)) 4 a) (31 + (ix p)) 5 b) (31 + (ix p)) 6 (fr_X4_loadOfPart (up (up sg (31 + (ix p)) 4 a) (31 + (ix p)) 5 b) ((sg (31 + (ix p)) 0) - (((sg (31 + (ix p)) 0) * (z - (sg (23 + (ix a)) 0))) / ((sg (23 + (ix b)) 0) - (sg (23 + (ix a)) 0)))) w)) (((sg (31 + (ix p)) 0) * (z - (sg (23 + (ix a)) 0))) / ((sg (23 + (ix b)) 0) - (sg (23 + (ix a)) 0))) w))
def fe_X4_fix (sg : Sg) (p : Int32) (a : Int32) (b : Int32) (z : Int32) (w : Int32) : Option String := (match (fe_X4_checkPiece sg p) with | some e => some e | none => (match (fe_X4_checkPoint sg a) with | some e => some e | none => (match (fe_X4_checkPoint sg b) with | some e => some e | none => (if 0 < ((sg (23 + (ix b)) 0) - (sg (23 + (ix a)) 0)) then (if z < (sg (23 + (ix a)) 0) ∨ (sg (23 + (ix b)) 0) < z then (some eIAE) else (if w < 0 ∨ 60 < w then (some eIAE) else (match (fe_X4_checkNotHung sg p) with | some e => some e | none => none))) else (some eIAE)))))
set_option maxHeartbeats 4000000 in
set_option maxRecDepth 20000 in
theorem k_X4_fix {l : Launch} {D : va_G} {K : Nat → ClassId} {g : Nat → Nat} (hl : l.stackTraces = false) (sg : Sg) (o : Ot) (p : Int32) (a : Int32) (b : Int32) (z : Int32) (w : Int32) (hD : DI sg) : CX l yX4_fix cX4_fix 11 (some .int) 10 4 24 D K g [.ref (g 0), .int p, .int a, .int b, .int z, .int w] sg o (fe_X4_fix sg p a b z w) (some (.int (fr_X4_fix sg p a b z w))) (fs_X4_fix sg p a b z w) o :=
  mk_xi (own := RX4) (av := fun g => [.ref (g 0), .int p, .int a, .int b, .int z, .int w]) (lo := fun g => [(0, .ref (g 0)), (1, .int p), (2, .int a), (3, .int b), (4, .int z), (5, .int w)]) (by decide) rfl rfl (fun _ => Nat.le_of_ble_eq_true rfl) (fun _ => rfl) hl fun X C E T => by
    refine v_aload_n (j := 0) C dX4_fix_0 rfl rfl rfl ?_
    refine v_iload_n (j := 1) C dX4_fix_1 rfl rfl rfl ?_
    refine v_callVX (rest := []) (q := (RX4, TX4, 13)) C T.1 kvX4_107 (k_X4_checkPiece T.2.2.2.2.2.2 sg o p) (by decide) (by decide) rfl rfl rfl rfl rfl (Nat.le_of_ble_eq_true rfl) (by decide) (by decide) dX4_fix_2 rfl (fun eh2_1 h2_1 => ?_) (fun h2_1 => ?_)
    · exact T.2.1 _ _ _ _ _ _ _ (by decide) (by decide) ((by simp only [fe_X4_fix, h2_1]))
    · skip
      have hp := ck_checkPiece (p := p) hD h2_1
      refine v_aload_n (j := 0) C dX4_fix_5 rfl rfl rfl ?_
      refine v_iload_n (j := 2) C dX4_fix_6 rfl rfl rfl ?_
      refine v_callVX (rest := []) (q := (RX4, TX4, 13)) C T.1 kvX4_110 (k_X4_checkPoint T.2.2.2.2.2.2 sg o a) (by decide) (by decide) rfl rfl rfl rfl rfl (Nat.le_of_ble_eq_true rfl) (by decide) (by decide) dX4_fix_7 rfl (fun eh7_2 h7_2 => ?_) (fun h7_2 => ?_)
      · exact T.2.1 _ _ _ _ _ _ _ (by decide) (by decide) ((by simp only [fe_X4_fix, h2_1, h7_2]))
      · skip
        have ha := ck_checkPoint (p := a) hD h7_2
        refine v_aload_n (j := 0) C dX4_fix_10 rfl rfl rfl ?_
        refine v_iload_n (j := 3) C dX4_fix_11 rfl rfl rfl ?_
        refine v_callVX (rest := []) (q := (RX4, TX4, 13)) C T.1 kvX4_110 (k_X4_checkPoint T.2.2.2.2.2.2 sg o b) (by decide) (by decide) rfl rfl rfl rfl rfl (Nat.le_of_ble_eq_true rfl) (by decide) (by decide) dX4_fix_12 rfl (fun eh12_3 h12_3 => ?_) (fun h12_3 => ?_)
        · exact T.2.1 _ _ _ _ _ _ _ (by decide) (by decide) ((by first | contradiction | simp only [fe_X4_fix, h2_1, h7_2, h12_3]))
        · skip
          have hb := ck_checkPoint (p := b) hD h12_3
          refine v_aload_n (j := 0) C dX4_fix_15 rfl rfl rfl ?_
          refine v_getr (c := 0) C 1 flX4_11 (by decide) rfl rfl dX4_fix_16 rfl ?_
          refine v_iload_n (j := 2) C dX4_fix_19 rfl rfl rfl ?_
          refine v_aald (c := 1) C (Or.inl rfl) ha (by decide) rfl dX4_fix_20 rfl ?_
          refine v_geti (c := (23 + (ix a))) C flX4_85 (lt_pt (ix_lt ha)) (lay_pt (ix_lt ha)) rfl dX4_fix_21 rfl ?_
          refine v_istore C [(6, .int (sg (23 + (ix a)) 0)), (0, .ref (xg X 0)), (1, .int p), (2, .int a), (3, .int b), (4, .int z), (5, .int w)] dX4_fix_24 (by decide) rfl rfl ?_
          refine v_aload_n (j := 1) C dX4_fix_26 rfl rfl rfl ?_
          refine v_getr (c := 0) C 1 flX4_11 (by decide) rfl rfl dX4_fix_27 rfl ?_
          refine v_iload_n (j := 4) C dX4_fix_30 rfl rfl rfl ?_
          refine v_aald (c := 1) C (Or.inl rfl) hb (by decide) rfl dX4_fix_31 rfl ?_
          refine v_geti (c := (23 + (ix b))) C flX4_85 (lt_pt (ix_lt hb)) (lay_pt (ix_lt hb)) rfl dX4_fix_32 rfl ?_
          refine v_istore C [(7, .int (sg (23 + (ix b)) 0)), (6, .int (sg (23 + (ix a)) 0)), (0, .ref (xg X 0)), (1, .int p), (2, .int a), (3, .int b), (4, .int z), (5, .int w)] dX4_fix_35 (by decide) rfl rfl ?_
          refine v_iload (j := 0) C dX4_fix_37 rfl rfl ?_
          refine v_iload (j := 1) C dX4_fix_39 rfl rfl ?_
          refine v_isub C dX4_fix_41 rfl ?_
          refine v_istore C [(8, .int ((sg (23 + (ix b)) 0) - (sg (23 + (ix a)) 0))), (7, .int (sg (23 + (ix b)) 0)), (6, .int (sg (23 + (ix a)) 0)), (0, .ref (xg X 0)), (1, .int p), (2, .int a), (3, .int b), (4, .int z), (5, .int w)] dX4_fix_42 (by decide) rfl rfl ?_
          refine v_iload (j := 0) C dX4_fix_44 rfl rfl ?_
          refine v_if_le (tgt := 72) C dX4_fix_46 (by decide) rfl (fun h46_4 => ?_) (fun h46_4 => ?_)
          · skip
            skip
            exact T.2.2.1 _ _ _ _ _ _ _ _ _ _ ts_73_113_77 dX4_fix_72 dX4_fix_75 dX4_fix_76 dX4_fix_78 dX4_fix_81 (by decide) (Nat.le_of_ble_eq_true rfl) (by decide) (by decide) ((by first | contradiction | simp only [fe_X4_fix, h2_1, h7_2, h12_3, if_neg h46_4]))
          · skip
            have hdv := h46_4
            refine v_iload (j := 7) C dX4_fix_49 rfl rfl ?_
            refine v_iload (j := 2) C dX4_fix_51 rfl rfl ?_
            refine v_iload (j := 1) C dX4_fix_53 rfl rfl ?_
            refine v_callS (rest := []) C ksX4_69 (k_X4_isOutside sg o z (sg (23 + (ix a)) 0) (sg (23 + (ix b)) 0)) (by decide) rfl rfl (Nat.le_of_ble_eq_true rfl) (by decide) (by decide) dX4_fix_55 rfl ?_
            refine v_if_neB (tgt := 72) C dX4_fix_58 (by decide) rfl (fun h58_5 => ?_) (fun h58_5 => ?_)
            · skip
              exact T.2.2.1 _ _ _ _ _ _ _ _ _ _ ts_73_113_77 dX4_fix_72 dX4_fix_75 dX4_fix_76 dX4_fix_78 dX4_fix_81 (by decide) (Nat.le_of_ble_eq_true rfl) (by decide) (by decide) ((by first | contradiction | simp only [fe_X4_fix, h2_1, h7_2, h12_3, if_pos h46_4, if_pos h58_5]))
            · skip
              refine v_iload (j := 8) C dX4_fix_61 rfl rfl ?_
              refine v_iconst (v := 0) C dX4_fix_63 (by decide) rfl ?_
              refine v_bipush (v := 60) C dX4_fix_64 (by decide) rfl ?_
              refine v_callS (rest := []) C ksX4_69 (k_X4_isOutside sg o w 0 60) (by decide) rfl rfl (Nat.le_of_ble_eq_true rfl) (by decide) (by decide) dX4_fix_66 rfl ?_
              refine v_if_eqB (tgt := 82) C dX4_fix_69 (by decide) rfl (fun h69_6 => ?_) (fun h69_6 => ?_)
              · skip
                refine v_aload_n (j := 3) C dX4_fix_82 rfl rfl rfl ?_
                refine v_iload_n (j := 4) C dX4_fix_83 rfl rfl rfl ?_
                refine v_callVX (rest := []) (q := (RX4, TX4, 13)) C T.1 kvX4_115 (k_X4_checkNotHung T.2.2.2.2.2.2 sg o p) (by decide) (by decide) rfl rfl rfl rfl rfl (Nat.le_of_ble_eq_true rfl) (by decide) (by decide) dX4_fix_84 rfl (fun eh84_7 h84_7 => ?_) (fun h84_7 => ?_)
                · exact T.2.1 _ _ _ _ _ _ _ (by decide) (by decide) ((by first | contradiction | simp only [fe_X4_fix, h2_1, h7_2, h12_3, if_pos h46_4, if_neg h58_5, if_neg h69_6, h84_7]))
                · skip
                  refine v_aload_n (j := 3) C dX4_fix_87 rfl rfl rfl ?_
                  refine v_getr (c := 0) C 2 flX4_17 (by decide) rfl rfl dX4_fix_88 rfl ?_
                  refine v_iload_n (j := 4) C dX4_fix_91 rfl rfl rfl ?_
                  refine v_aald (c := 2) C (Or.inr (Or.inl rfl)) hp (by decide) rfl dX4_fix_92 rfl ?_
                  refine v_astore C [(9, .ref (xg X (31 + (ix p)))), (8, .int ((sg (23 + (ix b)) 0) - (sg (23 + (ix a)) 0))), (7, .int (sg (23 + (ix b)) 0)), (6, .int (sg (23 + (ix a)) 0)), (0, .ref (xg X 0)), (1, .int p), (2, .int a), (3, .int b), (4, .int z), (5, .int w)] dX4_fix_93 (by decide) rfl rfl ?_
                  refine v_aload (j := 0) C dX4_fix_95 rfl rfl ?_
                  refine v_geti (c := (31 + (ix p))) C flX4_95 (lt_pc (ix_lt hp)) (lay_pc (ix_lt hp)) rfl dX4_fix_97 rfl ?_
                  refine v_iload (j := 8) C dX4_fix_100 rfl rfl ?_
                  refine v_iload (j := 3) C dX4_fix_102 rfl rfl ?_
                  refine v_isub C dX4_fix_104 rfl ?_
                  refine v_imul C dX4_fix_105 rfl ?_
                  refine v_iload (j := 1) C dX4_fix_106 rfl rfl ?_
                  refine v_idiv C dX4_fix_108 (fun z => absurd hdv (by rw [z]; decide)) rfl ?_
                  refine v_istore C [(10, .int (((sg (31 + (ix p)) 0) * (z - (sg (23 + (ix a)) 0))) / ((sg (23 + (ix b)) 0) - (sg (23 + (ix a)) 0)))), (9, .ref (xg X (31 + (ix p)))), (8, .int ((sg (23 + (ix b)) 0) - (sg (23 + (ix a)) 0))), (7, .int (sg (23 + (ix b)) 0)), (6, .int (sg (23 + (ix a)) 0)), (0, .ref (xg X 0)), (1, .int p), (2, .int a), (3, .int b), (4, .int z), (5, .int w)] dX4_fix_109 (by decide) rfl rfl ?_
                  refine v_aload (j := 1) C dX4_fix_111 rfl rfl ?_
                  refine v_iload_n (j := 7) C dX4_fix_113 rfl rfl rfl ?_
                  refine v_puti (c := (31 + (ix p))) C fpX4_118 (lt_pc (ix_lt hp)) (lay_pc (ix_lt hp)) rfl dX4_fix_114 rfl ?_
                  refine v_aload (j := 1) C dX4_fix_117 rfl rfl ?_
                  refine v_iload_n (j := 8) C dX4_fix_119 rfl rfl rfl ?_
                  refine v_puti (c := (31 + (ix p))) C fpX4_121 (lt_pc (ix_lt hp)) (lay_pc (ix_lt hp)) rfl dX4_fix_120 rfl ?_
                  refine v_aload (j := 1) C dX4_fix_123 rfl rfl ?_
                  refine v_aload (j := 1) C dX4_fix_125 rfl rfl ?_
                  refine v_geti (c := (31 + (ix p))) C flX4_95 (lt_pc (ix_lt hp)) (lay_pc (ix_lt hp)) rfl dX4_fix_127 rfl ?_
                  refine v_rwi (y := sg (31 + (ix p)) 0) ((up_ne _ _ (Or.inr (by decide))).trans ((up_ne _ _ (Or.inr (by decide))).trans rfl)) ?_
                  refine v_iload (j := 0) C dX4_fix_130 rfl rfl ?_
                  refine v_isub C dX4_fix_132 rfl ?_
                  refine v_iload (j := 10) C dX4_fix_133 rfl rfl ?_
                  refine v_callS (rest := [.ref (xg X (31 + (ix p)))]) C ksX4_124 (k_X4_loadOfPart (up (up sg (31 + (ix p)) 4 a) (31 + (ix p)) 5 b) o ((sg (31 + (ix p)) 0) - (((sg (31 + (ix p)) 0) * (z - (sg (23 + (ix a)) 0))) / ((sg (23 + (ix b)) 0) - (sg (23 + (ix a)) 0)))) w) (by decide) rfl rfl (Nat.le_of_ble_eq_true rfl) (by decide) (by decide) dX4_fix_135 rfl ?_
                  refine v_puti (c := (31 + (ix p))) C fpX4_128 (lt_pc (ix_lt hp)) (lay_pc (ix_lt hp)) rfl dX4_fix_138 rfl ?_
                  refine v_aload (j := 1) C dX4_fix_141 rfl rfl ?_
                  refine v_iload (j := 0) C dX4_fix_143 rfl rfl ?_
                  refine v_iload (j := 10) C dX4_fix_145 rfl rfl ?_
                  refine v_callS (rest := [.ref (xg X (31 + (ix p)))]) C ksX4_124 (k_X4_loadOfPart (up (up (up sg (31 + (ix p)) 4 a) (31 + (ix p)) 5 b) (31 + (ix p)) 6 (fr_X4_loadOfPart (up (up sg (31 + (ix p)) 4 a) (31 + (ix p)) 5 b) ((sg (31 + (ix p)) 0) - (((sg (31 + (ix p)) 0) * (z - (sg (23 + (ix a)) 0))) / ((sg (23 + (ix b)) 0) - (sg (23 + (ix a)) 0)))) w)) o (((sg (31 + (ix p)) 0) * (z - (sg (23 + (ix a)) 0))) / ((sg (23 + (ix b)) 0) - (sg (23 + (ix a)) 0))) w) (by decide) rfl rfl (Nat.le_of_ble_eq_true rfl) (by decide) (by decide) dX4_fix_147 rfl ?_
                  refine v_puti (c := (31 + (ix p))) C fpX4_131 (lt_pc (ix_lt hp)) (lay_pc (ix_lt hp)) rfl dX4_fix_150 rfl ?_
                  refine v_iload (j := 0) C dX4_fix_153 rfl rfl ?_
                  exact v_ret (E ((by first | contradiction | simp only [fe_X4_fix, h2_1, h7_2, h12_3, if_pos h46_4, if_neg h58_5, if_neg h69_6, h84_7]))) dX4_fix_155 (by decide) (by decide) ((by first | contradiction | simp only [fr_X4_fix, h2_1, h7_2, h12_3, if_pos h46_4, if_neg h58_5, if_neg h69_6, h84_7])) ((by first | contradiction | simp only [fs_X4_fix, h2_1, h7_2, h12_3, if_pos h46_4, if_neg h58_5, if_neg h69_6, h84_7])) rfl
              · skip
                exact T.2.2.1 _ _ _ _ _ _ _ _ _ _ ts_73_113_77 dX4_fix_72 dX4_fix_75 dX4_fix_76 dX4_fix_78 dX4_fix_81 (by decide) (Nat.le_of_ble_eq_true rfl) (by decide) (by decide) ((by first | contradiction | simp only [fe_X4_fix, h2_1, h7_2, h12_3, if_pos h46_4, if_neg h58_5, if_pos h69_6]))
def fr_X4_need (sg : Sg) (p : Int32) (a : Int32) : Int32 := (fr_J6_bitCount_0f7a4 (up sg (31 + (ix p)) 8 ((sg (31 + (ix p)) 8) ||| (1 <<< (a &&& 31)))) (((sg (31 + (ix p)) 8) ||| (1 <<< (a &&& 31)))))
def fs_X4_need (sg : Sg) (p : Int32) (a : Int32) : Sg := (up sg (31 + (ix p)) 8 ((sg (31 + (ix p)) 8) ||| (1 <<< (a &&& 31))))
def fe_X4_need (sg : Sg) (p : Int32) (a : Int32) : Option String := (match (fe_X4_checkPiece sg p) with | some e => some e | none => (match (fe_X4_checkPiece sg a) with | some e => some e | none => (if p = a then (some eIAE) else (if ¬ (fl_anO sg (ix (sg 0 8)) (ix (sg 0 8)) 0 (sg (31 + ix a) 8)) >>> (p &&& 31) &&& 1 = 0 then (some eUOE) else (match (fe_X4_checkNotHung sg p) with | some e => some e | none => none)))))
set_option maxHeartbeats 4000000 in
set_option maxRecDepth 20000 in
theorem k_X4_need {l : Launch} {D : va_G} {K : Nat → ClassId} {g : Nat → Nat} (hl : l.stackTraces = false) (sg : Sg) (o : Ot) (p : Int32) (a : Int32) (hD : DI sg) : CX l yX4_need cX4_need 3 (some .int) 11 3 18 D K g [.ref (g 0), .int p, .int a] sg o (fe_X4_need sg p a) (some (.int (fr_X4_need sg p a))) (fs_X4_need sg p a) o :=
  mk_xi (own := RX4) (av := fun g => [.ref (g 0), .int p, .int a]) (lo := fun g => [(0, .ref (g 0)), (1, .int p), (2, .int a)]) (by decide) rfl rfl (fun _ => Nat.le_of_ble_eq_true rfl) (fun _ => rfl) hl fun X C E T => by
    refine v_aload_n (j := 0) C dX4_need_0 rfl rfl rfl ?_
    refine v_iload_n (j := 1) C dX4_need_1 rfl rfl rfl ?_
    refine v_callVX (rest := []) (q := (RX4, TX4, 13)) C T.1 kvX4_107 (k_X4_checkPiece T.2.2.2.2.2.2 sg o p) (by decide) (by decide) rfl rfl rfl rfl rfl (Nat.le_of_ble_eq_true rfl) (by decide) (by decide) dX4_need_2 rfl (fun eh2_1 h2_1 => ?_) (fun h2_1 => ?_)
    · exact T.2.1 _ _ _ _ _ _ _ (by decide) (by decide) ((by simp only [fe_X4_need, h2_1]))
    · skip
      have hp := ck_checkPiece (p := p) hD h2_1
      refine v_aload_n (j := 0) C dX4_need_5 rfl rfl rfl ?_
      refine v_iload_n (j := 2) C dX4_need_6 rfl rfl rfl ?_
      refine v_callVX (rest := []) (q := (RX4, TX4, 13)) C T.1 kvX4_107 (k_X4_checkPiece T.2.2.2.2.2.2 sg o a) (by decide) (by decide) rfl rfl rfl rfl rfl (Nat.le_of_ble_eq_true rfl) (by decide) (by decide) dX4_need_7 rfl (fun eh7_2 h7_2 => ?_) (fun h7_2 => ?_)
      · exact T.2.1 _ _ _ _ _ _ _ (by decide) (by decide) ((by simp only [fe_X4_need, h2_1, h7_2]))
      · skip
        have ha := ck_checkPiece (p := a) hD h7_2
        refine v_iload_n (j := 1) C dX4_need_10 rfl rfl rfl ?_
        refine v_iload_n (j := 2) C dX4_need_11 rfl rfl rfl ?_
        refine v_icmp_ne (tgt := 25) C dX4_need_12 (by decide) rfl (fun h12_3 => ?_) (fun h12_3 => ?_)
        · skip
          refine v_iload_n (j := 1) C dX4_need_25 rfl rfl rfl ?_
          refine v_aload_n (j := 0) C dX4_need_26 rfl rfl rfl ?_
          refine v_iload_n (j := 2) C dX4_need_27 rfl rfl rfl ?_
          refine v_callV (rest := [.int p]) (q := (RX4, TX4, 13)) C kvX4_136 (k_X4_allNeedsOf sg o a hD ha) (by decide) (by decide) rfl rfl rfl rfl rfl (Nat.le_of_ble_eq_true rfl) (by decide) (by decide) dX4_need_28 rfl ?_
          refine v_callS (rest := []) C ksX4_140 (k_X4_isIn sg o p (fl_anO sg (ix (sg 0 8)) (ix (sg 0 8)) 0 (sg (31 + ix a) 8))) (by decide) rfl rfl (Nat.le_of_ble_eq_true rfl) (by decide) (by decide) dX4_need_31 rfl ?_
          refine v_if_eqB (tgt := 47) C dX4_need_34 (by decide) rfl (fun h34_4 => ?_) (fun h34_4 => ?_)
          · skip
            refine v_aload_n (j := 0) C dX4_need_47 rfl rfl rfl ?_
            refine v_iload_n (j := 1) C dX4_need_48 rfl rfl rfl ?_
            refine v_callVX (rest := []) (q := (RX4, TX4, 13)) C T.1 kvX4_115 (k_X4_checkNotHung T.2.2.2.2.2.2 sg o p) (by decide) (by decide) rfl rfl rfl rfl rfl (Nat.le_of_ble_eq_true rfl) (by decide) (by decide) dX4_need_49 rfl (fun eh49_5 h49_5 => ?_) (fun h49_5 => ?_)
            · exact T.2.1 _ _ _ _ _ _ _ (by decide) (by decide) ((by first | contradiction | simp only [fe_X4_need, h2_1, h7_2, if_neg h12_3, if_neg h34_4, h49_5]))
            · skip
              refine v_aload_n (j := 0) C dX4_need_52 rfl rfl rfl ?_
              refine v_getr (c := 0) C 2 flX4_17 (by decide) rfl rfl dX4_need_53 rfl ?_
              refine v_iload_n (j := 1) C dX4_need_56 rfl rfl rfl ?_
              refine v_aald (c := 2) C (Or.inr (Or.inl rfl)) hp (by decide) rfl dX4_need_57 rfl ?_
              refine v_dup C dX4_need_58 rfl rfl ?_
              refine v_geti (c := (31 + (ix p))) C flX4_149 (lt_pc (ix_lt hp)) (lay_pc (ix_lt hp)) rfl dX4_need_59 rfl ?_
              refine v_iconst (v := 1) C dX4_need_62 (by decide) rfl ?_
              refine v_iload_n (j := 2) C dX4_need_63 rfl rfl rfl ?_
              refine v_ishl C dX4_need_64 rfl ?_
              refine v_ior C dX4_need_65 rfl ?_
              refine v_puti (c := (31 + (ix p))) C fpX4_149 (lt_pc (ix_lt hp)) (lay_pc (ix_lt hp)) rfl dX4_need_66 rfl ?_
              refine v_aload_n (j := 0) C dX4_need_69 rfl rfl rfl ?_
              refine v_getr (c := 0) C 2 flX4_17 (by decide) rfl rfl dX4_need_70 rfl ?_
              refine v_iload_n (j := 1) C dX4_need_73 rfl rfl rfl ?_
              refine v_aald (c := 2) C (Or.inr (Or.inl rfl)) hp (by decide) rfl dX4_need_74 rfl ?_
              refine v_geti (c := (31 + (ix p))) C flX4_149 (lt_pc (ix_lt hp)) (lay_pc (ix_lt hp)) rfl dX4_need_75 rfl ?_
              refine v_rwi (y := ((sg (31 + (ix p)) 8) ||| (1 <<< (a &&& 31)))) up_at ?_
              refine v_callS (rest := []) C ksX4_152 (k_J6_bitCount_0f7a4 (up sg (31 + (ix p)) 8 ((sg (31 + (ix p)) 8) ||| (1 <<< (a &&& 31)))) o (((sg (31 + (ix p)) 8) ||| (1 <<< (a &&& 31))))) (by decide) rfl rfl (Nat.le_of_ble_eq_true rfl) (by decide) (by decide) dX4_need_78 rfl ?_
              exact v_ret (E ((by first | contradiction | simp only [fe_X4_need, h2_1, h7_2, if_neg h12_3, if_neg h34_4, h49_5]))) dX4_need_81 (by decide) (by decide) ((by first | contradiction | simp only [fr_X4_need, h2_1, h7_2, if_neg h12_3, if_neg h34_4, h49_5])) ((by first | contradiction | simp only [fs_X4_need, h2_1, h7_2, if_neg h12_3, if_neg h34_4, h49_5])) rfl
          · skip
            exact T.2.2.1 _ _ _ _ _ _ _ _ _ _ ts_144_146_148 dX4_need_37 dX4_need_40 dX4_need_41 dX4_need_43 dX4_need_46 (by decide) (Nat.le_of_ble_eq_true rfl) (by decide) (by decide) ((by first | contradiction | simp only [fe_X4_need, h2_1, h7_2, if_neg h12_3, if_pos h34_4]))
        · skip
          exact T.2.2.1 _ _ _ _ _ _ _ _ _ _ ts_73_134_77 dX4_need_15 dX4_need_18 dX4_need_19 dX4_need_21 dX4_need_24 (by decide) (Nat.le_of_ble_eq_true rfl) (by decide) (by decide) ((by first | contradiction | simp only [fe_X4_need, h2_1, h7_2, if_pos h12_3]))
def fr_X4_setArrival (sg : Sg) (p : Int32) (z : Int32) : Int32 := (sg 4 (ix p))
def fs_X4_setArrival (sg : Sg) (p : Int32) (z : Int32) : Sg := (up sg 4 (ix p) z)
def fe_X4_setArrival (sg : Sg) (p : Int32) (z : Int32) : Option String := (if p < 0 ∨ 2 < p then (some eIOB) else (if z < 0 ∨ 1440 < z then (some eIAE) else (if fl_X4_isInUse sg p (ix (sg 0 8)) 0 = true then (some eISE) else none)))
set_option maxHeartbeats 4000000 in
set_option maxRecDepth 20000 in
theorem k_X4_setArrival {l : Launch} {D : va_G} {K : Nat → ClassId} {g : Nat → Nat} (hl : l.stackTraces = false) (sg : Sg) (o : Ot) (p : Int32) (z : Int32) (hD : DI sg) : CX l yX4_setArrival cX4_setArrival 4 (some .int) 11 1 6 D K g [.ref (g 0), .int p, .int z] sg o (fe_X4_setArrival sg p z) (some (.int (fr_X4_setArrival sg p z))) (fs_X4_setArrival sg p z) o :=
  mk_xi (own := RX4) (av := fun g => [.ref (g 0), .int p, .int z]) (lo := fun g => [(0, .ref (g 0)), (1, .int p), (2, .int z)]) (by decide) rfl rfl (fun _ => Nat.le_of_ble_eq_true rfl) (fun _ => rfl) hl fun X C E T => by
    refine v_iload_n (j := 1) C dX4_setArrival_0 rfl rfl rfl ?_
    refine v_iconst (v := 0) C dX4_setArrival_1 (by decide) rfl ?_
    refine v_iconst (v := 2) C dX4_setArrival_2 (by decide) rfl ?_
    refine v_callS (rest := []) C ksX4_69 (k_X4_isOutside sg o p 0 2) (by decide) rfl rfl (Nat.le_of_ble_eq_true rfl) (by decide) (by decide) dX4_setArrival_3 rfl ?_
    refine v_if_eqB (tgt := 19) C dX4_setArrival_6 (by decide) rfl (fun h6_1 => ?_) (fun h6_1 => ?_)
    · skip
      have hp := in_lit (y := 2) (n := 2) rfl (not_or.mp h6_1)
      refine v_iload_n (j := 2) C dX4_setArrival_19 rfl rfl rfl ?_
      refine v_iconst (v := 0) C dX4_setArrival_20 (by decide) rfl ?_
      refine v_sipush (v := 1440) C dX4_setArrival_21 (by decide) rfl ?_
      refine v_callS (rest := []) C ksX4_69 (k_X4_isOutside sg o z 0 1440) (by decide) rfl rfl (Nat.le_of_ble_eq_true rfl) (by decide) (by decide) dX4_setArrival_24 rfl ?_
      refine v_if_eqB (tgt := 40) C dX4_setArrival_27 (by decide) rfl (fun h27_2 => ?_) (fun h27_2 => ?_)
      · skip
        refine v_aload_n (j := 0) C dX4_setArrival_40 rfl rfl rfl ?_
        refine v_iload_n (j := 1) C dX4_setArrival_41 rfl rfl rfl ?_
        refine v_callV (rest := []) (q := (RX4, TX4, 13)) C kvX4_164 (k_X4_isInUse sg o p hD) (by decide) (by decide) rfl rfl rfl rfl rfl (Nat.le_of_ble_eq_true rfl) (by decide) (by decide) dX4_setArrival_42 rfl ?_
        refine v_if_eqB (tgt := 58) C dX4_setArrival_45 (by decide) rfl (fun h45_3 => ?_) (fun h45_3 => ?_)
        · skip
          refine v_aload_n (j := 0) C dX4_setArrival_58 rfl rfl rfl ?_
          refine v_getr (c := 0) C 4 flX4_27 (by decide) rfl rfl dX4_setArrival_59 rfl ?_
          refine v_iload_n (j := 1) C dX4_setArrival_62 rfl rfl rfl ?_
          refine v_iald (c := 4) C hp (by decide) rfl dX4_setArrival_63 rfl ?_
          refine v_istore_n C [(3, .int (sg 4 (ix p))), (0, .ref (xg X 0)), (1, .int p), (2, .int z)] dX4_setArrival_64 rfl (by decide) rfl rfl ?_
          refine v_aload_n (j := 1) C dX4_setArrival_65 rfl rfl rfl ?_
          refine v_getr (c := 0) C 4 flX4_27 (by decide) rfl rfl dX4_setArrival_66 rfl ?_
          refine v_iload_n (j := 2) C dX4_setArrival_69 rfl rfl rfl ?_
          refine v_iload_n (j := 3) C dX4_setArrival_70 rfl rfl rfl ?_
          refine v_iast (c := 4) C hp (by decide) rfl dX4_setArrival_71 rfl ?_
          refine v_iload_n (j := 0) C dX4_setArrival_72 rfl rfl rfl ?_
          exact v_ret (E ((by first | contradiction | simp only [fe_X4_setArrival, if_neg h6_1, if_neg h27_2, if_neg h45_3]))) dX4_setArrival_73 (by decide) (by decide) ((by first | contradiction | simp only [fr_X4_setArrival, if_neg h6_1, if_neg h27_2, if_neg h45_3])) ((by first | contradiction | simp only [fs_X4_setArrival, if_neg h6_1, if_neg h27_2, if_neg h45_3])) rfl
        · skip
          exact T.2.2.1 _ _ _ _ _ _ _ _ _ _ ts_80_168_84 dX4_setArrival_48 dX4_setArrival_51 dX4_setArrival_52 dX4_setArrival_54 dX4_setArrival_57 (by decide) (Nat.le_of_ble_eq_true rfl) (by decide) (by decide) ((by first | contradiction | simp only [fe_X4_setArrival, if_neg h6_1, if_neg h27_2, if_pos h45_3]))
      · skip
        exact T.2.2.1 _ _ _ _ _ _ _ _ _ _ ts_73_162_77 dX4_setArrival_30 dX4_setArrival_33 dX4_setArrival_34 dX4_setArrival_36 dX4_setArrival_39 (by decide) (Nat.le_of_ble_eq_true rfl) (by decide) (by decide) ((by simp only [fe_X4_setArrival, if_neg h6_1, if_pos h27_2]))
    · skip
      skip
      exact T.2.2.1 _ _ _ _ _ _ _ _ _ _ ts_157_159_161 dX4_setArrival_9 dX4_setArrival_12 dX4_setArrival_13 dX4_setArrival_15 dX4_setArrival_18 (by decide) (Nat.le_of_ble_eq_true rfl) (by decide) (by decide) ((by simp only [fe_X4_setArrival, if_pos h6_1]))
def fr_X4_come (sg : Sg) (p : Int32) : Int32 := (sg 5 5)
def fs_X4_come (sg : Sg) (p : Int32) : Sg := (up (fs_empt sg 5) 0 10 p)
def fe_X4_come (sg : Sg) (p : Int32) : Option String := (match (fe_X4_checkTown sg p) with | some e => some e | none => none)
set_option maxHeartbeats 4000000 in
set_option maxRecDepth 20000 in
theorem k_X4_come {l : Launch} {D : va_G} {K : Nat → ClassId} {g : Nat → Nat} (hl : l.stackTraces = false) (sg : Sg) (o : Ot) (p : Int32) (hD : DI sg) : CX l yX4_come cX4_come 3 (some .int) 10 1 6 D K g [.ref (g 0), .int p] sg o (fe_X4_come sg p) (some (.int (fr_X4_come sg p))) (fs_X4_come sg p) o :=
  mk_xi (own := RX4) (av := fun g => [.ref (g 0), .int p]) (lo := fun g => [(0, .ref (g 0)), (1, .int p)]) (by decide) rfl rfl (fun _ => Nat.le_of_ble_eq_true rfl) (fun _ => rfl) hl fun X C E T => by
    refine v_aload_n (j := 0) C dX4_come_0 rfl rfl rfl ?_
    refine v_iload_n (j := 1) C dX4_come_1 rfl rfl rfl ?_
    refine v_callVX (rest := []) (q := (RX4, TX4, 13)) C T.1 kvX4_186 (k_X4_checkTown T.2.2.2.2.2.2 sg o p) (by decide) (by decide) rfl rfl rfl rfl rfl (Nat.le_of_ble_eq_true rfl) (by decide) (by decide) dX4_come_2 rfl (fun eh2_1 h2_1 => ?_) (fun h2_1 => ?_)
    · exact T.2.1 _ _ _ _ _ _ _ (by decide) (by decide) ((by simp only [fe_X4_come, h2_1]))
    · skip
      have hp := ck_checkTown (p := p) hD h2_1
      refine v_aload_n (j := 0) C dX4_come_5 rfl rfl rfl ?_
      refine v_getr (c := 0) C 5 flX4_34 (by decide) rfl rfl dX4_come_6 rfl ?_
      refine v_geti (c := 5) C flX4_200 (by decide) rfl rfl dX4_come_9 rfl ?_
      refine v_istore_n C [(2, .int (sg 5 5)), (0, .ref (xg X 0)), (1, .int p)] dX4_come_12 rfl (by decide) rfl rfl ?_
      refine v_aload_n (j := 1) C dX4_come_13 rfl rfl rfl ?_
      refine v_getr (c := 0) C 5 flX4_34 (by decide) rfl rfl dX4_come_14 rfl ?_
      refine v_callV (rest := []) (q := (RX2, TX2, 8)) C kvX4_203 (k_X2_empty sg o 5 isR5) (by decide) (by decide) rfl rfl rfl rfl rfl (Nat.le_of_ble_eq_true rfl) (by decide) (by decide) dX4_come_17 rfl ?_
      refine v_aload_n (j := 1) C dX4_come_20 rfl rfl rfl ?_
      refine v_aload_n (j := 1) C dX4_come_21 rfl rfl rfl ?_
      refine v_getr (c := 0) C 3 flX4_23 (by decide) rfl rfl dX4_come_22 rfl ?_
      refine v_iload_n (j := 2) C dX4_come_25 rfl rfl rfl ?_
      refine v_aald (c := 3) C (Or.inr (Or.inr rfl)) hp (by decide) rfl dX4_come_26 rfl ?_
      refine v_put (c := 0) (code := 1) (x := p) C (pres_of hp) fpX4_54 rfl rfl (by decide) rfl rfl dX4_come_27 rfl ?_
      refine v_iload_n (j := 0) C dX4_come_30 rfl rfl rfl ?_
      exact v_ret (E ((by simp only [fe_X4_come, h2_1]))) dX4_come_31 (by decide) (by decide) ((by simp only [fr_X4_come, h2_1])) ((by simp only [fs_X4_come, h2_1])) rfl
def fr_X4_town (sg : Sg) : Int32 := (sg (37 + ix (sg 0 10)) 0)
def fe_X4_town (sg : Sg) : Option String := (if sg 0 10 < 0 then (some eNSE) else none)
set_option maxHeartbeats 4000000 in
set_option maxRecDepth 20000 in
theorem k_X4_town {l : Launch} {D : va_G} {K : Nat → ClassId} {g : Nat → Nat} (hl : l.stackTraces = false) (sg : Sg) (o : Ot)  (hD : DI sg) : CX l yX4_town cX4_town 2 (some .int) 9 1 6 D K g [.ref (g 0)] sg o (fe_X4_town sg) (some (.int (fr_X4_town sg))) sg o :=
  mk_xi (own := RX4) (av := fun g => [.ref (g 0)]) (lo := fun g => [(0, .ref (g 0))]) (by decide) rfl rfl (fun _ => Nat.le_of_ble_eq_true rfl) (fun _ => rfl) hl fun X C E T => by
    refine v_aload_n (j := 0) C dX4_town_0 rfl rfl rfl ?_
    refine v_getp (c := 0) C flX4_54 (by decide) rfl rfl dX4_town_1 rfl (fun h1_1 => ?_) (fun h1_1 => ?_)
    · skip
      refine v_astore_nN C [(1, .null), (0, .ref (xg X 0))] dX4_town_4 rfl (by decide) rfl rfl ?_
      refine v_aload_nN (j := 0) C dX4_town_5 rfl rfl rfl ?_
      refine v_ifnonnullN C dX4_town_6 rfl ?_
      exact T.2.2.2.2.1 _ _ _ _ _ _ _ _ _ _ ts_206_208_210 dX4_town_9 dX4_town_12 dX4_town_13 dX4_town_15 dX4_town_18 (by decide) (Nat.le_of_ble_eq_true rfl) (by decide) (by decide) ((by simp only [fe_X4_town, if_pos h1_1]))
    · skip
      refine v_astore_n C [(1, .ref (xg X (37 + ix (sg 0 10)))), (0, .ref (xg X 0))] dX4_town_4 rfl (by decide) rfl rfl ?_
      refine v_aload_n (j := 0) C dX4_town_5 rfl rfl rfl ?_
      refine v_ifnonnull (tgt := 19) C dX4_town_6 (by decide) ?_
      refine v_aload_n (j := 0) C dX4_town_19 rfl rfl rfl ?_
      refine v_geti (c := (37 + ix (sg 0 10))) C flX4_211 (lt_tn (ix_lt (hD.tn h1_1))) (lay_tn (ix_lt (hD.tn h1_1))) rfl dX4_town_20 rfl ?_
      exact v_ret (E ((by simp only [fe_X4_town, if_neg h1_1]))) dX4_town_23 (by decide) (by decide) ((by simp only [fr_X4_town, if_neg h1_1])) (rfl) rfl
def fr_X4_loadOn (sg : Sg) (p : Int32) (q : Int32) : Int32 := (fr_X0_loadAt sg (ix p) q)
def fe_X4_loadOn (sg : Sg) (p : Int32) (q : Int32) : Option String := (match (fe_X4_checkPiece sg p) with | some e => some e | none => (match (fe_X4_checkPoint sg q) with | some e => some e | none => none))
set_option maxHeartbeats 4000000 in
set_option maxRecDepth 20000 in
theorem k_X4_loadOn {l : Launch} {D : va_G} {K : Nat → ClassId} {g : Nat → Nat} (hl : l.stackTraces = false) (sg : Sg) (o : Ot) (p : Int32) (q : Int32) (hD : DI sg) : CX l yX4_loadOn cX4_loadOn 3 (some .int) 10 2 12 D K g [.ref (g 0), .int p, .int q] sg o (fe_X4_loadOn sg p q) (some (.int (fr_X4_loadOn sg p q))) sg o :=
  mk_xi (own := RX4) (av := fun g => [.ref (g 0), .int p, .int q]) (lo := fun g => [(0, .ref (g 0)), (1, .int p), (2, .int q)]) (by decide) rfl rfl (fun _ => Nat.le_of_ble_eq_true rfl) (fun _ => rfl) hl fun X C E T => by
    refine v_aload_n (j := 0) C dX4_loadOn_0 rfl rfl rfl ?_
    refine v_iload_n (j := 1) C dX4_loadOn_1 rfl rfl rfl ?_
    refine v_callVX (rest := []) (q := (RX4, TX4, 13)) C T.1 kvX4_107 (k_X4_checkPiece T.2.2.2.2.2.2 sg o p) (by decide) (by decide) rfl rfl rfl rfl rfl (Nat.le_of_ble_eq_true rfl) (by decide) (by decide) dX4_loadOn_2 rfl (fun eh2_1 h2_1 => ?_) (fun h2_1 => ?_)
    · exact T.2.1 _ _ _ _ _ _ _ (by decide) (by decide) ((by simp only [fe_X4_loadOn, h2_1]))
    · skip
      have hp := ck_checkPiece (p := p) hD h2_1
      refine v_aload_n (j := 0) C dX4_loadOn_5 rfl rfl rfl ?_
      refine v_iload_n (j := 2) C dX4_loadOn_6 rfl rfl rfl ?_
      refine v_callVX (rest := []) (q := (RX4, TX4, 13)) C T.1 kvX4_110 (k_X4_checkPoint T.2.2.2.2.2.2 sg o q) (by decide) (by decide) rfl rfl rfl rfl rfl (Nat.le_of_ble_eq_true rfl) (by decide) (by decide) dX4_loadOn_7 rfl (fun eh7_2 h7_2 => ?_) (fun h7_2 => ?_)
      · exact T.2.1 _ _ _ _ _ _ _ (by decide) (by decide) ((by simp only [fe_X4_loadOn, h2_1, h7_2]))
      · skip
        have hq := ck_checkPoint (p := q) hD h7_2
        refine v_aload_n (j := 0) C dX4_loadOn_10 rfl rfl rfl ?_
        refine v_getr (c := 0) C 2 flX4_17 (by decide) rfl rfl dX4_loadOn_11 rfl ?_
        refine v_iload_n (j := 1) C dX4_loadOn_14 rfl rfl rfl ?_
        refine v_aald (c := 2) C (Or.inr (Or.inl rfl)) hp (by decide) rfl dX4_loadOn_15 rfl ?_
        refine v_iload_n (j := 2) C dX4_loadOn_16 rfl rfl rfl ?_
        refine v_callV (rest := []) (q := (RX0, TX0, 9)) C kvX4_214 (k_X0_loadAt sg o (ix p) q (ix_lt hp)) (by decide) (lt_pc (ix_lt hp)) (lay_pc (ix_lt hp)) rfl rfl rfl rfl (Nat.le_of_ble_eq_true rfl) (by decide) (by decide) dX4_loadOn_17 rfl ?_
        exact v_ret (E ((by simp only [fe_X4_loadOn, h2_1, h7_2]))) dX4_loadOn_20 (by decide) (by decide) ((by simp only [fr_X4_loadOn, h2_1, h7_2])) (rfl) rfl
def fr_X4_mayBear (sg : Sg) (q : Int32) : Int32 := (fr_X3_allows sg (ix (sg 0 10)) (ix q))
def fe_X4_mayBear (sg : Sg) (q : Int32) : Option String := (match (fe_X4_checkPoint sg q) with | some e => some e | none => (if sg 0 10 < 0 then (some eISE) else none))
set_option maxHeartbeats 4000000 in
set_option maxRecDepth 20000 in
theorem k_X4_mayBear {l : Launch} {D : va_G} {K : Nat → ClassId} {g : Nat → Nat} (hl : l.stackTraces = false) (sg : Sg) (o : Ot) (q : Int32) (hD : DI sg) : CX l yX4_mayBear cX4_mayBear 3 (some .int) 10 2 12 D K g [.ref (g 0), .int q] sg o (fe_X4_mayBear sg q) (some (.int (fr_X4_mayBear sg q))) sg o :=
  mk_xi (own := RX4) (av := fun g => [.ref (g 0), .int q]) (lo := fun g => [(0, .ref (g 0)), (1, .int q)]) (by decide) rfl rfl (fun _ => Nat.le_of_ble_eq_true rfl) (fun _ => rfl) hl fun X C E T => by
    refine v_aload_n (j := 0) C dX4_mayBear_0 rfl rfl rfl ?_
    refine v_iload_n (j := 1) C dX4_mayBear_1 rfl rfl rfl ?_
    refine v_callVX (rest := []) (q := (RX4, TX4, 13)) C T.1 kvX4_110 (k_X4_checkPoint T.2.2.2.2.2.2 sg o q) (by decide) (by decide) rfl rfl rfl rfl rfl (Nat.le_of_ble_eq_true rfl) (by decide) (by decide) dX4_mayBear_2 rfl (fun eh2_1 h2_1 => ?_) (fun h2_1 => ?_)
    · exact T.2.1 _ _ _ _ _ _ _ (by decide) (by decide) ((by simp only [fe_X4_mayBear, h2_1]))
    · skip
      have hq := ck_checkPoint (p := q) hD h2_1
      refine v_aload_n (j := 0) C dX4_mayBear_5 rfl rfl rfl ?_
      refine v_getp (c := 0) C flX4_54 (by decide) rfl rfl dX4_mayBear_6 rfl (fun h6_2 => ?_) (fun h6_2 => ?_)
      · skip
        refine v_astore_nN C [(2, .null), (0, .ref (xg X 0)), (1, .int q)] dX4_mayBear_9 rfl (by decide) rfl rfl ?_
        refine v_aload_nN (j := 0) C dX4_mayBear_10 rfl rfl rfl ?_
        refine v_ifnonnullN C dX4_mayBear_11 rfl ?_
        exact T.2.2.1 _ _ _ _ _ _ _ _ _ _ ts_80_208_84 dX4_mayBear_14 dX4_mayBear_17 dX4_mayBear_18 dX4_mayBear_20 dX4_mayBear_23 (by decide) (Nat.le_of_ble_eq_true rfl) (by decide) (by decide) ((by simp only [fe_X4_mayBear, h2_1, if_pos h6_2]))
      · skip
        refine v_astore_n C [(2, .ref (xg X (37 + ix (sg 0 10)))), (0, .ref (xg X 0)), (1, .int q)] dX4_mayBear_9 rfl (by decide) rfl rfl ?_
        refine v_aload_n (j := 0) C dX4_mayBear_10 rfl rfl rfl ?_
        refine v_ifnonnull (tgt := 24) C dX4_mayBear_11 (by decide) ?_
        refine v_aload_n (j := 0) C dX4_mayBear_24 rfl rfl rfl ?_
        refine v_aload_n (j := 1) C dX4_mayBear_25 rfl rfl rfl ?_
        refine v_getr (c := 0) C 1 flX4_11 (by decide) rfl rfl dX4_mayBear_26 rfl ?_
        refine v_iload_n (j := 2) C dX4_mayBear_29 rfl rfl rfl ?_
        refine v_aald (c := 1) C (Or.inl rfl) hq (by decide) rfl dX4_mayBear_30 rfl ?_
        refine v_callV (rest := []) (q := (RX3, TX3, 8)) C kvX4_217 (k_X3_allows sg o (ix (sg 0 10)) (ix q) (ix_lt (hD.tn h6_2)) (ix_lt hq)) (by decide) (lt_tn (ix_lt (hD.tn h6_2))) (lay_tn (ix_lt (hD.tn h6_2))) rfl rfl rfl rfl (Nat.le_of_ble_eq_true rfl) (by decide) (by decide) dX4_mayBear_31 rfl ?_
        exact v_ret (E ((by simp only [fe_X4_mayBear, h2_1, if_neg h6_2]))) dX4_mayBear_34 (by decide) (by decide) ((by simp only [fr_X4_mayBear, h2_1, if_neg h6_2])) (rfl) rfl
def fr_X4_bears (sg : Sg) (q : Int32) : Int32 := (sg 10 (ix q))
def fe_X4_bears (sg : Sg) (q : Int32) : Option String := (match (fe_X4_checkPoint sg q) with | some e => some e | none => none)
set_option maxHeartbeats 4000000 in
set_option maxRecDepth 20000 in
theorem k_X4_bears {l : Launch} {D : va_G} {K : Nat → ClassId} {g : Nat → Nat} (hl : l.stackTraces = false) (sg : Sg) (o : Ot) (q : Int32) (hD : DI sg) : CX l yX4_bears cX4_bears 2 (some .int) 10 1 6 D K g [.ref (g 0), .int q] sg o (fe_X4_bears sg q) (some (.int (fr_X4_bears sg q))) sg o :=
  mk_xi (own := RX4) (av := fun g => [.ref (g 0), .int q]) (lo := fun g => [(0, .ref (g 0)), (1, .int q)]) (by decide) rfl rfl (fun _ => Nat.le_of_ble_eq_true rfl) (fun _ => rfl) hl fun X C E T => by
    refine v_aload_n (j := 0) C dX4_bears_0 rfl rfl rfl ?_
    refine v_iload_n (j := 1) C dX4_bears_1 rfl rfl rfl ?_
    refine v_callVX (rest := []) (q := (RX4, TX4, 13)) C T.1 kvX4_110 (k_X4_checkPoint T.2.2.2.2.2.2 sg o q) (by decide) (by decide) rfl rfl rfl rfl rfl (Nat.le_of_ble_eq_true rfl) (by decide) (by decide) dX4_bears_2 rfl (fun eh2_1 h2_1 => ?_) (fun h2_1 => ?_)
    · exact T.2.1 _ _ _ _ _ _ _ (by decide) (by decide) ((by simp only [fe_X4_bears, h2_1]))
    · skip
      have hq := ck_checkPoint (p := q) hD h2_1
      refine v_aload_n (j := 0) C dX4_bears_5 rfl rfl rfl ?_
      refine v_getr (c := 0) C 5 flX4_34 (by decide) rfl rfl dX4_bears_6 rfl ?_
      refine v_getr (c := 5) C 10 flX4_221 (by decide) rfl rfl dX4_bears_9 rfl ?_
      refine v_iload_n (j := 1) C dX4_bears_12 rfl rfl rfl ?_
      refine v_iald (c := 10) C hq (by decide) rfl dX4_bears_13 rfl ?_
      exact v_ret (E ((by simp only [fe_X4_bears, h2_1]))) dX4_bears_14 (by decide) (by decide) ((by simp only [fr_X4_bears, h2_1])) (rfl) rfl
def fr_X4_reason (sg : Sg) (p : Int32) : Int32 := (fr_X4_reasonAgainst sg 5 p)
def fe_X4_reason (sg : Sg) (p : Int32) : Option String := (match (fe_X4_checkPiece sg p) with | some e => some e | none => none)
theorem chr_X4_reason (sg : Sg) (p : Int32) : narrow .char (.int (fr_X4_reason sg p)) = .int (fr_X4_reason sg p) := (chr_X4_reasonAgainst _ _ _)
set_option maxHeartbeats 4000000 in
set_option maxRecDepth 20000 in
theorem k_X4_reason {l : Launch} {D : va_G} {K : Nat → ClassId} {g : Nat → Nat} (hl : l.stackTraces = false) (sg : Sg) (o : Ot) (p : Int32) (hD : DI sg) : CX l yX4_reason cX4_reason 2 (some .char) 10 1 6 D K g [.ref (g 0), .int p] sg o (fe_X4_reason sg p) (some (.int (fr_X4_reason sg p))) sg o :=
  mk_xi (own := RX4) (av := fun g => [.ref (g 0), .int p]) (lo := fun g => [(0, .ref (g 0)), (1, .int p)]) (by decide) rfl (chr_X4_reason sg p) (fun _ => Nat.le_of_ble_eq_true rfl) (fun _ => rfl) hl fun X C E T => by
    refine v_aload_n (j := 0) C dX4_reason_0 rfl rfl rfl ?_
    refine v_iload_n (j := 1) C dX4_reason_1 rfl rfl rfl ?_
    refine v_callVX (rest := []) (q := (RX4, TX4, 13)) C T.1 kvX4_107 (k_X4_checkPiece T.2.2.2.2.2.2 sg o p) (by decide) (by decide) rfl rfl rfl rfl rfl (Nat.le_of_ble_eq_true rfl) (by decide) (by decide) dX4_reason_2 rfl (fun eh2_1 h2_1 => ?_) (fun h2_1 => ?_)
    · exact T.2.1 _ _ _ _ _ _ _ (by decide) (by decide) ((by simp only [fe_X4_reason, h2_1]))
    · skip
      have hp := ck_checkPiece (p := p) hD h2_1
      refine v_aload_n (j := 0) C dX4_reason_5 rfl rfl rfl ?_
      refine v_aload_n (j := 0) C dX4_reason_6 rfl rfl rfl ?_
      refine v_getr (c := 0) C 5 flX4_34 (by decide) rfl rfl dX4_reason_7 rfl ?_
      refine v_iload_n (j := 1) C dX4_reason_10 rfl rfl rfl ?_
      refine v_callV (rest := []) (q := (RX4, TX4, 13)) C kvX4_224 (k_X4_reasonAgainst sg o 5 p isR5 hD hp) (by decide) (by decide) rfl rfl rfl rfl rfl (Nat.le_of_ble_eq_true rfl) (by decide) (by decide) dX4_reason_11 rfl ?_
      exact v_ret (E ((by simp only [fe_X4_reason, h2_1]))) dX4_reason_14 (by decide) (by decide) ((by simp only [fr_X4_reason, h2_1])) (rfl) rfl
def fr_X4_hang (sg : Sg) (p : Int32) : Int32 := (fr_X2_lastMinute (fs_X4_putOn sg 5 p (ix (sg 0 10))) 5)
def fs_X4_hang (sg : Sg) (p : Int32) : Sg := (fs_X4_putOn sg 5 p (ix (sg 0 10)))
def fe_X4_hang (sg : Sg) (p : Int32) : Option String := (match (fe_X4_checkPiece sg p) with | some e => some e | none => (if sg 0 10 < 0 then (some eISE) else (if (fr_X4_reasonAgainst sg 5 p) = 45 then none else (some eISE))))
set_option maxHeartbeats 4000000 in
set_option maxRecDepth 20000 in
theorem k_X4_hang {l : Launch} {D : va_G} {K : Nat → ClassId} {g : Nat → Nat} (hl : l.stackTraces = false) (sg : Sg) (o : Ot) (p : Int32) (hD : DI sg) : CX l yX4_hang cX4_hang 3 (some .int) 10 2 12 D K g [.ref (g 0), .int p] sg o (fe_X4_hang sg p) (some (.int (fr_X4_hang sg p))) (fs_X4_hang sg p) o :=
  mk_xi (own := RX4) (av := fun g => [.ref (g 0), .int p]) (lo := fun g => [(0, .ref (g 0)), (1, .int p)]) (by decide) rfl rfl (fun _ => Nat.le_of_ble_eq_true rfl) (fun _ => rfl) hl fun X C E T => by
    refine v_aload_n (j := 0) C dX4_hang_0 rfl rfl rfl ?_
    refine v_iload_n (j := 1) C dX4_hang_1 rfl rfl rfl ?_
    refine v_callVX (rest := []) (q := (RX4, TX4, 13)) C T.1 kvX4_107 (k_X4_checkPiece T.2.2.2.2.2.2 sg o p) (by decide) (by decide) rfl rfl rfl rfl rfl (Nat.le_of_ble_eq_true rfl) (by decide) (by decide) dX4_hang_2 rfl (fun eh2_1 h2_1 => ?_) (fun h2_1 => ?_)
    · exact T.2.1 _ _ _ _ _ _ _ (by decide) (by decide) ((by simp only [fe_X4_hang, h2_1]))
    · skip
      have hp := ck_checkPiece (p := p) hD h2_1
      refine v_aload_n (j := 0) C dX4_hang_5 rfl rfl rfl ?_
      refine v_getp (c := 0) C flX4_54 (by decide) rfl rfl dX4_hang_6 rfl (fun h6_2 => ?_) (fun h6_2 => ?_)
      · skip
        refine v_astore_nN C [(2, .null), (0, .ref (xg X 0)), (1, .int p)] dX4_hang_9 rfl (by decide) rfl rfl ?_
        refine v_aload_nN (j := 0) C dX4_hang_10 rfl rfl rfl ?_
        refine v_ifnullN (tgt := 28) C dX4_hang_11 (by decide) ?_
        exact T.2.2.1 _ _ _ _ _ _ _ _ _ _ ts_80_228_84 dX4_hang_28 dX4_hang_31 dX4_hang_32 dX4_hang_34 dX4_hang_37 (by decide) (Nat.le_of_ble_eq_true rfl) (by decide) (by decide) ((by simp only [fe_X4_hang, h2_1, if_pos h6_2]))
      · skip
        refine v_astore_n C [(2, .ref (xg X (37 + ix (sg 0 10)))), (0, .ref (xg X 0)), (1, .int p)] dX4_hang_9 rfl (by decide) rfl rfl ?_
        refine v_aload_n (j := 0) C dX4_hang_10 rfl rfl rfl ?_
        refine v_ifnull C dX4_hang_11 rfl ?_
        refine v_aload_n (j := 1) C dX4_hang_14 rfl rfl rfl ?_
        refine v_aload_n (j := 1) C dX4_hang_15 rfl rfl rfl ?_
        refine v_getr (c := 0) C 5 flX4_34 (by decide) rfl rfl dX4_hang_16 rfl ?_
        refine v_iload_n (j := 2) C dX4_hang_19 rfl rfl rfl ?_
        refine v_callV (rest := []) (q := (RX4, TX4, 13)) C kvX4_224 (k_X4_reasonAgainst sg o 5 p isR5 hD hp) (by decide) (by decide) rfl rfl rfl rfl rfl (Nat.le_of_ble_eq_true rfl) (by decide) (by decide) dX4_hang_20 rfl ?_
        refine v_bipush (v := 45) C dX4_hang_23 (by decide) rfl ?_
        refine v_icmp_eq (tgt := 38) C dX4_hang_25 (by decide) rfl (fun h25_3 => ?_) (fun h25_3 => ?_)
        · skip
          refine v_aload_n (j := 1) C dX4_hang_38 rfl rfl rfl ?_
          refine v_aload_n (j := 1) C dX4_hang_39 rfl rfl rfl ?_
          refine v_getr (c := 0) C 5 flX4_34 (by decide) rfl rfl dX4_hang_40 rfl ?_
          refine v_iload_n (j := 2) C dX4_hang_43 rfl rfl rfl ?_
          refine v_aload_n (j := 0) C dX4_hang_44 rfl rfl rfl ?_
          refine v_callV (rest := []) (q := (RX4, TX4, 13)) C kvX4_230 (k_X4_putOn sg o 5 p (ix (sg 0 10)) isR5 (ix_lt (hD.tn h6_2)) hD hp) (by decide) (by decide) rfl rfl rfl rfl rfl (Nat.le_of_ble_eq_true rfl) (by decide) (by decide) dX4_hang_45 rfl ?_
          refine v_aload_n (j := 1) C dX4_hang_48 rfl rfl rfl ?_
          refine v_getr (c := 0) C 5 flX4_34 (by decide) rfl rfl dX4_hang_49 rfl ?_
          refine v_callV (rest := []) (q := (RX2, TX2, 8)) C kvX4_234 (k_X2_lastMinute (fs_X4_putOn sg 5 p (ix (sg 0 10))) o 5 isR5 (hD.putOn isR5 hp)) (by decide) (by decide) rfl rfl rfl rfl rfl (Nat.le_of_ble_eq_true rfl) (by decide) (by decide) dX4_hang_52 rfl ?_
          exact v_ret (E ((by first | contradiction | simp only [fe_X4_hang, h2_1, if_neg h6_2, if_pos h25_3]))) dX4_hang_55 (by decide) (by decide) ((by first | contradiction | simp only [fr_X4_hang, h2_1, if_neg h6_2, if_pos h25_3])) ((by first | contradiction | simp only [fs_X4_hang, h2_1, if_neg h6_2, if_pos h25_3])) rfl
        · skip
          exact T.2.2.1 _ _ _ _ _ _ _ _ _ _ ts_80_228_84 dX4_hang_28 dX4_hang_31 dX4_hang_32 dX4_hang_34 dX4_hang_37 (by decide) (Nat.le_of_ble_eq_true rfl) (by decide) (by decide) ((by first | contradiction | simp only [fe_X4_hang, h2_1, if_neg h6_2, if_neg h25_3]))
def fr_X4_takeDown (sg : Sg) : Int32 := (sg 6 (ix ((sg 5 5) - 1)))
def fs_X4_takeDown (sg : Sg) : Sg := (fs_X4_takeLastOff sg 5)
def fe_X4_takeDown (sg : Sg) : Option String := (if 0 < (sg 5 5) then none else (some eISE))
set_option maxHeartbeats 4000000 in
set_option maxRecDepth 20000 in
theorem k_X4_takeDown {l : Launch} {D : va_G} {K : Nat → ClassId} {g : Nat → Nat} (hl : l.stackTraces = false) (sg : Sg) (o : Ot)  (hD : DI sg) : CX l yX4_takeDown cX4_takeDown 2 (some .int) 9 1 6 D K g [.ref (g 0)] sg o (fe_X4_takeDown sg) (some (.int (fr_X4_takeDown sg))) (fs_X4_takeDown sg) o :=
  mk_xi (own := RX4) (av := fun g => [.ref (g 0)]) (lo := fun g => [(0, .ref (g 0))]) (by decide) rfl rfl (fun _ => Nat.le_of_ble_eq_true rfl) (fun _ => rfl) hl fun X C E T => by
    refine v_aload_n (j := 0) C dX4_takeDown_0 rfl rfl rfl ?_
    refine v_getr (c := 0) C 5 flX4_34 (by decide) rfl rfl dX4_takeDown_1 rfl ?_
    refine v_geti (c := 5) C flX4_200 (by decide) rfl rfl dX4_takeDown_4 rfl ?_
    refine v_if_gt (tgt := 20) C dX4_takeDown_7 (by decide) rfl (fun h7_1 => ?_) (fun h7_1 => ?_)
    · skip
      have hz := h7_1
      refine v_aload_n (j := 0) C dX4_takeDown_20 rfl rfl rfl ?_
      refine v_getr (c := 0) C 5 flX4_34 (by decide) rfl rfl dX4_takeDown_21 rfl ?_
      refine v_getr (c := 5) C 6 flX4_240 (by decide) rfl rfl dX4_takeDown_24 rfl ?_
      refine v_aload_n (j := 0) C dX4_takeDown_27 rfl rfl rfl ?_
      refine v_getr (c := 0) C 5 flX4_34 (by decide) rfl rfl dX4_takeDown_28 rfl ?_
      refine v_geti (c := 5) C flX4_200 (by decide) rfl rfl dX4_takeDown_31 rfl ?_
      refine v_iconst (v := 1) C dX4_takeDown_34 (by decide) rfl ?_
      refine v_isub C dX4_takeDown_35 rfl ?_
      refine v_iald (c := 6) C (hD.last isR5 hz) (by decide) rfl dX4_takeDown_36 rfl ?_
      refine v_istore_n C [(1, .int (sg 6 (ix ((sg 5 5) - 1)))), (0, .ref (xg X 0))] dX4_takeDown_37 rfl (by decide) rfl rfl ?_
      refine v_aload_n (j := 1) C dX4_takeDown_38 rfl rfl rfl ?_
      refine v_aload_n (j := 1) C dX4_takeDown_39 rfl rfl rfl ?_
      refine v_getr (c := 0) C 5 flX4_34 (by decide) rfl rfl dX4_takeDown_40 rfl ?_
      refine v_callV (rest := []) (q := (RX4, TX4, 13)) C kvX4_243 (k_X4_takeLastOff sg o 5 isR5 hD) (by decide) (by decide) rfl rfl rfl rfl rfl (Nat.le_of_ble_eq_true rfl) (by decide) (by decide) dX4_takeDown_43 rfl ?_
      refine v_iload_n (j := 0) C dX4_takeDown_46 rfl rfl rfl ?_
      exact v_ret (E ((by simp only [fe_X4_takeDown, if_pos h7_1]))) dX4_takeDown_47 (by decide) (by decide) ((by simp only [fr_X4_takeDown, if_pos h7_1])) ((by simp only [fs_X4_takeDown, if_pos h7_1])) rfl
    · skip
      skip
      exact T.2.2.1 _ _ _ _ _ _ _ _ _ _ ts_80_238_84 dX4_takeDown_10 dX4_takeDown_13 dX4_takeDown_14 dX4_takeDown_16 dX4_takeDown_19 (by decide) (Nat.le_of_ble_eq_true rfl) (by decide) (by decide) ((by simp only [fe_X4_takeDown, if_neg h7_1]))
def fr_X4_hung (sg : Sg) : Int32 := (sg 5 5)
set_option maxHeartbeats 4000000 in
set_option maxRecDepth 20000 in
theorem k_X4_hung {l : Launch} {D : va_G} {K : Nat → ClassId} {g : Nat → Nat} (sg : Sg) (o : Ot)  (hD : DI sg) : CN l yX4_hung cX4_hung 1 (some .int) 9 D K g [.ref (g 0)] sg o (some (.int (fr_X4_hung sg))) sg o :=
  mk_i (own := RX4) (av := fun g => [.ref (g 0)]) (lo := fun g => [(0, .ref (g 0))]) (by decide) rfl rfl (fun _ => Nat.le_of_ble_eq_true rfl) (fun _ => rfl) fun X C E => by
    refine v_aload_n (j := 0) C dX4_hung_0 rfl rfl rfl ?_
    refine v_getr (c := 0) C 5 flX4_34 (by decide) rfl rfl dX4_hung_1 rfl ?_
    refine v_geti (c := 5) C flX4_200 (by decide) rfl rfl dX4_hung_4 rfl ?_
    exact v_ret E dX4_hung_7 (by decide) (by decide) ((by rfl)) (rfl) rfl
def fr_X4_hungAt (sg : Sg) (p : Int32) : Int32 := (fr_X4_pieceAt sg 5 p)
def fe_X4_hungAt (sg : Sg) (p : Int32) : Option String := (match (fe_X4_pieceAt sg 5 p) with | some e => some e | none => none)
set_option maxHeartbeats 4000000 in
set_option maxRecDepth 20000 in
theorem k_X4_hungAt {l : Launch} {D : va_G} {K : Nat → ClassId} {g : Nat → Nat} (hl : l.stackTraces = false) (sg : Sg) (o : Ot) (p : Int32) (hD : DI sg) : CX l yX4_hungAt cX4_hungAt 2 (some .int) 10 1 6 D K g [.ref (g 0), .int p] sg o (fe_X4_hungAt sg p) (some (.int (fr_X4_hungAt sg p))) sg o :=
  mk_xi (own := RX4) (av := fun g => [.ref (g 0), .int p]) (lo := fun g => [(0, .ref (g 0)), (1, .int p)]) (by decide) rfl rfl (fun _ => Nat.le_of_ble_eq_true rfl) (fun _ => rfl) hl fun X C E T => by
    refine v_aload_n (j := 0) C dX4_hungAt_0 rfl rfl rfl ?_
    refine v_getr (c := 0) C 5 flX4_34 (by decide) rfl rfl dX4_hungAt_1 rfl ?_
    refine v_iload_n (j := 1) C dX4_hungAt_4 rfl rfl rfl ?_
    refine v_callSX (rest := []) C T.1 ksX4_247 (k_X4_pieceAt T.2.2.2.2.2.2 sg o 5 p isR5 hD) (by decide) rfl rfl (Nat.le_of_ble_eq_true rfl) (by decide) (by decide) dX4_hungAt_5 rfl (fun eh5_1 h5_1 => ?_) (fun h5_1 => ?_)
    · exact T.2.1 _ _ _ _ _ _ _ (by decide) (by decide) ((by simp only [fe_X4_hungAt, h5_1]))
    · skip
      exact v_ret (E ((by simp only [fe_X4_hungAt, h5_1]))) dX4_hungAt_8 (by decide) (by decide) ((by simp only [fr_X4_hungAt, h5_1])) (rfl) rfl
def fr_X4_beginOf (sg : Sg) (p : Int32) : Int32 := (sg 7 (ix (fl_X2_indexOf sg 5 p (ix (sg 5 5)) 0)))
def fe_X4_beginOf (sg : Sg) (p : Int32) : Option String := (if (fl_X2_indexOf sg 5 p (ix (sg 5 5)) 0) < 0 then (some eNSE) else none)
set_option maxHeartbeats 4000000 in
set_option maxRecDepth 20000 in
theorem k_X4_beginOf {l : Launch} {D : va_G} {K : Nat → ClassId} {g : Nat → Nat} (hl : l.stackTraces = false) (sg : Sg) (o : Ot) (p : Int32) (hD : DI sg) : CX l yX4_beginOf cX4_beginOf 3 (some .int) 9 1 6 D K g [.ref (g 0), .int p] sg o (fe_X4_beginOf sg p) (some (.int (fr_X4_beginOf sg p))) sg o :=
  mk_xi (own := RX4) (av := fun g => [.ref (g 0), .int p]) (lo := fun g => [(0, .ref (g 0)), (1, .int p)]) (by decide) rfl rfl (fun _ => Nat.le_of_ble_eq_true rfl) (fun _ => rfl) hl fun X C E T => by
    refine v_aload_n (j := 0) C dX4_beginOf_0 rfl rfl rfl ?_
    refine v_getr (c := 0) C 5 flX4_34 (by decide) rfl rfl dX4_beginOf_1 rfl ?_
    refine v_iload_n (j := 1) C dX4_beginOf_4 rfl rfl rfl ?_
    refine v_callV (rest := []) (q := (RX2, TX2, 8)) C kvX4_251 (k_X2_indexOf sg o 5 p isR5 hD) (by decide) (by decide) rfl rfl rfl rfl rfl (Nat.le_of_ble_eq_true rfl) (by decide) (by decide) dX4_beginOf_5 rfl ?_
    refine v_istore_n C [(2, .int (fl_X2_indexOf sg 5 p (ix (sg 5 5)) 0)), (0, .ref (xg X 0)), (1, .int p)] dX4_beginOf_8 rfl (by decide) rfl rfl ?_
    refine v_iload_n (j := 0) C dX4_beginOf_9 rfl rfl rfl ?_
    refine v_if_ge (tgt := 23) C dX4_beginOf_10 (by decide) rfl (fun h10_1 => ?_) (fun h10_1 => ?_)
    · skip
      have hz := h10_1
      refine v_aload_n (j := 1) C dX4_beginOf_23 rfl rfl rfl ?_
      refine v_getr (c := 0) C 5 flX4_34 (by decide) rfl rfl dX4_beginOf_24 rfl ?_
      refine v_getr (c := 5) C 7 flX4_256 (by decide) rfl rfl dX4_beginOf_27 rfl ?_
      refine v_iload_n (j := 0) C dX4_beginOf_30 rfl rfl rfl ?_
      refine v_iald (c := 7) C (idx_in _ 0 (hD.sz isR5).ixl hz) (by decide) rfl dX4_beginOf_31 rfl ?_
      exact v_ret (E ((by simp only [fe_X4_beginOf, if_neg h10_1]))) dX4_beginOf_32 (by decide) (by decide) ((by simp only [fr_X4_beginOf, if_neg h10_1])) (rfl) rfl
    · skip
      skip
      exact T.2.2.2.2.1 _ _ _ _ _ _ _ _ _ _ ts_206_254_210 dX4_beginOf_13 dX4_beginOf_16 dX4_beginOf_17 dX4_beginOf_19 dX4_beginOf_22 (by decide) (Nat.le_of_ble_eq_true rfl) (by decide) (by decide) ((by simp only [fe_X4_beginOf, if_pos h10_1]))
def fr_X4_end (sg : Sg) : Int32 := (fr_X2_lastMinute sg 5)
set_option maxHeartbeats 4000000 in
set_option maxRecDepth 20000 in
theorem k_X4_end {l : Launch} {D : va_G} {K : Nat → ClassId} {g : Nat → Nat} (sg : Sg) (o : Ot)  (hD : DI sg) : CN l yX4_end cX4_end 1 (some .int) 9 D K g [.ref (g 0)] sg o (some (.int (fr_X4_end sg))) sg o :=
  mk_i (own := RX4) (av := fun g => [.ref (g 0)]) (lo := fun g => [(0, .ref (g 0))]) (by decide) rfl rfl (fun _ => Nat.le_of_ble_eq_true rfl) (fun _ => rfl) fun X C E => by
    refine v_aload_n (j := 0) C dX4_end_0 rfl rfl rfl ?_
    refine v_getr (c := 0) C 5 flX4_34 (by decide) rfl rfl dX4_end_1 rfl ?_
    refine v_callV (rest := []) (q := (RX2, TX2, 8)) C kvX4_234 (k_X2_lastMinute sg o 5 isR5 hD) (by decide) (by decide) rfl rfl rfl rfl rfl (Nat.le_of_ble_eq_true rfl) (by decide) (by decide) dX4_end_4 rfl ?_
    exact v_ret E dX4_end_7 (by decide) (by decide) ((by rfl)) (rfl) rfl
def fr_X4_work (sg : Sg) : Int32 := (fr_X2_workAtEnd sg 5)
set_option maxHeartbeats 4000000 in
set_option maxRecDepth 20000 in
theorem k_X4_work {l : Launch} {D : va_G} {K : Nat → ClassId} {g : Nat → Nat} (sg : Sg) (o : Ot)  (hD : DI sg) : CN l yX4_work cX4_work 1 (some .int) 9 D K g [.ref (g 0)] sg o (some (.int (fr_X4_work sg))) sg o :=
  mk_i (own := RX4) (av := fun g => [.ref (g 0)]) (lo := fun g => [(0, .ref (g 0))]) (by decide) rfl rfl (fun _ => Nat.le_of_ble_eq_true rfl) (fun _ => rfl) fun X C E => by
    refine v_aload_n (j := 0) C dX4_work_0 rfl rfl rfl ?_
    refine v_getr (c := 0) C 5 flX4_34 (by decide) rfl rfl dX4_work_1 rfl ?_
    refine v_callV (rest := []) (q := (RX2, TX2, 8)) C kvX4_259 (k_X2_workAtEnd sg o 5 isR5 hD) (by decide) (by decide) rfl rfl rfl rfl rfl (Nat.le_of_ble_eq_true rfl) (by decide) (by decide) dX4_work_4 rfl ?_
    exact v_ret E dX4_work_7 (by decide) (by decide) ((by rfl)) (rfl) rfl
def fr_X4_cost (sg : Sg) : Int64 := Int32.toInt64 (fv_cbp sg 5)
set_option maxHeartbeats 4000000 in
set_option maxRecDepth 20000 in
theorem k_X4_cost {l : Launch} {D : va_G} {K : Nat → ClassId} {g : Nat → Nat} (sg : Sg) (o : Ot)  (hD : DI sg) : CN l yX4_cost cX4_cost 1 (some .long) 11 D K g [.ref (g 0)] sg o (some (.long (fr_X4_cost sg))) sg o :=
  mk_l (own := RX4) (av := fun g => [.ref (g 0)]) (lo := fun g => [(0, .ref (g 0))]) (by decide) rfl (fun _ => Nat.le_of_ble_eq_true rfl) (fun _ => rfl) fun X C E => by
    refine v_aload_n (j := 0) C dX4_cost_0 rfl rfl rfl ?_
    refine v_aload_n (j := 0) C dX4_cost_1 rfl rfl rfl ?_
    refine v_getr (c := 0) C 5 flX4_34 (by decide) rfl rfl dX4_cost_2 rfl ?_
    refine v_callV (rest := []) (q := (RX4, TX4, 13)) C kvX4_262 (k_X4_costByPieces sg o 5 isR5 hD) (by decide) (by decide) rfl rfl rfl rfl rfl (Nat.le_of_ble_eq_true rfl) (by decide) (by decide) dX4_cost_5 rfl ?_
    refine v_i2l C dX4_cost_8 rfl ?_
    exact v_lret E dX4_cost_9 (by decide) (by decide) ((by rfl)) (rfl) rfl
def fr_X4_costByMinutes (sg : Sg) : Int64 := fv_cmm sg
set_option maxHeartbeats 4000000 in
set_option maxRecDepth 20000 in
theorem k_X4_costByMinutes {l : Launch} {D : va_G} {K : Nat → ClassId} {g : Nat → Nat} (sg : Sg) (o : Ot)  (hD : DI sg) : CN l yX4_costByMinutes cX4_costByMinutes 1 (some .long) 11 D K g [.ref (g 0)] sg o (some (.long (fr_X4_costByMinutes sg))) sg o :=
  mk_l (own := RX4) (av := fun g => [.ref (g 0)]) (lo := fun g => [(0, .ref (g 0))]) (by decide) rfl (fun _ => Nat.le_of_ble_eq_true rfl) (fun _ => rfl) fun X C E => by
    refine v_aload_n (j := 0) C dX4_costByMinutes_0 rfl rfl rfl ?_
    refine v_callV (rest := []) (q := (RX4, TX4, 13)) C kvX4_266 (k_X4_costMinuteByMinute sg o hD) (by decide) (by decide) rfl rfl rfl rfl rfl (Nat.le_of_ble_eq_true rfl) (by decide) (by decide) dX4_costByMinutes_1 rfl ?_
    exact v_lret E dX4_costByMinutes_4 (by decide) (by decide) ((by rfl)) (rfl) rfl
def fr_X4_bestWorth (sg : Sg) : Int32 := ((fs_X4_findBest sg) 17 7)
def fs_X4_bestWorth (sg : Sg) : Sg := (fs_X4_findBest sg)
set_option maxHeartbeats 4000000 in
set_option maxRecDepth 20000 in
theorem k_X4_bestWorth {l : Launch} {D : va_G} {K : Nat → ClassId} {g : Nat → Nat} (sg : Sg) (o : Ot)  (hD : DI sg) : CN l yX4_bestWorth cX4_bestWorth 1 (some .int) 20 D K g [.ref (g 0)] sg o (some (.int (fr_X4_bestWorth sg))) (fs_X4_bestWorth sg) o :=
  mk_i (own := RX4) (av := fun g => [.ref (g 0)]) (lo := fun g => [(0, .ref (g 0))]) (by decide) rfl rfl (fun _ => Nat.le_of_ble_eq_true rfl) (fun _ => rfl) fun X C E => by
    refine v_aload_n (j := 0) C dX4_bestWorth_0 rfl rfl rfl ?_
    refine v_callV (rest := []) (q := (RX4, TX4, 13)) C kvX4_270 (k_X4_findBest sg o hD) (by decide) (by decide) rfl rfl rfl rfl rfl (Nat.le_of_ble_eq_true rfl) (by decide) (by decide) dX4_bestWorth_1 rfl ?_
    refine v_aload_n (j := 0) C dX4_bestWorth_4 rfl rfl rfl ?_
    refine v_getr (c := 0) C 17 flX4_41 (by decide) rfl rfl dX4_bestWorth_5 rfl ?_
    refine v_geti (c := 17) C flX4_273 (by decide) rfl rfl dX4_bestWorth_8 rfl ?_
    exact v_ret E dX4_bestWorth_11 (by decide) (by decide) ((by rfl)) (rfl) rfl
def fr_X4_bestByAll (sg : Sg) : Int32 := ((fs_X4_tryAllCompletions sg) 0 12)
def fs_X4_bestByAll (sg : Sg) : Sg := (fs_X4_tryAllCompletions sg)
set_option maxHeartbeats 4000000 in
set_option maxRecDepth 20000 in
theorem k_X4_bestByAll {l : Launch} {D : va_G} {K : Nat → ClassId} {g : Nat → Nat} (sg : Sg) (o : Ot)  (hD : DI sg) : CN l yX4_bestByAll cX4_bestByAll 1 (some .int) 20 D K g [.ref (g 0)] sg o (some (.int (fr_X4_bestByAll sg))) (fs_X4_bestByAll sg) o :=
  mk_i (own := RX4) (av := fun g => [.ref (g 0)]) (lo := fun g => [(0, .ref (g 0))]) (by decide) rfl rfl (fun _ => Nat.le_of_ble_eq_true rfl) (fun _ => rfl) fun X C E => by
    refine v_aload_n (j := 0) C dX4_bestByAll_0 rfl rfl rfl ?_
    refine v_callV (rest := []) (q := (RX4, TX4, 13)) C kvX4_274 (k_X4_tryAllCompletions sg o hD) (by decide) (by decide) rfl rfl rfl rfl rfl (Nat.le_of_ble_eq_true rfl) (by decide) (by decide) dX4_bestByAll_1 rfl ?_
    refine v_aload_n (j := 0) C dX4_bestByAll_4 rfl rfl rfl ?_
    refine v_geti (c := 0) C flX4_61 (by decide) rfl rfl dX4_bestByAll_5 rfl ?_
    exact v_ret E dX4_bestByAll_8 (by decide) (by decide) ((by rfl)) (rfl) rfl
def fr_X4_bestSize (sg : Sg) : Int32 := ((fs_X4_findBest sg) 17 5)
def fs_X4_bestSize (sg : Sg) : Sg := (fs_X4_findBest sg)
set_option maxHeartbeats 4000000 in
set_option maxRecDepth 20000 in
theorem k_X4_bestSize {l : Launch} {D : va_G} {K : Nat → ClassId} {g : Nat → Nat} (sg : Sg) (o : Ot)  (hD : DI sg) : CN l yX4_bestSize cX4_bestSize 1 (some .int) 20 D K g [.ref (g 0)] sg o (some (.int (fr_X4_bestSize sg))) (fs_X4_bestSize sg) o :=
  mk_i (own := RX4) (av := fun g => [.ref (g 0)]) (lo := fun g => [(0, .ref (g 0))]) (by decide) rfl rfl (fun _ => Nat.le_of_ble_eq_true rfl) (fun _ => rfl) fun X C E => by
    refine v_aload_n (j := 0) C dX4_bestSize_0 rfl rfl rfl ?_
    refine v_callV (rest := []) (q := (RX4, TX4, 13)) C kvX4_270 (k_X4_findBest sg o hD) (by decide) (by decide) rfl rfl rfl rfl rfl (Nat.le_of_ble_eq_true rfl) (by decide) (by decide) dX4_bestSize_1 rfl ?_
    refine v_aload_n (j := 0) C dX4_bestSize_4 rfl rfl rfl ?_
    refine v_getr (c := 0) C 17 flX4_41 (by decide) rfl rfl dX4_bestSize_5 rfl ?_
    refine v_geti (c := 17) C flX4_200 (by decide) rfl rfl dX4_bestSize_8 rfl ?_
    exact v_ret E dX4_bestSize_11 (by decide) (by decide) ((by rfl)) (rfl) rfl
def fr_X4_completions (sg : Sg) : Int32 := ((fs_X4_tryAllCompletions sg) 0 11)
def fs_X4_completions (sg : Sg) : Sg := (fs_X4_tryAllCompletions sg)
set_option maxHeartbeats 4000000 in
set_option maxRecDepth 20000 in
theorem k_X4_completions {l : Launch} {D : va_G} {K : Nat → ClassId} {g : Nat → Nat} (sg : Sg) (o : Ot)  (hD : DI sg) : CN l yX4_completions cX4_completions 1 (some .int) 20 D K g [.ref (g 0)] sg o (some (.int (fr_X4_completions sg))) (fs_X4_completions sg) o :=
  mk_i (own := RX4) (av := fun g => [.ref (g 0)]) (lo := fun g => [(0, .ref (g 0))]) (by decide) rfl rfl (fun _ => Nat.le_of_ble_eq_true rfl) (fun _ => rfl) fun X C E => by
    refine v_aload_n (j := 0) C dX4_completions_0 rfl rfl rfl ?_
    refine v_callV (rest := []) (q := (RX4, TX4, 13)) C kvX4_274 (k_X4_tryAllCompletions sg o hD) (by decide) (by decide) rfl rfl rfl rfl rfl (Nat.le_of_ble_eq_true rfl) (by decide) (by decide) dX4_completions_1 rfl ?_
    refine v_aload_n (j := 0) C dX4_completions_4 rfl rfl rfl ?_
    refine v_geti (c := 0) C flX4_58 (by decide) rfl rfl dX4_completions_5 rfl ?_
    exact v_ret E dX4_completions_8 (by decide) (by decide) ((by rfl)) (rfl) rfl
def fr_X4_bestEnd (sg : Sg) : Int32 := (fr_X2_lastMinute (fs_X4_findBest sg) 17)
def fs_X4_bestEnd (sg : Sg) : Sg := (fs_X4_findBest sg)
set_option maxHeartbeats 4000000 in
set_option maxRecDepth 20000 in
theorem k_X4_bestEnd {l : Launch} {D : va_G} {K : Nat → ClassId} {g : Nat → Nat} (sg : Sg) (o : Ot)  (hD : DI sg) : CN l yX4_bestEnd cX4_bestEnd 1 (some .int) 20 D K g [.ref (g 0)] sg o (some (.int (fr_X4_bestEnd sg))) (fs_X4_bestEnd sg) o :=
  mk_i (own := RX4) (av := fun g => [.ref (g 0)]) (lo := fun g => [(0, .ref (g 0))]) (by decide) rfl rfl (fun _ => Nat.le_of_ble_eq_true rfl) (fun _ => rfl) fun X C E => by
    refine v_aload_n (j := 0) C dX4_bestEnd_0 rfl rfl rfl ?_
    refine v_callV (rest := []) (q := (RX4, TX4, 13)) C kvX4_270 (k_X4_findBest sg o hD) (by decide) (by decide) rfl rfl rfl rfl rfl (Nat.le_of_ble_eq_true rfl) (by decide) (by decide) dX4_bestEnd_1 rfl ?_
    refine v_aload_n (j := 0) C dX4_bestEnd_4 rfl rfl rfl ?_
    refine v_getr (c := 0) C 17 flX4_41 (by decide) rfl rfl dX4_bestEnd_5 rfl ?_
    refine v_callV (rest := []) (q := (RX2, TX2, 8)) C kvX4_234 (k_X2_lastMinute (fs_X4_findBest sg) o 17 isR17 (find_DI hD)) (by decide) (by decide) rfl rfl rfl rfl rfl (Nat.le_of_ble_eq_true rfl) (by decide) (by decide) dX4_bestEnd_8 rfl ?_
    exact v_ret E dX4_bestEnd_11 (by decide) (by decide) ((by rfl)) (rfl) rfl
def fr_X4_bestCost (sg : Sg) : Int32 := (fv_cbp (fs_X4_findBest sg) 17)
def fs_X4_bestCost (sg : Sg) : Sg := (fs_X4_findBest sg)
set_option maxHeartbeats 4000000 in
set_option maxRecDepth 20000 in
theorem k_X4_bestCost {l : Launch} {D : va_G} {K : Nat → ClassId} {g : Nat → Nat} (sg : Sg) (o : Ot)  (hD : DI sg) : CN l yX4_bestCost cX4_bestCost 1 (some .int) 20 D K g [.ref (g 0)] sg o (some (.int (fr_X4_bestCost sg))) (fs_X4_bestCost sg) o :=
  mk_i (own := RX4) (av := fun g => [.ref (g 0)]) (lo := fun g => [(0, .ref (g 0))]) (by decide) rfl rfl (fun _ => Nat.le_of_ble_eq_true rfl) (fun _ => rfl) fun X C E => by
    refine v_aload_n (j := 0) C dX4_bestCost_0 rfl rfl rfl ?_
    refine v_callV (rest := []) (q := (RX4, TX4, 13)) C kvX4_270 (k_X4_findBest sg o hD) (by decide) (by decide) rfl rfl rfl rfl rfl (Nat.le_of_ble_eq_true rfl) (by decide) (by decide) dX4_bestCost_1 rfl ?_
    refine v_aload_n (j := 0) C dX4_bestCost_4 rfl rfl rfl ?_
    refine v_aload_n (j := 0) C dX4_bestCost_5 rfl rfl rfl ?_
    refine v_getr (c := 0) C 17 flX4_41 (by decide) rfl rfl dX4_bestCost_6 rfl ?_
    refine v_callV (rest := []) (q := (RX4, TX4, 13)) C kvX4_262 (k_X4_costByPieces (fs_X4_findBest sg) o 17 isR17 (find_DI hD)) (by decide) (by decide) rfl rfl rfl rfl rfl (Nat.le_of_ble_eq_true rfl) (by decide) (by decide) dX4_bestCost_9 rfl ?_
    exact v_ret E dX4_bestCost_12 (by decide) (by decide) ((by rfl)) (rfl) rfl
def fr_X4_bestAt (sg : Sg) (p : Int32) : Int32 := (fr_X4_pieceAt (fs_X4_findBest sg) 17 p)
def fs_X4_bestAt (sg : Sg) (p : Int32) : Sg := (fs_X4_findBest sg)
def fe_X4_bestAt (sg : Sg) (p : Int32) : Option String := (match (fe_X4_pieceAt (fs_X4_findBest sg) 17 p) with | some e => some e | none => none)
set_option maxHeartbeats 4000000 in
set_option maxRecDepth 20000 in
theorem k_X4_bestAt {l : Launch} {D : va_G} {K : Nat → ClassId} {g : Nat → Nat} (hl : l.stackTraces = false) (sg : Sg) (o : Ot) (p : Int32) (hD : DI sg) : CX2 l yX4_bestAt cX4_bestAt 2 (some .int) 20 1 6 D K g [.ref (g 0), .int p] sg o (fe_X4_bestAt sg p) (fs_X4_findBest sg) (some (.int (fr_X4_bestAt sg p))) (fs_X4_bestAt sg p) o :=
  mk_xi2 (own := RX4) (av := fun g => [.ref (g 0), .int p]) (lo := fun g => [(0, .ref (g 0)), (1, .int p)]) (by decide) rfl rfl (fun _ => Nat.le_of_ble_eq_true rfl) (fun _ => rfl) hl fun X C E T => by
    refine v_aload_n (j := 0) C dX4_bestAt_0 rfl rfl rfl ?_
    refine v_callV (rest := []) (q := (RX4, TX4, 13)) C kvX4_270 (k_X4_findBest sg o hD) (by decide) (by decide) rfl rfl rfl rfl rfl (Nat.le_of_ble_eq_true rfl) (by decide) (by decide) dX4_bestAt_1 rfl ?_
    refine v_aload_n (j := 0) C dX4_bestAt_4 rfl rfl rfl ?_
    refine v_getr (c := 0) C 17 flX4_41 (by decide) rfl rfl dX4_bestAt_5 rfl ?_
    refine v_iload_n (j := 1) C dX4_bestAt_8 rfl rfl rfl ?_
    refine v_callSX (rest := []) C T.1 ksX4_247 (k_X4_pieceAt T.2.2.2.2.2.2 (fs_X4_findBest sg) o 17 p isR17 (find_DI hD)) (by decide) rfl rfl (Nat.le_of_ble_eq_true rfl) (by decide) (by decide) dX4_bestAt_9 rfl (fun eh9_1 h9_1 => ?_) (fun h9_1 => ?_)
    · exact T.2.1 _ _ _ _ _ _ _ (by decide) (by decide) ((by simp only [fe_X4_bestAt, h9_1]))
    · skip
      exact v_ret (E ((by simp only [fe_X4_bestAt, h9_1]))) dX4_bestAt_12 (by decide) (by decide) ((by simp only [fr_X4_bestAt, h9_1])) ((by simp only [fs_X4_bestAt, h9_1])) rfl
def fr_X4_complete (sg : Sg) : Int32 := (((fs_X4_findBest sg) 17 5) - ((fs_X4_findBest sg) 5 5))
def fs_X4_complete (sg : Sg) : Sg := (fs_copy (fs_X4_findBest sg) 5 17)
set_option maxHeartbeats 4000000 in
set_option maxRecDepth 20000 in
theorem k_X4_complete {l : Launch} {D : va_G} {K : Nat → ClassId} {g : Nat → Nat} (sg : Sg) (o : Ot)  (hD : DI sg) : CN l yX4_complete cX4_complete 2 (some .int) 20 D K g [.ref (g 0)] sg o (some (.int (fr_X4_complete sg))) (fs_X4_complete sg) o :=
  mk_i (own := RX4) (av := fun g => [.ref (g 0)]) (lo := fun g => [(0, .ref (g 0))]) (by decide) rfl rfl (fun _ => Nat.le_of_ble_eq_true rfl) (fun _ => rfl) fun X C E => by
    refine v_aload_n (j := 0) C dX4_complete_0 rfl rfl rfl ?_
    refine v_callV (rest := []) (q := (RX4, TX4, 13)) C kvX4_270 (k_X4_findBest sg o hD) (by decide) (by decide) rfl rfl rfl rfl rfl (Nat.le_of_ble_eq_true rfl) (by decide) (by decide) dX4_complete_1 rfl ?_
    refine v_aload_n (j := 0) C dX4_complete_4 rfl rfl rfl ?_
    refine v_getr (c := 0) C 17 flX4_41 (by decide) rfl rfl dX4_complete_5 rfl ?_
    refine v_geti (c := 17) C flX4_200 (by decide) rfl rfl dX4_complete_8 rfl ?_
    refine v_aload_n (j := 0) C dX4_complete_11 rfl rfl rfl ?_
    refine v_getr (c := 0) C 5 flX4_34 (by decide) rfl rfl dX4_complete_12 rfl ?_
    refine v_geti (c := 5) C flX4_200 (by decide) rfl rfl dX4_complete_15 rfl ?_
    refine v_isub C dX4_complete_18 rfl ?_
    refine v_istore_n C [(1, .int (((fs_X4_findBest sg) 17 5) - ((fs_X4_findBest sg) 5 5))), (0, .ref (xg X 0))] dX4_complete_19 rfl (by decide) rfl rfl ?_
    refine v_aload_n (j := 1) C dX4_complete_20 rfl rfl rfl ?_
    refine v_getr (c := 0) C 5 flX4_34 (by decide) rfl rfl dX4_complete_21 rfl ?_
    refine v_aload_n (j := 1) C dX4_complete_24 rfl rfl rfl ?_
    refine v_getr (c := 0) C 17 flX4_41 (by decide) rfl rfl dX4_complete_25 rfl ?_
    refine v_callV (rest := []) (q := (RX2, TX2, 8)) C kvX4_277 (k_X2_copyFrom (fs_X4_findBest sg) o 5 17 isR5 isR17 (by decide)) (by decide) (by decide) rfl rfl rfl rfl rfl (Nat.le_of_ble_eq_true rfl) (by decide) (by decide) dX4_complete_28 rfl ?_
    refine v_iload_n (j := 0) C dX4_complete_31 rfl rfl rfl ?_
    exact v_ret E dX4_complete_32 (by decide) (by decide) ((by rfl)) (rfl) rfl
