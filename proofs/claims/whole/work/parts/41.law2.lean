theorem order_self {d : Jvm.FP.Core.Datum} (h : d ≠ .nan) : Jvm.FP.Core.order d d = some .eq := by
  cases d with
  | nan => exact absurd rfl h
  | inf s => cases s <;> rfl
  | fin s c q =>
    show some (compare _ _) = _
    simp [compare, compareOfLessAndEq]
theorem dcmp_self {x : UInt64} {op : CmpOp} (h : vf_n64 x) : Op.cmpValue (FP.dcmp x x) op = 0 := by
  have e : FP.dcmp x x = some .eq := by
    refine order_self ?_
    have hn : x.toNat % 2 ^ 63 ≤ 9218868437227405312 := by
      unfold vf_n64 at h
      have := UInt64.le_iff_toNat_le.mp h
      rw [UInt64.toNat_and] at this
      rw [← Nat.and_two_pow_sub_one_eq_mod]
      exact this
    intro hd
    unfold Jvm.FP.Core.decode at hd
    split at hd
    · rename_i h1
      split at hd
      · cases hd
      · rename_i h2
        have e1 : Jvm.FP.Core.fieldE Jvm.FP.Core.b64 x.toNat = x.toNat / 4503599627370496 % 2048 := rfl
        have e2 : Jvm.FP.Core.fieldT Jvm.FP.Core.b64 x.toNat = x.toNat % 4503599627370496 := rfl
        rw [e1, show Jvm.FP.Core.b64.exps = 2048 from rfl] at h1
        rw [e2] at h2
        omega
    · split at hd <;> cases hd
  rw [e]
  cases op <;> rfl
theorem ml_nn {sg : Sg} (he : fe_X4_meanLoad sg = none) (hf : ¬ sg 0 7 = 0 → vf_n64 (FP.ddiv (FP.i2d (fl_ml sg (ix (sg 0 7)) 0 0)) (FP.i2d (sg 0 7)))) : vf_n64 (fr_X4_meanLoad sg) :=
  hf (fun z => by unfold fe_X4_meanLoad at he; rw [if_pos z] at he; cases he)
def St_hung (R : Sg → Prop) : Prop := ∀ (sg : Sg), R sg → (DI sg) ∧ (MI sg) ∧ fr_X4_hung sg = fr_X5_hung sg ∧ R (fs_X5_hung sg)
set_option maxHeartbeats 4000000 in
set_option maxRecDepth 20000 in
theorem lc_hung {R : Sg → Prop} (Z : St_hung R) {X : Cx} (C : CF X cL_law RL 9 30 662168 7046113) (T : Xw (xA X) (xs_ X) ∧ Ncs (xs_ X)) (hl : (xl X).stackTraces = false) {b0 L k ca cb : Nat} {xs : Nat → Int32} (S : Scr X b0 L xs) (hk : 6 * k + 6 ≤ L) (ha : ca + 4 ≤ 662168) (hb : cb + 24 ≤ 7046113) (sg : Sg) (o : Ot) (hR0 : R sg) (kk : ∀ (sg2 : Sg) (o2 : Ot), R sg2 → Lc X (ca + 4) (cb + 24) b0 k 1730 sg2 o2) : Lc X ca cb b0 k 1216 sg o := by
  obtain ⟨hD, m_hM, hval, hR2⟩ := Z sg  hR0
  refine v_aload_n (j := 4) C dL_law_1216 rfl rfl rfl ?_
  refine v_callV (rest := []) (As := []) (q := (RX4, TX4, 13)) (c := 0) C kvL_151 (k_X4_hung sg o hD) (by decide) (by decide) rfl rfl rfl rfl rfl (Nat.le_of_ble_eq_true rfl) (by omega) (by omega) dL_law_1217 rfl ?_
  refine v_widen (a1 := ca + 4) (b1 := cb + 24) (by omega) (by omega) ?_
  refine v_aload_n (j := 3) C dL_law_1220 rfl rfl rfl ?_
  refine v_callV (rest := [.int (fr_X4_hung sg)]) (As := []) (q := (RX5, TX5, 35)) (c := 41) C kvL_154 (k_X5_hung sg o  m_hM) (by decide) (by decide) rfl rfl rfl rfl rfl (Nat.le_of_ble_eq_true rfl) (by omega) (by omega) dL_law_1221 rfl ?_
  refine v_eq (st1 := [.int (fr_X5_hung sg), .int (fr_X5_hung sg)]) rfl rfl (by rw [hval]; rfl) ?_
  refine v_icmp_eq (tgt := 1730) C dL_law_1224 (by decide) rfl (fun _ => ?_) (fun h => absurd rfl h)
  exact v_sub [0, 1, 2, 3, 4, 5] rfl (kk _ _ hR2)
def St_hungAt (R : Sg → Prop) : Prop := ∀ (sg : Sg) (p : Int32), R sg → (DI sg) ∧ (MI (wS (fe_X4_hungAt sg p) sg sg)) ∧ fr_X5_thrown (fs_X5_hungAt (wS (fe_X4_hungAt sg p) sg sg) p) = wC wf_hungAt (fe_X4_hungAt sg p) ∧ ((fe_X4_hungAt sg p) = none → fr_X4_hungAt sg p = fr_X5_hungAt (wS (fe_X4_hungAt sg p) sg sg) p) ∧ R (fs_X5_hungAt (wS (fe_X4_hungAt sg p) sg sg) p)
theorem wc0_hungAt {ex : Option String} (h : wC wf_hungAt ex = 0) : ex = none := by
  cases ex with
  | none => rfl
  | some E =>
    exfalso
    revert h
    show ¬ wf_hungAt E = 0
    unfold wf_hungAt
    repeat' split
    all_goals decide
set_option maxHeartbeats 4000000 in
set_option maxRecDepth 20000 in
theorem lc_hungAt {R : Sg → Prop} (Z : St_hungAt R) {X : Cx} (C : CF X cL_law RL 9 30 662168 7046113) (T : Xw (xA X) (xs_ X) ∧ Ncs (xs_ X)) (hl : (xl X).stackTraces = false) {b0 L k ca cb : Nat} {xs : Nat → Int32} (S : Scr X b0 L xs) (hk : 6 * k + 6 ≤ L) (ha : ca + 4 ≤ 662168) (hb : cb + 24 ≤ 7046113) (sg : Sg) (o : Ot) (hR0 : R sg) (p : Int32) (h_p : xs (6 * k + 1) = p) (kk : ∀ (sg2 : Sg) (o2 : Ot), R sg2 → Lc X (ca + 4) (cb + 24) b0 k 1730 sg2 o2) : Lc X ca cb b0 k 1229 sg o := by
  obtain ⟨hD, m_hM, hcode, hval, hR2⟩ := Z sg p hR0
  refine v_aload_n (j := 4) C dL_law_1229 rfl rfl rfl ?_
  refine v_arg (j := 1) (j0 := 5) (j5 := 0) C S h_p hk (by decide) (by decide) rfl rfl dL_law_1230 dL_law_1231 dL_law_1233 dL_law_1234 dL_law_1235 rfl ?_
  refine v_aload_n (j := 2) C dL_law_1236 rfl rfl rfl ?_
  refine v_callW (rest := []) (As := [.ref (xg X 0), .int p, .ref (xg X 66)]) C T.1 T.2 kw_hungAt (k_L_hungAt hl sg o p hD) (by decide) rfl rfl (Nat.le_of_ble_eq_true rfl) (by omega) (by omega) dL_law_1237 rfl ?_
  refine v_widen (a1 := ca + 4) (b1 := cb + 24) (by omega) (by omega) ?_
  refine v_istore C [(6, .int (wC wf_hungAt (fe_X4_hungAt sg p))), (5, .int (nI (6 * k))), (4, .ref (xg X 67)), (3, .ref (xg X 66)), (2, .ref (xg X 41)), (1, .ref (xg X 0)), (0, .ref b0)] dL_law_1240 (by decide) rfl rfl ?_
  refine v_aload_n (j := 4) C dL_law_1242 rfl rfl rfl ?_
  refine v_arg (j := 1) (j0 := 6) (j5 := 1) C S h_p hk (by decide) (by decide) rfl rfl dL_law_1243 dL_law_1244 dL_law_1246 dL_law_1247 dL_law_1248 rfl ?_
  refine v_callV (rest := []) (As := [.int p]) (q := (RX5, TX5, 35)) (c := 41) C kvL_157 (k_X5_hungAt (wS (fe_X4_hungAt sg p) sg sg) (wO (fe_X4_hungAt sg p) (Int32.toInt64 (fr_X4_hungAt sg p), o.2) o) p m_hM) (by decide) (by decide) rfl rfl rfl rfl rfl (Nat.le_of_ble_eq_true rfl) (by omega) (by omega) dL_law_1249 rfl ?_
  refine v_istore C [(7, .int (fr_X5_hungAt (wS (fe_X4_hungAt sg p) sg sg) p)), (6, .int (wC wf_hungAt (fe_X4_hungAt sg p))), (5, .int (nI (6 * k))), (4, .ref (xg X 67)), (3, .ref (xg X 66)), (2, .ref (xg X 41)), (1, .ref (xg X 0)), (0, .ref b0)] dL_law_1252 (by decide) rfl rfl ?_
  refine v_aload_n (j := 5) C dL_law_1254 rfl rfl rfl ?_
  refine v_callV (rest := []) (As := []) (q := (RX5, TX5, 35)) (c := 41) C kvL_102 (k_X5_thrown (fs_X5_hungAt (wS (fe_X4_hungAt sg p) sg sg) p) (wO (fe_X4_hungAt sg p) (Int32.toInt64 (fr_X4_hungAt sg p), o.2) o)) (by decide) (by decide) rfl rfl rfl rfl rfl (Nat.le_of_ble_eq_true rfl) (by omega) (by omega) dL_law_1255 rfl ?_
  refine v_eq (st1 := [.int (wC wf_hungAt (fe_X4_hungAt sg p))]) rfl rfl (by rw [hcode]; rfl) ?_
  refine v_iload (j := 1) C dL_law_1258 rfl rfl ?_
  refine v_icmp_eq (tgt := 1265) C dL_law_1260 (by decide) rfl (fun _ => ?_) (fun h => absurd rfl h)
  refine v_iload (j := 1) C dL_law_1265 rfl rfl ?_
  refine v_if_ne (tgt := 1282) C dL_law_1267 (by decide) rfl (fun _ => ?_) (fun h0 => ?_)
  · skip
    refine v_goto (pc1 := 1730) C dL_law_1282 (by decide) ?_
    exact v_sub [2, 3, 4, 5, 6, 7] rfl (kk _ _ hR2)
  · skip
    have he0 := wc0_hungAt h0
    have he1 : (wO (fe_X4_hungAt sg p) (Int32.toInt64 (fr_X4_hungAt sg p), o.2) o).1 = Int32.toInt64 (fr_X5_hungAt (wS (fe_X4_hungAt sg p) sg sg) p) := by rw [← hval he0, he0]; rfl
    refine v_aload_n (j := 4) C dL_law_1270 rfl rfl rfl ?_
    refine v_iconst (v := 0) C dL_law_1271 (by decide) rfl ?_
    refine v_lald C dL_law_1272 rfl ?_
    refine v_iload (j := 0) C dL_law_1273 rfl rfl ?_
    refine v_i2l C dL_law_1275 rfl ?_
    refine v_lcmp (v := 0) C dL_law_1276 (by rw [he1]; exact lg_cmp_self _) rfl ?_
    refine v_if_eq (tgt := 1282) C dL_law_1277 (by decide) rfl (fun _ => ?_) (fun h => absurd rfl h)
    refine v_goto (pc1 := 1730) C dL_law_1282 (by decide) ?_
    exact v_sub [2, 3, 4, 5, 6, 7] rfl (kk _ _ hR2)
def St_beginOf (R : Sg → Prop) : Prop := ∀ (sg : Sg) (p : Int32), R sg → (DI sg) ∧ (MI (wS (fe_X4_beginOf sg p) sg sg)) ∧ fr_X5_thrown (fs_X5_beginOf (wS (fe_X4_beginOf sg p) sg sg) p) = wC wf_beginOf (fe_X4_beginOf sg p) ∧ ((fe_X4_beginOf sg p) = none → fr_X4_beginOf sg p = fr_X5_beginOf (wS (fe_X4_beginOf sg p) sg sg) p) ∧ R (fs_X5_beginOf (wS (fe_X4_beginOf sg p) sg sg) p)
theorem wc0_beginOf {ex : Option String} (h : wC wf_beginOf ex = 0) : ex = none := by
  cases ex with
  | none => rfl
  | some E =>
    exfalso
    revert h
    show ¬ wf_beginOf E = 0
    unfold wf_beginOf
    repeat' split
    all_goals decide
set_option maxHeartbeats 4000000 in
set_option maxRecDepth 20000 in
theorem lc_beginOf {R : Sg → Prop} (Z : St_beginOf R) {X : Cx} (C : CF X cL_law RL 9 30 662168 7046113) (T : Xw (xA X) (xs_ X) ∧ Ncs (xs_ X)) (hl : (xl X).stackTraces = false) {b0 L k ca cb : Nat} {xs : Nat → Int32} (S : Scr X b0 L xs) (hk : 6 * k + 6 ≤ L) (ha : ca + 4 ≤ 662168) (hb : cb + 24 ≤ 7046113) (sg : Sg) (o : Ot) (hR0 : R sg) (p : Int32) (h_p : xs (6 * k + 1) = p) (kk : ∀ (sg2 : Sg) (o2 : Ot), R sg2 → Lc X (ca + 4) (cb + 24) b0 k 1730 sg2 o2) : Lc X ca cb b0 k 1285 sg o := by
  obtain ⟨hD, m_hM, hcode, hval, hR2⟩ := Z sg p hR0
  refine v_aload_n (j := 4) C dL_law_1285 rfl rfl rfl ?_
  refine v_arg (j := 1) (j0 := 5) (j5 := 0) C S h_p hk (by decide) (by decide) rfl rfl dL_law_1286 dL_law_1287 dL_law_1289 dL_law_1290 dL_law_1291 rfl ?_
  refine v_aload_n (j := 2) C dL_law_1292 rfl rfl rfl ?_
  refine v_callW (rest := []) (As := [.ref (xg X 0), .int p, .ref (xg X 66)]) C T.1 T.2 kw_beginOf (k_L_beginOf hl sg o p hD) (by decide) rfl rfl (Nat.le_of_ble_eq_true rfl) (by omega) (by omega) dL_law_1293 rfl ?_
  refine v_widen (a1 := ca + 4) (b1 := cb + 24) (by omega) (by omega) ?_
  refine v_istore C [(6, .int (wC wf_beginOf (fe_X4_beginOf sg p))), (5, .int (nI (6 * k))), (4, .ref (xg X 67)), (3, .ref (xg X 66)), (2, .ref (xg X 41)), (1, .ref (xg X 0)), (0, .ref b0)] dL_law_1296 (by decide) rfl rfl ?_
  refine v_aload_n (j := 4) C dL_law_1298 rfl rfl rfl ?_
  refine v_arg (j := 1) (j0 := 6) (j5 := 1) C S h_p hk (by decide) (by decide) rfl rfl dL_law_1299 dL_law_1300 dL_law_1302 dL_law_1303 dL_law_1304 rfl ?_
  refine v_callV (rest := []) (As := [.int p]) (q := (RX5, TX5, 35)) (c := 41) C kvL_160 (k_X5_beginOf (wS (fe_X4_beginOf sg p) sg sg) (wO (fe_X4_beginOf sg p) (Int32.toInt64 (fr_X4_beginOf sg p), o.2) o) p m_hM) (by decide) (by decide) rfl rfl rfl rfl rfl (Nat.le_of_ble_eq_true rfl) (by omega) (by omega) dL_law_1305 rfl ?_
  refine v_istore C [(7, .int (fr_X5_beginOf (wS (fe_X4_beginOf sg p) sg sg) p)), (6, .int (wC wf_beginOf (fe_X4_beginOf sg p))), (5, .int (nI (6 * k))), (4, .ref (xg X 67)), (3, .ref (xg X 66)), (2, .ref (xg X 41)), (1, .ref (xg X 0)), (0, .ref b0)] dL_law_1308 (by decide) rfl rfl ?_
  refine v_aload_n (j := 5) C dL_law_1310 rfl rfl rfl ?_
  refine v_callV (rest := []) (As := []) (q := (RX5, TX5, 35)) (c := 41) C kvL_102 (k_X5_thrown (fs_X5_beginOf (wS (fe_X4_beginOf sg p) sg sg) p) (wO (fe_X4_beginOf sg p) (Int32.toInt64 (fr_X4_beginOf sg p), o.2) o)) (by decide) (by decide) rfl rfl rfl rfl rfl (Nat.le_of_ble_eq_true rfl) (by omega) (by omega) dL_law_1311 rfl ?_
  refine v_eq (st1 := [.int (wC wf_beginOf (fe_X4_beginOf sg p))]) rfl rfl (by rw [hcode]; rfl) ?_
  refine v_iload (j := 1) C dL_law_1314 rfl rfl ?_
  refine v_icmp_eq (tgt := 1321) C dL_law_1316 (by decide) rfl (fun _ => ?_) (fun h => absurd rfl h)
  refine v_iload (j := 1) C dL_law_1321 rfl rfl ?_
  refine v_if_ne (tgt := 1338) C dL_law_1323 (by decide) rfl (fun _ => ?_) (fun h0 => ?_)
  · skip
    refine v_goto (pc1 := 1730) C dL_law_1338 (by decide) ?_
    exact v_sub [2, 3, 4, 5, 6, 7] rfl (kk _ _ hR2)
  · skip
    have he0 := wc0_beginOf h0
    have he1 : (wO (fe_X4_beginOf sg p) (Int32.toInt64 (fr_X4_beginOf sg p), o.2) o).1 = Int32.toInt64 (fr_X5_beginOf (wS (fe_X4_beginOf sg p) sg sg) p) := by rw [← hval he0, he0]; rfl
    refine v_aload_n (j := 4) C dL_law_1326 rfl rfl rfl ?_
    refine v_iconst (v := 0) C dL_law_1327 (by decide) rfl ?_
    refine v_lald C dL_law_1328 rfl ?_
    refine v_iload (j := 0) C dL_law_1329 rfl rfl ?_
    refine v_i2l C dL_law_1331 rfl ?_
    refine v_lcmp (v := 0) C dL_law_1332 (by rw [he1]; exact lg_cmp_self _) rfl ?_
    refine v_if_eq (tgt := 1338) C dL_law_1333 (by decide) rfl (fun _ => ?_) (fun h => absurd rfl h)
    refine v_goto (pc1 := 1730) C dL_law_1338 (by decide) ?_
    exact v_sub [2, 3, 4, 5, 6, 7] rfl (kk _ _ hR2)
def St_end (R : Sg → Prop) : Prop := ∀ (sg : Sg), R sg → (DI sg) ∧ (MI sg) ∧ fr_X4_end sg = fr_X5_end sg ∧ R (fs_X5_end sg)
set_option maxHeartbeats 4000000 in
set_option maxRecDepth 20000 in
theorem lc_end {R : Sg → Prop} (Z : St_end R) {X : Cx} (C : CF X cL_law RL 9 30 662168 7046113) (T : Xw (xA X) (xs_ X) ∧ Ncs (xs_ X)) (hl : (xl X).stackTraces = false) {b0 L k ca cb : Nat} {xs : Nat → Int32} (S : Scr X b0 L xs) (hk : 6 * k + 6 ≤ L) (ha : ca + 4 ≤ 662168) (hb : cb + 24 ≤ 7046113) (sg : Sg) (o : Ot) (hR0 : R sg) (kk : ∀ (sg2 : Sg) (o2 : Ot), R sg2 → Lc X (ca + 4) (cb + 24) b0 k 1730 sg2 o2) : Lc X ca cb b0 k 1341 sg o := by
  obtain ⟨hD, m_hM, hval, hR2⟩ := Z sg  hR0
  refine v_aload_n (j := 4) C dL_law_1341 rfl rfl rfl ?_
  refine v_callV (rest := []) (As := []) (q := (RX4, TX4, 13)) (c := 0) C kvL_161 (k_X4_end sg o hD) (by decide) (by decide) rfl rfl rfl rfl rfl (Nat.le_of_ble_eq_true rfl) (by omega) (by omega) dL_law_1342 rfl ?_
  refine v_widen (a1 := ca + 4) (b1 := cb + 24) (by omega) (by omega) ?_
  refine v_aload_n (j := 3) C dL_law_1345 rfl rfl rfl ?_
  refine v_callV (rest := [.int (fr_X4_end sg)]) (As := []) (q := (RX5, TX5, 35)) (c := 41) C kvL_164 (k_X5_end sg o  m_hM) (by decide) (by decide) rfl rfl rfl rfl rfl (Nat.le_of_ble_eq_true rfl) (by omega) (by omega) dL_law_1346 rfl ?_
  refine v_eq (st1 := [.int (fr_X5_end sg), .int (fr_X5_end sg)]) rfl rfl (by rw [hval]; rfl) ?_
  refine v_icmp_eq (tgt := 1730) C dL_law_1349 (by decide) rfl (fun _ => ?_) (fun h => absurd rfl h)
  exact v_sub [0, 1, 2, 3, 4, 5] rfl (kk _ _ hR2)
def St_work (R : Sg → Prop) : Prop := ∀ (sg : Sg), R sg → (DI sg) ∧ (MI sg) ∧ fr_X4_work sg = fr_X5_work sg ∧ R (fs_X5_work sg)
set_option maxHeartbeats 4000000 in
set_option maxRecDepth 20000 in
theorem lc_work {R : Sg → Prop} (Z : St_work R) {X : Cx} (C : CF X cL_law RL 9 30 662168 7046113) (T : Xw (xA X) (xs_ X) ∧ Ncs (xs_ X)) (hl : (xl X).stackTraces = false) {b0 L k ca cb : Nat} {xs : Nat → Int32} (S : Scr X b0 L xs) (hk : 6 * k + 6 ≤ L) (ha : ca + 4 ≤ 662168) (hb : cb + 24 ≤ 7046113) (sg : Sg) (o : Ot) (hR0 : R sg) (kk : ∀ (sg2 : Sg) (o2 : Ot), R sg2 → Lc X (ca + 4) (cb + 24) b0 k 1730 sg2 o2) : Lc X ca cb b0 k 1354 sg o := by
  obtain ⟨hD, m_hM, hval, hR2⟩ := Z sg  hR0
  refine v_aload_n (j := 4) C dL_law_1354 rfl rfl rfl ?_
  refine v_callV (rest := []) (As := []) (q := (RX4, TX4, 13)) (c := 0) C kvL_165 (k_X4_work sg o hD) (by decide) (by decide) rfl rfl rfl rfl rfl (Nat.le_of_ble_eq_true rfl) (by omega) (by omega) dL_law_1355 rfl ?_
  refine v_widen (a1 := ca + 4) (b1 := cb + 24) (by omega) (by omega) ?_
  refine v_aload_n (j := 3) C dL_law_1358 rfl rfl rfl ?_
  refine v_callV (rest := [.int (fr_X4_work sg)]) (As := []) (q := (RX5, TX5, 35)) (c := 41) C kvL_168 (k_X5_work sg o  m_hM) (by decide) (by decide) rfl rfl rfl rfl rfl (Nat.le_of_ble_eq_true rfl) (by omega) (by omega) dL_law_1359 rfl ?_
  refine v_eq (st1 := [.int (fr_X5_work sg), .int (fr_X5_work sg)]) rfl rfl (by rw [hval]; rfl) ?_
  refine v_icmp_eq (tgt := 1730) C dL_law_1362 (by decide) rfl (fun _ => ?_) (fun h => absurd rfl h)
  exact v_sub [0, 1, 2, 3, 4, 5] rfl (kk _ _ hR2)
def St_cost (R : Sg → Prop) : Prop := ∀ (sg : Sg), R sg → (DI sg) ∧ (MI sg) ∧ (RI sg) ∧ fr_X4_cost sg = fr_X5_cost sg ∧ R (fs_X5_cost sg)
set_option maxHeartbeats 4000000 in
set_option maxRecDepth 20000 in
theorem lc_cost {R : Sg → Prop} (Z : St_cost R) {X : Cx} (C : CF X cL_law RL 9 30 662168 7046113) (T : Xw (xA X) (xs_ X) ∧ Ncs (xs_ X)) (hl : (xl X).stackTraces = false) {b0 L k ca cb : Nat} {xs : Nat → Int32} (S : Scr X b0 L xs) (hk : 6 * k + 6 ≤ L) (ha : ca + 4 ≤ 662168) (hb : cb + 24 ≤ 7046113) (sg : Sg) (o : Ot) (hR0 : R sg) (kk : ∀ (sg2 : Sg) (o2 : Ot), R sg2 → Lc X (ca + 4) (cb + 24) b0 k 1730 sg2 o2) : Lc X ca cb b0 k 1367 sg o := by
  obtain ⟨hD, m_hM, m_hR, hval, hR2⟩ := Z sg  hR0
  refine v_aload_n (j := 4) C dL_law_1367 rfl rfl rfl ?_
  refine v_callV (rest := []) (As := []) (q := (RX4, TX4, 13)) (c := 0) C kvL_169 (k_X4_cost sg o hD) (by decide) (by decide) rfl rfl rfl rfl rfl (Nat.le_of_ble_eq_true rfl) (by omega) (by omega) dL_law_1368 rfl ?_
  refine v_widen (a1 := ca + 4) (b1 := cb + 24) (by omega) (by omega) ?_
  refine v_aload_n (j := 3) C dL_law_1371 rfl rfl rfl ?_
  refine v_callV (rest := [.long (fr_X4_cost sg)]) (As := []) (q := (RX5, TX5, 35)) (c := 41) C kvL_173 (k_X5_cost sg o  m_hM m_hR) (by decide) (by decide) rfl rfl rfl rfl rfl (Nat.le_of_ble_eq_true rfl) (by omega) (by omega) dL_law_1372 rfl ?_
  refine v_eq (st1 := [.long (fr_X5_cost sg), .long (fr_X5_cost sg)]) rfl rfl (by rw [hval]; rfl) ?_
  refine v_lcmp (v := 0) C dL_law_1375 (lg_cmp_self _) rfl ?_
  refine v_if_eq (tgt := 1730) C dL_law_1376 (by decide) rfl (fun _ => ?_) (fun h => absurd rfl h)
  exact v_sub [0, 1, 2, 3, 4, 5] rfl (kk _ _ hR2)
def St_costByMinutes (R : Sg → Prop) : Prop := ∀ (sg : Sg), R sg → (DI sg) ∧ (MI sg) ∧ (RI sg) ∧ fr_X4_costByMinutes sg = fr_X5_costByMinutes sg ∧ R (fs_X5_costByMinutes sg)
set_option maxHeartbeats 4000000 in
set_option maxRecDepth 20000 in
theorem lc_costByMinutes {R : Sg → Prop} (Z : St_costByMinutes R) {X : Cx} (C : CF X cL_law RL 9 30 662168 7046113) (T : Xw (xA X) (xs_ X) ∧ Ncs (xs_ X)) (hl : (xl X).stackTraces = false) {b0 L k ca cb : Nat} {xs : Nat → Int32} (S : Scr X b0 L xs) (hk : 6 * k + 6 ≤ L) (ha : ca + 4 ≤ 662168) (hb : cb + 24 ≤ 7046113) (sg : Sg) (o : Ot) (hR0 : R sg) (kk : ∀ (sg2 : Sg) (o2 : Ot), R sg2 → Lc X (ca + 4) (cb + 24) b0 k 1730 sg2 o2) : Lc X ca cb b0 k 1381 sg o := by
  obtain ⟨hD, m_hM, m_hR, hval, hR2⟩ := Z sg  hR0
  refine v_aload_n (j := 4) C dL_law_1381 rfl rfl rfl ?_
  refine v_callV (rest := []) (As := []) (q := (RX4, TX4, 13)) (c := 0) C kvL_174 (k_X4_costByMinutes sg o hD) (by decide) (by decide) rfl rfl rfl rfl rfl (Nat.le_of_ble_eq_true rfl) (by omega) (by omega) dL_law_1382 rfl ?_
  refine v_widen (a1 := ca + 4) (b1 := cb + 24) (by omega) (by omega) ?_
  refine v_aload_n (j := 3) C dL_law_1385 rfl rfl rfl ?_
  refine v_callV (rest := [.long (fr_X4_costByMinutes sg)]) (As := []) (q := (RX5, TX5, 35)) (c := 41) C kvL_177 (k_X5_costByMinutes sg o  m_hM m_hR) (by decide) (by decide) rfl rfl rfl rfl rfl (Nat.le_of_ble_eq_true rfl) (by omega) (by omega) dL_law_1386 rfl ?_
  refine v_eq (st1 := [.long (fr_X5_costByMinutes sg), .long (fr_X5_costByMinutes sg)]) rfl rfl (by rw [hval]; rfl) ?_
  refine v_lcmp (v := 0) C dL_law_1389 (lg_cmp_self _) rfl ?_
  refine v_if_eq (tgt := 1730) C dL_law_1390 (by decide) rfl (fun _ => ?_) (fun h => absurd rfl h)
  exact v_sub [0, 1, 2, 3, 4, 5] rfl (kk _ _ hR2)
def St_bestWorth (R : Sg → Prop) : Prop := ∀ (sg : Sg), R sg → (DI sg) ∧ (MI (fs_X4_bestWorth sg)) ∧ (RI (fs_X4_bestWorth sg)) ∧ fr_X4_bestWorth sg = fr_X5_bestWorth (fs_X4_bestWorth sg) ∧ R (fs_X5_bestWorth (fs_X4_bestWorth sg))
set_option maxHeartbeats 4000000 in
set_option maxRecDepth 20000 in
theorem lc_bestWorth {R : Sg → Prop} (Z : St_bestWorth R) {X : Cx} (C : CF X cL_law RL 9 30 662168 7046113) (T : Xw (xA X) (xs_ X) ∧ Ncs (xs_ X)) (hl : (xl X).stackTraces = false) {b0 L k ca cb : Nat} {xs : Nat → Int32} (S : Scr X b0 L xs) (hk : 6 * k + 6 ≤ L) (ha : ca + 4 ≤ 662168) (hb : cb + 24 ≤ 7046113) (sg : Sg) (o : Ot) (hR0 : R sg) (kk : ∀ (sg2 : Sg) (o2 : Ot), R sg2 → Lc X (ca + 4) (cb + 24) b0 k 1730 sg2 o2) : Lc X ca cb b0 k 1395 sg o := by
  obtain ⟨hD, m_hM, m_hR, hval, hR2⟩ := Z sg  hR0
  refine v_aload_n (j := 4) C dL_law_1395 rfl rfl rfl ?_
  refine v_callV (rest := []) (As := []) (q := (RX4, TX4, 13)) (c := 0) C kvL_178 (k_X4_bestWorth sg o hD) (by decide) (by decide) rfl rfl rfl rfl rfl (Nat.le_of_ble_eq_true rfl) (by omega) (by omega) dL_law_1396 rfl ?_
  refine v_widen (a1 := ca + 4) (b1 := cb + 24) (by omega) (by omega) ?_
  refine v_aload_n (j := 3) C dL_law_1399 rfl rfl rfl ?_
  refine v_callV (rest := [.int (fr_X4_bestWorth sg)]) (As := []) (q := (RX5, TX5, 35)) (c := 41) C kvL_181 (k_X5_bestWorth (fs_X4_bestWorth sg) o  m_hM m_hR) (by decide) (by decide) rfl rfl rfl rfl rfl (Nat.le_of_ble_eq_true rfl) (by omega) (by omega) dL_law_1400 rfl ?_
  refine v_eq (st1 := [.int (fr_X5_bestWorth (fs_X4_bestWorth sg)), .int (fr_X5_bestWorth (fs_X4_bestWorth sg))]) rfl rfl (by rw [hval]; rfl) ?_
  refine v_icmp_eq (tgt := 1730) C dL_law_1403 (by decide) rfl (fun _ => ?_) (fun h => absurd rfl h)
  exact v_sub [0, 1, 2, 3, 4, 5] rfl (kk _ _ hR2)
def St_bestByAll (R : Sg → Prop) : Prop := ∀ (sg : Sg), R sg → (DI sg) ∧ (MI (fs_X4_bestByAll sg)) ∧ (RI (fs_X4_bestByAll sg)) ∧ fr_X4_bestByAll sg = fr_X5_bestByAll (fs_X4_bestByAll sg) ∧ R (fs_X5_bestByAll (fs_X4_bestByAll sg))
set_option maxHeartbeats 4000000 in
set_option maxRecDepth 20000 in
theorem lc_bestByAll {R : Sg → Prop} (Z : St_bestByAll R) {X : Cx} (C : CF X cL_law RL 9 30 662168 7046113) (T : Xw (xA X) (xs_ X) ∧ Ncs (xs_ X)) (hl : (xl X).stackTraces = false) {b0 L k ca cb : Nat} {xs : Nat → Int32} (S : Scr X b0 L xs) (hk : 6 * k + 6 ≤ L) (ha : ca + 4 ≤ 662168) (hb : cb + 24 ≤ 7046113) (sg : Sg) (o : Ot) (hR0 : R sg) (kk : ∀ (sg2 : Sg) (o2 : Ot), R sg2 → Lc X (ca + 4) (cb + 24) b0 k 1730 sg2 o2) : Lc X ca cb b0 k 1408 sg o := by
  obtain ⟨hD, m_hM, m_hR, hval, hR2⟩ := Z sg  hR0
  refine v_aload_n (j := 4) C dL_law_1408 rfl rfl rfl ?_
  refine v_callV (rest := []) (As := []) (q := (RX4, TX4, 13)) (c := 0) C kvL_182 (k_X4_bestByAll sg o hD) (by decide) (by decide) rfl rfl rfl rfl rfl (Nat.le_of_ble_eq_true rfl) (by omega) (by omega) dL_law_1409 rfl ?_
  refine v_widen (a1 := ca + 4) (b1 := cb + 24) (by omega) (by omega) ?_
  refine v_aload_n (j := 3) C dL_law_1412 rfl rfl rfl ?_
  refine v_callV (rest := [.int (fr_X4_bestByAll sg)]) (As := []) (q := (RX5, TX5, 35)) (c := 41) C kvL_185 (k_X5_bestByAll (fs_X4_bestByAll sg) o  m_hM m_hR) (by decide) (by decide) rfl rfl rfl rfl rfl (Nat.le_of_ble_eq_true rfl) (by omega) (by omega) dL_law_1413 rfl ?_
  refine v_eq (st1 := [.int (fr_X5_bestByAll (fs_X4_bestByAll sg)), .int (fr_X5_bestByAll (fs_X4_bestByAll sg))]) rfl rfl (by rw [hval]; rfl) ?_
  refine v_icmp_eq (tgt := 1730) C dL_law_1416 (by decide) rfl (fun _ => ?_) (fun h => absurd rfl h)
  exact v_sub [0, 1, 2, 3, 4, 5] rfl (kk _ _ hR2)
def St_bestEnd (R : Sg → Prop) : Prop := ∀ (sg : Sg), R sg → (DI sg) ∧ (MI (fs_X4_bestEnd sg)) ∧ (RI (fs_X4_bestEnd sg)) ∧ fr_X4_bestEnd sg = fr_X5_bestEnd (fs_X4_bestEnd sg) ∧ R (fs_X5_bestEnd (fs_X4_bestEnd sg))
set_option maxHeartbeats 4000000 in
set_option maxRecDepth 20000 in
theorem lc_bestEnd {R : Sg → Prop} (Z : St_bestEnd R) {X : Cx} (C : CF X cL_law RL 9 30 662168 7046113) (T : Xw (xA X) (xs_ X) ∧ Ncs (xs_ X)) (hl : (xl X).stackTraces = false) {b0 L k ca cb : Nat} {xs : Nat → Int32} (S : Scr X b0 L xs) (hk : 6 * k + 6 ≤ L) (ha : ca + 4 ≤ 662168) (hb : cb + 24 ≤ 7046113) (sg : Sg) (o : Ot) (hR0 : R sg) (kk : ∀ (sg2 : Sg) (o2 : Ot), R sg2 → Lc X (ca + 4) (cb + 24) b0 k 1730 sg2 o2) : Lc X ca cb b0 k 1421 sg o := by
  obtain ⟨hD, m_hM, m_hR, hval, hR2⟩ := Z sg  hR0
  refine v_aload_n (j := 4) C dL_law_1421 rfl rfl rfl ?_
  refine v_callV (rest := []) (As := []) (q := (RX4, TX4, 13)) (c := 0) C kvL_186 (k_X4_bestEnd sg o hD) (by decide) (by decide) rfl rfl rfl rfl rfl (Nat.le_of_ble_eq_true rfl) (by omega) (by omega) dL_law_1422 rfl ?_
  refine v_widen (a1 := ca + 4) (b1 := cb + 24) (by omega) (by omega) ?_
  refine v_aload_n (j := 3) C dL_law_1425 rfl rfl rfl ?_
  refine v_callV (rest := [.int (fr_X4_bestEnd sg)]) (As := []) (q := (RX5, TX5, 35)) (c := 41) C kvL_189 (k_X5_bestEnd (fs_X4_bestEnd sg) o  m_hM m_hR) (by decide) (by decide) rfl rfl rfl rfl rfl (Nat.le_of_ble_eq_true rfl) (by omega) (by omega) dL_law_1426 rfl ?_
  refine v_eq (st1 := [.int (fr_X5_bestEnd (fs_X4_bestEnd sg)), .int (fr_X5_bestEnd (fs_X4_bestEnd sg))]) rfl rfl (by rw [hval]; rfl) ?_
  refine v_icmp_eq (tgt := 1730) C dL_law_1429 (by decide) rfl (fun _ => ?_) (fun h => absurd rfl h)
  exact v_sub [0, 1, 2, 3, 4, 5] rfl (kk _ _ hR2)
def St_bestCost (R : Sg → Prop) : Prop := ∀ (sg : Sg), R sg → (DI sg) ∧ (MI (fs_X4_bestCost sg)) ∧ (RI (fs_X4_bestCost sg)) ∧ fr_X4_bestCost sg = fr_X5_bestCost (fs_X4_bestCost sg) ∧ R (fs_X5_bestCost (fs_X4_bestCost sg))
set_option maxHeartbeats 4000000 in
set_option maxRecDepth 20000 in
theorem lc_bestCost {R : Sg → Prop} (Z : St_bestCost R) {X : Cx} (C : CF X cL_law RL 9 30 662168 7046113) (T : Xw (xA X) (xs_ X) ∧ Ncs (xs_ X)) (hl : (xl X).stackTraces = false) {b0 L k ca cb : Nat} {xs : Nat → Int32} (S : Scr X b0 L xs) (hk : 6 * k + 6 ≤ L) (ha : ca + 4 ≤ 662168) (hb : cb + 24 ≤ 7046113) (sg : Sg) (o : Ot) (hR0 : R sg) (kk : ∀ (sg2 : Sg) (o2 : Ot), R sg2 → Lc X (ca + 4) (cb + 24) b0 k 1730 sg2 o2) : Lc X ca cb b0 k 1434 sg o := by
  obtain ⟨hD, m_hM, m_hR, hval, hR2⟩ := Z sg  hR0
  refine v_aload_n (j := 4) C dL_law_1434 rfl rfl rfl ?_
  refine v_callV (rest := []) (As := []) (q := (RX4, TX4, 13)) (c := 0) C kvL_190 (k_X4_bestCost sg o hD) (by decide) (by decide) rfl rfl rfl rfl rfl (Nat.le_of_ble_eq_true rfl) (by omega) (by omega) dL_law_1435 rfl ?_
  refine v_widen (a1 := ca + 4) (b1 := cb + 24) (by omega) (by omega) ?_
  refine v_aload_n (j := 3) C dL_law_1438 rfl rfl rfl ?_
  refine v_callV (rest := [.int (fr_X4_bestCost sg)]) (As := []) (q := (RX5, TX5, 35)) (c := 41) C kvL_193 (k_X5_bestCost (fs_X4_bestCost sg) o  m_hM m_hR) (by decide) (by decide) rfl rfl rfl rfl rfl (Nat.le_of_ble_eq_true rfl) (by omega) (by omega) dL_law_1439 rfl ?_
  refine v_eq (st1 := [.int (fr_X5_bestCost (fs_X4_bestCost sg)), .int (fr_X5_bestCost (fs_X4_bestCost sg))]) rfl rfl (by rw [hval]; rfl) ?_
  refine v_icmp_eq (tgt := 1730) C dL_law_1442 (by decide) rfl (fun _ => ?_) (fun h => absurd rfl h)
  exact v_sub [0, 1, 2, 3, 4, 5] rfl (kk _ _ hR2)
def St_bestSize (R : Sg → Prop) : Prop := ∀ (sg : Sg), R sg → (DI sg) ∧ (MI (fs_X4_bestSize sg)) ∧ (RI (fs_X4_bestSize sg)) ∧ fr_X4_bestSize sg = fr_X5_bestSize (fs_X4_bestSize sg) ∧ R (fs_X5_bestSize (fs_X4_bestSize sg))
set_option maxHeartbeats 4000000 in
set_option maxRecDepth 20000 in
theorem lc_bestSize {R : Sg → Prop} (Z : St_bestSize R) {X : Cx} (C : CF X cL_law RL 9 30 662168 7046113) (T : Xw (xA X) (xs_ X) ∧ Ncs (xs_ X)) (hl : (xl X).stackTraces = false) {b0 L k ca cb : Nat} {xs : Nat → Int32} (S : Scr X b0 L xs) (hk : 6 * k + 6 ≤ L) (ha : ca + 4 ≤ 662168) (hb : cb + 24 ≤ 7046113) (sg : Sg) (o : Ot) (hR0 : R sg) (kk : ∀ (sg2 : Sg) (o2 : Ot), R sg2 → Lc X (ca + 4) (cb + 24) b0 k 1730 sg2 o2) : Lc X ca cb b0 k 1447 sg o := by
  obtain ⟨hD, m_hM, m_hR, hval, hR2⟩ := Z sg  hR0
  refine v_aload_n (j := 4) C dL_law_1447 rfl rfl rfl ?_
  refine v_callV (rest := []) (As := []) (q := (RX4, TX4, 13)) (c := 0) C kvL_194 (k_X4_bestSize sg o hD) (by decide) (by decide) rfl rfl rfl rfl rfl (Nat.le_of_ble_eq_true rfl) (by omega) (by omega) dL_law_1448 rfl ?_
  refine v_widen (a1 := ca + 4) (b1 := cb + 24) (by omega) (by omega) ?_
  refine v_aload_n (j := 3) C dL_law_1451 rfl rfl rfl ?_
  refine v_callV (rest := [.int (fr_X4_bestSize sg)]) (As := []) (q := (RX5, TX5, 35)) (c := 41) C kvL_197 (k_X5_bestSize (fs_X4_bestSize sg) o  m_hM m_hR) (by decide) (by decide) rfl rfl rfl rfl rfl (Nat.le_of_ble_eq_true rfl) (by omega) (by omega) dL_law_1452 rfl ?_
  refine v_eq (st1 := [.int (fr_X5_bestSize (fs_X4_bestSize sg)), .int (fr_X5_bestSize (fs_X4_bestSize sg))]) rfl rfl (by rw [hval]; rfl) ?_
  refine v_icmp_eq (tgt := 1730) C dL_law_1455 (by decide) rfl (fun _ => ?_) (fun h => absurd rfl h)
  exact v_sub [0, 1, 2, 3, 4, 5] rfl (kk _ _ hR2)
def St_bestAt (R : Sg → Prop) : Prop := ∀ (sg : Sg) (p : Int32), R sg → (DI sg) ∧ (MI (wS (fe_X4_bestAt sg p) (fs_X4_bestAt sg p) (fs_X4_findBest sg))) ∧ (RI (wS (fe_X4_bestAt sg p) (fs_X4_bestAt sg p) (fs_X4_findBest sg))) ∧ (cnt (fs_X5_searches (wS (fe_X4_bestAt sg p) (fs_X4_bestAt sg p) (fs_X4_findBest sg)) 41 32) 6) ∧ fr_X5_thrown (fs_X5_bestAt (wS (fe_X4_bestAt sg p) (fs_X4_bestAt sg p) (fs_X4_findBest sg)) p) = wC wf_bestAt (fe_X4_bestAt sg p) ∧ ((fe_X4_bestAt sg p) = none → fr_X4_bestAt sg p = fr_X5_bestAt (wS (fe_X4_bestAt sg p) (fs_X4_bestAt sg p) (fs_X4_findBest sg)) p) ∧ R (fs_X5_bestAt (wS (fe_X4_bestAt sg p) (fs_X4_bestAt sg p) (fs_X4_findBest sg)) p)
theorem wc0_bestAt {ex : Option String} (h : wC wf_bestAt ex = 0) : ex = none := by
  cases ex with
  | none => rfl
  | some E =>
    exfalso
    revert h
    show ¬ wf_bestAt E = 0
    unfold wf_bestAt
    repeat' split
    all_goals decide
set_option maxHeartbeats 4000000 in
set_option maxRecDepth 20000 in
theorem lc_bestAt {R : Sg → Prop} (Z : St_bestAt R) {X : Cx} (C : CF X cL_law RL 9 30 662168 7046113) (T : Xw (xA X) (xs_ X) ∧ Ncs (xs_ X)) (hl : (xl X).stackTraces = false) {b0 L k ca cb : Nat} {xs : Nat → Int32} (S : Scr X b0 L xs) (hk : 6 * k + 6 ≤ L) (ha : ca + 4 ≤ 662168) (hb : cb + 24 ≤ 7046113) (sg : Sg) (o : Ot) (hR0 : R sg) (p : Int32) (h_p : xs (6 * k + 1) = p) (kk : ∀ (sg2 : Sg) (o2 : Ot), R sg2 → Lc X (ca + 4) (cb + 24) b0 k 1730 sg2 o2) : Lc X ca cb b0 k 1460 sg o := by
  obtain ⟨hD, m_hM, m_hR, m_hb, hcode, hval, hR2⟩ := Z sg p hR0
  refine v_aload_n (j := 4) C dL_law_1460 rfl rfl rfl ?_
  refine v_arg (j := 1) (j0 := 5) (j5 := 0) C S h_p hk (by decide) (by decide) rfl rfl dL_law_1461 dL_law_1462 dL_law_1464 dL_law_1465 dL_law_1466 rfl ?_
  refine v_aload_n (j := 2) C dL_law_1467 rfl rfl rfl ?_
  refine v_callW (rest := []) (As := [.ref (xg X 0), .int p, .ref (xg X 66)]) C T.1 T.2 kw_bestAt (k_L_bestAt hl sg o p hD) (by decide) rfl rfl (Nat.le_of_ble_eq_true rfl) (by omega) (by omega) dL_law_1468 rfl ?_
  refine v_widen (a1 := ca + 4) (b1 := cb + 24) (by omega) (by omega) ?_
  refine v_istore C [(6, .int (wC wf_bestAt (fe_X4_bestAt sg p))), (5, .int (nI (6 * k))), (4, .ref (xg X 67)), (3, .ref (xg X 66)), (2, .ref (xg X 41)), (1, .ref (xg X 0)), (0, .ref b0)] dL_law_1471 (by decide) rfl rfl ?_
  refine v_aload_n (j := 4) C dL_law_1473 rfl rfl rfl ?_
  refine v_arg (j := 1) (j0 := 6) (j5 := 1) C S h_p hk (by decide) (by decide) rfl rfl dL_law_1474 dL_law_1475 dL_law_1477 dL_law_1478 dL_law_1479 rfl ?_
  refine v_callV (rest := []) (As := [.int p]) (q := (RX5, TX5, 35)) (c := 41) C kvL_200 (k_X5_bestAt (wS (fe_X4_bestAt sg p) (fs_X4_bestAt sg p) (fs_X4_findBest sg)) (wO (fe_X4_bestAt sg p) (Int32.toInt64 (fr_X4_bestAt sg p), o.2) o) p m_hM m_hR m_hb) (by decide) (by decide) rfl rfl rfl rfl rfl (Nat.le_of_ble_eq_true rfl) (by omega) (by omega) dL_law_1480 rfl ?_
  refine v_istore C [(7, .int (fr_X5_bestAt (wS (fe_X4_bestAt sg p) (fs_X4_bestAt sg p) (fs_X4_findBest sg)) p)), (6, .int (wC wf_bestAt (fe_X4_bestAt sg p))), (5, .int (nI (6 * k))), (4, .ref (xg X 67)), (3, .ref (xg X 66)), (2, .ref (xg X 41)), (1, .ref (xg X 0)), (0, .ref b0)] dL_law_1483 (by decide) rfl rfl ?_
  refine v_aload_n (j := 5) C dL_law_1485 rfl rfl rfl ?_
  refine v_callV (rest := []) (As := []) (q := (RX5, TX5, 35)) (c := 41) C kvL_102 (k_X5_thrown (fs_X5_bestAt (wS (fe_X4_bestAt sg p) (fs_X4_bestAt sg p) (fs_X4_findBest sg)) p) (wO (fe_X4_bestAt sg p) (Int32.toInt64 (fr_X4_bestAt sg p), o.2) o)) (by decide) (by decide) rfl rfl rfl rfl rfl (Nat.le_of_ble_eq_true rfl) (by omega) (by omega) dL_law_1486 rfl ?_
  refine v_eq (st1 := [.int (wC wf_bestAt (fe_X4_bestAt sg p))]) rfl rfl (by rw [hcode]; rfl) ?_
  refine v_iload (j := 1) C dL_law_1489 rfl rfl ?_
  refine v_icmp_eq (tgt := 1496) C dL_law_1491 (by decide) rfl (fun _ => ?_) (fun h => absurd rfl h)
  refine v_iload (j := 1) C dL_law_1496 rfl rfl ?_
  refine v_if_ne (tgt := 1513) C dL_law_1498 (by decide) rfl (fun _ => ?_) (fun h0 => ?_)
  · skip
    refine v_goto (pc1 := 1730) C dL_law_1513 (by decide) ?_
    exact v_sub [2, 3, 4, 5, 6, 7] rfl (kk _ _ hR2)
  · skip
    have he0 := wc0_bestAt h0
    have he1 : (wO (fe_X4_bestAt sg p) (Int32.toInt64 (fr_X4_bestAt sg p), o.2) o).1 = Int32.toInt64 (fr_X5_bestAt (wS (fe_X4_bestAt sg p) (fs_X4_bestAt sg p) (fs_X4_findBest sg)) p) := by rw [← hval he0, he0]; rfl
    refine v_aload_n (j := 4) C dL_law_1501 rfl rfl rfl ?_
    refine v_iconst (v := 0) C dL_law_1502 (by decide) rfl ?_
    refine v_lald C dL_law_1503 rfl ?_
    refine v_iload (j := 0) C dL_law_1504 rfl rfl ?_
    refine v_i2l C dL_law_1506 rfl ?_
    refine v_lcmp (v := 0) C dL_law_1507 (by rw [he1]; exact lg_cmp_self _) rfl ?_
    refine v_if_eq (tgt := 1513) C dL_law_1508 (by decide) rfl (fun _ => ?_) (fun h => absurd rfl h)
    refine v_goto (pc1 := 1730) C dL_law_1513 (by decide) ?_
    exact v_sub [2, 3, 4, 5, 6, 7] rfl (kk _ _ hR2)
def St_complete (R : Sg → Prop) : Prop := ∀ (sg : Sg), R sg → (DI sg) ∧ (MI (fs_X4_complete sg)) ∧ (RI (fs_X4_complete sg)) ∧ (BO (fs_X5_searches (fs_X4_complete sg))) ∧ fr_X4_complete sg = fr_X5_complete (fs_X4_complete sg) ∧ R (fl_cmp (ix ((fs_X5_searches (fs_X4_complete sg)) 41 32) - ix ((fs_X5_searches (fs_X4_complete sg)) 41 24)) (fs_X5_searches (fs_X4_complete sg)))
set_option maxHeartbeats 4000000 in
set_option maxRecDepth 20000 in
theorem lc_complete {R : Sg → Prop} (Z : St_complete R) {X : Cx} (C : CF X cL_law RL 9 30 662168 7046113) (T : Xw (xA X) (xs_ X) ∧ Ncs (xs_ X)) (hl : (xl X).stackTraces = false) {b0 L k ca cb : Nat} {xs : Nat → Int32} (S : Scr X b0 L xs) (hk : 6 * k + 6 ≤ L) (ha : ca + 4 ≤ 662168) (hb : cb + 24 ≤ 7046113) (sg : Sg) (o : Ot) (hR0 : R sg) (kk : ∀ (sg2 : Sg) (o2 : Ot), R sg2 → Lc X (ca + 4) (cb + 24) b0 k 1730 sg2 o2) : Lc X ca cb b0 k 1516 sg o := by
  obtain ⟨hD, m_hM, m_hR, m_hB, hval, hR2⟩ := Z sg  hR0
  refine v_aload_n (j := 4) C dL_law_1516 rfl rfl rfl ?_
  refine v_callV (rest := []) (As := []) (q := (RX4, TX4, 13)) (c := 0) C kvL_201 (k_X4_complete sg o hD) (by decide) (by decide) rfl rfl rfl rfl rfl (Nat.le_of_ble_eq_true rfl) (by omega) (by omega) dL_law_1517 rfl ?_
  refine v_widen (a1 := ca + 4) (b1 := cb + 24) (by omega) (by omega) ?_
  refine v_aload_n (j := 3) C dL_law_1520 rfl rfl rfl ?_
  refine v_callV (rest := [.int (fr_X4_complete sg)]) (As := []) (q := (RX5, TX5, 35)) (c := 41) C kvL_204 (k_X5_complete (fs_X4_complete sg) o  m_hM m_hR m_hB) (by decide) (by decide) rfl rfl rfl rfl rfl (Nat.le_of_ble_eq_true rfl) (by omega) (by omega) dL_law_1521 rfl ?_
  refine v_eq (st1 := [.int (fr_X5_complete (fs_X4_complete sg)), .int (fr_X5_complete (fs_X4_complete sg))]) rfl rfl (by rw [hval]; rfl) ?_
  refine v_icmp_eq (tgt := 1730) C dL_law_1524 (by decide) rfl (fun _ => ?_) (fun h => absurd rfl h)
  exact v_sub [0, 1, 2, 3, 4, 5] rfl (kk _ _ hR2)
def St_completions (R : Sg → Prop) : Prop := ∀ (sg : Sg), R sg → (DI sg) ∧ (MI (fs_X4_completions sg)) ∧ (RI (fs_X4_completions sg)) ∧ fr_X4_completions sg = fr_X5_completions (fs_X4_completions sg) ∧ R (fs_X5_completions (fs_X4_completions sg))
set_option maxHeartbeats 4000000 in
set_option maxRecDepth 20000 in
theorem lc_completions {R : Sg → Prop} (Z : St_completions R) {X : Cx} (C : CF X cL_law RL 9 30 662168 7046113) (T : Xw (xA X) (xs_ X) ∧ Ncs (xs_ X)) (hl : (xl X).stackTraces = false) {b0 L k ca cb : Nat} {xs : Nat → Int32} (S : Scr X b0 L xs) (hk : 6 * k + 6 ≤ L) (ha : ca + 4 ≤ 662168) (hb : cb + 24 ≤ 7046113) (sg : Sg) (o : Ot) (hR0 : R sg) (kk : ∀ (sg2 : Sg) (o2 : Ot), R sg2 → Lc X (ca + 4) (cb + 24) b0 k 1730 sg2 o2) : Lc X ca cb b0 k 1529 sg o := by
  obtain ⟨hD, m_hM, m_hR, hval, hR2⟩ := Z sg  hR0
  refine v_aload_n (j := 4) C dL_law_1529 rfl rfl rfl ?_
  refine v_callV (rest := []) (As := []) (q := (RX4, TX4, 13)) (c := 0) C kvL_205 (k_X4_completions sg o hD) (by decide) (by decide) rfl rfl rfl rfl rfl (Nat.le_of_ble_eq_true rfl) (by omega) (by omega) dL_law_1530 rfl ?_
  refine v_widen (a1 := ca + 4) (b1 := cb + 24) (by omega) (by omega) ?_
  refine v_aload_n (j := 3) C dL_law_1533 rfl rfl rfl ?_
  refine v_callV (rest := [.int (fr_X4_completions sg)]) (As := []) (q := (RX5, TX5, 35)) (c := 41) C kvL_208 (k_X5_completions (fs_X4_completions sg) o  m_hM m_hR) (by decide) (by decide) rfl rfl rfl rfl rfl (Nat.le_of_ble_eq_true rfl) (by omega) (by omega) dL_law_1534 rfl ?_
  refine v_eq (st1 := [.int (fr_X5_completions (fs_X4_completions sg)), .int (fr_X5_completions (fs_X4_completions sg))]) rfl rfl (by rw [hval]; rfl) ?_
  refine v_icmp_eq (tgt := 1730) C dL_law_1537 (by decide) rfl (fun _ => ?_) (fun h => absurd rfl h)
  exact v_sub [0, 1, 2, 3, 4, 5] rfl (kk _ _ hR2)
def St_tightest (R : Sg → Prop) : Prop := ∀ (sg : Sg), R sg → (DI sg) ∧ (MI (wS (fe_X4_tightest sg) sg sg)) ∧ fr_X5_thrown (fs_X5_tightest (wS (fe_X4_tightest sg) sg sg)) = wC wf_tightest (fe_X4_tightest sg) ∧ ((fe_X4_tightest sg) = none → fr_X4_tightest sg = fr_X5_tightest (wS (fe_X4_tightest sg) sg sg)) ∧ R (fs_X5_tightest (wS (fe_X4_tightest sg) sg sg))
theorem wc0_tightest {ex : Option String} (h : wC wf_tightest ex = 0) : ex = none := by
  cases ex with
  | none => rfl
  | some E =>
    exfalso
    revert h
    show ¬ wf_tightest E = 0
    unfold wf_tightest
    repeat' split
    all_goals decide
set_option maxHeartbeats 4000000 in
set_option maxRecDepth 20000 in
theorem lc_tightest {R : Sg → Prop} (Z : St_tightest R) {X : Cx} (C : CF X cL_law RL 9 30 662168 7046113) (T : Xw (xA X) (xs_ X) ∧ Ncs (xs_ X)) (hl : (xl X).stackTraces = false) {b0 L k ca cb : Nat} {xs : Nat → Int32} (S : Scr X b0 L xs) (hk : 6 * k + 6 ≤ L) (ha : ca + 4 ≤ 662168) (hb : cb + 24 ≤ 7046113) (sg : Sg) (o : Ot) (hR0 : R sg) (kk : ∀ (sg2 : Sg) (o2 : Ot), R sg2 → Lc X (ca + 4) (cb + 24) b0 k 1730 sg2 o2) : Lc X ca cb b0 k 1542 sg o := by
  obtain ⟨hD, m_hM, hcode, hval, hR2⟩ := Z sg  hR0
  refine v_aload_n (j := 4) C dL_law_1542 rfl rfl rfl ?_
  refine v_aload_n (j := 2) C dL_law_1543 rfl rfl rfl ?_
  refine v_callW (rest := []) (As := [.ref (xg X 0), .ref (xg X 66)]) C T.1 T.2 kw_tightest (k_L_tightest hl sg o  hD) (by decide) rfl rfl (Nat.le_of_ble_eq_true rfl) (by omega) (by omega) dL_law_1544 rfl ?_
  refine v_widen (a1 := ca + 4) (b1 := cb + 24) (by omega) (by omega) ?_
  refine v_istore C [(6, .int (wC wf_tightest (fe_X4_tightest sg))), (5, .int (nI (6 * k))), (4, .ref (xg X 67)), (3, .ref (xg X 66)), (2, .ref (xg X 41)), (1, .ref (xg X 0)), (0, .ref b0)] dL_law_1547 (by decide) rfl rfl ?_
  refine v_aload_n (j := 4) C dL_law_1549 rfl rfl rfl ?_
  refine v_callV (rest := []) (As := []) (q := (RX5, TX5, 35)) (c := 41) C kvL_211 (k_X5_tightest (wS (fe_X4_tightest sg) sg sg) (wO (fe_X4_tightest sg) (Int32.toInt64 (fr_X4_tightest sg), o.2) o)  m_hM) (by decide) (by decide) rfl rfl rfl rfl rfl (Nat.le_of_ble_eq_true rfl) (by omega) (by omega) dL_law_1550 rfl ?_
  refine v_istore C [(7, .int (fr_X5_tightest (wS (fe_X4_tightest sg) sg sg))), (6, .int (wC wf_tightest (fe_X4_tightest sg))), (5, .int (nI (6 * k))), (4, .ref (xg X 67)), (3, .ref (xg X 66)), (2, .ref (xg X 41)), (1, .ref (xg X 0)), (0, .ref b0)] dL_law_1553 (by decide) rfl rfl ?_
  refine v_aload_n (j := 5) C dL_law_1555 rfl rfl rfl ?_
  refine v_callV (rest := []) (As := []) (q := (RX5, TX5, 35)) (c := 41) C kvL_102 (k_X5_thrown (fs_X5_tightest (wS (fe_X4_tightest sg) sg sg)) (wO (fe_X4_tightest sg) (Int32.toInt64 (fr_X4_tightest sg), o.2) o)) (by decide) (by decide) rfl rfl rfl rfl rfl (Nat.le_of_ble_eq_true rfl) (by omega) (by omega) dL_law_1556 rfl ?_
  refine v_eq (st1 := [.int (wC wf_tightest (fe_X4_tightest sg))]) rfl rfl (by rw [hcode]; rfl) ?_
  refine v_iload (j := 1) C dL_law_1559 rfl rfl ?_
  refine v_icmp_eq (tgt := 1566) C dL_law_1561 (by decide) rfl (fun _ => ?_) (fun h => absurd rfl h)
  refine v_iload (j := 1) C dL_law_1566 rfl rfl ?_
  refine v_if_ne (tgt := 1583) C dL_law_1568 (by decide) rfl (fun _ => ?_) (fun h0 => ?_)
  · skip
    refine v_goto (pc1 := 1730) C dL_law_1583 (by decide) ?_
    exact v_sub [2, 3, 4, 5, 6, 7] rfl (kk _ _ hR2)
  · skip
    have he0 := wc0_tightest h0
    have he1 : (wO (fe_X4_tightest sg) (Int32.toInt64 (fr_X4_tightest sg), o.2) o).1 = Int32.toInt64 (fr_X5_tightest (wS (fe_X4_tightest sg) sg sg)) := by rw [← hval he0, he0]; rfl
    refine v_aload_n (j := 4) C dL_law_1571 rfl rfl rfl ?_
    refine v_iconst (v := 0) C dL_law_1572 (by decide) rfl ?_
    refine v_lald C dL_law_1573 rfl ?_
    refine v_iload (j := 0) C dL_law_1574 rfl rfl ?_
    refine v_i2l C dL_law_1576 rfl ?_
    refine v_lcmp (v := 0) C dL_law_1577 (by rw [he1]; exact lg_cmp_self _) rfl ?_
    refine v_if_eq (tgt := 1583) C dL_law_1578 (by decide) rfl (fun _ => ?_) (fun h => absurd rfl h)
    refine v_goto (pc1 := 1730) C dL_law_1583 (by decide) ?_
    exact v_sub [2, 3, 4, 5, 6, 7] rfl (kk _ _ hR2)
def St_hungShare (R : Sg → Prop) : Prop := ∀ (sg : Sg), R sg → (DI sg) ∧ (¬ sg 0 8 = 0 → vf_n32 (FP.fdiv (FP.i2f (sg 5 5)) (FP.i2f (sg 0 8)))) ∧ (fe_X4_hungShare sg = none → vf_n64 (FP.f2d (fr_X4_hungShare sg))) ∧ (MI (wS (fe_X4_hungShare sg) sg sg)) ∧ (¬ (wS (fe_X4_hungShare sg) sg sg) 41 3 = 0 → vf_n32 (FP.fdiv (FP.i2f ((wS (fe_X4_hungShare sg) sg sg) 41 24)) (FP.i2f ((wS (fe_X4_hungShare sg) sg sg) 41 3)))) ∧ fr_X5_thrown (fs_X5_hungShare (wS (fe_X4_hungShare sg) sg sg)) = wC wf_hungShare (fe_X4_hungShare sg) ∧ ((fe_X4_hungShare sg) = none → fr_X4_hungShare sg = fr_X5_hungShare (wS (fe_X4_hungShare sg) sg sg)) ∧ R (fs_X5_hungShare (wS (fe_X4_hungShare sg) sg sg))
theorem wc0_hungShare {ex : Option String} (h : wC wf_hungShare ex = 0) : ex = none := by
  cases ex with
  | none => rfl
  | some E =>
    exfalso
    revert h
    show ¬ wf_hungShare E = 0
    unfold wf_hungShare
    repeat' split
    all_goals decide
set_option maxHeartbeats 4000000 in
set_option maxRecDepth 20000 in
theorem lc_hungShare {R : Sg → Prop} (Z : St_hungShare R) {X : Cx} (C : CF X cL_law RL 9 30 662168 7046113) (T : Xw (xA X) (xs_ X) ∧ Ncs (xs_ X)) (hl : (xl X).stackTraces = false) {b0 L k ca cb : Nat} {xs : Nat → Int32} (S : Scr X b0 L xs) (hk : 6 * k + 6 ≤ L) (ha : ca + 4 ≤ 662168) (hb : cb + 24 ≤ 7046113) (sg : Sg) (o : Ot) (hR0 : R sg) (kk : ∀ (sg2 : Sg) (o2 : Ot), R sg2 → Lc X (ca + 4) (cb + 24) b0 k 1730 sg2 o2) : Lc X ca cb b0 k 1586 sg o := by
  obtain ⟨hD, hf, hf2, m_hM, m_hf, hcode, hval, hR2⟩ := Z sg  hR0
  refine v_aload_n (j := 4) C dL_law_1586 rfl rfl rfl ?_
  refine v_aload (j := 1) C dL_law_1587 rfl rfl ?_
  refine v_callW (rest := []) (As := [.ref (xg X 0), .ref (xg X 67)]) C T.1 T.2 kw_hungShare (k_L_hungShare hl sg o  hD hf hf2) (by decide) rfl rfl (Nat.le_of_ble_eq_true rfl) (by omega) (by omega) dL_law_1589 rfl ?_
  refine v_widen (a1 := ca + 4) (b1 := cb + 24) (by omega) (by omega) ?_
  refine v_istore C [(6, .int (wC wf_hungShare (fe_X4_hungShare sg))), (5, .int (nI (6 * k))), (4, .ref (xg X 67)), (3, .ref (xg X 66)), (2, .ref (xg X 41)), (1, .ref (xg X 0)), (0, .ref b0)] dL_law_1592 (by decide) rfl rfl ?_
  refine v_aload_n (j := 4) C dL_law_1594 rfl rfl rfl ?_
  refine v_callV (rest := []) (As := []) (q := (RX5, TX5, 35)) (c := 41) C kvL_215 (k_X5_hungShare (wS (fe_X4_hungShare sg) sg sg) (wO (fe_X4_hungShare sg) (o.1, FP.f2d (fr_X4_hungShare sg)) o)  m_hM m_hf) (by decide) (by decide) rfl rfl rfl rfl rfl (Nat.le_of_ble_eq_true rfl) (by omega) (by omega) dL_law_1595 rfl ?_
  refine v_fstore C [(7, .float (fr_X5_hungShare (wS (fe_X4_hungShare sg) sg sg))), (6, .int (wC wf_hungShare (fe_X4_hungShare sg))), (5, .int (nI (6 * k))), (4, .ref (xg X 67)), (3, .ref (xg X 66)), (2, .ref (xg X 41)), (1, .ref (xg X 0)), (0, .ref b0)] dL_law_1598 (by decide) rfl rfl ?_
  refine v_aload_n (j := 5) C dL_law_1600 rfl rfl rfl ?_
  refine v_callV (rest := []) (As := []) (q := (RX5, TX5, 35)) (c := 41) C kvL_102 (k_X5_thrown (fs_X5_hungShare (wS (fe_X4_hungShare sg) sg sg)) (wO (fe_X4_hungShare sg) (o.1, FP.f2d (fr_X4_hungShare sg)) o)) (by decide) (by decide) rfl rfl rfl rfl rfl (Nat.le_of_ble_eq_true rfl) (by omega) (by omega) dL_law_1601 rfl ?_
  refine v_eq (st1 := [.int (wC wf_hungShare (fe_X4_hungShare sg))]) rfl rfl (by rw [hcode]; rfl) ?_
  refine v_iload (j := 1) C dL_law_1604 rfl rfl ?_
  refine v_icmp_eq (tgt := 1611) C dL_law_1606 (by decide) rfl (fun _ => ?_) (fun h => absurd rfl h)
  refine v_iload (j := 1) C dL_law_1611 rfl rfl ?_
  refine v_if_ne (tgt := 1649) C dL_law_1613 (by decide) rfl (fun _ => ?_) (fun h0 => ?_)
  · skip
    refine v_goto (pc1 := 1730) C dL_law_1649 (by decide) ?_
    exact v_sub [2, 3, 4, 5, 6, 7] rfl (kk _ _ hR2)
  · skip
    have he0 := wc0_hungShare h0
    have he1 : (wO (fe_X4_hungShare sg) (o.1, FP.f2d (fr_X4_hungShare sg)) o).2 = FP.f2d (fr_X5_hungShare (wS (fe_X4_hungShare sg) sg sg)) := by rw [← hval he0, he0]; rfl
    refine v_aload (j := 3) C dL_law_1616 rfl rfl ?_
    refine v_iconst (v := 0) C dL_law_1618 (by decide) rfl ?_
    refine v_dald C dL_law_1619 rfl ?_
    refine v_fload (j := 0) C dL_law_1620 rfl rfl ?_
    refine v_f2d C dL_law_1622 (by rw [← hval he0]; exact hf2 he0) rfl ?_
    refine v_dcmp (v := 0) C dL_law_1623 (by rw [he1]; exact dcmp_self (by rw [← hval he0]; exact hf2 he0)) rfl ?_
    refine v_if_eq (tgt := 1649) C dL_law_1624 (by decide) rfl (fun _ => ?_) (fun h => absurd rfl h)
    refine v_goto (pc1 := 1730) C dL_law_1649 (by decide) ?_
    exact v_sub [2, 3, 4, 5, 6, 7] rfl (kk _ _ hR2)
def St_meanLoad (R : Sg → Prop) : Prop := ∀ (sg : Sg), R sg → (DI sg) ∧ (¬ sg 0 7 = 0 → vf_n64 (FP.ddiv (FP.i2d (fl_ml sg (ix (sg 0 7)) 0 0)) (FP.i2d (sg 0 7)))) ∧ (MI (wS (fe_X4_meanLoad sg) sg sg)) ∧ (¬ (wS (fe_X4_meanLoad sg) sg sg) 41 0 = 0 → vf_n64 (FP.ddiv (FP.i2d (fl_X5_sum (up (wS (fe_X4_meanLoad sg) sg sg) 41 34 0) (ix ((wS (fe_X4_meanLoad sg) sg sg) 41 0)) 0 0)) (FP.i2d ((wS (fe_X4_meanLoad sg) sg sg) 41 0)))) ∧ fr_X5_thrown (fs_X5_meanLoad (wS (fe_X4_meanLoad sg) sg sg)) = wC wf_meanLoad (fe_X4_meanLoad sg) ∧ ((fe_X4_meanLoad sg) = none → fr_X4_meanLoad sg = fr_X5_meanLoad (wS (fe_X4_meanLoad sg) sg sg)) ∧ R (fs_X5_meanLoad (wS (fe_X4_meanLoad sg) sg sg))
theorem wc0_meanLoad {ex : Option String} (h : wC wf_meanLoad ex = 0) : ex = none := by
  cases ex with
  | none => rfl
  | some E =>
    exfalso
    revert h
    show ¬ wf_meanLoad E = 0
    unfold wf_meanLoad
    repeat' split
    all_goals decide
set_option maxHeartbeats 4000000 in
set_option maxRecDepth 20000 in
theorem lc_meanLoad {R : Sg → Prop} (Z : St_meanLoad R) {X : Cx} (C : CF X cL_law RL 9 30 662168 7046113) (T : Xw (xA X) (xs_ X) ∧ Ncs (xs_ X)) (hl : (xl X).stackTraces = false) {b0 L k ca cb : Nat} {xs : Nat → Int32} (S : Scr X b0 L xs) (hk : 6 * k + 6 ≤ L) (ha : ca + 4 ≤ 662168) (hb : cb + 24 ≤ 7046113) (sg : Sg) (o : Ot) (hR0 : R sg) (kk : ∀ (sg2 : Sg) (o2 : Ot), R sg2 → Lc X (ca + 4) (cb + 24) b0 k 1730 sg2 o2) : Lc X ca cb b0 k 1652 sg o := by
  obtain ⟨hD, hf, m_hM, m_hf, hcode, hval, hR2⟩ := Z sg  hR0
  have hnn : fe_X4_meanLoad sg = none → vf_n64 (fr_X4_meanLoad sg) := fun he => ml_nn he hf
  refine v_aload_n (j := 4) C dL_law_1652 rfl rfl rfl ?_
  refine v_aload (j := 1) C dL_law_1653 rfl rfl ?_
  refine v_callW (rest := []) (As := [.ref (xg X 0), .ref (xg X 67)]) C T.1 T.2 kw_meanLoad (k_L_meanLoad hl sg o  hD hf) (by decide) rfl rfl (Nat.le_of_ble_eq_true rfl) (by omega) (by omega) dL_law_1655 rfl ?_
  refine v_widen (a1 := ca + 4) (b1 := cb + 24) (by omega) (by omega) ?_
  refine v_istore C [(6, .int (wC wf_meanLoad (fe_X4_meanLoad sg))), (5, .int (nI (6 * k))), (4, .ref (xg X 67)), (3, .ref (xg X 66)), (2, .ref (xg X 41)), (1, .ref (xg X 0)), (0, .ref b0)] dL_law_1658 (by decide) rfl rfl ?_
  refine v_aload_n (j := 4) C dL_law_1660 rfl rfl rfl ?_
  refine v_callV (rest := []) (As := []) (q := (RX5, TX5, 35)) (c := 41) C kvL_218 (k_X5_meanLoad (wS (fe_X4_meanLoad sg) sg sg) (wO (fe_X4_meanLoad sg) (o.1, fr_X4_meanLoad sg) o)  m_hM m_hf) (by decide) (by decide) rfl rfl rfl rfl rfl (Nat.le_of_ble_eq_true rfl) (by omega) (by omega) dL_law_1661 rfl ?_
  refine v_dstore C [(7, .double (fr_X5_meanLoad (wS (fe_X4_meanLoad sg) sg sg))), (6, .int (wC wf_meanLoad (fe_X4_meanLoad sg))), (5, .int (nI (6 * k))), (4, .ref (xg X 67)), (3, .ref (xg X 66)), (2, .ref (xg X 41)), (1, .ref (xg X 0)), (0, .ref b0)] dL_law_1664 (by decide) rfl rfl ?_
  refine v_aload_n (j := 5) C dL_law_1666 rfl rfl rfl ?_
  refine v_callV (rest := []) (As := []) (q := (RX5, TX5, 35)) (c := 41) C kvL_102 (k_X5_thrown (fs_X5_meanLoad (wS (fe_X4_meanLoad sg) sg sg)) (wO (fe_X4_meanLoad sg) (o.1, fr_X4_meanLoad sg) o)) (by decide) (by decide) rfl rfl rfl rfl rfl (Nat.le_of_ble_eq_true rfl) (by omega) (by omega) dL_law_1667 rfl ?_
  refine v_eq (st1 := [.int (wC wf_meanLoad (fe_X4_meanLoad sg))]) rfl rfl (by rw [hcode]; rfl) ?_
  refine v_iload (j := 1) C dL_law_1670 rfl rfl ?_
  refine v_icmp_eq (tgt := 1677) C dL_law_1672 (by decide) rfl (fun _ => ?_) (fun h => absurd rfl h)
  refine v_iload (j := 1) C dL_law_1677 rfl rfl ?_
  refine v_if_ne (tgt := 1714) C dL_law_1679 (by decide) rfl (fun _ => ?_) (fun h0 => ?_)
  · skip
    refine v_goto (pc1 := 1730) C dL_law_1714 (by decide) ?_
    exact v_sub [2, 3, 4, 5, 6, 7] rfl (kk _ _ hR2)
  · skip
    have he0 := wc0_meanLoad h0
    have he1 : (wO (fe_X4_meanLoad sg) (o.1, fr_X4_meanLoad sg) o).2 = fr_X5_meanLoad (wS (fe_X4_meanLoad sg) sg sg) := by rw [← hval he0, he0]; rfl
    refine v_aload (j := 3) C dL_law_1682 rfl rfl ?_
    refine v_iconst (v := 0) C dL_law_1684 (by decide) rfl ?_
    refine v_dald C dL_law_1685 rfl ?_
    refine v_dload (j := 0) C dL_law_1686 rfl rfl ?_
    refine v_dcmp (v := 0) C dL_law_1688 (by rw [he1]; exact dcmp_self (by rw [← hval he0]; exact hnn he0)) rfl ?_
    refine v_if_eq (tgt := 1714) C dL_law_1689 (by decide) rfl (fun _ => ?_) (fun h => absurd rfl h)
    refine v_goto (pc1 := 1730) C dL_law_1714 (by decide) ?_
    exact v_sub [2, 3, 4, 5, 6, 7] rfl (kk _ _ hR2)
def St_isSound (R : Sg → Prop) : Prop := ∀ (sg : Sg), R sg → (DI sg) ∧ (MI (fs_sound sg)) ∧ b2i (sg 0 10 < 0 ∨ fb_sdAt (fs_X4_tryAllCompletions (fs_X4_findBest sg)) (ix (sg 0 10)) = true) = b2i ((fs_sound sg) 41 23 < 0 ∨ fl_X5_isSound (up (fs_sound sg) 41 34 0) (ix ((fs_sound sg) 41 0)) 0 = true) ∧ R (up (fs_sound sg) 41 34 0)
set_option maxHeartbeats 4000000 in
set_option maxRecDepth 20000 in
theorem lc_isSound {R : Sg → Prop} (Z : St_isSound R) {X : Cx} (C : CF X cL_law RL 9 30 662168 7046113) (T : Xw (xA X) (xs_ X) ∧ Ncs (xs_ X)) (hl : (xl X).stackTraces = false) {b0 L k ca cb : Nat} {xs : Nat → Int32} (S : Scr X b0 L xs) (hk : 6 * k + 6 ≤ L) (ha : ca + 4 ≤ 662168) (hb : cb + 24 ≤ 7046113) (sg : Sg) (o : Ot) (hR0 : R sg) (kk : ∀ (sg2 : Sg) (o2 : Ot), R sg2 → Lc X (ca + 4) (cb + 24) b0 k 1730 sg2 o2) : Lc X ca cb b0 k 1717 sg o := by
  obtain ⟨hD, m_hM, hval, hR2⟩ := Z sg  hR0
  refine v_aload_n (j := 4) C dL_law_1717 rfl rfl rfl ?_
  refine v_callV (rest := []) (As := []) (q := (RX4, TX4, 13)) (c := 0) C kvL_219 (k_X4_isSound sg o hD) (by decide) (by decide) rfl rfl rfl rfl rfl (Nat.le_of_ble_eq_true rfl) (by omega) (by omega) dL_law_1718 rfl ?_
  refine v_widen (a1 := ca + 4) (b1 := cb + 24) (by omega) (by omega) ?_
  refine v_aload_n (j := 3) C dL_law_1721 rfl rfl rfl ?_
  refine v_callV (rest := [.int (b2i (sg 0 10 < 0 ∨ fb_sdAt (fs_X4_tryAllCompletions (fs_X4_findBest sg)) (ix (sg 0 10)) = true))]) (As := []) (q := (RX5, TX5, 35)) (c := 41) C kvL_223 (k_X5_isSound (fs_sound sg) o  m_hM) (by decide) (by decide) rfl rfl rfl rfl rfl (Nat.le_of_ble_eq_true rfl) (by omega) (by omega) dL_law_1722 rfl ?_
  refine v_eq (st1 := [.int (b2i ((fs_sound sg) 41 23 < 0 ∨ fl_X5_isSound (up (fs_sound sg) 41 34 0) (ix ((fs_sound sg) 41 0)) 0 = true)), .int (b2i ((fs_sound sg) 41 23 < 0 ∨ fl_X5_isSound (up (fs_sound sg) 41 34 0) (ix ((fs_sound sg) 41 0)) 0 = true))]) rfl rfl (by rw [hval]; rfl) ?_
  refine v_icmp_eq (tgt := 1730) C dL_law_1725 (by decide) rfl (fun _ => ?_) (fun h => absurd rfl h)
  exact v_sub [0, 1, 2, 3, 4, 5] rfl (kk _ _ hR2)
