theorem lg_cmp_self (x : Int64) : lg_cmp x x = 0 := by simp [lg_cmp]
section VS
variable {X : Cx} {a b nL rk mc ms : Nat} {sg : Sg} {o : Ot} {lo : List (Nat × Value)} {pc pc1 : Nat} {st rest : List Value}
/-- the script: its length, what it holds; it lies outside -/
def Scr (X : Cx) (b0 L : Nat) (xs : Nat → Int32) : Prop := va_X b0 L xs (xs_ X) (xs_ X).heap ∧ b0 < (xs_ X).heap.size ∧ ¬ xA X b0 ∧ L ≤ 3072
theorem v_arg (C : CF X cL_law RL nL rk mc ms) {b0 L k j j0 j5 : Nat} {xs : Nat → Int32} {n : Int} {p : Int32} (S : Scr X b0 L xs) (hv : xs (6 * k + j) = p) (hk : 6 * k + 6 ≤ L) (hj : j < 6) (hn : Int32.ofInt n = nI j) (h0 : lo[j0]? = some (0, .ref b0)) (h5 : lo[j5]? = some (5, .int (nI (6 * k))))
    (d0 : decode cL_law pc = .ok (.aload_n 0, 1)) (d1 : decode cL_law (pc + 1) = .ok (.iload 5, 2)) (d2 : decode cL_law (pc + 3) = .ok (.iconst n, 1)) (d3 : decode cL_law (pc + 4) = .ok (.iadd, 1)) (d4 : decode cL_law (pc + 5) = .ok (.iaload, 1)) (hp : pc + 6 = pc1) (kk : V X a b nL sg o lo pc1 (.int p :: st)) : V X a b nL sg o lo pc st := by
  subst hp; subst hv
  refine v_aload_n C d0 rfl h0 rfl (v_iload C d1 h5 rfl (v_iconst C d2 hn rfl (v_iadd C d3 rfl ?_)))
  obtain ⟨s1, s2, s3, s4⟩ := S
  have e : nI (6 * k) + nI j = nI (6 * k + j) := nI_add _ _
  rw [e]
  intro H locs ls hP hS hl
  refine va_sld C.1 C.2.1 s1 s2 s3 hS (vp_in_nI (show 6 * k + j < L by omega) (by omega)) d4 ?_
  rw [show (nI (6 * k + j)).toNatClampNeg = 6 * k + j from nI_ix (by omega)]
  exact kk H locs ls hP hS hl
theorem v_dcmp (C : CF X cL_law RL nL rk mc ms) {x y : UInt64} {op : CmpOp} {v : Int32} (d : decode cL_law pc = .ok (.dcmp op, 1)) (hv : Op.cmpValue (FP.dcmp x y) op = v) (hp : pc + 1 = pc1) (kk : V X a b nL sg o lo pc1 (.int v :: st)) : V X a b nL sg o lo pc (.double y :: .double x :: st) := by
  subst hp; subst hv; exact fun H locs ls hP hS hl => lv_dcmp C.1 C.2.1 d (kk H locs ls hP hS hl)
theorem v_fcmp (C : CF X cL_law RL nL rk mc ms) {x y : UInt32} {op : CmpOp} {v : Int32} (d : decode cL_law pc = .ok (.fcmp op, 1)) (hv : Op.cmpValue (FP.fcmp x y) op = v) (hp : pc + 1 = pc1) (kk : V X a b nL sg o lo pc1 (.int v :: st)) : V X a b nL sg o lo pc (.float y :: .float x :: st) := by
  subst hp; subst hv; exact fun H locs ls hP hS hl => lv_fcmp C.1 C.2.1 d (kk H locs ls hP hS hl)
end VS
abbrev LB (X : Cx) (b0 k : Nat) : List (Nat × Value) := [(5, .int (nI (6 * k))), (4, .ref (xg X 67)), (3, .ref (xg X 66)), (2, .ref (xg X 41)), (1, .ref (xg X 0)), (0, .ref b0)]
/-- where a call of the script begins; and the end of a call -/
def Lc (X : Cx) (a b b0 k pc : Nat) (sg : Sg) (o : Ot) : Prop := V X a b 9 sg o (LB X b0 k) pc []
def St_addPoint (R : Sg → Prop) : Prop := ∀ (sg : Sg) (p : Int32) (z : Int32), R sg → (DI sg) ∧ (MI (wS (fe_X4_addPoint sg p z) (fs_X4_addPoint sg p z) sg)) ∧ fr_X5_thrown (fs_X5_addPoint (wS (fe_X4_addPoint sg p z) (fs_X4_addPoint sg p z) sg) p z) = wC wf_addPoint (fe_X4_addPoint sg p z) ∧ ((fe_X4_addPoint sg p z) = none → fr_X4_addPoint sg p z = fr_X5_addPoint (wS (fe_X4_addPoint sg p z) (fs_X4_addPoint sg p z) sg) p z) ∧ R (fs_X5_addPoint (wS (fe_X4_addPoint sg p z) (fs_X4_addPoint sg p z) sg) p z)
theorem wc0_addPoint {ex : Option String} (h : wC wf_addPoint ex = 0) : ex = none := by
  cases ex with
  | none => rfl
  | some E =>
    exfalso
    revert h
    show ¬ wf_addPoint E = 0
    unfold wf_addPoint
    repeat' split
    all_goals decide
set_option maxHeartbeats 4000000 in
set_option maxRecDepth 20000 in
theorem lc_addPoint {R : Sg → Prop} (Z : St_addPoint R) {X : Cx} (C : CF X cL_law RL 9 30 662168 7046113) (T : Xw (xA X) (xs_ X) ∧ Ncs (xs_ X)) (hl : (xl X).stackTraces = false) {b0 L k ca cb : Nat} {xs : Nat → Int32} (S : Scr X b0 L xs) (hk : 6 * k + 6 ≤ L) (ha : ca + 4 ≤ 662168) (hb : cb + 24 ≤ 7046113) (sg : Sg) (o : Ot) (hR0 : R sg) (p : Int32) (z : Int32) (h_p : xs (6 * k + 1) = p) (h_z : xs (6 * k + 2) = z) (kk : ∀ (sg2 : Sg) (o2 : Ot), R sg2 → Lc X (ca + 4) (cb + 24) b0 k 1730 sg2 o2) : Lc X ca cb b0 k 196 sg o := by
  obtain ⟨hD, m_hM, hcode, hval, hR2⟩ := Z sg p z hR0
  refine v_aload_n (j := 4) C dL_law_196 rfl rfl rfl ?_
  refine v_arg (j := 1) (j0 := 5) (j5 := 0) C S h_p hk (by decide) (by decide) rfl rfl dL_law_197 dL_law_198 dL_law_200 dL_law_201 dL_law_202 rfl ?_
  refine v_arg (j := 2) (j0 := 5) (j5 := 0) C S h_z hk (by decide) (by decide) rfl rfl dL_law_203 dL_law_204 dL_law_206 dL_law_207 dL_law_208 rfl ?_
  refine v_aload_n (j := 2) C dL_law_209 rfl rfl rfl ?_
  refine v_callW (rest := []) (As := [.ref (xg X 0), .int p, .int z, .ref (xg X 66)]) C T.1 T.2 kw_addPoint (k_L_addPoint hl sg o p z hD) (by decide) rfl rfl (Nat.le_of_ble_eq_true rfl) (by omega) (by omega) dL_law_210 rfl ?_
  refine v_widen (a1 := ca + 4) (b1 := cb + 24) (by omega) (by omega) ?_
  refine v_istore C [(6, .int (wC wf_addPoint (fe_X4_addPoint sg p z))), (5, .int (nI (6 * k))), (4, .ref (xg X 67)), (3, .ref (xg X 66)), (2, .ref (xg X 41)), (1, .ref (xg X 0)), (0, .ref b0)] dL_law_213 (by decide) rfl rfl ?_
  refine v_aload_n (j := 4) C dL_law_215 rfl rfl rfl ?_
  refine v_arg (j := 1) (j0 := 6) (j5 := 1) C S h_p hk (by decide) (by decide) rfl rfl dL_law_216 dL_law_217 dL_law_219 dL_law_220 dL_law_221 rfl ?_
  refine v_arg (j := 2) (j0 := 6) (j5 := 1) C S h_z hk (by decide) (by decide) rfl rfl dL_law_222 dL_law_223 dL_law_225 dL_law_226 dL_law_227 rfl ?_
  refine v_callV (rest := []) (As := [.int p, .int z]) (q := (RX5, TX5, 35)) (c := 41) C kvL_101 (k_X5_addPoint (wS (fe_X4_addPoint sg p z) (fs_X4_addPoint sg p z) sg) (wO (fe_X4_addPoint sg p z) (Int32.toInt64 (fr_X4_addPoint sg p z), o.2) o) p z m_hM) (by decide) (by decide) rfl rfl rfl rfl rfl (Nat.le_of_ble_eq_true rfl) (by omega) (by omega) dL_law_228 rfl ?_
  refine v_istore C [(7, .int (fr_X5_addPoint (wS (fe_X4_addPoint sg p z) (fs_X4_addPoint sg p z) sg) p z)), (6, .int (wC wf_addPoint (fe_X4_addPoint sg p z))), (5, .int (nI (6 * k))), (4, .ref (xg X 67)), (3, .ref (xg X 66)), (2, .ref (xg X 41)), (1, .ref (xg X 0)), (0, .ref b0)] dL_law_231 (by decide) rfl rfl ?_
  refine v_aload_n (j := 5) C dL_law_233 rfl rfl rfl ?_
  refine v_callV (rest := []) (As := []) (q := (RX5, TX5, 35)) (c := 41) C kvL_102 (k_X5_thrown (fs_X5_addPoint (wS (fe_X4_addPoint sg p z) (fs_X4_addPoint sg p z) sg) p z) (wO (fe_X4_addPoint sg p z) (Int32.toInt64 (fr_X4_addPoint sg p z), o.2) o)) (by decide) (by decide) rfl rfl rfl rfl rfl (Nat.le_of_ble_eq_true rfl) (by omega) (by omega) dL_law_234 rfl ?_
  refine v_eq (st1 := [.int (wC wf_addPoint (fe_X4_addPoint sg p z))]) rfl rfl (by rw [hcode]; rfl) ?_
  refine v_iload (j := 1) C dL_law_237 rfl rfl ?_
  refine v_icmp_eq (tgt := 244) C dL_law_239 (by decide) rfl (fun _ => ?_) (fun h => absurd rfl h)
  refine v_iload (j := 1) C dL_law_244 rfl rfl ?_
  refine v_if_ne (tgt := 261) C dL_law_246 (by decide) rfl (fun _ => ?_) (fun h0 => ?_)
  · skip
    refine v_goto (pc1 := 1730) C dL_law_261 (by decide) ?_
    exact v_sub [2, 3, 4, 5, 6, 7] rfl (kk _ _ hR2)
  · skip
    have he0 := wc0_addPoint h0
    have he1 : (wO (fe_X4_addPoint sg p z) (Int32.toInt64 (fr_X4_addPoint sg p z), o.2) o).1 = Int32.toInt64 (fr_X5_addPoint (wS (fe_X4_addPoint sg p z) (fs_X4_addPoint sg p z) sg) p z) := by rw [← hval he0, he0]; rfl
    refine v_aload_n (j := 4) C dL_law_249 rfl rfl rfl ?_
    refine v_iconst (v := 0) C dL_law_250 (by decide) rfl ?_
    refine v_lald C dL_law_251 rfl ?_
    refine v_iload (j := 0) C dL_law_252 rfl rfl ?_
    refine v_i2l C dL_law_254 rfl ?_
    refine v_lcmp (v := 0) C dL_law_255 (by rw [he1]; exact lg_cmp_self _) rfl ?_
    refine v_if_eq (tgt := 261) C dL_law_256 (by decide) rfl (fun _ => ?_) (fun h => absurd rfl h)
    refine v_goto (pc1 := 1730) C dL_law_261 (by decide) ?_
    exact v_sub [2, 3, 4, 5, 6, 7] rfl (kk _ _ hR2)
def St_addPiece (R : Sg → Prop) : Prop := ∀ (sg : Sg) (p : Int32) (z : Int32) (w : Int32) (t : Int32), R sg → (DI sg) ∧ (MI (wS (fe_X4_addPiece sg p z w t) (fs_X4_addPiece sg p z w t) sg)) ∧ fr_X5_thrown (fs_X5_addPiece (wS (fe_X4_addPiece sg p z w t) (fs_X4_addPiece sg p z w t) sg) p z w t) = wC wf_addPiece (fe_X4_addPiece sg p z w t) ∧ ((fe_X4_addPiece sg p z w t) = none → fr_X4_addPiece sg p z w t = fr_X5_addPiece (wS (fe_X4_addPiece sg p z w t) (fs_X4_addPiece sg p z w t) sg) p z w t) ∧ R (fs_X5_addPiece (wS (fe_X4_addPiece sg p z w t) (fs_X4_addPiece sg p z w t) sg) p z w t)
theorem wc0_addPiece {ex : Option String} (h : wC wf_addPiece ex = 0) : ex = none := by
  cases ex with
  | none => rfl
  | some E =>
    exfalso
    revert h
    show ¬ wf_addPiece E = 0
    unfold wf_addPiece
    repeat' split
    all_goals decide
set_option maxHeartbeats 4000000 in
set_option maxRecDepth 20000 in
theorem lc_addPiece {R : Sg → Prop} (Z : St_addPiece R) {X : Cx} (C : CF X cL_law RL 9 30 662168 7046113) (T : Xw (xA X) (xs_ X) ∧ Ncs (xs_ X)) (hl : (xl X).stackTraces = false) {b0 L k ca cb : Nat} {xs : Nat → Int32} (S : Scr X b0 L xs) (hk : 6 * k + 6 ≤ L) (ha : ca + 4 ≤ 662168) (hb : cb + 24 ≤ 7046113) (sg : Sg) (o : Ot) (hR0 : R sg) (p : Int32) (z : Int32) (w : Int32) (t : Int32) (h_p : xs (6 * k + 1) = p) (h_z : xs (6 * k + 2) = z) (h_w : xs (6 * k + 3) = w) (h_t : xs (6 * k + 4) = t) (kk : ∀ (sg2 : Sg) (o2 : Ot), R sg2 → Lc X (ca + 4) (cb + 24) b0 k 1730 sg2 o2) : Lc X ca cb b0 k 264 sg o := by
  obtain ⟨hD, m_hM, hcode, hval, hR2⟩ := Z sg p z w t hR0
  refine v_aload_n (j := 4) C dL_law_264 rfl rfl rfl ?_
  refine v_arg (j := 1) (j0 := 5) (j5 := 0) C S h_p hk (by decide) (by decide) rfl rfl dL_law_265 dL_law_266 dL_law_268 dL_law_269 dL_law_270 rfl ?_
  refine v_arg (j := 2) (j0 := 5) (j5 := 0) C S h_z hk (by decide) (by decide) rfl rfl dL_law_271 dL_law_272 dL_law_274 dL_law_275 dL_law_276 rfl ?_
  refine v_arg (j := 3) (j0 := 5) (j5 := 0) C S h_w hk (by decide) (by decide) rfl rfl dL_law_277 dL_law_278 dL_law_280 dL_law_281 dL_law_282 rfl ?_
  refine v_arg (j := 4) (j0 := 5) (j5 := 0) C S h_t hk (by decide) (by decide) rfl rfl dL_law_283 dL_law_284 dL_law_286 dL_law_287 dL_law_288 rfl ?_
  refine v_aload_n (j := 2) C dL_law_289 rfl rfl rfl ?_
  refine v_callW (rest := []) (As := [.ref (xg X 0), .int p, .int z, .int w, .int t, .ref (xg X 66)]) C T.1 T.2 kw_addPiece (k_L_addPiece hl sg o p z w t hD) (by decide) rfl rfl (Nat.le_of_ble_eq_true rfl) (by omega) (by omega) dL_law_290 rfl ?_
  refine v_widen (a1 := ca + 4) (b1 := cb + 24) (by omega) (by omega) ?_
  refine v_istore C [(6, .int (wC wf_addPiece (fe_X4_addPiece sg p z w t))), (5, .int (nI (6 * k))), (4, .ref (xg X 67)), (3, .ref (xg X 66)), (2, .ref (xg X 41)), (1, .ref (xg X 0)), (0, .ref b0)] dL_law_293 (by decide) rfl rfl ?_
  refine v_aload_n (j := 4) C dL_law_295 rfl rfl rfl ?_
  refine v_arg (j := 1) (j0 := 6) (j5 := 1) C S h_p hk (by decide) (by decide) rfl rfl dL_law_296 dL_law_297 dL_law_299 dL_law_300 dL_law_301 rfl ?_
  refine v_arg (j := 2) (j0 := 6) (j5 := 1) C S h_z hk (by decide) (by decide) rfl rfl dL_law_302 dL_law_303 dL_law_305 dL_law_306 dL_law_307 rfl ?_
  refine v_arg (j := 3) (j0 := 6) (j5 := 1) C S h_w hk (by decide) (by decide) rfl rfl dL_law_308 dL_law_309 dL_law_311 dL_law_312 dL_law_313 rfl ?_
  refine v_arg (j := 4) (j0 := 6) (j5 := 1) C S h_t hk (by decide) (by decide) rfl rfl dL_law_314 dL_law_315 dL_law_317 dL_law_318 dL_law_319 rfl ?_
  refine v_callV (rest := []) (As := [.int p, .int z, .int w, .int t]) (q := (RX5, TX5, 35)) (c := 41) C kvL_108 (k_X5_addPiece (wS (fe_X4_addPiece sg p z w t) (fs_X4_addPiece sg p z w t) sg) (wO (fe_X4_addPiece sg p z w t) (Int32.toInt64 (fr_X4_addPiece sg p z w t), o.2) o) p z w t m_hM) (by decide) (by decide) rfl rfl rfl rfl rfl (Nat.le_of_ble_eq_true rfl) (by omega) (by omega) dL_law_320 rfl ?_
  refine v_istore C [(7, .int (fr_X5_addPiece (wS (fe_X4_addPiece sg p z w t) (fs_X4_addPiece sg p z w t) sg) p z w t)), (6, .int (wC wf_addPiece (fe_X4_addPiece sg p z w t))), (5, .int (nI (6 * k))), (4, .ref (xg X 67)), (3, .ref (xg X 66)), (2, .ref (xg X 41)), (1, .ref (xg X 0)), (0, .ref b0)] dL_law_323 (by decide) rfl rfl ?_
  refine v_aload_n (j := 5) C dL_law_325 rfl rfl rfl ?_
  refine v_callV (rest := []) (As := []) (q := (RX5, TX5, 35)) (c := 41) C kvL_102 (k_X5_thrown (fs_X5_addPiece (wS (fe_X4_addPiece sg p z w t) (fs_X4_addPiece sg p z w t) sg) p z w t) (wO (fe_X4_addPiece sg p z w t) (Int32.toInt64 (fr_X4_addPiece sg p z w t), o.2) o)) (by decide) (by decide) rfl rfl rfl rfl rfl (Nat.le_of_ble_eq_true rfl) (by omega) (by omega) dL_law_326 rfl ?_
  refine v_eq (st1 := [.int (wC wf_addPiece (fe_X4_addPiece sg p z w t))]) rfl rfl (by rw [hcode]; rfl) ?_
  refine v_iload (j := 1) C dL_law_329 rfl rfl ?_
  refine v_icmp_eq (tgt := 336) C dL_law_331 (by decide) rfl (fun _ => ?_) (fun h => absurd rfl h)
  refine v_iload (j := 1) C dL_law_336 rfl rfl ?_
  refine v_if_ne (tgt := 353) C dL_law_338 (by decide) rfl (fun _ => ?_) (fun h0 => ?_)
  · skip
    refine v_goto (pc1 := 1730) C dL_law_353 (by decide) ?_
    exact v_sub [2, 3, 4, 5, 6, 7] rfl (kk _ _ hR2)
  · skip
    have he0 := wc0_addPiece h0
    have he1 : (wO (fe_X4_addPiece sg p z w t) (Int32.toInt64 (fr_X4_addPiece sg p z w t), o.2) o).1 = Int32.toInt64 (fr_X5_addPiece (wS (fe_X4_addPiece sg p z w t) (fs_X4_addPiece sg p z w t) sg) p z w t) := by rw [← hval he0, he0]; rfl
    refine v_aload_n (j := 4) C dL_law_341 rfl rfl rfl ?_
    refine v_iconst (v := 0) C dL_law_342 (by decide) rfl ?_
    refine v_lald C dL_law_343 rfl ?_
    refine v_iload (j := 0) C dL_law_344 rfl rfl ?_
    refine v_i2l C dL_law_346 rfl ?_
    refine v_lcmp (v := 0) C dL_law_347 (by rw [he1]; exact lg_cmp_self _) rfl ?_
    refine v_if_eq (tgt := 353) C dL_law_348 (by decide) rfl (fun _ => ?_) (fun h => absurd rfl h)
    refine v_goto (pc1 := 1730) C dL_law_353 (by decide) ?_
    exact v_sub [2, 3, 4, 5, 6, 7] rfl (kk _ _ hR2)
def St_fix (R : Sg → Prop) : Prop := ∀ (sg : Sg) (p : Int32) (a : Int32) (b : Int32) (z : Int32) (w : Int32), R sg → (DI sg) ∧ (MI (wS (fe_X4_fix sg p a b z w) (fs_X4_fix sg p a b z w) sg)) ∧ fr_X5_thrown (fs_X5_fix (wS (fe_X4_fix sg p a b z w) (fs_X4_fix sg p a b z w) sg) p a b z w) = wC wf_fix (fe_X4_fix sg p a b z w) ∧ ((fe_X4_fix sg p a b z w) = none → fr_X4_fix sg p a b z w = fr_X5_fix (wS (fe_X4_fix sg p a b z w) (fs_X4_fix sg p a b z w) sg) p a b z w) ∧ R (fs_X5_fix (wS (fe_X4_fix sg p a b z w) (fs_X4_fix sg p a b z w) sg) p a b z w)
theorem wc0_fix {ex : Option String} (h : wC wf_fix ex = 0) : ex = none := by
  cases ex with
  | none => rfl
  | some E =>
    exfalso
    revert h
    show ¬ wf_fix E = 0
    unfold wf_fix
    repeat' split
    all_goals decide
set_option maxHeartbeats 4000000 in
set_option maxRecDepth 20000 in
theorem lc_fix {R : Sg → Prop} (Z : St_fix R) {X : Cx} (C : CF X cL_law RL 9 30 662168 7046113) (T : Xw (xA X) (xs_ X) ∧ Ncs (xs_ X)) (hl : (xl X).stackTraces = false) {b0 L k ca cb : Nat} {xs : Nat → Int32} (S : Scr X b0 L xs) (hk : 6 * k + 6 ≤ L) (ha : ca + 4 ≤ 662168) (hb : cb + 24 ≤ 7046113) (sg : Sg) (o : Ot) (hR0 : R sg) (p : Int32) (a : Int32) (b : Int32) (z : Int32) (w : Int32) (h_p : xs (6 * k + 1) = p) (h_a : xs (6 * k + 2) = a) (h_b : xs (6 * k + 3) = b) (h_z : xs (6 * k + 4) = z) (h_w : xs (6 * k + 5) = w) (kk : ∀ (sg2 : Sg) (o2 : Ot), R sg2 → Lc X (ca + 4) (cb + 24) b0 k 1730 sg2 o2) : Lc X ca cb b0 k 356 sg o := by
  obtain ⟨hD, m_hM, hcode, hval, hR2⟩ := Z sg p a b z w hR0
  refine v_aload_n (j := 4) C dL_law_356 rfl rfl rfl ?_
  refine v_arg (j := 1) (j0 := 5) (j5 := 0) C S h_p hk (by decide) (by decide) rfl rfl dL_law_357 dL_law_358 dL_law_360 dL_law_361 dL_law_362 rfl ?_
  refine v_arg (j := 2) (j0 := 5) (j5 := 0) C S h_a hk (by decide) (by decide) rfl rfl dL_law_363 dL_law_364 dL_law_366 dL_law_367 dL_law_368 rfl ?_
  refine v_arg (j := 3) (j0 := 5) (j5 := 0) C S h_b hk (by decide) (by decide) rfl rfl dL_law_369 dL_law_370 dL_law_372 dL_law_373 dL_law_374 rfl ?_
  refine v_arg (j := 4) (j0 := 5) (j5 := 0) C S h_z hk (by decide) (by decide) rfl rfl dL_law_375 dL_law_376 dL_law_378 dL_law_379 dL_law_380 rfl ?_
  refine v_arg (j := 5) (j0 := 5) (j5 := 0) C S h_w hk (by decide) (by decide) rfl rfl dL_law_381 dL_law_382 dL_law_384 dL_law_385 dL_law_386 rfl ?_
  refine v_aload_n (j := 2) C dL_law_387 rfl rfl rfl ?_
  refine v_callW (rest := []) (As := [.ref (xg X 0), .int p, .int a, .int b, .int z, .int w, .ref (xg X 66)]) C T.1 T.2 kw_fix (k_L_fix hl sg o p a b z w hD) (by decide) rfl rfl (Nat.le_of_ble_eq_true rfl) (by omega) (by omega) dL_law_388 rfl ?_
  refine v_widen (a1 := ca + 4) (b1 := cb + 24) (by omega) (by omega) ?_
  refine v_istore C [(6, .int (wC wf_fix (fe_X4_fix sg p a b z w))), (5, .int (nI (6 * k))), (4, .ref (xg X 67)), (3, .ref (xg X 66)), (2, .ref (xg X 41)), (1, .ref (xg X 0)), (0, .ref b0)] dL_law_391 (by decide) rfl rfl ?_
  refine v_aload_n (j := 4) C dL_law_393 rfl rfl rfl ?_
  refine v_arg (j := 1) (j0 := 6) (j5 := 1) C S h_p hk (by decide) (by decide) rfl rfl dL_law_394 dL_law_395 dL_law_397 dL_law_398 dL_law_399 rfl ?_
  refine v_arg (j := 2) (j0 := 6) (j5 := 1) C S h_a hk (by decide) (by decide) rfl rfl dL_law_400 dL_law_401 dL_law_403 dL_law_404 dL_law_405 rfl ?_
  refine v_arg (j := 3) (j0 := 6) (j5 := 1) C S h_b hk (by decide) (by decide) rfl rfl dL_law_406 dL_law_407 dL_law_409 dL_law_410 dL_law_411 rfl ?_
  refine v_arg (j := 4) (j0 := 6) (j5 := 1) C S h_z hk (by decide) (by decide) rfl rfl dL_law_412 dL_law_413 dL_law_415 dL_law_416 dL_law_417 rfl ?_
  refine v_arg (j := 5) (j0 := 6) (j5 := 1) C S h_w hk (by decide) (by decide) rfl rfl dL_law_418 dL_law_419 dL_law_421 dL_law_422 dL_law_423 rfl ?_
  refine v_callV (rest := []) (As := [.int p, .int a, .int b, .int z, .int w]) (q := (RX5, TX5, 35)) (c := 41) C kvL_112 (k_X5_fix (wS (fe_X4_fix sg p a b z w) (fs_X4_fix sg p a b z w) sg) (wO (fe_X4_fix sg p a b z w) (Int32.toInt64 (fr_X4_fix sg p a b z w), o.2) o) p a b z w m_hM) (by decide) (by decide) rfl rfl rfl rfl rfl (Nat.le_of_ble_eq_true rfl) (by omega) (by omega) dL_law_424 rfl ?_
  refine v_istore C [(7, .int (fr_X5_fix (wS (fe_X4_fix sg p a b z w) (fs_X4_fix sg p a b z w) sg) p a b z w)), (6, .int (wC wf_fix (fe_X4_fix sg p a b z w))), (5, .int (nI (6 * k))), (4, .ref (xg X 67)), (3, .ref (xg X 66)), (2, .ref (xg X 41)), (1, .ref (xg X 0)), (0, .ref b0)] dL_law_427 (by decide) rfl rfl ?_
  refine v_aload_n (j := 5) C dL_law_429 rfl rfl rfl ?_
  refine v_callV (rest := []) (As := []) (q := (RX5, TX5, 35)) (c := 41) C kvL_102 (k_X5_thrown (fs_X5_fix (wS (fe_X4_fix sg p a b z w) (fs_X4_fix sg p a b z w) sg) p a b z w) (wO (fe_X4_fix sg p a b z w) (Int32.toInt64 (fr_X4_fix sg p a b z w), o.2) o)) (by decide) (by decide) rfl rfl rfl rfl rfl (Nat.le_of_ble_eq_true rfl) (by omega) (by omega) dL_law_430 rfl ?_
  refine v_eq (st1 := [.int (wC wf_fix (fe_X4_fix sg p a b z w))]) rfl rfl (by rw [hcode]; rfl) ?_
  refine v_iload (j := 1) C dL_law_433 rfl rfl ?_
  refine v_icmp_eq (tgt := 440) C dL_law_435 (by decide) rfl (fun _ => ?_) (fun h => absurd rfl h)
  refine v_iload (j := 1) C dL_law_440 rfl rfl ?_
  refine v_if_ne (tgt := 457) C dL_law_442 (by decide) rfl (fun _ => ?_) (fun h0 => ?_)
  · skip
    refine v_goto (pc1 := 1730) C dL_law_457 (by decide) ?_
    exact v_sub [2, 3, 4, 5, 6, 7] rfl (kk _ _ hR2)
  · skip
    have he0 := wc0_fix h0
    have he1 : (wO (fe_X4_fix sg p a b z w) (Int32.toInt64 (fr_X4_fix sg p a b z w), o.2) o).1 = Int32.toInt64 (fr_X5_fix (wS (fe_X4_fix sg p a b z w) (fs_X4_fix sg p a b z w) sg) p a b z w) := by rw [← hval he0, he0]; rfl
    refine v_aload_n (j := 4) C dL_law_445 rfl rfl rfl ?_
    refine v_iconst (v := 0) C dL_law_446 (by decide) rfl ?_
    refine v_lald C dL_law_447 rfl ?_
    refine v_iload (j := 0) C dL_law_448 rfl rfl ?_
    refine v_i2l C dL_law_450 rfl ?_
    refine v_lcmp (v := 0) C dL_law_451 (by rw [he1]; exact lg_cmp_self _) rfl ?_
    refine v_if_eq (tgt := 457) C dL_law_452 (by decide) rfl (fun _ => ?_) (fun h => absurd rfl h)
    refine v_goto (pc1 := 1730) C dL_law_457 (by decide) ?_
    exact v_sub [2, 3, 4, 5, 6, 7] rfl (kk _ _ hR2)
def St_need (R : Sg → Prop) : Prop := ∀ (sg : Sg) (p : Int32) (a : Int32), R sg → (DI sg) ∧ (MI (wS (fe_X4_need sg p a) (fs_X4_need sg p a) sg)) ∧ (AC (wS (fe_X4_need sg p a) (fs_X4_need sg p a) sg)) ∧ fr_X5_thrown (fs_X5_need (wS (fe_X4_need sg p a) (fs_X4_need sg p a) sg) p a) = wC wf_need (fe_X4_need sg p a) ∧ ((fe_X4_need sg p a) = none → fr_X4_need sg p a = fr_X5_need (wS (fe_X4_need sg p a) (fs_X4_need sg p a) sg) p a) ∧ R (fs_X5_need (wS (fe_X4_need sg p a) (fs_X4_need sg p a) sg) p a)
theorem wc0_need {ex : Option String} (h : wC wf_need ex = 0) : ex = none := by
  cases ex with
  | none => rfl
  | some E =>
    exfalso
    revert h
    show ¬ wf_need E = 0
    unfold wf_need
    repeat' split
    all_goals decide
set_option maxHeartbeats 4000000 in
set_option maxRecDepth 20000 in
theorem lc_need {R : Sg → Prop} (Z : St_need R) {X : Cx} (C : CF X cL_law RL 9 30 662168 7046113) (T : Xw (xA X) (xs_ X) ∧ Ncs (xs_ X)) (hl : (xl X).stackTraces = false) {b0 L k ca cb : Nat} {xs : Nat → Int32} (S : Scr X b0 L xs) (hk : 6 * k + 6 ≤ L) (ha : ca + 4 ≤ 662168) (hb : cb + 24 ≤ 7046113) (sg : Sg) (o : Ot) (hR0 : R sg) (p : Int32) (a : Int32) (h_p : xs (6 * k + 1) = p) (h_a : xs (6 * k + 2) = a) (kk : ∀ (sg2 : Sg) (o2 : Ot), R sg2 → Lc X (ca + 4) (cb + 24) b0 k 1730 sg2 o2) : Lc X ca cb b0 k 460 sg o := by
  obtain ⟨hD, m_hM, m_hA, hcode, hval, hR2⟩ := Z sg p a hR0
  refine v_aload_n (j := 4) C dL_law_460 rfl rfl rfl ?_
  refine v_arg (j := 1) (j0 := 5) (j5 := 0) C S h_p hk (by decide) (by decide) rfl rfl dL_law_461 dL_law_462 dL_law_464 dL_law_465 dL_law_466 rfl ?_
  refine v_arg (j := 2) (j0 := 5) (j5 := 0) C S h_a hk (by decide) (by decide) rfl rfl dL_law_467 dL_law_468 dL_law_470 dL_law_471 dL_law_472 rfl ?_
  refine v_aload_n (j := 2) C dL_law_473 rfl rfl rfl ?_
  refine v_callW (rest := []) (As := [.ref (xg X 0), .int p, .int a, .ref (xg X 66)]) C T.1 T.2 kw_need (k_L_need hl sg o p a hD) (by decide) rfl rfl (Nat.le_of_ble_eq_true rfl) (by omega) (by omega) dL_law_474 rfl ?_
  refine v_widen (a1 := ca + 4) (b1 := cb + 24) (by omega) (by omega) ?_
  refine v_istore C [(6, .int (wC wf_need (fe_X4_need sg p a))), (5, .int (nI (6 * k))), (4, .ref (xg X 67)), (3, .ref (xg X 66)), (2, .ref (xg X 41)), (1, .ref (xg X 0)), (0, .ref b0)] dL_law_477 (by decide) rfl rfl ?_
  refine v_aload_n (j := 4) C dL_law_479 rfl rfl rfl ?_
  refine v_arg (j := 1) (j0 := 6) (j5 := 1) C S h_p hk (by decide) (by decide) rfl rfl dL_law_480 dL_law_481 dL_law_483 dL_law_484 dL_law_485 rfl ?_
  refine v_arg (j := 2) (j0 := 6) (j5 := 1) C S h_a hk (by decide) (by decide) rfl rfl dL_law_486 dL_law_487 dL_law_489 dL_law_490 dL_law_491 rfl ?_
  refine v_callV (rest := []) (As := [.int p, .int a]) (q := (RX5, TX5, 35)) (c := 41) C kvL_115 (k_X5_need (wS (fe_X4_need sg p a) (fs_X4_need sg p a) sg) (wO (fe_X4_need sg p a) (Int32.toInt64 (fr_X4_need sg p a), o.2) o) p a m_hM m_hA) (by decide) (by decide) rfl rfl rfl rfl rfl (Nat.le_of_ble_eq_true rfl) (by omega) (by omega) dL_law_492 rfl ?_
  refine v_istore C [(7, .int (fr_X5_need (wS (fe_X4_need sg p a) (fs_X4_need sg p a) sg) p a)), (6, .int (wC wf_need (fe_X4_need sg p a))), (5, .int (nI (6 * k))), (4, .ref (xg X 67)), (3, .ref (xg X 66)), (2, .ref (xg X 41)), (1, .ref (xg X 0)), (0, .ref b0)] dL_law_495 (by decide) rfl rfl ?_
  refine v_aload_n (j := 5) C dL_law_497 rfl rfl rfl ?_
  refine v_callV (rest := []) (As := []) (q := (RX5, TX5, 35)) (c := 41) C kvL_102 (k_X5_thrown (fs_X5_need (wS (fe_X4_need sg p a) (fs_X4_need sg p a) sg) p a) (wO (fe_X4_need sg p a) (Int32.toInt64 (fr_X4_need sg p a), o.2) o)) (by decide) (by decide) rfl rfl rfl rfl rfl (Nat.le_of_ble_eq_true rfl) (by omega) (by omega) dL_law_498 rfl ?_
  refine v_eq (st1 := [.int (wC wf_need (fe_X4_need sg p a))]) rfl rfl (by rw [hcode]; rfl) ?_
  refine v_iload (j := 1) C dL_law_501 rfl rfl ?_
  refine v_icmp_eq (tgt := 508) C dL_law_503 (by decide) rfl (fun _ => ?_) (fun h => absurd rfl h)
  refine v_iload (j := 1) C dL_law_508 rfl rfl ?_
  refine v_if_ne (tgt := 525) C dL_law_510 (by decide) rfl (fun _ => ?_) (fun h0 => ?_)
  · skip
    refine v_goto (pc1 := 1730) C dL_law_525 (by decide) ?_
    exact v_sub [2, 3, 4, 5, 6, 7] rfl (kk _ _ hR2)
  · skip
    have he0 := wc0_need h0
    have he1 : (wO (fe_X4_need sg p a) (Int32.toInt64 (fr_X4_need sg p a), o.2) o).1 = Int32.toInt64 (fr_X5_need (wS (fe_X4_need sg p a) (fs_X4_need sg p a) sg) p a) := by rw [← hval he0, he0]; rfl
    refine v_aload_n (j := 4) C dL_law_513 rfl rfl rfl ?_
    refine v_iconst (v := 0) C dL_law_514 (by decide) rfl ?_
    refine v_lald C dL_law_515 rfl ?_
    refine v_iload (j := 0) C dL_law_516 rfl rfl ?_
    refine v_i2l C dL_law_518 rfl ?_
    refine v_lcmp (v := 0) C dL_law_519 (by rw [he1]; exact lg_cmp_self _) rfl ?_
    refine v_if_eq (tgt := 525) C dL_law_520 (by decide) rfl (fun _ => ?_) (fun h => absurd rfl h)
    refine v_goto (pc1 := 1730) C dL_law_525 (by decide) ?_
    exact v_sub [2, 3, 4, 5, 6, 7] rfl (kk _ _ hR2)
def St_setArrival (R : Sg → Prop) : Prop := ∀ (sg : Sg) (p : Int32) (z : Int32), R sg → (DI sg) ∧ (MI (wS (fe_X4_setArrival sg p z) (fs_X4_setArrival sg p z) sg)) ∧ fr_X5_thrown (fs_X5_setArrival (wS (fe_X4_setArrival sg p z) (fs_X4_setArrival sg p z) sg) p z) = wC wf_setArrival (fe_X4_setArrival sg p z) ∧ ((fe_X4_setArrival sg p z) = none → fr_X4_setArrival sg p z = fr_X5_setArrival (wS (fe_X4_setArrival sg p z) (fs_X4_setArrival sg p z) sg) p z) ∧ R (fs_X5_setArrival (wS (fe_X4_setArrival sg p z) (fs_X4_setArrival sg p z) sg) p z)
theorem wc0_setArrival {ex : Option String} (h : wC wf_setArrival ex = 0) : ex = none := by
  cases ex with
  | none => rfl
  | some E =>
    exfalso
    revert h
    show ¬ wf_setArrival E = 0
    unfold wf_setArrival
    repeat' split
    all_goals decide
set_option maxHeartbeats 4000000 in
set_option maxRecDepth 20000 in
theorem lc_setArrival {R : Sg → Prop} (Z : St_setArrival R) {X : Cx} (C : CF X cL_law RL 9 30 662168 7046113) (T : Xw (xA X) (xs_ X) ∧ Ncs (xs_ X)) (hl : (xl X).stackTraces = false) {b0 L k ca cb : Nat} {xs : Nat → Int32} (S : Scr X b0 L xs) (hk : 6 * k + 6 ≤ L) (ha : ca + 4 ≤ 662168) (hb : cb + 24 ≤ 7046113) (sg : Sg) (o : Ot) (hR0 : R sg) (p : Int32) (z : Int32) (h_p : xs (6 * k + 1) = p) (h_z : xs (6 * k + 2) = z) (kk : ∀ (sg2 : Sg) (o2 : Ot), R sg2 → Lc X (ca + 4) (cb + 24) b0 k 1730 sg2 o2) : Lc X ca cb b0 k 528 sg o := by
  obtain ⟨hD, m_hM, hcode, hval, hR2⟩ := Z sg p z hR0
  refine v_aload_n (j := 4) C dL_law_528 rfl rfl rfl ?_
  refine v_arg (j := 1) (j0 := 5) (j5 := 0) C S h_p hk (by decide) (by decide) rfl rfl dL_law_529 dL_law_530 dL_law_532 dL_law_533 dL_law_534 rfl ?_
  refine v_arg (j := 2) (j0 := 5) (j5 := 0) C S h_z hk (by decide) (by decide) rfl rfl dL_law_535 dL_law_536 dL_law_538 dL_law_539 dL_law_540 rfl ?_
  refine v_aload_n (j := 2) C dL_law_541 rfl rfl rfl ?_
  refine v_callW (rest := []) (As := [.ref (xg X 0), .int p, .int z, .ref (xg X 66)]) C T.1 T.2 kw_setArrival (k_L_setArrival hl sg o p z hD) (by decide) rfl rfl (Nat.le_of_ble_eq_true rfl) (by omega) (by omega) dL_law_542 rfl ?_
  refine v_widen (a1 := ca + 4) (b1 := cb + 24) (by omega) (by omega) ?_
  refine v_istore C [(6, .int (wC wf_setArrival (fe_X4_setArrival sg p z))), (5, .int (nI (6 * k))), (4, .ref (xg X 67)), (3, .ref (xg X 66)), (2, .ref (xg X 41)), (1, .ref (xg X 0)), (0, .ref b0)] dL_law_545 (by decide) rfl rfl ?_
  refine v_aload_n (j := 4) C dL_law_547 rfl rfl rfl ?_
  refine v_arg (j := 1) (j0 := 6) (j5 := 1) C S h_p hk (by decide) (by decide) rfl rfl dL_law_548 dL_law_549 dL_law_551 dL_law_552 dL_law_553 rfl ?_
  refine v_arg (j := 2) (j0 := 6) (j5 := 1) C S h_z hk (by decide) (by decide) rfl rfl dL_law_554 dL_law_555 dL_law_557 dL_law_558 dL_law_559 rfl ?_
  refine v_callV (rest := []) (As := [.int p, .int z]) (q := (RX5, TX5, 35)) (c := 41) C kvL_118 (k_X5_setArrival (wS (fe_X4_setArrival sg p z) (fs_X4_setArrival sg p z) sg) (wO (fe_X4_setArrival sg p z) (Int32.toInt64 (fr_X4_setArrival sg p z), o.2) o) p z m_hM) (by decide) (by decide) rfl rfl rfl rfl rfl (Nat.le_of_ble_eq_true rfl) (by omega) (by omega) dL_law_560 rfl ?_
  refine v_istore C [(7, .int (fr_X5_setArrival (wS (fe_X4_setArrival sg p z) (fs_X4_setArrival sg p z) sg) p z)), (6, .int (wC wf_setArrival (fe_X4_setArrival sg p z))), (5, .int (nI (6 * k))), (4, .ref (xg X 67)), (3, .ref (xg X 66)), (2, .ref (xg X 41)), (1, .ref (xg X 0)), (0, .ref b0)] dL_law_563 (by decide) rfl rfl ?_
  refine v_aload_n (j := 5) C dL_law_565 rfl rfl rfl ?_
  refine v_callV (rest := []) (As := []) (q := (RX5, TX5, 35)) (c := 41) C kvL_102 (k_X5_thrown (fs_X5_setArrival (wS (fe_X4_setArrival sg p z) (fs_X4_setArrival sg p z) sg) p z) (wO (fe_X4_setArrival sg p z) (Int32.toInt64 (fr_X4_setArrival sg p z), o.2) o)) (by decide) (by decide) rfl rfl rfl rfl rfl (Nat.le_of_ble_eq_true rfl) (by omega) (by omega) dL_law_566 rfl ?_
  refine v_eq (st1 := [.int (wC wf_setArrival (fe_X4_setArrival sg p z))]) rfl rfl (by rw [hcode]; rfl) ?_
  refine v_iload (j := 1) C dL_law_569 rfl rfl ?_
  refine v_icmp_eq (tgt := 576) C dL_law_571 (by decide) rfl (fun _ => ?_) (fun h => absurd rfl h)
  refine v_iload (j := 1) C dL_law_576 rfl rfl ?_
  refine v_if_ne (tgt := 593) C dL_law_578 (by decide) rfl (fun _ => ?_) (fun h0 => ?_)
  · skip
    refine v_goto (pc1 := 1730) C dL_law_593 (by decide) ?_
    exact v_sub [2, 3, 4, 5, 6, 7] rfl (kk _ _ hR2)
  · skip
    have he0 := wc0_setArrival h0
    have he1 : (wO (fe_X4_setArrival sg p z) (Int32.toInt64 (fr_X4_setArrival sg p z), o.2) o).1 = Int32.toInt64 (fr_X5_setArrival (wS (fe_X4_setArrival sg p z) (fs_X4_setArrival sg p z) sg) p z) := by rw [← hval he0, he0]; rfl
    refine v_aload_n (j := 4) C dL_law_581 rfl rfl rfl ?_
    refine v_iconst (v := 0) C dL_law_582 (by decide) rfl ?_
    refine v_lald C dL_law_583 rfl ?_
    refine v_iload (j := 0) C dL_law_584 rfl rfl ?_
    refine v_i2l C dL_law_586 rfl ?_
    refine v_lcmp (v := 0) C dL_law_587 (by rw [he1]; exact lg_cmp_self _) rfl ?_
    refine v_if_eq (tgt := 593) C dL_law_588 (by decide) rfl (fun _ => ?_) (fun h => absurd rfl h)
    refine v_goto (pc1 := 1730) C dL_law_593 (by decide) ?_
    exact v_sub [2, 3, 4, 5, 6, 7] rfl (kk _ _ hR2)
def St_addTown (R : Sg → Prop) : Prop := ∀ (sg : Sg) (p : Int32) (z : Int32) (w : Int32) (t : Int32), R sg → (DI sg) ∧ (MI (wS (fe_X4_addTown sg p z w t) (fs_X4_addTown sg p z w t) sg)) ∧ fr_X5_thrown (fs_X5_addTown (wS (fe_X4_addTown sg p z w t) (fs_X4_addTown sg p z w t) sg) p z w t) = wC wf_addTown (fe_X4_addTown sg p z w t) ∧ ((fe_X4_addTown sg p z w t) = none → fr_X4_addTown sg p z w t = fr_X5_addTown (wS (fe_X4_addTown sg p z w t) (fs_X4_addTown sg p z w t) sg) p z w t) ∧ R (fs_X5_addTown (wS (fe_X4_addTown sg p z w t) (fs_X4_addTown sg p z w t) sg) p z w t)
theorem wc0_addTown {ex : Option String} (h : wC wf_addTown ex = 0) : ex = none := by
  cases ex with
  | none => rfl
  | some E =>
    exfalso
    revert h
    show ¬ wf_addTown E = 0
    unfold wf_addTown
    repeat' split
    all_goals decide
set_option maxHeartbeats 4000000 in
set_option maxRecDepth 20000 in
theorem lc_addTown {R : Sg → Prop} (Z : St_addTown R) {X : Cx} (C : CF X cL_law RL 9 30 662168 7046113) (T : Xw (xA X) (xs_ X) ∧ Ncs (xs_ X)) (hl : (xl X).stackTraces = false) {b0 L k ca cb : Nat} {xs : Nat → Int32} (S : Scr X b0 L xs) (hk : 6 * k + 6 ≤ L) (ha : ca + 4 ≤ 662168) (hb : cb + 24 ≤ 7046113) (sg : Sg) (o : Ot) (hR0 : R sg) (p : Int32) (z : Int32) (w : Int32) (t : Int32) (h_p : xs (6 * k + 1) = p) (h_z : xs (6 * k + 2) = z) (h_w : xs (6 * k + 3) = w) (h_t : xs (6 * k + 4) = t) (kk : ∀ (sg2 : Sg) (o2 : Ot), R sg2 → Lc X (ca + 4) (cb + 24) b0 k 1730 sg2 o2) : Lc X ca cb b0 k 596 sg o := by
  obtain ⟨hD, m_hM, hcode, hval, hR2⟩ := Z sg p z w t hR0
  refine v_aload_n (j := 4) C dL_law_596 rfl rfl rfl ?_
  refine v_arg (j := 1) (j0 := 5) (j5 := 0) C S h_p hk (by decide) (by decide) rfl rfl dL_law_597 dL_law_598 dL_law_600 dL_law_601 dL_law_602 rfl ?_
  refine v_arg (j := 2) (j0 := 5) (j5 := 0) C S h_z hk (by decide) (by decide) rfl rfl dL_law_603 dL_law_604 dL_law_606 dL_law_607 dL_law_608 rfl ?_
  refine v_arg (j := 3) (j0 := 5) (j5 := 0) C S h_w hk (by decide) (by decide) rfl rfl dL_law_609 dL_law_610 dL_law_612 dL_law_613 dL_law_614 rfl ?_
  refine v_arg (j := 4) (j0 := 5) (j5 := 0) C S h_t hk (by decide) (by decide) rfl rfl dL_law_615 dL_law_616 dL_law_618 dL_law_619 dL_law_620 rfl ?_
  refine v_aload_n (j := 2) C dL_law_621 rfl rfl rfl ?_
  refine v_callW (rest := []) (As := [.ref (xg X 0), .int p, .int z, .int w, .int t, .ref (xg X 66)]) C T.1 T.2 kw_addTown (k_L_addTown hl sg o p z w t hD) (by decide) rfl rfl (Nat.le_of_ble_eq_true rfl) (by omega) (by omega) dL_law_622 rfl ?_
  refine v_widen (a1 := ca + 4) (b1 := cb + 24) (by omega) (by omega) ?_
  refine v_istore C [(6, .int (wC wf_addTown (fe_X4_addTown sg p z w t))), (5, .int (nI (6 * k))), (4, .ref (xg X 67)), (3, .ref (xg X 66)), (2, .ref (xg X 41)), (1, .ref (xg X 0)), (0, .ref b0)] dL_law_625 (by decide) rfl rfl ?_
  refine v_aload_n (j := 4) C dL_law_627 rfl rfl rfl ?_
  refine v_arg (j := 1) (j0 := 6) (j5 := 1) C S h_p hk (by decide) (by decide) rfl rfl dL_law_628 dL_law_629 dL_law_631 dL_law_632 dL_law_633 rfl ?_
  refine v_arg (j := 2) (j0 := 6) (j5 := 1) C S h_z hk (by decide) (by decide) rfl rfl dL_law_634 dL_law_635 dL_law_637 dL_law_638 dL_law_639 rfl ?_
  refine v_arg (j := 3) (j0 := 6) (j5 := 1) C S h_w hk (by decide) (by decide) rfl rfl dL_law_640 dL_law_641 dL_law_643 dL_law_644 dL_law_645 rfl ?_
  refine v_arg (j := 4) (j0 := 6) (j5 := 1) C S h_t hk (by decide) (by decide) rfl rfl dL_law_646 dL_law_647 dL_law_649 dL_law_650 dL_law_651 rfl ?_
  refine v_callV (rest := []) (As := [.int p, .int z, .int w, .int t]) (q := (RX5, TX5, 35)) (c := 41) C kvL_121 (k_X5_addTown (wS (fe_X4_addTown sg p z w t) (fs_X4_addTown sg p z w t) sg) (wO (fe_X4_addTown sg p z w t) (Int32.toInt64 (fr_X4_addTown sg p z w t), o.2) o) p z w t m_hM) (by decide) (by decide) rfl rfl rfl rfl rfl (Nat.le_of_ble_eq_true rfl) (by omega) (by omega) dL_law_652 rfl ?_
  refine v_istore C [(7, .int (fr_X5_addTown (wS (fe_X4_addTown sg p z w t) (fs_X4_addTown sg p z w t) sg) p z w t)), (6, .int (wC wf_addTown (fe_X4_addTown sg p z w t))), (5, .int (nI (6 * k))), (4, .ref (xg X 67)), (3, .ref (xg X 66)), (2, .ref (xg X 41)), (1, .ref (xg X 0)), (0, .ref b0)] dL_law_655 (by decide) rfl rfl ?_
  refine v_aload_n (j := 5) C dL_law_657 rfl rfl rfl ?_
  refine v_callV (rest := []) (As := []) (q := (RX5, TX5, 35)) (c := 41) C kvL_102 (k_X5_thrown (fs_X5_addTown (wS (fe_X4_addTown sg p z w t) (fs_X4_addTown sg p z w t) sg) p z w t) (wO (fe_X4_addTown sg p z w t) (Int32.toInt64 (fr_X4_addTown sg p z w t), o.2) o)) (by decide) (by decide) rfl rfl rfl rfl rfl (Nat.le_of_ble_eq_true rfl) (by omega) (by omega) dL_law_658 rfl ?_
  refine v_eq (st1 := [.int (wC wf_addTown (fe_X4_addTown sg p z w t))]) rfl rfl (by rw [hcode]; rfl) ?_
  refine v_iload (j := 1) C dL_law_661 rfl rfl ?_
  refine v_icmp_eq (tgt := 668) C dL_law_663 (by decide) rfl (fun _ => ?_) (fun h => absurd rfl h)
  refine v_iload (j := 1) C dL_law_668 rfl rfl ?_
  refine v_if_ne (tgt := 685) C dL_law_670 (by decide) rfl (fun _ => ?_) (fun h0 => ?_)
  · skip
    refine v_goto (pc1 := 1730) C dL_law_685 (by decide) ?_
    exact v_sub [2, 3, 4, 5, 6, 7] rfl (kk _ _ hR2)
  · skip
    have he0 := wc0_addTown h0
    have he1 : (wO (fe_X4_addTown sg p z w t) (Int32.toInt64 (fr_X4_addTown sg p z w t), o.2) o).1 = Int32.toInt64 (fr_X5_addTown (wS (fe_X4_addTown sg p z w t) (fs_X4_addTown sg p z w t) sg) p z w t) := by rw [← hval he0, he0]; rfl
    refine v_aload_n (j := 4) C dL_law_673 rfl rfl rfl ?_
    refine v_iconst (v := 0) C dL_law_674 (by decide) rfl ?_
    refine v_lald C dL_law_675 rfl ?_
    refine v_iload (j := 0) C dL_law_676 rfl rfl ?_
    refine v_i2l C dL_law_678 rfl ?_
    refine v_lcmp (v := 0) C dL_law_679 (by rw [he1]; exact lg_cmp_self _) rfl ?_
    refine v_if_eq (tgt := 685) C dL_law_680 (by decide) rfl (fun _ => ?_) (fun h => absurd rfl h)
    refine v_goto (pc1 := 1730) C dL_law_685 (by decide) ?_
    exact v_sub [2, 3, 4, 5, 6, 7] rfl (kk _ _ hR2)
def St_setRates (R : Sg → Prop) : Prop := ∀ (sg : Sg) (p : Int32) (z : Int32) (w : Int32) (t : Int32), R sg → (DI sg) ∧ (MI (wS (fe_X4_setRates sg p z w t) (fs_X4_setRates sg p z w t) sg)) ∧ fr_X5_thrown (fs_X5_setRates (wS (fe_X4_setRates sg p z w t) (fs_X4_setRates sg p z w t) sg) p z w t) = wC wf_setRates (fe_X4_setRates sg p z w t) ∧ ((fe_X4_setRates sg p z w t) = none → fr_X4_setRates sg p z w t = fr_X5_setRates (wS (fe_X4_setRates sg p z w t) (fs_X4_setRates sg p z w t) sg) p z w t) ∧ R (fs_X5_setRates (wS (fe_X4_setRates sg p z w t) (fs_X4_setRates sg p z w t) sg) p z w t)
theorem wc0_setRates {ex : Option String} (h : wC wf_setRates ex = 0) : ex = none := by
  cases ex with
  | none => rfl
  | some E =>
    exfalso
    revert h
    show ¬ wf_setRates E = 0
    unfold wf_setRates
    repeat' split
    all_goals decide
set_option maxHeartbeats 4000000 in
set_option maxRecDepth 20000 in
theorem lc_setRates {R : Sg → Prop} (Z : St_setRates R) {X : Cx} (C : CF X cL_law RL 9 30 662168 7046113) (T : Xw (xA X) (xs_ X) ∧ Ncs (xs_ X)) (hl : (xl X).stackTraces = false) {b0 L k ca cb : Nat} {xs : Nat → Int32} (S : Scr X b0 L xs) (hk : 6 * k + 6 ≤ L) (ha : ca + 4 ≤ 662168) (hb : cb + 24 ≤ 7046113) (sg : Sg) (o : Ot) (hR0 : R sg) (p : Int32) (z : Int32) (w : Int32) (t : Int32) (h_p : xs (6 * k + 1) = p) (h_z : xs (6 * k + 2) = z) (h_w : xs (6 * k + 3) = w) (h_t : xs (6 * k + 4) = t) (kk : ∀ (sg2 : Sg) (o2 : Ot), R sg2 → Lc X (ca + 4) (cb + 24) b0 k 1730 sg2 o2) : Lc X ca cb b0 k 688 sg o := by
  obtain ⟨hD, m_hM, hcode, hval, hR2⟩ := Z sg p z w t hR0
  refine v_aload_n (j := 4) C dL_law_688 rfl rfl rfl ?_
  refine v_arg (j := 1) (j0 := 5) (j5 := 0) C S h_p hk (by decide) (by decide) rfl rfl dL_law_689 dL_law_690 dL_law_692 dL_law_693 dL_law_694 rfl ?_
  refine v_arg (j := 2) (j0 := 5) (j5 := 0) C S h_z hk (by decide) (by decide) rfl rfl dL_law_695 dL_law_696 dL_law_698 dL_law_699 dL_law_700 rfl ?_
  refine v_arg (j := 3) (j0 := 5) (j5 := 0) C S h_w hk (by decide) (by decide) rfl rfl dL_law_701 dL_law_702 dL_law_704 dL_law_705 dL_law_706 rfl ?_
  refine v_arg (j := 4) (j0 := 5) (j5 := 0) C S h_t hk (by decide) (by decide) rfl rfl dL_law_707 dL_law_708 dL_law_710 dL_law_711 dL_law_712 rfl ?_
  refine v_aload_n (j := 2) C dL_law_713 rfl rfl rfl ?_
  refine v_callW (rest := []) (As := [.ref (xg X 0), .int p, .int z, .int w, .int t, .ref (xg X 66)]) C T.1 T.2 kw_setRates (k_L_setRates hl sg o p z w t hD) (by decide) rfl rfl (Nat.le_of_ble_eq_true rfl) (by omega) (by omega) dL_law_714 rfl ?_
  refine v_widen (a1 := ca + 4) (b1 := cb + 24) (by omega) (by omega) ?_
  refine v_istore C [(6, .int (wC wf_setRates (fe_X4_setRates sg p z w t))), (5, .int (nI (6 * k))), (4, .ref (xg X 67)), (3, .ref (xg X 66)), (2, .ref (xg X 41)), (1, .ref (xg X 0)), (0, .ref b0)] dL_law_717 (by decide) rfl rfl ?_
  refine v_aload_n (j := 4) C dL_law_719 rfl rfl rfl ?_
  refine v_arg (j := 1) (j0 := 6) (j5 := 1) C S h_p hk (by decide) (by decide) rfl rfl dL_law_720 dL_law_721 dL_law_723 dL_law_724 dL_law_725 rfl ?_
  refine v_arg (j := 2) (j0 := 6) (j5 := 1) C S h_z hk (by decide) (by decide) rfl rfl dL_law_726 dL_law_727 dL_law_729 dL_law_730 dL_law_731 rfl ?_
  refine v_arg (j := 3) (j0 := 6) (j5 := 1) C S h_w hk (by decide) (by decide) rfl rfl dL_law_732 dL_law_733 dL_law_735 dL_law_736 dL_law_737 rfl ?_
  refine v_arg (j := 4) (j0 := 6) (j5 := 1) C S h_t hk (by decide) (by decide) rfl rfl dL_law_738 dL_law_739 dL_law_741 dL_law_742 dL_law_743 rfl ?_
  refine v_callV (rest := []) (As := [.int p, .int z, .int w, .int t]) (q := (RX5, TX5, 35)) (c := 41) C kvL_124 (k_X5_setRates (wS (fe_X4_setRates sg p z w t) (fs_X4_setRates sg p z w t) sg) (wO (fe_X4_setRates sg p z w t) (Int32.toInt64 (fr_X4_setRates sg p z w t), o.2) o) p z w t m_hM) (by decide) (by decide) rfl rfl rfl rfl rfl (Nat.le_of_ble_eq_true rfl) (by omega) (by omega) dL_law_744 rfl ?_
  refine v_istore C [(7, .int (fr_X5_setRates (wS (fe_X4_setRates sg p z w t) (fs_X4_setRates sg p z w t) sg) p z w t)), (6, .int (wC wf_setRates (fe_X4_setRates sg p z w t))), (5, .int (nI (6 * k))), (4, .ref (xg X 67)), (3, .ref (xg X 66)), (2, .ref (xg X 41)), (1, .ref (xg X 0)), (0, .ref b0)] dL_law_747 (by decide) rfl rfl ?_
  refine v_aload_n (j := 5) C dL_law_749 rfl rfl rfl ?_
  refine v_callV (rest := []) (As := []) (q := (RX5, TX5, 35)) (c := 41) C kvL_102 (k_X5_thrown (fs_X5_setRates (wS (fe_X4_setRates sg p z w t) (fs_X4_setRates sg p z w t) sg) p z w t) (wO (fe_X4_setRates sg p z w t) (Int32.toInt64 (fr_X4_setRates sg p z w t), o.2) o)) (by decide) (by decide) rfl rfl rfl rfl rfl (Nat.le_of_ble_eq_true rfl) (by omega) (by omega) dL_law_750 rfl ?_
  refine v_eq (st1 := [.int (wC wf_setRates (fe_X4_setRates sg p z w t))]) rfl rfl (by rw [hcode]; rfl) ?_
  refine v_iload (j := 1) C dL_law_753 rfl rfl ?_
  refine v_icmp_eq (tgt := 760) C dL_law_755 (by decide) rfl (fun _ => ?_) (fun h => absurd rfl h)
  refine v_iload (j := 1) C dL_law_760 rfl rfl ?_
  refine v_if_ne (tgt := 777) C dL_law_762 (by decide) rfl (fun _ => ?_) (fun h0 => ?_)
  · skip
    refine v_goto (pc1 := 1730) C dL_law_777 (by decide) ?_
    exact v_sub [2, 3, 4, 5, 6, 7] rfl (kk _ _ hR2)
  · skip
    have he0 := wc0_setRates h0
    have he1 : (wO (fe_X4_setRates sg p z w t) (Int32.toInt64 (fr_X4_setRates sg p z w t), o.2) o).1 = Int32.toInt64 (fr_X5_setRates (wS (fe_X4_setRates sg p z w t) (fs_X4_setRates sg p z w t) sg) p z w t) := by rw [← hval he0, he0]; rfl
    refine v_aload_n (j := 4) C dL_law_765 rfl rfl rfl ?_
    refine v_iconst (v := 0) C dL_law_766 (by decide) rfl ?_
    refine v_lald C dL_law_767 rfl ?_
    refine v_iload (j := 0) C dL_law_768 rfl rfl ?_
    refine v_i2l C dL_law_770 rfl ?_
    refine v_lcmp (v := 0) C dL_law_771 (by rw [he1]; exact lg_cmp_self _) rfl ?_
    refine v_if_eq (tgt := 777) C dL_law_772 (by decide) rfl (fun _ => ?_) (fun h => absurd rfl h)
    refine v_goto (pc1 := 1730) C dL_law_777 (by decide) ?_
    exact v_sub [2, 3, 4, 5, 6, 7] rfl (kk _ _ hR2)
def St_come (R : Sg → Prop) : Prop := ∀ (sg : Sg) (p : Int32), R sg → (DI sg) ∧ (MI (wS (fe_X4_come sg p) (fs_X4_come sg p) sg)) ∧ fr_X5_thrown (fs_X5_come (wS (fe_X4_come sg p) (fs_X4_come sg p) sg) p) = wC wf_come (fe_X4_come sg p) ∧ ((fe_X4_come sg p) = none → fr_X4_come sg p = fr_X5_come (wS (fe_X4_come sg p) (fs_X4_come sg p) sg) p) ∧ R (fs_X5_come (wS (fe_X4_come sg p) (fs_X4_come sg p) sg) p)
theorem wc0_come {ex : Option String} (h : wC wf_come ex = 0) : ex = none := by
  cases ex with
  | none => rfl
  | some E =>
    exfalso
    revert h
    show ¬ wf_come E = 0
    unfold wf_come
    repeat' split
    all_goals decide
set_option maxHeartbeats 4000000 in
set_option maxRecDepth 20000 in
theorem lc_come {R : Sg → Prop} (Z : St_come R) {X : Cx} (C : CF X cL_law RL 9 30 662168 7046113) (T : Xw (xA X) (xs_ X) ∧ Ncs (xs_ X)) (hl : (xl X).stackTraces = false) {b0 L k ca cb : Nat} {xs : Nat → Int32} (S : Scr X b0 L xs) (hk : 6 * k + 6 ≤ L) (ha : ca + 4 ≤ 662168) (hb : cb + 24 ≤ 7046113) (sg : Sg) (o : Ot) (hR0 : R sg) (p : Int32) (h_p : xs (6 * k + 1) = p) (kk : ∀ (sg2 : Sg) (o2 : Ot), R sg2 → Lc X (ca + 4) (cb + 24) b0 k 1730 sg2 o2) : Lc X ca cb b0 k 780 sg o := by
  obtain ⟨hD, m_hM, hcode, hval, hR2⟩ := Z sg p hR0
  refine v_aload_n (j := 4) C dL_law_780 rfl rfl rfl ?_
  refine v_arg (j := 1) (j0 := 5) (j5 := 0) C S h_p hk (by decide) (by decide) rfl rfl dL_law_781 dL_law_782 dL_law_784 dL_law_785 dL_law_786 rfl ?_
  refine v_aload_n (j := 2) C dL_law_787 rfl rfl rfl ?_
  refine v_callW (rest := []) (As := [.ref (xg X 0), .int p, .ref (xg X 66)]) C T.1 T.2 kw_come (k_L_come hl sg o p hD) (by decide) rfl rfl (Nat.le_of_ble_eq_true rfl) (by omega) (by omega) dL_law_788 rfl ?_
  refine v_widen (a1 := ca + 4) (b1 := cb + 24) (by omega) (by omega) ?_
  refine v_istore C [(6, .int (wC wf_come (fe_X4_come sg p))), (5, .int (nI (6 * k))), (4, .ref (xg X 67)), (3, .ref (xg X 66)), (2, .ref (xg X 41)), (1, .ref (xg X 0)), (0, .ref b0)] dL_law_791 (by decide) rfl rfl ?_
  refine v_aload_n (j := 4) C dL_law_793 rfl rfl rfl ?_
  refine v_arg (j := 1) (j0 := 6) (j5 := 1) C S h_p hk (by decide) (by decide) rfl rfl dL_law_794 dL_law_795 dL_law_797 dL_law_798 dL_law_799 rfl ?_
  refine v_callV (rest := []) (As := [.int p]) (q := (RX5, TX5, 35)) (c := 41) C kvL_128 (k_X5_come (wS (fe_X4_come sg p) (fs_X4_come sg p) sg) (wO (fe_X4_come sg p) (Int32.toInt64 (fr_X4_come sg p), o.2) o) p m_hM) (by decide) (by decide) rfl rfl rfl rfl rfl (Nat.le_of_ble_eq_true rfl) (by omega) (by omega) dL_law_800 rfl ?_
  refine v_istore C [(7, .int (fr_X5_come (wS (fe_X4_come sg p) (fs_X4_come sg p) sg) p)), (6, .int (wC wf_come (fe_X4_come sg p))), (5, .int (nI (6 * k))), (4, .ref (xg X 67)), (3, .ref (xg X 66)), (2, .ref (xg X 41)), (1, .ref (xg X 0)), (0, .ref b0)] dL_law_803 (by decide) rfl rfl ?_
  refine v_aload_n (j := 5) C dL_law_805 rfl rfl rfl ?_
  refine v_callV (rest := []) (As := []) (q := (RX5, TX5, 35)) (c := 41) C kvL_102 (k_X5_thrown (fs_X5_come (wS (fe_X4_come sg p) (fs_X4_come sg p) sg) p) (wO (fe_X4_come sg p) (Int32.toInt64 (fr_X4_come sg p), o.2) o)) (by decide) (by decide) rfl rfl rfl rfl rfl (Nat.le_of_ble_eq_true rfl) (by omega) (by omega) dL_law_806 rfl ?_
  refine v_eq (st1 := [.int (wC wf_come (fe_X4_come sg p))]) rfl rfl (by rw [hcode]; rfl) ?_
  refine v_iload (j := 1) C dL_law_809 rfl rfl ?_
  refine v_icmp_eq (tgt := 816) C dL_law_811 (by decide) rfl (fun _ => ?_) (fun h => absurd rfl h)
  refine v_iload (j := 1) C dL_law_816 rfl rfl ?_
  refine v_if_ne (tgt := 833) C dL_law_818 (by decide) rfl (fun _ => ?_) (fun h0 => ?_)
  · skip
    refine v_goto (pc1 := 1730) C dL_law_833 (by decide) ?_
    exact v_sub [2, 3, 4, 5, 6, 7] rfl (kk _ _ hR2)
  · skip
    have he0 := wc0_come h0
    have he1 : (wO (fe_X4_come sg p) (Int32.toInt64 (fr_X4_come sg p), o.2) o).1 = Int32.toInt64 (fr_X5_come (wS (fe_X4_come sg p) (fs_X4_come sg p) sg) p) := by rw [← hval he0, he0]; rfl
    refine v_aload_n (j := 4) C dL_law_821 rfl rfl rfl ?_
    refine v_iconst (v := 0) C dL_law_822 (by decide) rfl ?_
    refine v_lald C dL_law_823 rfl ?_
    refine v_iload (j := 0) C dL_law_824 rfl rfl ?_
    refine v_i2l C dL_law_826 rfl ?_
    refine v_lcmp (v := 0) C dL_law_827 (by rw [he1]; exact lg_cmp_self _) rfl ?_
    refine v_if_eq (tgt := 833) C dL_law_828 (by decide) rfl (fun _ => ?_) (fun h => absurd rfl h)
    refine v_goto (pc1 := 1730) C dL_law_833 (by decide) ?_
    exact v_sub [2, 3, 4, 5, 6, 7] rfl (kk _ _ hR2)
def St_town (R : Sg → Prop) : Prop := ∀ (sg : Sg), R sg → (DI sg) ∧ (MI (wS (fe_X4_town sg) sg sg)) ∧ fr_X5_thrown (fs_X5_town (wS (fe_X4_town sg) sg sg)) = wC wf_town (fe_X4_town sg) ∧ ((fe_X4_town sg) = none → fr_X4_town sg = fr_X5_town (wS (fe_X4_town sg) sg sg)) ∧ R (fs_X5_town (wS (fe_X4_town sg) sg sg))
theorem wc0_town {ex : Option String} (h : wC wf_town ex = 0) : ex = none := by
  cases ex with
  | none => rfl
  | some E =>
    exfalso
    revert h
    show ¬ wf_town E = 0
    unfold wf_town
    repeat' split
    all_goals decide
set_option maxHeartbeats 4000000 in
set_option maxRecDepth 20000 in
theorem lc_town {R : Sg → Prop} (Z : St_town R) {X : Cx} (C : CF X cL_law RL 9 30 662168 7046113) (T : Xw (xA X) (xs_ X) ∧ Ncs (xs_ X)) (hl : (xl X).stackTraces = false) {b0 L k ca cb : Nat} {xs : Nat → Int32} (S : Scr X b0 L xs) (hk : 6 * k + 6 ≤ L) (ha : ca + 4 ≤ 662168) (hb : cb + 24 ≤ 7046113) (sg : Sg) (o : Ot) (hR0 : R sg) (kk : ∀ (sg2 : Sg) (o2 : Ot), R sg2 → Lc X (ca + 4) (cb + 24) b0 k 1730 sg2 o2) : Lc X ca cb b0 k 836 sg o := by
  obtain ⟨hD, m_hM, hcode, hval, hR2⟩ := Z sg  hR0
  refine v_aload_n (j := 4) C dL_law_836 rfl rfl rfl ?_
  refine v_aload_n (j := 2) C dL_law_837 rfl rfl rfl ?_
  refine v_callW (rest := []) (As := [.ref (xg X 0), .ref (xg X 66)]) C T.1 T.2 kw_town (k_L_town hl sg o  hD) (by decide) rfl rfl (Nat.le_of_ble_eq_true rfl) (by omega) (by omega) dL_law_838 rfl ?_
  refine v_widen (a1 := ca + 4) (b1 := cb + 24) (by omega) (by omega) ?_
  refine v_istore C [(6, .int (wC wf_town (fe_X4_town sg))), (5, .int (nI (6 * k))), (4, .ref (xg X 67)), (3, .ref (xg X 66)), (2, .ref (xg X 41)), (1, .ref (xg X 0)), (0, .ref b0)] dL_law_841 (by decide) rfl rfl ?_
  refine v_aload_n (j := 4) C dL_law_843 rfl rfl rfl ?_
  refine v_callV (rest := []) (As := []) (q := (RX5, TX5, 35)) (c := 41) C kvL_132 (k_X5_town (wS (fe_X4_town sg) sg sg) (wO (fe_X4_town sg) (Int32.toInt64 (fr_X4_town sg), o.2) o)  m_hM) (by decide) (by decide) rfl rfl rfl rfl rfl (Nat.le_of_ble_eq_true rfl) (by omega) (by omega) dL_law_844 rfl ?_
  refine v_istore C [(7, .int (fr_X5_town (wS (fe_X4_town sg) sg sg))), (6, .int (wC wf_town (fe_X4_town sg))), (5, .int (nI (6 * k))), (4, .ref (xg X 67)), (3, .ref (xg X 66)), (2, .ref (xg X 41)), (1, .ref (xg X 0)), (0, .ref b0)] dL_law_847 (by decide) rfl rfl ?_
  refine v_aload_n (j := 5) C dL_law_849 rfl rfl rfl ?_
  refine v_callV (rest := []) (As := []) (q := (RX5, TX5, 35)) (c := 41) C kvL_102 (k_X5_thrown (fs_X5_town (wS (fe_X4_town sg) sg sg)) (wO (fe_X4_town sg) (Int32.toInt64 (fr_X4_town sg), o.2) o)) (by decide) (by decide) rfl rfl rfl rfl rfl (Nat.le_of_ble_eq_true rfl) (by omega) (by omega) dL_law_850 rfl ?_
  refine v_eq (st1 := [.int (wC wf_town (fe_X4_town sg))]) rfl rfl (by rw [hcode]; rfl) ?_
  refine v_iload (j := 1) C dL_law_853 rfl rfl ?_
  refine v_icmp_eq (tgt := 860) C dL_law_855 (by decide) rfl (fun _ => ?_) (fun h => absurd rfl h)
  refine v_iload (j := 1) C dL_law_860 rfl rfl ?_
  refine v_if_ne (tgt := 877) C dL_law_862 (by decide) rfl (fun _ => ?_) (fun h0 => ?_)
  · skip
    refine v_goto (pc1 := 1730) C dL_law_877 (by decide) ?_
    exact v_sub [2, 3, 4, 5, 6, 7] rfl (kk _ _ hR2)
  · skip
    have he0 := wc0_town h0
    have he1 : (wO (fe_X4_town sg) (Int32.toInt64 (fr_X4_town sg), o.2) o).1 = Int32.toInt64 (fr_X5_town (wS (fe_X4_town sg) sg sg)) := by rw [← hval he0, he0]; rfl
    refine v_aload_n (j := 4) C dL_law_865 rfl rfl rfl ?_
    refine v_iconst (v := 0) C dL_law_866 (by decide) rfl ?_
    refine v_lald C dL_law_867 rfl ?_
    refine v_iload (j := 0) C dL_law_868 rfl rfl ?_
    refine v_i2l C dL_law_870 rfl ?_
    refine v_lcmp (v := 0) C dL_law_871 (by rw [he1]; exact lg_cmp_self _) rfl ?_
    refine v_if_eq (tgt := 877) C dL_law_872 (by decide) rfl (fun _ => ?_) (fun h => absurd rfl h)
    refine v_goto (pc1 := 1730) C dL_law_877 (by decide) ?_
    exact v_sub [2, 3, 4, 5, 6, 7] rfl (kk _ _ hR2)
def St_loadOn (R : Sg → Prop) : Prop := ∀ (sg : Sg) (p : Int32) (q : Int32), R sg → (DI sg) ∧ (MI (wS (fe_X4_loadOn sg p q) sg sg)) ∧ fr_X5_thrown (fs_X5_loadOn (wS (fe_X4_loadOn sg p q) sg sg) p q) = wC wf_loadOn (fe_X4_loadOn sg p q) ∧ ((fe_X4_loadOn sg p q) = none → fr_X4_loadOn sg p q = fr_X5_loadOn (wS (fe_X4_loadOn sg p q) sg sg) p q) ∧ R (fs_X5_loadOn (wS (fe_X4_loadOn sg p q) sg sg) p q)
theorem wc0_loadOn {ex : Option String} (h : wC wf_loadOn ex = 0) : ex = none := by
  cases ex with
  | none => rfl
  | some E =>
    exfalso
    revert h
    show ¬ wf_loadOn E = 0
    unfold wf_loadOn
    repeat' split
    all_goals decide
set_option maxHeartbeats 4000000 in
set_option maxRecDepth 20000 in
theorem lc_loadOn {R : Sg → Prop} (Z : St_loadOn R) {X : Cx} (C : CF X cL_law RL 9 30 662168 7046113) (T : Xw (xA X) (xs_ X) ∧ Ncs (xs_ X)) (hl : (xl X).stackTraces = false) {b0 L k ca cb : Nat} {xs : Nat → Int32} (S : Scr X b0 L xs) (hk : 6 * k + 6 ≤ L) (ha : ca + 4 ≤ 662168) (hb : cb + 24 ≤ 7046113) (sg : Sg) (o : Ot) (hR0 : R sg) (p : Int32) (q : Int32) (h_p : xs (6 * k + 1) = p) (h_q : xs (6 * k + 2) = q) (kk : ∀ (sg2 : Sg) (o2 : Ot), R sg2 → Lc X (ca + 4) (cb + 24) b0 k 1730 sg2 o2) : Lc X ca cb b0 k 880 sg o := by
  obtain ⟨hD, m_hM, hcode, hval, hR2⟩ := Z sg p q hR0
  refine v_aload_n (j := 4) C dL_law_880 rfl rfl rfl ?_
  refine v_arg (j := 1) (j0 := 5) (j5 := 0) C S h_p hk (by decide) (by decide) rfl rfl dL_law_881 dL_law_882 dL_law_884 dL_law_885 dL_law_886 rfl ?_
  refine v_arg (j := 2) (j0 := 5) (j5 := 0) C S h_q hk (by decide) (by decide) rfl rfl dL_law_887 dL_law_888 dL_law_890 dL_law_891 dL_law_892 rfl ?_
  refine v_aload_n (j := 2) C dL_law_893 rfl rfl rfl ?_
  refine v_callW (rest := []) (As := [.ref (xg X 0), .int p, .int q, .ref (xg X 66)]) C T.1 T.2 kw_loadOn (k_L_loadOn hl sg o p q hD) (by decide) rfl rfl (Nat.le_of_ble_eq_true rfl) (by omega) (by omega) dL_law_894 rfl ?_
  refine v_widen (a1 := ca + 4) (b1 := cb + 24) (by omega) (by omega) ?_
  refine v_istore C [(6, .int (wC wf_loadOn (fe_X4_loadOn sg p q))), (5, .int (nI (6 * k))), (4, .ref (xg X 67)), (3, .ref (xg X 66)), (2, .ref (xg X 41)), (1, .ref (xg X 0)), (0, .ref b0)] dL_law_897 (by decide) rfl rfl ?_
  refine v_aload_n (j := 4) C dL_law_899 rfl rfl rfl ?_
  refine v_arg (j := 1) (j0 := 6) (j5 := 1) C S h_p hk (by decide) (by decide) rfl rfl dL_law_900 dL_law_901 dL_law_903 dL_law_904 dL_law_905 rfl ?_
  refine v_arg (j := 2) (j0 := 6) (j5 := 1) C S h_q hk (by decide) (by decide) rfl rfl dL_law_906 dL_law_907 dL_law_909 dL_law_910 dL_law_911 rfl ?_
  refine v_callV (rest := []) (As := [.int p, .int q]) (q := (RX5, TX5, 35)) (c := 41) C kvL_135 (k_X5_loadOn (wS (fe_X4_loadOn sg p q) sg sg) (wO (fe_X4_loadOn sg p q) (Int32.toInt64 (fr_X4_loadOn sg p q), o.2) o) p q m_hM) (by decide) (by decide) rfl rfl rfl rfl rfl (Nat.le_of_ble_eq_true rfl) (by omega) (by omega) dL_law_912 rfl ?_
  refine v_istore C [(7, .int (fr_X5_loadOn (wS (fe_X4_loadOn sg p q) sg sg) p q)), (6, .int (wC wf_loadOn (fe_X4_loadOn sg p q))), (5, .int (nI (6 * k))), (4, .ref (xg X 67)), (3, .ref (xg X 66)), (2, .ref (xg X 41)), (1, .ref (xg X 0)), (0, .ref b0)] dL_law_915 (by decide) rfl rfl ?_
  refine v_aload_n (j := 5) C dL_law_917 rfl rfl rfl ?_
  refine v_callV (rest := []) (As := []) (q := (RX5, TX5, 35)) (c := 41) C kvL_102 (k_X5_thrown (fs_X5_loadOn (wS (fe_X4_loadOn sg p q) sg sg) p q) (wO (fe_X4_loadOn sg p q) (Int32.toInt64 (fr_X4_loadOn sg p q), o.2) o)) (by decide) (by decide) rfl rfl rfl rfl rfl (Nat.le_of_ble_eq_true rfl) (by omega) (by omega) dL_law_918 rfl ?_
  refine v_eq (st1 := [.int (wC wf_loadOn (fe_X4_loadOn sg p q))]) rfl rfl (by rw [hcode]; rfl) ?_
  refine v_iload (j := 1) C dL_law_921 rfl rfl ?_
  refine v_icmp_eq (tgt := 928) C dL_law_923 (by decide) rfl (fun _ => ?_) (fun h => absurd rfl h)
  refine v_iload (j := 1) C dL_law_928 rfl rfl ?_
  refine v_if_ne (tgt := 945) C dL_law_930 (by decide) rfl (fun _ => ?_) (fun h0 => ?_)
  · skip
    refine v_goto (pc1 := 1730) C dL_law_945 (by decide) ?_
    exact v_sub [2, 3, 4, 5, 6, 7] rfl (kk _ _ hR2)
  · skip
    have he0 := wc0_loadOn h0
    have he1 : (wO (fe_X4_loadOn sg p q) (Int32.toInt64 (fr_X4_loadOn sg p q), o.2) o).1 = Int32.toInt64 (fr_X5_loadOn (wS (fe_X4_loadOn sg p q) sg sg) p q) := by rw [← hval he0, he0]; rfl
    refine v_aload_n (j := 4) C dL_law_933 rfl rfl rfl ?_
    refine v_iconst (v := 0) C dL_law_934 (by decide) rfl ?_
    refine v_lald C dL_law_935 rfl ?_
    refine v_iload (j := 0) C dL_law_936 rfl rfl ?_
    refine v_i2l C dL_law_938 rfl ?_
    refine v_lcmp (v := 0) C dL_law_939 (by rw [he1]; exact lg_cmp_self _) rfl ?_
    refine v_if_eq (tgt := 945) C dL_law_940 (by decide) rfl (fun _ => ?_) (fun h => absurd rfl h)
    refine v_goto (pc1 := 1730) C dL_law_945 (by decide) ?_
    exact v_sub [2, 3, 4, 5, 6, 7] rfl (kk _ _ hR2)
def St_mayBear (R : Sg → Prop) : Prop := ∀ (sg : Sg) (q : Int32), R sg → (DI sg) ∧ (MI (wS (fe_X4_mayBear sg q) sg sg)) ∧ fr_X5_thrown (fs_X5_mayBear (wS (fe_X4_mayBear sg q) sg sg) q) = wC wf_mayBear (fe_X4_mayBear sg q) ∧ ((fe_X4_mayBear sg q) = none → fr_X4_mayBear sg q = fr_X5_mayBear (wS (fe_X4_mayBear sg q) sg sg) q) ∧ R (fs_X5_mayBear (wS (fe_X4_mayBear sg q) sg sg) q)
theorem wc0_mayBear {ex : Option String} (h : wC wf_mayBear ex = 0) : ex = none := by
  cases ex with
  | none => rfl
  | some E =>
    exfalso
    revert h
    show ¬ wf_mayBear E = 0
    unfold wf_mayBear
    repeat' split
    all_goals decide
set_option maxHeartbeats 4000000 in
set_option maxRecDepth 20000 in
theorem lc_mayBear {R : Sg → Prop} (Z : St_mayBear R) {X : Cx} (C : CF X cL_law RL 9 30 662168 7046113) (T : Xw (xA X) (xs_ X) ∧ Ncs (xs_ X)) (hl : (xl X).stackTraces = false) {b0 L k ca cb : Nat} {xs : Nat → Int32} (S : Scr X b0 L xs) (hk : 6 * k + 6 ≤ L) (ha : ca + 4 ≤ 662168) (hb : cb + 24 ≤ 7046113) (sg : Sg) (o : Ot) (hR0 : R sg) (q : Int32) (h_q : xs (6 * k + 1) = q) (kk : ∀ (sg2 : Sg) (o2 : Ot), R sg2 → Lc X (ca + 4) (cb + 24) b0 k 1730 sg2 o2) : Lc X ca cb b0 k 948 sg o := by
  obtain ⟨hD, m_hM, hcode, hval, hR2⟩ := Z sg q hR0
  refine v_aload_n (j := 4) C dL_law_948 rfl rfl rfl ?_
  refine v_arg (j := 1) (j0 := 5) (j5 := 0) C S h_q hk (by decide) (by decide) rfl rfl dL_law_949 dL_law_950 dL_law_952 dL_law_953 dL_law_954 rfl ?_
  refine v_aload_n (j := 2) C dL_law_955 rfl rfl rfl ?_
  refine v_callW (rest := []) (As := [.ref (xg X 0), .int q, .ref (xg X 66)]) C T.1 T.2 kw_mayBear (k_L_mayBear hl sg o q hD) (by decide) rfl rfl (Nat.le_of_ble_eq_true rfl) (by omega) (by omega) dL_law_956 rfl ?_
  refine v_widen (a1 := ca + 4) (b1 := cb + 24) (by omega) (by omega) ?_
  refine v_istore C [(6, .int (wC wf_mayBear (fe_X4_mayBear sg q))), (5, .int (nI (6 * k))), (4, .ref (xg X 67)), (3, .ref (xg X 66)), (2, .ref (xg X 41)), (1, .ref (xg X 0)), (0, .ref b0)] dL_law_959 (by decide) rfl rfl ?_
  refine v_aload_n (j := 4) C dL_law_961 rfl rfl rfl ?_
  refine v_arg (j := 1) (j0 := 6) (j5 := 1) C S h_q hk (by decide) (by decide) rfl rfl dL_law_962 dL_law_963 dL_law_965 dL_law_966 dL_law_967 rfl ?_
  refine v_callV (rest := []) (As := [.int q]) (q := (RX5, TX5, 35)) (c := 41) C kvL_138 (k_X5_mayBear (wS (fe_X4_mayBear sg q) sg sg) (wO (fe_X4_mayBear sg q) (Int32.toInt64 (fr_X4_mayBear sg q), o.2) o) q m_hM) (by decide) (by decide) rfl rfl rfl rfl rfl (Nat.le_of_ble_eq_true rfl) (by omega) (by omega) dL_law_968 rfl ?_
  refine v_istore C [(7, .int (fr_X5_mayBear (wS (fe_X4_mayBear sg q) sg sg) q)), (6, .int (wC wf_mayBear (fe_X4_mayBear sg q))), (5, .int (nI (6 * k))), (4, .ref (xg X 67)), (3, .ref (xg X 66)), (2, .ref (xg X 41)), (1, .ref (xg X 0)), (0, .ref b0)] dL_law_971 (by decide) rfl rfl ?_
  refine v_aload_n (j := 5) C dL_law_973 rfl rfl rfl ?_
  refine v_callV (rest := []) (As := []) (q := (RX5, TX5, 35)) (c := 41) C kvL_102 (k_X5_thrown (fs_X5_mayBear (wS (fe_X4_mayBear sg q) sg sg) q) (wO (fe_X4_mayBear sg q) (Int32.toInt64 (fr_X4_mayBear sg q), o.2) o)) (by decide) (by decide) rfl rfl rfl rfl rfl (Nat.le_of_ble_eq_true rfl) (by omega) (by omega) dL_law_974 rfl ?_
  refine v_eq (st1 := [.int (wC wf_mayBear (fe_X4_mayBear sg q))]) rfl rfl (by rw [hcode]; rfl) ?_
  refine v_iload (j := 1) C dL_law_977 rfl rfl ?_
  refine v_icmp_eq (tgt := 984) C dL_law_979 (by decide) rfl (fun _ => ?_) (fun h => absurd rfl h)
  refine v_iload (j := 1) C dL_law_984 rfl rfl ?_
  refine v_if_ne (tgt := 1001) C dL_law_986 (by decide) rfl (fun _ => ?_) (fun h0 => ?_)
  · skip
    refine v_goto (pc1 := 1730) C dL_law_1001 (by decide) ?_
    exact v_sub [2, 3, 4, 5, 6, 7] rfl (kk _ _ hR2)
  · skip
    have he0 := wc0_mayBear h0
    have he1 : (wO (fe_X4_mayBear sg q) (Int32.toInt64 (fr_X4_mayBear sg q), o.2) o).1 = Int32.toInt64 (fr_X5_mayBear (wS (fe_X4_mayBear sg q) sg sg) q) := by rw [← hval he0, he0]; rfl
    refine v_aload_n (j := 4) C dL_law_989 rfl rfl rfl ?_
    refine v_iconst (v := 0) C dL_law_990 (by decide) rfl ?_
    refine v_lald C dL_law_991 rfl ?_
    refine v_iload (j := 0) C dL_law_992 rfl rfl ?_
    refine v_i2l C dL_law_994 rfl ?_
    refine v_lcmp (v := 0) C dL_law_995 (by rw [he1]; exact lg_cmp_self _) rfl ?_
    refine v_if_eq (tgt := 1001) C dL_law_996 (by decide) rfl (fun _ => ?_) (fun h => absurd rfl h)
    refine v_goto (pc1 := 1730) C dL_law_1001 (by decide) ?_
    exact v_sub [2, 3, 4, 5, 6, 7] rfl (kk _ _ hR2)
def St_bears (R : Sg → Prop) : Prop := ∀ (sg : Sg) (q : Int32), R sg → (DI sg) ∧ (MI (wS (fe_X4_bears sg q) sg sg)) ∧ fr_X5_thrown (fs_X5_bears (wS (fe_X4_bears sg q) sg sg) q) = wC wf_bears (fe_X4_bears sg q) ∧ ((fe_X4_bears sg q) = none → fr_X4_bears sg q = fr_X5_bears (wS (fe_X4_bears sg q) sg sg) q) ∧ R (fs_X5_bears (wS (fe_X4_bears sg q) sg sg) q)
theorem wc0_bears {ex : Option String} (h : wC wf_bears ex = 0) : ex = none := by
  cases ex with
  | none => rfl
  | some E =>
    exfalso
    revert h
    show ¬ wf_bears E = 0
    unfold wf_bears
    repeat' split
    all_goals decide
set_option maxHeartbeats 4000000 in
set_option maxRecDepth 20000 in
theorem lc_bears {R : Sg → Prop} (Z : St_bears R) {X : Cx} (C : CF X cL_law RL 9 30 662168 7046113) (T : Xw (xA X) (xs_ X) ∧ Ncs (xs_ X)) (hl : (xl X).stackTraces = false) {b0 L k ca cb : Nat} {xs : Nat → Int32} (S : Scr X b0 L xs) (hk : 6 * k + 6 ≤ L) (ha : ca + 4 ≤ 662168) (hb : cb + 24 ≤ 7046113) (sg : Sg) (o : Ot) (hR0 : R sg) (q : Int32) (h_q : xs (6 * k + 1) = q) (kk : ∀ (sg2 : Sg) (o2 : Ot), R sg2 → Lc X (ca + 4) (cb + 24) b0 k 1730 sg2 o2) : Lc X ca cb b0 k 1004 sg o := by
  obtain ⟨hD, m_hM, hcode, hval, hR2⟩ := Z sg q hR0
  refine v_aload_n (j := 4) C dL_law_1004 rfl rfl rfl ?_
  refine v_arg (j := 1) (j0 := 5) (j5 := 0) C S h_q hk (by decide) (by decide) rfl rfl dL_law_1005 dL_law_1006 dL_law_1008 dL_law_1009 dL_law_1010 rfl ?_
  refine v_aload_n (j := 2) C dL_law_1011 rfl rfl rfl ?_
  refine v_callW (rest := []) (As := [.ref (xg X 0), .int q, .ref (xg X 66)]) C T.1 T.2 kw_bears (k_L_bears hl sg o q hD) (by decide) rfl rfl (Nat.le_of_ble_eq_true rfl) (by omega) (by omega) dL_law_1012 rfl ?_
  refine v_widen (a1 := ca + 4) (b1 := cb + 24) (by omega) (by omega) ?_
  refine v_istore C [(6, .int (wC wf_bears (fe_X4_bears sg q))), (5, .int (nI (6 * k))), (4, .ref (xg X 67)), (3, .ref (xg X 66)), (2, .ref (xg X 41)), (1, .ref (xg X 0)), (0, .ref b0)] dL_law_1015 (by decide) rfl rfl ?_
  refine v_aload_n (j := 4) C dL_law_1017 rfl rfl rfl ?_
  refine v_arg (j := 1) (j0 := 6) (j5 := 1) C S h_q hk (by decide) (by decide) rfl rfl dL_law_1018 dL_law_1019 dL_law_1021 dL_law_1022 dL_law_1023 rfl ?_
  refine v_callV (rest := []) (As := [.int q]) (q := (RX5, TX5, 35)) (c := 41) C kvL_141 (k_X5_bears (wS (fe_X4_bears sg q) sg sg) (wO (fe_X4_bears sg q) (Int32.toInt64 (fr_X4_bears sg q), o.2) o) q m_hM) (by decide) (by decide) rfl rfl rfl rfl rfl (Nat.le_of_ble_eq_true rfl) (by omega) (by omega) dL_law_1024 rfl ?_
  refine v_istore C [(7, .int (fr_X5_bears (wS (fe_X4_bears sg q) sg sg) q)), (6, .int (wC wf_bears (fe_X4_bears sg q))), (5, .int (nI (6 * k))), (4, .ref (xg X 67)), (3, .ref (xg X 66)), (2, .ref (xg X 41)), (1, .ref (xg X 0)), (0, .ref b0)] dL_law_1027 (by decide) rfl rfl ?_
  refine v_aload_n (j := 5) C dL_law_1029 rfl rfl rfl ?_
  refine v_callV (rest := []) (As := []) (q := (RX5, TX5, 35)) (c := 41) C kvL_102 (k_X5_thrown (fs_X5_bears (wS (fe_X4_bears sg q) sg sg) q) (wO (fe_X4_bears sg q) (Int32.toInt64 (fr_X4_bears sg q), o.2) o)) (by decide) (by decide) rfl rfl rfl rfl rfl (Nat.le_of_ble_eq_true rfl) (by omega) (by omega) dL_law_1030 rfl ?_
  refine v_eq (st1 := [.int (wC wf_bears (fe_X4_bears sg q))]) rfl rfl (by rw [hcode]; rfl) ?_
  refine v_iload (j := 1) C dL_law_1033 rfl rfl ?_
  refine v_icmp_eq (tgt := 1040) C dL_law_1035 (by decide) rfl (fun _ => ?_) (fun h => absurd rfl h)
  refine v_iload (j := 1) C dL_law_1040 rfl rfl ?_
  refine v_if_ne (tgt := 1057) C dL_law_1042 (by decide) rfl (fun _ => ?_) (fun h0 => ?_)
  · skip
    refine v_goto (pc1 := 1730) C dL_law_1057 (by decide) ?_
    exact v_sub [2, 3, 4, 5, 6, 7] rfl (kk _ _ hR2)
  · skip
    have he0 := wc0_bears h0
    have he1 : (wO (fe_X4_bears sg q) (Int32.toInt64 (fr_X4_bears sg q), o.2) o).1 = Int32.toInt64 (fr_X5_bears (wS (fe_X4_bears sg q) sg sg) q) := by rw [← hval he0, he0]; rfl
    refine v_aload_n (j := 4) C dL_law_1045 rfl rfl rfl ?_
    refine v_iconst (v := 0) C dL_law_1046 (by decide) rfl ?_
    refine v_lald C dL_law_1047 rfl ?_
    refine v_iload (j := 0) C dL_law_1048 rfl rfl ?_
    refine v_i2l C dL_law_1050 rfl ?_
    refine v_lcmp (v := 0) C dL_law_1051 (by rw [he1]; exact lg_cmp_self _) rfl ?_
    refine v_if_eq (tgt := 1057) C dL_law_1052 (by decide) rfl (fun _ => ?_) (fun h => absurd rfl h)
    refine v_goto (pc1 := 1730) C dL_law_1057 (by decide) ?_
    exact v_sub [2, 3, 4, 5, 6, 7] rfl (kk _ _ hR2)
def St_reason (R : Sg → Prop) : Prop := ∀ (sg : Sg) (p : Int32), R sg → (DI sg) ∧ (MI (wS (fe_X4_reason sg p) sg sg)) ∧ fr_X5_thrown (fs_X5_reason (wS (fe_X4_reason sg p) sg sg) p) = wC wf_reason (fe_X4_reason sg p) ∧ ((fe_X4_reason sg p) = none → fr_X4_reason sg p = fr_X5_reason (wS (fe_X4_reason sg p) sg sg) p) ∧ R (fs_X5_reason (wS (fe_X4_reason sg p) sg sg) p)
theorem wc0_reason {ex : Option String} (h : wC wf_reason ex = 0) : ex = none := by
  cases ex with
  | none => rfl
  | some E =>
    exfalso
    revert h
    show ¬ wf_reason E = 0
    unfold wf_reason
    repeat' split
    all_goals decide
set_option maxHeartbeats 4000000 in
set_option maxRecDepth 20000 in
theorem lc_reason {R : Sg → Prop} (Z : St_reason R) {X : Cx} (C : CF X cL_law RL 9 30 662168 7046113) (T : Xw (xA X) (xs_ X) ∧ Ncs (xs_ X)) (hl : (xl X).stackTraces = false) {b0 L k ca cb : Nat} {xs : Nat → Int32} (S : Scr X b0 L xs) (hk : 6 * k + 6 ≤ L) (ha : ca + 4 ≤ 662168) (hb : cb + 24 ≤ 7046113) (sg : Sg) (o : Ot) (hR0 : R sg) (p : Int32) (h_p : xs (6 * k + 1) = p) (kk : ∀ (sg2 : Sg) (o2 : Ot), R sg2 → Lc X (ca + 4) (cb + 24) b0 k 1730 sg2 o2) : Lc X ca cb b0 k 1060 sg o := by
  obtain ⟨hD, m_hM, hcode, hval, hR2⟩ := Z sg p hR0
  refine v_aload_n (j := 4) C dL_law_1060 rfl rfl rfl ?_
  refine v_arg (j := 1) (j0 := 5) (j5 := 0) C S h_p hk (by decide) (by decide) rfl rfl dL_law_1061 dL_law_1062 dL_law_1064 dL_law_1065 dL_law_1066 rfl ?_
  refine v_aload_n (j := 2) C dL_law_1067 rfl rfl rfl ?_
  refine v_callW (rest := []) (As := [.ref (xg X 0), .int p, .ref (xg X 66)]) C T.1 T.2 kw_reason (k_L_reason hl sg o p hD) (by decide) rfl rfl (Nat.le_of_ble_eq_true rfl) (by omega) (by omega) dL_law_1068 rfl ?_
  refine v_widen (a1 := ca + 4) (b1 := cb + 24) (by omega) (by omega) ?_
  refine v_istore C [(6, .int (wC wf_reason (fe_X4_reason sg p))), (5, .int (nI (6 * k))), (4, .ref (xg X 67)), (3, .ref (xg X 66)), (2, .ref (xg X 41)), (1, .ref (xg X 0)), (0, .ref b0)] dL_law_1071 (by decide) rfl rfl ?_
  refine v_aload_n (j := 4) C dL_law_1073 rfl rfl rfl ?_
  refine v_arg (j := 1) (j0 := 6) (j5 := 1) C S h_p hk (by decide) (by decide) rfl rfl dL_law_1074 dL_law_1075 dL_law_1077 dL_law_1078 dL_law_1079 rfl ?_
  refine v_callV (rest := []) (As := [.int p]) (q := (RX5, TX5, 35)) (c := 41) C kvL_144 (k_X5_reason (wS (fe_X4_reason sg p) sg sg) (wO (fe_X4_reason sg p) (Int32.toInt64 (fr_X4_reason sg p), o.2) o) p m_hM) (by decide) (by decide) rfl rfl rfl rfl rfl (Nat.le_of_ble_eq_true rfl) (by omega) (by omega) dL_law_1080 rfl ?_
  refine v_istore C [(7, .int (fr_X5_reason (wS (fe_X4_reason sg p) sg sg) p)), (6, .int (wC wf_reason (fe_X4_reason sg p))), (5, .int (nI (6 * k))), (4, .ref (xg X 67)), (3, .ref (xg X 66)), (2, .ref (xg X 41)), (1, .ref (xg X 0)), (0, .ref b0)] dL_law_1083 (by decide) rfl rfl ?_
  refine v_aload_n (j := 5) C dL_law_1085 rfl rfl rfl ?_
  refine v_callV (rest := []) (As := []) (q := (RX5, TX5, 35)) (c := 41) C kvL_102 (k_X5_thrown (fs_X5_reason (wS (fe_X4_reason sg p) sg sg) p) (wO (fe_X4_reason sg p) (Int32.toInt64 (fr_X4_reason sg p), o.2) o)) (by decide) (by decide) rfl rfl rfl rfl rfl (Nat.le_of_ble_eq_true rfl) (by omega) (by omega) dL_law_1086 rfl ?_
  refine v_eq (st1 := [.int (wC wf_reason (fe_X4_reason sg p))]) rfl rfl (by rw [hcode]; rfl) ?_
  refine v_iload (j := 1) C dL_law_1089 rfl rfl ?_
  refine v_icmp_eq (tgt := 1096) C dL_law_1091 (by decide) rfl (fun _ => ?_) (fun h => absurd rfl h)
  refine v_iload (j := 1) C dL_law_1096 rfl rfl ?_
  refine v_if_ne (tgt := 1113) C dL_law_1098 (by decide) rfl (fun _ => ?_) (fun h0 => ?_)
  · skip
    refine v_goto (pc1 := 1730) C dL_law_1113 (by decide) ?_
    exact v_sub [2, 3, 4, 5, 6, 7] rfl (kk _ _ hR2)
  · skip
    have he0 := wc0_reason h0
    have he1 : (wO (fe_X4_reason sg p) (Int32.toInt64 (fr_X4_reason sg p), o.2) o).1 = Int32.toInt64 (fr_X5_reason (wS (fe_X4_reason sg p) sg sg) p) := by rw [← hval he0, he0]; rfl
    refine v_aload_n (j := 4) C dL_law_1101 rfl rfl rfl ?_
    refine v_iconst (v := 0) C dL_law_1102 (by decide) rfl ?_
    refine v_lald C dL_law_1103 rfl ?_
    refine v_iload (j := 0) C dL_law_1104 rfl rfl ?_
    refine v_i2l C dL_law_1106 rfl ?_
    refine v_lcmp (v := 0) C dL_law_1107 (by rw [he1]; exact lg_cmp_self _) rfl ?_
    refine v_if_eq (tgt := 1113) C dL_law_1108 (by decide) rfl (fun _ => ?_) (fun h => absurd rfl h)
    refine v_goto (pc1 := 1730) C dL_law_1113 (by decide) ?_
    exact v_sub [2, 3, 4, 5, 6, 7] rfl (kk _ _ hR2)
def St_hang (R : Sg → Prop) : Prop := ∀ (sg : Sg) (p : Int32), R sg → (DI sg) ∧ (MI (wS (fe_X4_hang sg p) (fs_X4_hang sg p) sg)) ∧ (RI (wS (fe_X4_hang sg p) (fs_X4_hang sg p) sg)) ∧ fr_X5_thrown (fs_X5_hang (wS (fe_X4_hang sg p) (fs_X4_hang sg p) sg) p) = wC wf_hang (fe_X4_hang sg p) ∧ ((fe_X4_hang sg p) = none → fr_X4_hang sg p = fr_X5_hang (wS (fe_X4_hang sg p) (fs_X4_hang sg p) sg) p) ∧ R (fs_X5_hang (wS (fe_X4_hang sg p) (fs_X4_hang sg p) sg) p)
theorem wc0_hang {ex : Option String} (h : wC wf_hang ex = 0) : ex = none := by
  cases ex with
  | none => rfl
  | some E =>
    exfalso
    revert h
    show ¬ wf_hang E = 0
    unfold wf_hang
    repeat' split
    all_goals decide
set_option maxHeartbeats 4000000 in
set_option maxRecDepth 20000 in
theorem lc_hang {R : Sg → Prop} (Z : St_hang R) {X : Cx} (C : CF X cL_law RL 9 30 662168 7046113) (T : Xw (xA X) (xs_ X) ∧ Ncs (xs_ X)) (hl : (xl X).stackTraces = false) {b0 L k ca cb : Nat} {xs : Nat → Int32} (S : Scr X b0 L xs) (hk : 6 * k + 6 ≤ L) (ha : ca + 4 ≤ 662168) (hb : cb + 24 ≤ 7046113) (sg : Sg) (o : Ot) (hR0 : R sg) (p : Int32) (h_p : xs (6 * k + 1) = p) (kk : ∀ (sg2 : Sg) (o2 : Ot), R sg2 → Lc X (ca + 4) (cb + 24) b0 k 1730 sg2 o2) : Lc X ca cb b0 k 1116 sg o := by
  obtain ⟨hD, m_hM, m_hR, hcode, hval, hR2⟩ := Z sg p hR0
  refine v_aload_n (j := 4) C dL_law_1116 rfl rfl rfl ?_
  refine v_arg (j := 1) (j0 := 5) (j5 := 0) C S h_p hk (by decide) (by decide) rfl rfl dL_law_1117 dL_law_1118 dL_law_1120 dL_law_1121 dL_law_1122 rfl ?_
  refine v_aload_n (j := 2) C dL_law_1123 rfl rfl rfl ?_
  refine v_callW (rest := []) (As := [.ref (xg X 0), .int p, .ref (xg X 66)]) C T.1 T.2 kw_hang (k_L_hang hl sg o p hD) (by decide) rfl rfl (Nat.le_of_ble_eq_true rfl) (by omega) (by omega) dL_law_1124 rfl ?_
  refine v_widen (a1 := ca + 4) (b1 := cb + 24) (by omega) (by omega) ?_
  refine v_istore C [(6, .int (wC wf_hang (fe_X4_hang sg p))), (5, .int (nI (6 * k))), (4, .ref (xg X 67)), (3, .ref (xg X 66)), (2, .ref (xg X 41)), (1, .ref (xg X 0)), (0, .ref b0)] dL_law_1127 (by decide) rfl rfl ?_
  refine v_aload_n (j := 4) C dL_law_1129 rfl rfl rfl ?_
  refine v_arg (j := 1) (j0 := 6) (j5 := 1) C S h_p hk (by decide) (by decide) rfl rfl dL_law_1130 dL_law_1131 dL_law_1133 dL_law_1134 dL_law_1135 rfl ?_
  refine v_callV (rest := []) (As := [.int p]) (q := (RX5, TX5, 35)) (c := 41) C kvL_147 (k_X5_hang (wS (fe_X4_hang sg p) (fs_X4_hang sg p) sg) (wO (fe_X4_hang sg p) (Int32.toInt64 (fr_X4_hang sg p), o.2) o) p m_hM m_hR) (by decide) (by decide) rfl rfl rfl rfl rfl (Nat.le_of_ble_eq_true rfl) (by omega) (by omega) dL_law_1136 rfl ?_
  refine v_istore C [(7, .int (fr_X5_hang (wS (fe_X4_hang sg p) (fs_X4_hang sg p) sg) p)), (6, .int (wC wf_hang (fe_X4_hang sg p))), (5, .int (nI (6 * k))), (4, .ref (xg X 67)), (3, .ref (xg X 66)), (2, .ref (xg X 41)), (1, .ref (xg X 0)), (0, .ref b0)] dL_law_1139 (by decide) rfl rfl ?_
  refine v_aload_n (j := 5) C dL_law_1141 rfl rfl rfl ?_
  refine v_callV (rest := []) (As := []) (q := (RX5, TX5, 35)) (c := 41) C kvL_102 (k_X5_thrown (fs_X5_hang (wS (fe_X4_hang sg p) (fs_X4_hang sg p) sg) p) (wO (fe_X4_hang sg p) (Int32.toInt64 (fr_X4_hang sg p), o.2) o)) (by decide) (by decide) rfl rfl rfl rfl rfl (Nat.le_of_ble_eq_true rfl) (by omega) (by omega) dL_law_1142 rfl ?_
  refine v_eq (st1 := [.int (wC wf_hang (fe_X4_hang sg p))]) rfl rfl (by rw [hcode]; rfl) ?_
  refine v_iload (j := 1) C dL_law_1145 rfl rfl ?_
  refine v_icmp_eq (tgt := 1152) C dL_law_1147 (by decide) rfl (fun _ => ?_) (fun h => absurd rfl h)
  refine v_iload (j := 1) C dL_law_1152 rfl rfl ?_
  refine v_if_ne (tgt := 1169) C dL_law_1154 (by decide) rfl (fun _ => ?_) (fun h0 => ?_)
  · skip
    refine v_goto (pc1 := 1730) C dL_law_1169 (by decide) ?_
    exact v_sub [2, 3, 4, 5, 6, 7] rfl (kk _ _ hR2)
  · skip
    have he0 := wc0_hang h0
    have he1 : (wO (fe_X4_hang sg p) (Int32.toInt64 (fr_X4_hang sg p), o.2) o).1 = Int32.toInt64 (fr_X5_hang (wS (fe_X4_hang sg p) (fs_X4_hang sg p) sg) p) := by rw [← hval he0, he0]; rfl
    refine v_aload_n (j := 4) C dL_law_1157 rfl rfl rfl ?_
    refine v_iconst (v := 0) C dL_law_1158 (by decide) rfl ?_
    refine v_lald C dL_law_1159 rfl ?_
    refine v_iload (j := 0) C dL_law_1160 rfl rfl ?_
    refine v_i2l C dL_law_1162 rfl ?_
    refine v_lcmp (v := 0) C dL_law_1163 (by rw [he1]; exact lg_cmp_self _) rfl ?_
    refine v_if_eq (tgt := 1169) C dL_law_1164 (by decide) rfl (fun _ => ?_) (fun h => absurd rfl h)
    refine v_goto (pc1 := 1730) C dL_law_1169 (by decide) ?_
    exact v_sub [2, 3, 4, 5, 6, 7] rfl (kk _ _ hR2)
def St_takeDown (R : Sg → Prop) : Prop := ∀ (sg : Sg), R sg → (DI sg) ∧ (MI (wS (fe_X4_takeDown sg) (fs_X4_takeDown sg) sg)) ∧ fr_X5_thrown (fs_X5_takeDown (wS (fe_X4_takeDown sg) (fs_X4_takeDown sg) sg)) = wC wf_takeDown (fe_X4_takeDown sg) ∧ ((fe_X4_takeDown sg) = none → fr_X4_takeDown sg = fr_X5_takeDown (wS (fe_X4_takeDown sg) (fs_X4_takeDown sg) sg)) ∧ R (fs_X5_takeDown (wS (fe_X4_takeDown sg) (fs_X4_takeDown sg) sg))
theorem wc0_takeDown {ex : Option String} (h : wC wf_takeDown ex = 0) : ex = none := by
  cases ex with
  | none => rfl
  | some E =>
    exfalso
    revert h
    show ¬ wf_takeDown E = 0
    unfold wf_takeDown
    repeat' split
    all_goals decide
set_option maxHeartbeats 4000000 in
set_option maxRecDepth 20000 in
theorem lc_takeDown {R : Sg → Prop} (Z : St_takeDown R) {X : Cx} (C : CF X cL_law RL 9 30 662168 7046113) (T : Xw (xA X) (xs_ X) ∧ Ncs (xs_ X)) (hl : (xl X).stackTraces = false) {b0 L k ca cb : Nat} {xs : Nat → Int32} (S : Scr X b0 L xs) (hk : 6 * k + 6 ≤ L) (ha : ca + 4 ≤ 662168) (hb : cb + 24 ≤ 7046113) (sg : Sg) (o : Ot) (hR0 : R sg) (kk : ∀ (sg2 : Sg) (o2 : Ot), R sg2 → Lc X (ca + 4) (cb + 24) b0 k 1730 sg2 o2) : Lc X ca cb b0 k 1172 sg o := by
  obtain ⟨hD, m_hM, hcode, hval, hR2⟩ := Z sg  hR0
  refine v_aload_n (j := 4) C dL_law_1172 rfl rfl rfl ?_
  refine v_aload_n (j := 2) C dL_law_1173 rfl rfl rfl ?_
  refine v_callW (rest := []) (As := [.ref (xg X 0), .ref (xg X 66)]) C T.1 T.2 kw_takeDown (k_L_takeDown hl sg o  hD) (by decide) rfl rfl (Nat.le_of_ble_eq_true rfl) (by omega) (by omega) dL_law_1174 rfl ?_
  refine v_widen (a1 := ca + 4) (b1 := cb + 24) (by omega) (by omega) ?_
  refine v_istore C [(6, .int (wC wf_takeDown (fe_X4_takeDown sg))), (5, .int (nI (6 * k))), (4, .ref (xg X 67)), (3, .ref (xg X 66)), (2, .ref (xg X 41)), (1, .ref (xg X 0)), (0, .ref b0)] dL_law_1177 (by decide) rfl rfl ?_
  refine v_aload_n (j := 4) C dL_law_1179 rfl rfl rfl ?_
  refine v_callV (rest := []) (As := []) (q := (RX5, TX5, 35)) (c := 41) C kvL_150 (k_X5_takeDown (wS (fe_X4_takeDown sg) (fs_X4_takeDown sg) sg) (wO (fe_X4_takeDown sg) (Int32.toInt64 (fr_X4_takeDown sg), o.2) o)  m_hM) (by decide) (by decide) rfl rfl rfl rfl rfl (Nat.le_of_ble_eq_true rfl) (by omega) (by omega) dL_law_1180 rfl ?_
  refine v_istore C [(7, .int (fr_X5_takeDown (wS (fe_X4_takeDown sg) (fs_X4_takeDown sg) sg))), (6, .int (wC wf_takeDown (fe_X4_takeDown sg))), (5, .int (nI (6 * k))), (4, .ref (xg X 67)), (3, .ref (xg X 66)), (2, .ref (xg X 41)), (1, .ref (xg X 0)), (0, .ref b0)] dL_law_1183 (by decide) rfl rfl ?_
  refine v_aload_n (j := 5) C dL_law_1185 rfl rfl rfl ?_
  refine v_callV (rest := []) (As := []) (q := (RX5, TX5, 35)) (c := 41) C kvL_102 (k_X5_thrown (fs_X5_takeDown (wS (fe_X4_takeDown sg) (fs_X4_takeDown sg) sg)) (wO (fe_X4_takeDown sg) (Int32.toInt64 (fr_X4_takeDown sg), o.2) o)) (by decide) (by decide) rfl rfl rfl rfl rfl (Nat.le_of_ble_eq_true rfl) (by omega) (by omega) dL_law_1186 rfl ?_
  refine v_eq (st1 := [.int (wC wf_takeDown (fe_X4_takeDown sg))]) rfl rfl (by rw [hcode]; rfl) ?_
  refine v_iload (j := 1) C dL_law_1189 rfl rfl ?_
  refine v_icmp_eq (tgt := 1196) C dL_law_1191 (by decide) rfl (fun _ => ?_) (fun h => absurd rfl h)
  refine v_iload (j := 1) C dL_law_1196 rfl rfl ?_
  refine v_if_ne (tgt := 1213) C dL_law_1198 (by decide) rfl (fun _ => ?_) (fun h0 => ?_)
  · skip
    refine v_goto (pc1 := 1730) C dL_law_1213 (by decide) ?_
    exact v_sub [2, 3, 4, 5, 6, 7] rfl (kk _ _ hR2)
  · skip
    have he0 := wc0_takeDown h0
    have he1 : (wO (fe_X4_takeDown sg) (Int32.toInt64 (fr_X4_takeDown sg), o.2) o).1 = Int32.toInt64 (fr_X5_takeDown (wS (fe_X4_takeDown sg) (fs_X4_takeDown sg) sg)) := by rw [← hval he0, he0]; rfl
    refine v_aload_n (j := 4) C dL_law_1201 rfl rfl rfl ?_
    refine v_iconst (v := 0) C dL_law_1202 (by decide) rfl ?_
    refine v_lald C dL_law_1203 rfl ?_
    refine v_iload (j := 0) C dL_law_1204 rfl rfl ?_
    refine v_i2l C dL_law_1206 rfl ?_
    refine v_lcmp (v := 0) C dL_law_1207 (by rw [he1]; exact lg_cmp_self _) rfl ?_
    refine v_if_eq (tgt := 1213) C dL_law_1208 (by decide) rfl (fun _ => ?_) (fun h => absurd rfl h)
    refine v_goto (pc1 := 1730) C dL_law_1213 (by decide) ?_
    exact v_sub [2, 3, 4, 5, 6, 7] rfl (kk _ _ hR2)
