/-! A WORLD THAT GROWS: walks of constructors. ws: the cells that there are, in the order in which they came -/
def GV (X : Cx) (a b nL : Nat) (ws : va_W) (lo : List (Nat × Value)) (pc : Nat) (st : List Value) : Prop :=
  ∀ (H : Heap) (locs : List Loc) (ls : Array Slot), va_P (xD X) vwCl ws H → va_D (xA X) ws → va_S (xA X) (xs_ X).heap H locs → lv_has ls nL lo → WW X H locs a b (F0 (xm X) pc ls st)
def nestL : List Cond := [.methodLinkNest RX4 33 ⟨RX2, "<init>", "()V"⟩ RX4, .methodLinkNest RX4 64 ⟨RX1, "<init>", "()V"⟩ RX4, .methodLinkNest RX4 65 ⟨RX0, "<init>", "()V"⟩ RX4]
/-- what constructors ask for beside the good words -/
def Nx (U : State) : Prop := (∀ w ∈ nestL, va_Nw w U) ∧ va_AO RX1 U ∧ va_AO RX0 U ∧ va_AO RX3 U
theorem Nx.moved {s U : State} (hW : s.WarmedH U.vm) (h : Nx s) : Nx U := by
  refine ⟨fun w hw => ?_, h.2.1.moved hW.alike, h.2.2.1.moved hW.alike, h.2.2.2.moved hW.alike⟩
  have hz := h.1 w hw
  unfold nestL at hw
  rcases List.mem_cons.mp hw with rfl | hw
  · exact va_Nw.warmM hW hz
  · rcases List.mem_cons.mp hw with rfl | hw
    · exact va_Nw.warmM hW hz
    · rcases List.mem_cons.mp hw with rfl | hw
      · exact va_Nw.warmM hW hz
      · cases hw
theorem Nx.same {s U : State} (hv : s.vm = U.vm) (h : Nx s) : Nx U := by
  refine ⟨fun w hw => ?_, ?_, ?_, ?_⟩
  · have hz := h.1 w hw
    unfold nestL at hw
    rcases List.mem_cons.mp hw with rfl | hw
    · exact va_Nw.same rfl hv hz
    · rcases List.mem_cons.mp hw with rfl | hw
      · exact va_Nw.same rfl hv hz
      · rcases List.mem_cons.mp hw with rfl | hw
        · exact va_Nw.same rfl hv hz
        · cases hw
  · exact va_AO.moved (hv ▸ Vm.Alike.refl s.vm) h.2.1
  · exact va_AO.moved (hv ▸ Vm.Alike.refl s.vm) h.2.2.1
  · exact va_AO.moved (hv ▸ Vm.Alike.refl s.vm) h.2.2.2
def GF (X : Cx) (cc : ByteArray) (own : String) (nL rk mc ms : Nat) : Prop :=
  (xp X).tables.exec = Jvm.exec ∧ (xc X).code = cc ∧ (xc X).maxLocals = nL ∧ (xs_ X).vm.findClass own = some (xm X).cls ∧ (∀ w ∈ ALL, w.before (xa X) (xs_ X) = true) ∧ va_K (xD X) vwCl [(xK X 0, .int)] (xs_ X) ∧ (∀ q, (xs_ X).heap.size ≤ q → xA X q) ∧ Nx (xs_ X) ∧
  (rk ≤ (xR X).frames ∧ 40 * rk ≤ (xR X).locals ∧ mc ≤ (xR X).cells ∧ ms ≤ (xR X).slots) ∧ (xh X).locks = false
section GR
variable {X : Cx} {cc : ByteArray} {own : String} {a b nL rk mc ms : Nat} {ws : va_W} {lo : List (Nat × Value)} {pc pc1 : Nat} {st : List Value} {off : Int} {tgt : Nat}
theorem g_iconst (C : GF X cc own nL rk mc ms) {n : Int} {v : Int32} (d : decode cc pc = .ok (.iconst n, 1)) (hv : Int32.ofInt n = v) (hp : pc + 1 = pc1) (k : GV X a b nL ws lo pc1 (.int v :: st)) : GV X a b nL ws lo pc st := by
  subst hp; exact fun H locs ls hP hD hS hl => lv_iconst C.1 C.2.1 d hv (k H locs ls hP hD hS hl)
theorem g_bipush (C : GF X cc own nL rk mc ms) {n : Int} {v : Int32} (d : decode cc pc = .ok (.bipush n, 2)) (hv : (Int8.ofInt n).toInt32 = v) (hp : pc + 2 = pc1) (k : GV X a b nL ws lo pc1 (.int v :: st)) : GV X a b nL ws lo pc st := by
  subst hp; exact fun H locs ls hP hD hS hl => lv_bipush C.1 C.2.1 d hv (k H locs ls hP hD hS hl)
theorem g_iload_n (C : GF X cc own nL rk mc ms) {n : Fin 4} {i j : Nat} {x : Int32} (d : decode cc pc = .ok (.iload_n n, 1)) (hi : (n : Nat) = i) (hj : lo[j]? = some (i, .int x)) (hp : pc + 1 = pc1) (k : GV X a b nL ws lo pc1 (.int x :: st)) : GV X a b nL ws lo pc st := by
  subst hp; exact fun H locs ls hP hD hS hl => lv_iload_n C.1 C.2.1 d hi (lv_at hl j hj) (k H locs ls hP hD hS hl)
theorem g_aload_n (C : GF X cc own nL rk mc ms) {n : Fin 4} {i j : Nat} {x : Nat} (d : decode cc pc = .ok (.aload_n n, 1)) (hi : (n : Nat) = i) (hj : lo[j]? = some (i, .ref x)) (hp : pc + 1 = pc1) (k : GV X a b nL ws lo pc1 (.ref x :: st)) : GV X a b nL ws lo pc st := by
  subst hp; exact fun H locs ls hP hD hS hl => lv_aload_n C.1 C.2.1 d hi (lv_at hl j hj) (k H locs ls hP hD hS hl)
theorem g_istore_n (C : GF X cc own nL rk mc ms) {n : Fin 4} {i : Nat} {x : Int32} (lo1 : List (Nat × Value)) (d : decode cc pc = .ok (.istore_n n, 1)) (hi : (n : Nat) = i) (hn : i < nL) (hl1 : (i, Value.int x) :: lo.filter (fun q => !(q.1 == i) && !(q.1 + 1 == i && q.2.category == 2)) = lo1) (hp : pc + 1 = pc1) (k : GV X a b nL ws lo1 pc1 st) : GV X a b nL ws lo pc (.int x :: st) := by
  subst hp; exact fun H locs ls hP hD hS hl => lv_istore_n C.1 C.2.1 d hi hl hn hl1 (fun ls hl => k H locs ls hP hD hS hl)
theorem g_iinc (C : GF X cc own nL rk mc ms) {i j : Nat} {n : Int} {x v : Int32} (lo1 : List (Nat × Value)) (d : decode cc pc = .ok (.iinc i n, 3)) (hj : lo[j]? = some (i, .int x)) (hv : x + Int32.ofInt n = v) (hn : i < nL) (hl1 : (i, Value.int v) :: lo.filter (fun q => !(q.1 == i) && !(q.1 + 1 == i && q.2.category == 2)) = lo1) (hp : pc + 3 = pc1) (k : GV X a b nL ws lo1 pc1 st) : GV X a b nL ws lo pc st := by
  subst hp; exact fun H locs ls hP hD hS hl => lv_iinc C.1 C.2.1 d hl hj hv hn hl1 (fun ls hl => k H locs ls hP hD hS hl)
theorem g_dup (C : GF X cc own nL rk mc ms) {v : Value} (d : decode cc pc = .ok (.dup, 1)) (hv : v.category = 1) (hp : pc + 1 = pc1) (k : GV X a b nL ws lo pc1 (v :: v :: st)) : GV X a b nL ws lo pc (v :: st) := by
  subst hp; exact fun H locs ls hP hD hS hl => lv_dup C.1 C.2.1 d hv (k H locs ls hP hD hS hl)
theorem g_goto (C : GF X cc own nL rk mc ms) {off : Int} (d : decode cc pc = .ok (.goto off, 3)) (ht : (pc : Int) + off = (pc1 : Int)) (k : GV X a b nL ws lo pc1 st) : GV X a b nL ws lo pc st :=
  fun H locs ls hP hD hS hl => lv_goto C.1 C.2.1 d ht (k H locs ls hP hD hS hl)
theorem g_aconst_null (C : GF X cc own nL rk mc ms) (d : decode cc pc = .ok (.aconst_null, 1)) (hp : pc + 1 = pc1) (k : GV X a b nL ws lo pc1 (.null :: st)) : GV X a b nL ws lo pc st := by
  subst hp; exact fun H locs ls hP hD hS hl => lv_null C.1 C.2.1 d (k H locs ls hP hD hS hl)
theorem g_icmp_ge (C : GF X cc own nL rk mc ms) {x y : Int32} (d : decode cc pc = .ok (.if_icmp .ge off, 3)) (ht : (pc : Int) + off = (tgt : Int)) (hp : pc + 3 = pc1) (kt : ¬ x < y → GV X a b nL ws lo tgt st) (kf : x < y → GV X a b nL ws lo pc1 st) : GV X a b nL ws lo pc (.int y :: .int x :: st) := by
  subst hp; exact fun H locs ls hP hD hS hl => lv_icmp_ge C.1 C.2.1 d ht (fun h => kt (Int32.not_lt.mpr h) H locs ls hP hD hS hl) (fun h => kf (Int32.not_le.mp h) H locs ls hP hD hS hl)
theorem g_sub {lo1 : List (Nat × Value)} (ks : List Nat) (h : lv_pick lo ks = lo1) (k : GV X a b nL ws lo1 pc st) : GV X a b nL ws lo pc st := fun H locs ls hP hD hS hl => k H locs ls hP hD hS (lv_sub hl ks h)
theorem g_eq {a1 b1 : Nat} {ws1 : va_W} {lo1 : List (Nat × Value)} {st1 : List Value} (h0 : ws = ws1) (h2 : lo = lo1) (h3 : st = st1) (k : GV X a b nL ws1 lo1 pc st1) : GV X a b nL ws lo pc st := by
  subst h0; subst h2; subst h3; exact k
theorem g_obj (C : GF X cc own nL rk mc ms) {idx x : Nat} (hlink : Cond.methodLink own idx Lib.objectInit ∈ ALL) (hi : Cond.instanceMethod Lib.objectInit ∈ ALL) (hc : Cond.code Lib.objectInit ⟨#[0xb1]⟩ 1 none ∈ ALL) (hr : 1 ≤ rk) (hcat : (st.map fun v => v.category).sum ≤ 8) (d : decode cc pc = .ok (.invokespecial idx, 3)) (hp : pc + 3 = pc1) (k : GV X a b nL ws lo pc1 st) : GV X a b nL ws lo pc (.ref x :: st) := by
  subst hp
  intro H locs ls hP hD hS hl
  obtain ⟨cx, cb, cm, co, ct, cK, cA, cN, ⟨r1, r2, r3, r4⟩, cl⟩ := C
  refine W.objInit cx cb co (ct _ hlink) (ct _ hi) (ct _ hc) rfl (by rw [cm]; exact hl.1) rfl d (Nat.le_trans hr r1) (Nat.le_trans ?_ (Nat.le_trans (Nat.mul_le_mul_left 40 hr) r2)) (k H locs ls hP hD hS hl)
  show 2 * 0 + _ + 12 ≤ 40 * 1
  omega
theorem g_new (C : GF X cc own nL rk mc ms) {Cn : String} {T : u_T} {N ci idx : Nat} {fs : List Value} (ty : Nat → FieldType) (hc : vwCl[ci]? = some (Cn, T, N)) (hin : ∀ w ∈ u_ws Cn T N, w ∈ ALL) (hty : ∀ k, k < N → parseFieldDescriptor (T k).2.2.1 = some (ty k)) (hcl : Cond.classLink own idx Cn ∈ ALL) (hinst : Cond.instantiable Cn N ∈ ALL) (hini : Cond.initialized Cn ∈ ALL) (hfs : ∀ j, j < N → defaultValue (ty j) = vp_V fs j) (ha : a + 1 ≤ mc) (hb : b + N ≤ ms) (d : decode cc pc = .ok (.new idx, 3)) (hp : pc + 3 = pc1)
    (k : ∀ q : Nat, GV X (a + 1) (b + N) nL (ws ++ [(q, .inr (ci, fs))]) lo pc1 (.ref q :: st)) : GV X a b nL ws lo pc st := by
  subst hp
  intro H locs ls hP hD hS hl
  obtain ⟨cx, cb, cm, co, ct, cK, cA, cN, ⟨r1, r2, r3, r4⟩, cl⟩ := C
  exact va_new cx cb ct hin ty hty co (ct _ hcl) (ct _ hinst) (ct _ hini) cK hP hD hS cA hc hfs (Nat.le_trans ha r3) (Nat.le_trans hb r4) d (fun q H1 hP1 hD1 hS1 => k q H1 locs ls hP1 hD1 hS1 hl)
/-- a row of the kind int: its class is the one known -/
theorem g_newi (C : GF X cc own nL rk mc ms) {n : Int32} {N : Nat} (harr : Cond.arrayClass .int ∈ ALL) (hn : ¬ n < 0) (hN : n.toNatClampNeg = N) (hN1 : N ≤ 8) (ha : a + 1 ≤ mc) (hb : b + N ≤ ms) (d : decode cc pc = .ok (.newarray .int, 2)) (hp : pc + 2 = pc1)
    (k : ∀ q : Nat, GV X (a + 1) (b + N) nL (ws ++ [(q, .inl (xK X 0, N, .inl (fun _ => 0)))]) lo pc1 (.ref q :: st)) : GV X a b nL ws lo pc (.int n :: st) := by
  subst hp
  intro H locs ls hP hD hS hl
  obtain ⟨cx, cb, cm, co, ct, cK, cA, cN, ⟨r1, r2, r3, r4⟩, cl⟩ := C
  refine va_newa (atype := .int) (ty := .int) (a0 := (N, .inl (fun _ => 0))) cx cb (ct _ harr) rfl cK hP hD hS cA (fun _ => rfl) hn hN (by show N * 4 ≤ _; omega) (Nat.le_trans ha r3) (Nat.le_trans hb r4) d (fun q cA H1 hK1 hP1 hD1 hS1 => ?_)
  have e : cA = xK X 0 := by
    have h1 : (xs_ X).vm.findClass _ = some cA := (hK1.2 1 (cA, .int) rfl).2
    have h2 : (xs_ X).vm.findClass _ = some (xK X 0) := (cK.2 0 (xK X 0, .int) rfl).2
    exact Option.some.inj (h1.symm.trans h2)
  rw [e] at hP1 hD1
  exact k q H1 locs ls hP1 hD1 hS1 hl
/-- a row of another kind of numbers -/
theorem g_newa (C : GF X cc own nL rk mc ms) {n : Int32} {N : Nat} {atype : ArrayType} {ty : FieldType} {a0 : vp_A} {tys : List (ClassId × FieldType)} (hK : va_K (xD X) vwCl tys (xs_ X)) (hty : newarray.typeOf atype = ty) (harr : Cond.arrayClass (newarray.typeOf atype) ∈ ALL) (h0 : ∀ cA : ClassId, vp_cell cA a0 = arrV cA N (fun _ => defaultValue ty)) (hn : ¬ n < 0) (hN : n.toNatClampNeg = N) (hN1 : N * componentBytes ty ≤ 536870912) (ha : a + 1 ≤ mc) (hb : b + N ≤ ms) (d : decode cc pc = .ok (.newarray atype, 2)) (hp : pc + 2 = pc1)
    (k : ∀ (q : Nat) (cA : ClassId), va_K (xD X) vwCl (tys ++ [(cA, ty)]) (xs_ X) → GV X (a + 1) (b + N) nL (ws ++ [(q, .inl (cA, a0))]) lo pc1 (.ref q :: st)) : GV X a b nL ws lo pc (.int n :: st) := by
  subst hp
  intro H locs ls hP hD hS hl
  obtain ⟨cx, cb, cm, co, ct, cK, cA, cN, ⟨r1, r2, r3, r4⟩, cl⟩ := C
  exact va_newa cx cb (ct _ harr) hty hK hP hD hS cA h0 hn hN hN1 (Nat.le_trans ha r3) (Nat.le_trans hb r4) d (fun q cA H1 hK1 hP1 hD1 hS1 => k q cA hK1 H1 locs ls hP1 hD1 hS1 hl)
theorem g_newq (C : GF X cc own nL rk mc ms) {Cn : String} {n : Int32} {N idx : Nat} {tys : List (ClassId × FieldType)} (hK : va_K (xD X) vwCl tys (xs_ X)) (hcl : Cond.classLink own idx Cn ∈ ALL) (hover : va_AO Cn (xs_ X)) (hn : ¬ n < 0) (hN : n.toNatClampNeg = N) (hN1 : N ≤ 8) (ha : a + 1 ≤ mc) (hb : b + N ≤ ms) (d : decode cc pc = .ok (.anewarray idx, 3)) (hp : pc + 3 = pc1)
    (k : ∀ (q : Nat) (cA : ClassId), va_K (xD X) vwCl (tys ++ [(cA, .object Cn)]) (xs_ X) → GV X (a + 1) (b + N) nL (ws ++ [(q, .inl (cA, N, .inr (.inr (.inr (.inr (fun _ => none))))))]) lo pc1 (.ref q :: st)) : GV X a b nL ws lo pc (.int n :: st) := by
  subst hp
  intro H locs ls hP hD hS hl
  obtain ⟨cx, cb, cm, co, ct, cK, cA, cN, ⟨r1, r2, r3, r4⟩, cl⟩ := C
  exact va_newq cx cb co (ct _ hcl) hover hK hP hD hS cA hn hN (by omega) (Nat.le_trans ha r3) (Nat.le_trans hb r4) d (fun q cA H1 hK1 hP1 hD1 hS1 => k q cA hK1 H1 locs ls hP1 hD1 hS1 hl)
/-- fields: read, written, written once -/
theorem g_get (C : GF X cc own nL rk mc ms) {idx ci k x : Nat} {fs : List Value} {v : Value} (F : FL own idx ci k) (i : Nat) (he : ws[i]? = some (x, .inr (ci, fs))) (hv : fs[k]? = some v) (d : decode cc pc = .ok (.getfield idx, 3)) (hp : pc + 3 = pc1) (kk : GV X a b nL ws lo pc1 (v :: st)) : GV X a b nL ws lo pc (.ref x :: st) := by
  subst hp
  intro H locs ls hP hD hS hl
  obtain ⟨Cn, T, N, ty0, hc, hin, hk, hlk, hd, hty, hnm⟩ := F
  obtain ⟨cx, cb, cm, co, ct, cK, cA, cN, ⟨r1, r2, r3, r4⟩, cl⟩ := C
  exact va_get cx cb ct hin co cK hP i he hc k hk (ct _ hlk) (fun x h => by rw [hd] at h; exact h) hv d (kk H locs ls hP hD hS hl)
theorem g_put (C : GF X cc own nL rk mc ms) {idx ci k x : Nat} {ty : FieldType} {fs : List Value} {v : Value} (F : FLp own idx ci k ty) (i : Nat) (he : ws[i]? = some (x, .inr (ci, fs))) (hn : narrow ty v = v) (hf : fits ty v = true) (hl0 : k < fs.length) (d : decode cc pc = .ok (.putfield idx, 3)) (hp : pc + 3 = pc1) (kk : GV X a b nL (ws.set i (x, .inr (ci, fs.set k v))) lo pc1 st) : GV X a b nL ws lo pc (v :: .ref x :: st) := by
  subst hp
  intro H locs ls hP hD hS hl
  obtain ⟨Cn, T, N, ty0, hc, hin, hk, hlk, hd, hty, hnm, hfin, hpd⟩ := F
  obtain ⟨cx, cb, cm, co, ct, cK, cA, cN, ⟨r1, r2, r3, r4⟩, cl⟩ := C
  exact va_put cx cb ct hin ty0 hty hnm co cK hP hD hS i he hc k hk (ct _ hlk) (fun x h => by rw [hd] at h; exact h) hfin hpd hn hf hl0 d (fun H1 locs1 hP1 hD1 hS1 => kk H1 locs1 ls hP1 hD1 hS1 hl)
def FLf (own : String) (idx ci k : Nat) (ty : FieldType) : Prop := ∃ (T : u_T) (N : Nat) (ty0 : Nat → FieldType), vwCl[ci]? = some (own, T, N) ∧ (∀ w ∈ u_ws own T N, w ∈ ALL) ∧ k < N ∧ Cond.fieldLink own idx own (T k).2.1 (T k).2.2.1 ∈ ALL ∧ (T k).1 = own ∧
  (∀ k, k < N → parseFieldDescriptor (T k).2.2.1 = some (ty0 k)) ∧ (∀ a, a < N → ∀ b, b < N → a ≠ b → (T a).2.1 ≠ (T b).2.1) ∧ (T k).2.2.2 = true ∧ parseFieldDescriptor (T k).2.2.1 = some ty
theorem g_putF (C : GF X cc own nL rk mc ms) (hin2 : (xh X).name = "<init>") {idx ci k x : Nat} {ty : FieldType} {fs : List Value} {v : Value} (F : FLf own idx ci k ty) (i : Nat) (he : ws[i]? = some (x, .inr (ci, fs))) (hn : narrow ty v = v) (hf : fits ty v = true) (hl0 : k < fs.length) (d : decode cc pc = .ok (.putfield idx, 3)) (hp : pc + 3 = pc1) (kk : GV X a b nL (ws.set i (x, .inr (ci, fs.set k v))) lo pc1 st) : GV X a b nL ws lo pc (v :: .ref x :: st) := by
  subst hp
  intro H locs ls hP hD hS hl
  obtain ⟨T, N, ty0, hc, hin, hk, hlk, hd, hty, hnm, hfin, hpd⟩ := F
  obtain ⟨cx, cb, cm, co, ct, cK, cA, cN, ⟨r1, r2, r3, r4⟩, cl⟩ := C
  exact va_putF cx cb ct hin ty0 hty hnm co cK hP hD hS i he hc k hk (ct _ hlk) (fun x h => by rw [hd] at h; exact h) hfin hin2 hd hpd hn hf hl0 d (fun H1 locs1 hP1 hD1 hS1 => kk H1 locs1 ls hP1 hD1 hS1 hl)
theorem g_ast (C : GF X cc own nL rk mc ms) {tys : List (ClassId × FieldType)} (hK : va_K (xD X) vwCl tys (xs_ X)) (i t0 j ci : Nat) {x v n : Nat} {cA : ClassId} {r : vw_C} {vs : List Value} {f : Nat → Option Nat} {z : Int32} (he : ws[i]? = some (x, .inl (cA, n, .inr (.inr (.inr (.inr f)))))) (ht : tys[t0]? = some (cA, .object r.1)) (hv : ws[j]? = some (v, .inr (ci, vs))) (hc : vwCl[ci]? = some r) (hz : vp_in z n) (d : decode cc pc = .ok (.aastore, 1)) (hp : pc + 1 = pc1)
    (kk : GV X a b nL (ws.set i (x, .inl (cA, n, .inr (.inr (.inr (.inr (va_up f z.toNatClampNeg (some v)))))))) lo pc1 st) : GV X a b nL ws lo pc (.ref v :: .int z :: .ref x :: st) := by
  subst hp
  intro H locs ls hP hD hS hl
  obtain ⟨cx, cb, cm, co, ct, cK, cA, cN, ⟨r1, r2, r3, r4⟩, cl⟩ := C
  exact va_astq cx cb hK hP hD hS i t0 j ci he ht hv hc hz d (fun H1 locs1 hP1 hD1 hS1 => kk H1 locs1 ls hP1 hD1 hS1 hl)
end GR
/-! contracts of constructors: the new object h0 with the fields e0; behind it the world is one of F -/
def Pin (D : va_G) (K : Nat → ClassId) (h0 : Nat) (e0 : va_E) (sz : Nat) (U : State) : Prop := U.heap.size = sz ∧ va_P D vwCl [(h0, e0)] U.heap ∧ va_K D vwCl [(K 0, .int)] U ∧ va_D (fun _ => True) [(h0, e0)] ∧ Nx U
def Qin (D : va_G) (h0 : Nat) (e0 : va_E) (sz : Nat) (F : State → va_W → Prop) : Array Value → State → Outcome → State → Prop := fun _ st oc t => (oc = .returned none ∧ ∃ w1 : va_W, F t w1 ∧ va_P D vwCl w1 t.heap ∧ va_D (va_A [(h0, e0)] sz) w1) ∧ va_F (va_A [(h0, e0)] sz) st t
def CI (l : Launch) (y : MethodName) (bytes : ByteArray) (maxL rk mc ms : Nat) (D : va_G) (K : Nat → ClassId) (av : List Value) (h0 : Nat) (e0 : va_E) (F : State → va_W → Prop) : Prop :=
  ∀ sz, Met l y (wsM y bytes maxL none) (rmR rk mc ms) (va_Pc (.ref h0 :: av) (Pin D K h0 e0 sz)) (Qin D h0 e0 sz F) mc ms (va_A [(h0, e0)] sz)
theorem Pin_blind {D : va_G} {K : Nat → ClassId} {h0 sz : Nat} {e0 : va_E} {av : List Value} : FrameBlind (va_Pc av (Pin D K h0 e0 sz)) := fun a U f mk q => ⟨q.1, q.2.1, q.2.2.1, va_K.moved (u := U) (U := U.calling f mk a) (Vm.Alike.refl U.vm) q.2.2.2.1, q.2.2.2.2.1, Nx.same (s := U) (U := U.calling f mk a) rfl q.2.2.2.2.2⟩
section GM
variable {l : Launch} {y : MethodName} {bytes : ByteArray} {maxL rk mc ms : Nat} {D : va_G} {K : Nat → ClassId} {own : String}
def Gv (X : Cx) (cc : ByteArray) (mc ms : Nat) (F : State → va_W → Prop) : Prop := ∀ (a b nL : Nat) (ws : va_W) (lo : List (Nat × Value)) (pc : Nat), a ≤ mc → b ≤ ms → decode cc pc = .ok (.return_, 1) → (∀ t : State, (xs_ X).WarmedH t.vm → F t ws) → GV X a b nL ws lo pc []
theorem mk_in {av : List Value} {lo : List (Nat × Value)} {h0 : Nat} {e0 : va_E} {F : State → va_W → Prop} (hy : plainName y.cls = true) (hown : y.cls = own) (hinit : y.name = "<init>") (hlen : (lg_sl (.ref h0 :: av)).length ≤ maxL) (hlo : lv_args 0 (.ref h0 :: av) = lo)
    (body : ∀ X : Cx, xD X = D → xK X = K → GF X bytes own maxL rk mc ms → (xh X).name = "<init>" → Gv X bytes mc ms F → GV X 0 0 maxL [(h0, e0)] lo 0 []) : CI l y bytes maxL rk mc ms D K av h0 e0 F := by
  intro sz
  refine Met.ofW (cc := bytes) (maxL := maxL) (ret := none) hy rfl ?_
  intro p e s m args below meth c s₁ B hml hv
  obtain ⟨rfl, hsz, hP, hK, hD0, hN⟩ := hv
  subst hsz
  have hts0 := atoms_spec (ws := wsM y bytes maxL none) B.pre
  have k := body (p, l, e, rmR rk mc ms, s, m, (Value.ref h0 :: av).toArray, below, meth, c, D, K, fun _ => 0, va_A [(h0, e0)] s.heap.size, MQ below (Qin D h0 e0 s.heap.size F) (Value.ref h0 :: av).toArray s mc ms (va_A [(h0, e0)] s.heap.size)) rfl rfl
    ⟨B.exec, B.bytes, hml, by rw [← hown]; exact findClass_of_methodNamed B.named, fun w h => hts0 w (List.mem_cons_of_mem _ h), hK, fun q h => Or.inr h, hN, ⟨Nat.le_refl _, Nat.le_refl _, Nat.le_refl _, Nat.le_refl _⟩, B.notSynchronized⟩
    ((name_of_methodNamed B.named B.method).1.trans hinit) ?_
  · show W p l e _ s m _ below meth c s.heap [] 0 0 _ (entryFrame m _ maxL)
    rw [lg_entry_eq]
    have hl := lv_entry (.ref h0 :: av) hlen
    rw [hlo] at hl
    exact k _ _ _ hP hD0.self va_S.rf hl
  · intro a b nL ws lo1 pc ha hb d hF H locs ls hP hD hS hl
    exact W.widen ha hb (W.vret B.exec B.bytes B.returns (fun t ht hW => ⟨⟨rfl, ws, hF t hW, by rw [ht]; exact hP, hD⟩, hS.F ht⟩) hS.2.2 d B.notSynchronized)
end GM
theorem va_nd_range1 : ∀ (n k : Nat), va_nd (List.range' k n) = true
  | 0, _ => rfl
  | n + 1, k => by
    rw [List.range'_succ]
    show (decide (k ∉ List.range' (k + 1) n) && va_nd (List.range' (k + 1) n)) = true
    rw [va_nd_range1 n (k + 1), Bool.and_true, decide_eq_true_eq]
    intro h
    have := (List.mem_range'_1.mp h).1
    omega
theorem va_nd_range (n : Nat) : va_nd (List.range n) = true := by
  rw [List.range_eq_range']
  exact va_nd_range1 n 0
section GC
variable {X : Cx} {cc : ByteArray} {own : String} {a b nL rk mc ms : Nat} {lo : List (Nat × Value)} {pc pc1 : Nat} {st rest : List Value}
theorem g_join {mc1 ms1 h0 : Nat} {e0 : va_E} {wr : va_W} {F : State → va_W → Prop} {ar : Array Value} {H : Heap} {locs : List Loc} {ls : Array Slot} (hcA : ∀ q, (xs_ X).heap.size ≤ q → xA X q) (hP : va_P (xD X) vwCl (wr ++ [(h0, e0)]) H) (hD : va_D (xA X) (wr ++ [(h0, e0)])) (hS : va_S (xA X) (xs_ X).heap H locs) (hl : lv_has ls nL lo)
    (hr : va_Run (xp X) (xl X) (xe X) (xR X) (xs_ X) (xm X) (xa X) (xb X) (xh X) (xc X) H locs a b mc1 ms1 (F0 (xm X) pc ls st) rest (Qin (xD X) h0 e0 H.size F ar) (va_A [(h0, e0)] H.size))
    (kk : ∀ (t : State) (w1 : va_W), (xs_ X).vm.Alike t.vm → F t w1 → GV X (a + mc1) (b + ms1) nL (wr ++ w1) lo (pc + 3) rest) : WW X H locs a b (F0 (xm X) pc ls st) := by
  have hF : ∀ q, va_A [(h0, e0)] H.size q → xA X q := by
    rintro q (⟨k, e, h⟩ | h)
    · cases k with
      | zero => cases h; exact hD.2 wr.length (h0, e0) (by rw [List.getElem?_append_right (Nat.le_refl _), Nat.sub_self]; rfl)
      | succ k => cases h
    · exact hcA q (Nat.le_trans hS.1 h)
  intro T hT Y
  obtain ⟨v, st₀, t, T', L, hh, Y', hL, e1, e2, ⟨⟨hv, w1, hf, hP1, hD1⟩, hz, hk⟩, stp⟩ := hr T hT Y
  cases hv
  rw [hh] at hz hk
  rw [← e1] at hP1 hz hk
  have hj : va_P (xD X) vwCl (wr ++ w1) T'.heap ∧ va_D (xA X) (wr ++ w1) := by
    refine va_join (wc := [(h0, e0)]) hP hD [wr.length] (List.range wr.length) ?_ ?_ (va_nd_range _) ?_ (fun q h1 h2 => hk q h1 h2) hF hP1 hD1
    · rw [List.map_cons, List.map_nil, List.getElem?_append_right (Nat.le_refl _), Nat.sub_self]; rfl
    · refine List.ext_getElem? fun i => ?_
      by_cases hi : i < wr.length
      · rw [List.getElem?_map, List.getElem?_range hi, List.getElem?_map]
        show some ((wr ++ [(h0, e0)])[i]?) = Option.map some wr[i]?
        rw [List.getElem?_append_left hi]
        obtain ⟨x, hx⟩ : ∃ x, wr[i]? = some x := ⟨_, List.getElem?_eq_getElem hi⟩
        rw [hx]; rfl
      · rw [List.getElem?_eq_none (by rw [List.length_map, List.length_range]; omega), List.getElem?_eq_none (by rw [List.length_map]; omega)]
    · intro i hi hc
      have := List.mem_range.mp hi
      cases List.mem_singleton.mp hc
      omega
  obtain ⟨t2, a1, b1⟩ := kk t w1 (by rw [← e2]; exact Y'.warmed.alike) hf T'.heap (locs ++ L) ls hj.1 hj.2
    ⟨Nat.le_trans hS.1 hz, fun q h1 h2 => (hk q (Nat.lt_of_lt_of_le h1 hS.1) (fun z => h2 (hF q z))).trans (hS.2.1 q h1 h2), fun q hq => by
      rcases List.mem_append.mp hq with h | h
      · exact hS.2.2 q h
      · exact hF _ (hL q h)⟩ hl T' rfl Y'
  exact ⟨t2, stp t2 a1, b1⟩
theorem g_pre {av : List Value} {h0 : Nat} {e0 : va_E} {wr : va_W} {H : Heap} (C : GF X cc own nL rk mc ms) (hP : va_P (xD X) vwCl (wr ++ [(h0, e0)]) H) (hD : va_D (xA X) (wr ++ [(h0, e0)])) : PreS (xs_ X) H (va_Pc (.ref h0 :: av) (Pin (xD X) (xK X) h0 e0 H.size)) (.ref h0 :: av) := by
  have hx : (wr ++ [(h0, e0)])[wr.length]? = some (h0, e0) := by rw [List.getElem?_append_right (Nat.le_refl _), Nat.sub_self]; rfl
  refine ⟨Pin_blind, fun U hU hW => ⟨rfl, by rw [hU], ?_, va_K.moved hW.alike C.2.2.2.2.2.1, ?_, C.2.2.2.2.2.2.2.1.moved hW⟩⟩
  · intro k q hk
    cases k with
    | zero => cases hk; rw [hU]; exact hP _ _ hx
    | succ k => cases hk
  · refine ⟨fun i j p q hi hj _ => ?_, fun _ _ _ => trivial⟩
    cases i with
    | zero => cases j with
      | zero => rfl
      | succ j => cases hj
    | succ i => cases hi
theorem g_init (C : GF X cc own nL rk mc ms) {y : MethodName} {bytes : ByteArray} {maxL idx n rk1 mc1 ms1 h0 : Nat} {e0 : va_E} {av : List Value} {wr ws : va_W} {F : State → va_W → Prop} (k : KB own idx y bytes maxL none n) (hy : y.name = "<init>") (hi : Cond.instanceMethod y ∈ ALL)
    (M : CI (xl X) y bytes maxL rk1 mc1 ms1 (xD X) (xK X) av h0 e0 F) (hrk : rk1 + 1 ≤ rk) (hws : ws = wr ++ [(h0, e0)]) (hst : st = av.reverse ++ .ref h0 :: rest) (hn : av.length = n) (hcat : (rest.map fun v => v.category).sum ≤ 8) (ha : a + mc1 ≤ mc) (hb : b + ms1 ≤ ms)
    (d : decode cc pc = .ok (.invokespecial idx, 3)) (hp : pc + 3 = pc1) (kk : ∀ (t : State) (w1 : va_W), (xs_ X).vm.Alike t.vm → F t w1 → GV X (a + mc1) (b + ms1) nL (wr ++ w1) lo pc1 rest) : GV X a b nL ws lo pc st := by
  subst hp; subst hws
  intro H locs ls hP hD hS hl
  have hpre := g_pre (av := av) C hP hD
  obtain ⟨cx, cb, cm, co, ct, cK, cA, cN, ⟨r1, r2, r3, r4⟩, cl⟩ := C
  exact g_join cA hP hD hS hl (va_runI (As := av) (rest := rest) ⟨cx, cb, cm, co, ct⟩ (M H.size) ⟨k.b ct hrk r1 r2, hy, ct _ hi⟩ hpre rfl hn hl.1 hst (lv_room hcat) d ⟨Nat.le_trans ha r3, Nat.le_trans hb r4⟩) kk
/-- the constructor of a class nested in the same nest -/
def KN (own : String) (idx : Nat) (y : MethodName) (bytes : ByteArray) (maxL : Nat) (n : Nat) : Prop := Cond.code y bytes maxL none ∈ ALL ∧ Cond.initialized y.cls ∈ ALL ∧ (y.cls ≠ "java/lang/invoke/MethodHandle" ∧ y.cls ≠ "java/lang/invoke/VarHandle") ∧ (parseMethodDescriptor y.desc).map (fun d => d.parameters.length) = some n ∧ Cond.methodLinkNest own idx y RX4 ∈ nestL ∧ maxL ≤ 20
theorem g_initN (C : GF X cc own nL rk mc ms) {y : MethodName} {bytes : ByteArray} {maxL idx n rk1 mc1 ms1 h0 : Nat} {e0 : va_E} {av : List Value} {wr ws : va_W} {F : State → va_W → Prop} (k : KN own idx y bytes maxL n) (hy : y.name = "<init>") (hi : Cond.instanceMethod y ∈ ALL)
    (M : CI (xl X) y bytes maxL rk1 mc1 ms1 (xD X) (xK X) av h0 e0 F) (hrk : rk1 + 1 ≤ rk) (hws : ws = wr ++ [(h0, e0)]) (hst : st = av.reverse ++ .ref h0 :: rest) (hn : av.length = n) (hcat : (rest.map fun v => v.category).sum ≤ 8) (ha : a + mc1 ≤ mc) (hb : b + ms1 ≤ ms)
    (d : decode cc pc = .ok (.invokespecial idx, 3)) (hp : pc + 3 = pc1) (kk : ∀ (t : State) (w1 : va_W), (xs_ X).vm.Alike t.vm → F t w1 → GV X (a + mc1) (b + ms1) nL (wr ++ w1) lo pc1 rest) : GV X a b nL ws lo pc st := by
  subst hp; subst hws
  intro H locs ls hP hD hS hl
  have hpre := g_pre (av := av) C hP hD
  obtain ⟨cx, cb, cm, co, ct, cK, cA, cN, ⟨r1, r2, r3, r4⟩, cl⟩ := C
  obtain ⟨k1, k2, k3, k4, k5, k6⟩ := k
  refine g_join cA hP hD hS hl (va_runIN (As := av) (rest := rest) ⟨cx, cb, cm, co, ct⟩ (M H.size) ⟨va_cnB (ret := none) n ct (wsM_good k1) rfl rfl rfl (cN.1 _ k5) (ct _ k2) ⟨k3.1, k3.2, k4⟩ ⟨?_, ?_⟩, hy, ct _ hi⟩ hpre rfl hn hl.1 hst (lv_room hcat) d ⟨Nat.le_trans ha r3, Nat.le_trans hb r4⟩) kk
  · show rk1 + 1 ≤ (xR X).frames
    omega
  · show 8 + (maxL + 11) + 40 * rk1 ≤ (xR X).locals
    omega
end GC
