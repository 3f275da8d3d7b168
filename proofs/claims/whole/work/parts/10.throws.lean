/-! methods that may throw, walked -/
/-- q, of the class E, is thrown over the frame at pc -/
def VX (X : Cx) (a b nL : Nat) (sg : Sg) (o : Ot) (lo : List (Nat × Value)) (pc : Nat) (rest : List Value) (E : String) : Prop :=
  ∀ (H : Heap) (locs : List Loc) (ls : Array Slot) (q : Addr) (ce : Cell), Wd (xD X) (xK X) (xg X) sg o H → va_S (xA X) (xs_ X).heap H locs → lv_has ls nL lo → H[q]? = some ce → ce.vm = .none → (xs_ X).vm.findClass E = some ce.cls →
    vx_W (xp X) (xl X) (xe X) (xR X) (xs_ X) (xm X) (xa X) (xb X) (xh X) (xc X) H locs a b (xQ X) (F0 (xm X) pc ls rest) q
/-- it goes on to the caller -/
def Tq (X : Cx) (mc ms : Nat) (sg : Sg) (o : Ot) (ex : Option String) : Prop := ∀ (a b nL : Nat) (lo : List (Nat × Value)) (pc : Nat) (rest : List Value) (E : String), a ≤ mc → b ≤ ms → ex = some E → VX X a b nL sg o lo pc rest E
/-- the words of a throw site -/
def TS (own : String) (ik ix_ ic : Nat) (E tx : String) (L : List Cond) : Prop := Cond.classLink own ik E ∈ ALL ∧ Cond.initialized E ∈ ALL ∧ (∀ w ∈ L.filter goodWord, w ∈ ALL) ∧ (∀ w ∈ L.filter (fun w => !goodWord w), w ∈ Cond.castable E E :: dcL.map Cond.declares) ∧ (∀ w ∈ Cond.classLink own ik E :: Cond.initialized E :: L, vx_ot w = true) ∧ E ∈ exL ∧ (ix_, tx) ∈ strL ∧ Bundle.fit E = true ∧ own = RX4
def nmS : List String := ["java/lang/RuntimeException", "java/lang/Exception"]
def nmN : List String := ["java/lang/Exception"]
def btN : ByteArray := ⟨#[0x2a, 0x2b, 0xb7, 0x00, 0x0d, 0xb1]⟩
abbrev atN_ (own : String) (ic : Nat) (E : String) : List Cond := vy_at own ic E "java/lang/RuntimeException" 13 btN nmN
abbrev atS_ (own : String) (ic : Nat) (E : String) : List Cond := vx_atS own ic E nmS
/-- 'throw new E(text)' at pc: the classes but NoSuchElementException (S, and W by the wide index), and that one (N, M) -/
def ThS (X : Cx) (cc : ByteArray) (own : String) (nL rk mc ms : Nat) (sg : Sg) (o : Ot) (ex : Option String) : Prop := ∀ (a b : Nat) (lo : List (Nat × Value)) (pc : Nat) (st : List Value) (ik is ic : Nat) (E tx : String), TS own ik is ic E tx (atS_ own ic E) →
  decode cc pc = .ok (.new ik, 3) → decode cc (pc + 3) = .ok (.dup, 1) → decode cc (pc + 4) = .ok (.ldc is, 2) → decode cc (pc + 6) = .ok (.invokespecial ic, 3) → decode cc (pc + 9) = .ok (.athrow, 1) → 8 ≤ rk → (st.map fun v => v.category).sum ≤ 8 → a + 1 ≤ mc → b + 6 ≤ ms → ex = some E → V X a b nL sg o lo pc st
def ThW (X : Cx) (cc : ByteArray) (own : String) (nL rk mc ms : Nat) (sg : Sg) (o : Ot) (ex : Option String) : Prop := ∀ (a b : Nat) (lo : List (Nat × Value)) (pc : Nat) (st : List Value) (ik is ic : Nat) (E tx : String), TS own ik is ic E tx (atS_ own ic E) →
  decode cc pc = .ok (.new ik, 3) → decode cc (pc + 3) = .ok (.dup, 1) → decode cc (pc + 4) = .ok (.ldc_w is, 3) → decode cc (pc + 7) = .ok (.invokespecial ic, 3) → decode cc (pc + 10) = .ok (.athrow, 1) → 8 ≤ rk → (st.map fun v => v.category).sum ≤ 8 → a + 1 ≤ mc → b + 6 ≤ ms → ex = some E → V X a b nL sg o lo pc st
def ThN (X : Cx) (cc : ByteArray) (own : String) (nL rk mc ms : Nat) (sg : Sg) (o : Ot) (ex : Option String) : Prop := ∀ (a b : Nat) (lo : List (Nat × Value)) (pc : Nat) (st : List Value) (ik is ic : Nat) (E tx : String), TS own ik is ic E tx (atN_ own ic E) →
  decode cc pc = .ok (.new ik, 3) → decode cc (pc + 3) = .ok (.dup, 1) → decode cc (pc + 4) = .ok (.ldc is, 2) → decode cc (pc + 6) = .ok (.invokespecial ic, 3) → decode cc (pc + 9) = .ok (.athrow, 1) → 8 ≤ rk → (st.map fun v => v.category).sum ≤ 8 → a + 1 ≤ mc → b + 6 ≤ ms → ex = some E → V X a b nL sg o lo pc st
def ThM (X : Cx) (cc : ByteArray) (own : String) (nL rk mc ms : Nat) (sg : Sg) (o : Ot) (ex : Option String) : Prop := ∀ (a b : Nat) (lo : List (Nat × Value)) (pc : Nat) (st : List Value) (ik is ic : Nat) (E tx : String), TS own ik is ic E tx (atN_ own ic E) →
  decode cc pc = .ok (.new ik, 3) → decode cc (pc + 3) = .ok (.dup, 1) → decode cc (pc + 4) = .ok (.ldc_w is, 3) → decode cc (pc + 7) = .ok (.invokespecial ic, 3) → decode cc (pc + 10) = .ok (.athrow, 1) → 8 ≤ rk → (st.map fun v => v.category).sum ≤ 8 → a + 1 ≤ mc → b + 6 ≤ ms → ex = some E → V X a b nL sg o lo pc st
/-- all that a walk of a throwing body is given -/
def Th (X : Cx) (cc : ByteArray) (own : String) (nL rk mc ms : Nat) (sg : Sg) (o : Ot) (ex : Option String) : Prop := Xw (xA X) (xs_ X) ∧ Tq X mc ms sg o ex ∧ ThS X cc own nL rk mc ms sg o ex ∧ ThW X cc own nL rk mc ms sg o ex ∧ ThN X cc own nL rk mc ms sg o ex ∧ ThM X cc own nL rk mc ms sg o ex ∧ (xl X).stackTraces = false
section MX
variable {l : Launch} {y : MethodName} {bytes : ByteArray} {maxL rk mc ms : Nat} {rt : FieldType} {av : (Nat → Nat) → List Value} {sg sg1 : Sg} {o o1 : Ot} {D : va_G} {K : Nat → ClassId} {g : Nat → Nat} {own : String} {lo : (Nat → Nat) → List (Nat × Value)} {ex : Option String}
abbrev XCf (D : va_G) (K : Nat → ClassId) (g : Nat → Nat) (sg : Sg) (o : Ot) (ex : Option String) : String → State → State → Prop := vx_X (fun E : String => ex = some E) (fun E1 E t => E1 = E ∧ Wd D K g sg o t.heap) (inG g)
abbrev QCf (D : va_G) (K : Nat → ClassId) (g : Nat → Nat) (rv : Option Value) (sg1 : Sg) (o1 : Ot) (ex : Option String) : Array Value → State → Outcome → State → Prop := fun a st oc t => ex = none ∧ Rt D K g rv sg1 o1 a st oc t
theorem mk_atw {X : Cx} {L : List Cond} {E : String} (hts : ∀ w ∈ ALL, w.before (xa X) (xs_ X) = true) (hw : Xw (xA X) (xs_ X)) (hE : E ∈ exL) (h1 : ∀ w ∈ L.filter goodWord, w ∈ ALL) (h2 : ∀ w ∈ L.filter (fun w => !goodWord w), w ∈ Cond.castable E E :: dcL.map Cond.declares) : ∀ w ∈ L, w.before (xa X) (xs_ X) = true :=
  vx_hat (fun w h => hts w (h1 w h)) h2 (vx_c (va_Nw.use rfl (hw.2.1.1 E hE)) (fun w h => by obtain ⟨y, hy, rfl⟩ := List.mem_map.mp h; exact va_Nw.use rfl (hw.2.1.2 y hy)))
theorem mk_xc {X : Cx} {H : Heap} {locs : List Loc} {E : String} (hA : xA X = inG (xg X)) (hP : Wd (xD X) (xK X) (xg X) sg o H) (hS : va_S (xA X) (xs_ X).heap H locs) (he : ex = some E) : ∀ t : State, (xs_ X).vm.Alike t.vm → H.size ≤ t.heap.size → (∀ q : Nat, q < H.size → t.heap[q]? = H[q]?) → XCf (xD X) (xK X) (xg X) sg o ex E (xs_ X) t := by
  intro t _ hz hq
  refine ⟨E, he, ⟨rfl, hP.kept fun k q hk => hq _ (hP k q hk).lt⟩, Nat.le_trans hS.1 hz, fun q h1 h2 => ?_⟩
  rw [hq q (Nat.lt_of_lt_of_le h1 hS.1)]
  exact hS.2.1 q h1 (by rw [hA]; exact h2)
theorem mk_Th {X : Cx} {rv : Option Value} (hA : xA X = inG (xg X)) (hQ : xQ X = vx_MQ (xb X) (QCf (xD X) (xK X) (xg X) rv sg1 o1 ex) (XCf (xD X) (xK X) (xg X) sg o ex) (xa X) (xs_ X) mc ms (inG (xg X))) (C : CF X bytes own maxL rk mc ms) (hl : (xl X).stackTraces = false) (hex : ∀ x ∈ (xc X).exceptionTable.toList, False) (hw : Xw (xA X) (xs_ X)) : Th X bytes own maxL rk mc ms sg o ex := by
  obtain ⟨cx, cb, cm, co, ct, cK, cG, cA, ⟨r1, r2, r3, r4⟩, cl⟩ := C
  have hml : ∀ {nL : Nat} {ls : Array Slot}, True := fun {_ _} => trivial
  refine ⟨hw, ?_, ?_, ?_, ?_, ?_, hl⟩
  · intro a b nL lo pc rest E ha hb he H locs ls q ce hP hS _ hc hv hcl
    rw [hQ]
    exact vx_out (fun x hx => (hex x hx).elim) cl hc hv hcl (fun t ht _ => ⟨E, he, ⟨rfl, by rw [ht]; exact hP⟩, by have := hS.F (t := t) ht; rw [hA] at this; exact this⟩) (fun z hz => by rw [← hA]; exact hS.2.2 z hz) ha hb
  · intro a b lo pc st ik is ic E tx ts d0 d3 d4 d6 d9 h8 hcat ha hb he H locs ls hP hS hl1
    obtain ⟨t1, t2, t3, t4, t5, t6, t7, t8, t9⟩ := ts
    obtain ⟨sa, hsa⟩ := hw.2.2 _ t7
    have hats := mk_atw (X := X) (E := E) ct hw t6 t3 t4
    unfold WW
    rw [hQ]
    exact vx_throwS (names := nmS) cx cb hl co t8 (by decide) (ct _ t1) (ct _ t2) (by rw [t9]; exact hsa) hats t5 hw.1.1 hw.1.2 hS (hl1.1.trans cm.symm) d0 d3 d4 d6 d9 (fun x hx => (hex x hx).elim) (Nat.lt_of_lt_of_le (by decide) (Nat.le_trans h8 r1)) (Nat.le_trans (Nat.add_le_add_right hcat _) (Nat.le_trans (Nat.le_trans (by decide) (Nat.mul_le_mul_left 40 h8)) r2)) (Nat.le_trans ha r3) (Nat.le_trans hb r4) cl (mk_xc hA hP hS he) (fun z hz => by rw [← hA]; exact hS.2.2 z hz) ha hb
  · intro a b lo pc st ik is ic E tx ts d0 d3 d4 d6 d9 h8 hcat ha hb he H locs ls hP hS hl1
    obtain ⟨t1, t2, t3, t4, t5, t6, t7, t8, t9⟩ := ts
    obtain ⟨sa, hsa⟩ := hw.2.2 _ t7
    have hats := mk_atw (X := X) (E := E) ct hw t6 t3 t4
    unfold WW
    rw [hQ]
    exact vx_throwSW (names := nmS) cx cb hl co t8 (by decide) (ct _ t1) (ct _ t2) (by rw [t9]; exact hsa) hats t5 hw.1.1 hw.1.2 hS (hl1.1.trans cm.symm) d0 d3 d4 d6 d9 (fun x hx => (hex x hx).elim) (Nat.lt_of_lt_of_le (by decide) (Nat.le_trans h8 r1)) (Nat.le_trans (Nat.add_le_add_right hcat _) (Nat.le_trans (Nat.le_trans (by decide) (Nat.mul_le_mul_left 40 h8)) r2)) (Nat.le_trans ha r3) (Nat.le_trans hb r4) cl (mk_xc hA hP hS he) (fun z hz => by rw [← hA]; exact hS.2.2 z hz) ha hb
  · intro a b lo pc st ik is ic E tx ts d0 d3 d4 d6 d9 h8 hcat ha hb he H locs ls hP hS hl1
    obtain ⟨t1, t2, t3, t4, t5, t6, t7, t8, t9⟩ := ts
    obtain ⟨sa, hsa⟩ := hw.2.2 _ t7
    have hats := mk_atw (X := X) (E := E) ct hw t6 t3 t4
    unfold WW
    rw [hQ]
    exact vy_throwS (names := nmN) (bts := btN) (idx := 13) (sup := "java/lang/RuntimeException") (g0 := by decide +kernel) (g1 := by decide +kernel) (g2 := by decide +kernel) (g5 := by decide +kernel) (hsup := by decide) cx cb hl co t8 (by decide) (ct _ t1) (ct _ t2) (by rw [t9]; exact hsa) hats t5 hw.1.1 hw.1.2 hS (hl1.1.trans cm.symm) d0 d3 d4 d6 d9 (fun x hx => (hex x hx).elim) (Nat.lt_of_lt_of_le (by decide) (Nat.le_trans h8 r1)) (Nat.le_trans (Nat.add_le_add_right hcat _) (Nat.le_trans (Nat.le_trans (by decide) (Nat.mul_le_mul_left 40 h8)) r2)) (Nat.le_trans ha r3) (Nat.le_trans hb r4) cl (mk_xc hA hP hS he) (fun z hz => by rw [← hA]; exact hS.2.2 z hz) ha hb
  · intro a b lo pc st ik is ic E tx ts d0 d3 d4 d6 d9 h8 hcat ha hb he H locs ls hP hS hl1
    obtain ⟨t1, t2, t3, t4, t5, t6, t7, t8, t9⟩ := ts
    obtain ⟨sa, hsa⟩ := hw.2.2 _ t7
    have hats := mk_atw (X := X) (E := E) ct hw t6 t3 t4
    unfold WW
    rw [hQ]
    exact vy_throwSW (names := nmN) (bts := btN) (idx := 13) (sup := "java/lang/RuntimeException") (g0 := by decide +kernel) (g1 := by decide +kernel) (g2 := by decide +kernel) (g5 := by decide +kernel) (hsup := by decide) cx cb hl co t8 (by decide) (ct _ t1) (ct _ t2) (by rw [t9]; exact hsa) hats t5 hw.1.1 hw.1.2 hS (hl1.1.trans cm.symm) d0 d3 d4 d6 d9 (fun x hx => (hex x hx).elim) (Nat.lt_of_lt_of_le (by decide) (Nat.le_trans h8 r1)) (Nat.le_trans (Nat.add_le_add_right hcat _) (Nat.le_trans (Nat.le_trans (by decide) (Nat.mul_le_mul_left 40 h8)) r2)) (Nat.le_trans ha r3) (Nat.le_trans hb r4) cl (mk_xc hA hP hS he) (fun z hz => by rw [← hA]; exact hS.2.2 z hz) ha hb
theorem mk_xstart {ret : Option FieldType} {rv : Option Value} (hy : plainName y.cls = true) (hown : y.cls = own) (hlen : ∀ g, (lg_sl (av g)).length ≤ maxL) (hlo : ∀ g, lv_args 0 (av g) = lo g) (hl : l.stackTraces = false)
    (body : ∀ X : Cx, CF X bytes own maxL rk mc ms → (∀ (H : Heap) (locs : List Loc) (a b : Nat) (g1 : JFrame), (ex = none → W (xp X) (xl X) (xe X) (xR X) (xs_ X) (xm X) (xa X) (xb X) (xh X) (xc X) H locs a b (MQ (xb X) (QCf (xD X) (xK X) (xg X) rv sg1 o1 ex) (xa X) (xs_ X) mc ms (inG (xg X))) g1) → ex = none → WW X H locs a b g1) → (xh X).sig.returnType = ret → xA X = inG (xg X) → Th X bytes own maxL rk mc ms sg o ex → V X 0 0 maxL sg o (lo (xg X)) 0 []) : CX l y bytes maxL ret rk mc ms D K g (av g) sg o ex rv sg1 o1 := by
  refine vx_ofW (cc := bytes) (maxL := maxL) (ret := ret) hy rfl ?_
  intro p e s m args below meth c s₁ B hml hex hv
  obtain ⟨rfl, ⟨hP, hK, hG⟩, hw⟩ := hv
  have hts0 := atoms_spec (ws := wsM y bytes maxL ret) B.pre
  have C := mk_C (Q := vx_MQ below (QCf D K g rv sg1 o1 ex) (XCf D K g sg o ex) (av g).toArray s mc ms (inG g)) (own := own) hown hK hG (fun w h => hts0 w (List.mem_cons_of_mem _ h)) B hml
  refine mk_start (X := (p, l, e, rmR rk mc ms, s, m, (av g).toArray, below, meth, c, D, K, g, inG g, vx_MQ below (QCf D K g rv sg1 o1 ex) (XCf D K g sg o ex) (av g).toArray s mc ms (inG g))) (hlen g) (hlo g) hP (body _ C ?_ B.returns rfl (mk_Th rfl rfl C hl hex hw))
  intro H locs a b g1 h he
  exact vx_ret (h he)
theorem mk_xi {r : Int32} (hy : plainName y.cls = true) (hown : y.cls = own) (hn : narrow rt (.int r) = .int r) (hlen : ∀ g, (lg_sl (av g)).length ≤ maxL) (hlo : ∀ g, lv_args 0 (av g) = lo g) (hl : l.stackTraces = false)
    (body : ∀ X : Cx, CF X bytes own maxL rk mc ms → (ex = none → Ei X bytes mc ms sg1 o1 r) → Th X bytes own maxL rk mc ms sg o ex → V X 0 0 maxL sg o (lo (xg X)) 0 []) : CX l y bytes maxL (some rt) rk mc ms D K g (av g) sg o ex (some (.int r)) sg1 o1 := by
  refine mk_xstart hy hown hlen hlo hl fun X C hq hr hA T => body X C (fun he => ?_) T
  intro a b nL lo pc ha hb d H locs ls hP hS hl
  refine hq H locs a b _ (fun _ => W.widen ha hb (W.zret C.1 C.2.1 hr hn (fun t ht hW => ⟨he, ⟨rfl, by rw [ht]; exact hP⟩, by have := hS.F (t := t) ht; rw [hA] at this; exact this⟩) (fun z hz => by rw [← hA]; exact hS.2.2 z hz) d C.2.2.2.2.2.2.2.2.2)) he
theorem mk_xv (hy : plainName y.cls = true) (hown : y.cls = own) (hlen : ∀ g, (lg_sl (av g)).length ≤ maxL) (hlo : ∀ g, lv_args 0 (av g) = lo g) (hl : l.stackTraces = false)
    (body : ∀ X : Cx, CF X bytes own maxL rk mc ms → (ex = none → Ev X bytes mc ms sg1 o1) → Th X bytes own maxL rk mc ms sg o ex → V X 0 0 maxL sg o (lo (xg X)) 0 []) : CX l y bytes maxL none rk mc ms D K g (av g) sg o ex none sg1 o1 := by
  refine mk_xstart hy hown hlen hlo hl fun X C hq hr hA T => body X C (fun he => ?_) T
  intro a b nL lo pc ha hb d H locs ls hP hS hl
  refine hq H locs a b _ (fun _ => W.widen ha hb (W.vret C.1 C.2.1 hr (fun t ht hW => ⟨he, ⟨rfl, by rw [ht]; exact hP⟩, by have := hS.F (t := t) ht; rw [hA] at this; exact this⟩) (fun z hz => by rw [← hA]; exact hS.2.2 z hz) d C.2.2.2.2.2.2.2.2.2)) he
theorem mk_xf {r : UInt32} (hy : plainName y.cls = true) (hown : y.cls = own) (hlen : ∀ g, (lg_sl (av g)).length ≤ maxL) (hlo : ∀ g, lv_args 0 (av g) = lo g) (hl : l.stackTraces = false)
    (body : ∀ X : Cx, CF X bytes own maxL rk mc ms → (ex = none → Ef X bytes mc ms sg1 o1 r) → Th X bytes own maxL rk mc ms sg o ex → V X 0 0 maxL sg o (lo (xg X)) 0 []) : CX l y bytes maxL (some .float) rk mc ms D K g (av g) sg o ex (some (.float r)) sg1 o1 := by
  refine mk_xstart hy hown hlen hlo hl fun X C hq hr hA T => body X C (fun he => ?_) T
  intro a b nL lo pc ha hb d H locs ls hP hS hl
  refine hq H locs a b _ (fun _ => W.widen ha hb (W.fret C.1 C.2.1 hr (fun t ht hW => ⟨he, ⟨rfl, by rw [ht]; exact hP⟩, by have := hS.F (t := t) ht; rw [hA] at this; exact this⟩) (fun z hz => by rw [← hA]; exact hS.2.2 z hz) d C.2.2.2.2.2.2.2.2.2)) he
theorem mk_xd {r : UInt64} (hy : plainName y.cls = true) (hown : y.cls = own) (hlen : ∀ g, (lg_sl (av g)).length ≤ maxL) (hlo : ∀ g, lv_args 0 (av g) = lo g) (hl : l.stackTraces = false)
    (body : ∀ X : Cx, CF X bytes own maxL rk mc ms → (ex = none → Ed X bytes mc ms sg1 o1 r) → Th X bytes own maxL rk mc ms sg o ex → V X 0 0 maxL sg o (lo (xg X)) 0 []) : CX l y bytes maxL (some .double) rk mc ms D K g (av g) sg o ex (some (.double r)) sg1 o1 := by
  refine mk_xstart hy hown hlen hlo hl fun X C hq hr hA T => body X C (fun he => ?_) T
  intro a b nL lo pc ha hb d H locs ls hP hS hl
  refine hq H locs a b _ (fun _ => W.widen ha hb (W.dret C.1 C.2.1 hr (fun t ht hW => ⟨he, ⟨rfl, by rw [ht]; exact hP⟩, by have := hS.F (t := t) ht; rw [hA] at this; exact this⟩) (fun z hz => by rw [← hA]; exact hS.2.2 z hz) d C.2.2.2.2.2.2.2.2.2)) he
end MX
section VCX
variable {X : Cx} {cc : ByteArray} {own : String} {a b nL rk mc ms : Nat} {sg sg1 : Sg} {o o1 : Ot} {lo : List (Nat × Value)} {pc pc1 : Nat} {st rest : List Value}
theorem v_runX {mc1 ms1 : Nat} {ex : Option String} {ar : Array Value} {rv : Option Value} {H : Heap} {locs : List Loc} {ls : Array Slot} (hr : vx_Run (xp X) (xl X) (xe X) (xR X) (xs_ X) (xm X) (xa X) (xb X) (xh X) (xc X) H locs a b mc1 ms1 (F0 (xm X) pc ls st) rest (QCf (xD X) (xK X) (xg X) rv sg1 o1 ex ar) (XCf (xD X) (xK X) (xg X) sg o ex) (inG (xg X))) (hS : va_S (xA X) (xs_ X).heap H locs) (hA : ∀ q, inG (xg X) q → xA X q) (hl : lv_has ls nL lo)
    (kx : ∀ E, ex = some E → VX X (a + mc1) (b + ms1) nL sg o lo pc rest E) (kk : ex = none → V X (a + mc1) (b + ms1) nL sg1 o1 lo (pc + 3) (rv.toList ++ rest)) : WW X H locs a b (F0 (xm X) pc ls st) := by
  intro T hT Y
  rcases hr T hT Y with ⟨v, st₀, t, T', L, h0, Y', hL, e1, e2, ⟨he, ⟨hv, hp⟩, hF⟩, stp⟩ | ⟨q, st₀, t, T', L, E, ce, h0, Y', hL, e1, e2, ⟨u, he, ⟨rfl, hb⟩, hF⟩, hce, hcv, hcl, stp⟩
  · cases hv
    obtain ⟨k1, k2, k3⟩ := vx_keep h0 e1 hS (fun q _ h => hA q h) (fun q h => hA q h) hL hF
    obtain ⟨t2, a1, b1⟩ := kk he T'.heap (locs ++ L) ls (by rw [e1]; exact hp) k3 hl T' rfl Y'
    exact ⟨t2, stp t2 a1, b1⟩
  · obtain ⟨k1, k2, k3⟩ := vx_keep h0 e1 hS (fun q _ h => hA q h) (fun q h => hA q h) hL hF
    obtain ⟨t2, a1, b1⟩ := kx _ he T'.heap (locs ++ L) ls q ce (by rw [e1]; exact hb) k3 hl (by rw [e1]; exact hce) hcv hcl T' rfl Y'
    exact ⟨t2, stp.trans a1, b1⟩
theorem v_callVX (C : CF X cc own nL rk mc ms) (hw : Xw (xA X) (xs_ X)) {y : MethodName} {bytes : ByteArray} {maxL idx n rk1 mc1 ms1 c ci : Nat} {ret : Option FieldType} {ex : Option String} {rv : Option Value} {sl : List Nat} {q : vw_C} {As : List Value} (k : KV own idx y bytes maxL ret n)
    (M : CX (xl X) y bytes maxL ret rk1 mc1 ms1 (xD X) (xK X) (xg X) (.ref (xg X c) :: As) sg o ex rv sg1 o1) (hrk : rk1 + 1 ≤ rk) (hc : c < 68) (hy : lay c = .inl (ci, sl)) (hq : vwCl[ci]? = some q) (hq1 : q.1 = y.cls) (hst : st = As.reverse ++ .ref (xg X c) :: rest) (hn : As.length = n) (hcat : (rest.map fun v => v.category).sum ≤ 8) (ha : a + mc1 ≤ mc) (hb : b + ms1 ≤ ms)
    (d : decode cc pc = .ok (.invokevirtual idx, 3)) (hp : pc + 3 = pc1) (kx : ∀ E, ex = some E → VX X (a + mc1) (b + ms1) nL sg o lo pc rest E) (kk : ex = none → V X (a + mc1) (b + ms1) nL sg1 o1 lo pc1 (rv.toList ++ rest)) : V X a b nL sg o lo pc st := by
  subst hp
  intro H locs ls hP hS hl
  obtain ⟨cx, cb, cm, co, ct, cK, cG, cA, ⟨r1, r2, r3, r4⟩, cl⟩ := C
  refine v_runX (vx_runV (As := As) (rest := rest) (C := y.cls) ⟨cx, cb, cm, co, ct⟩ M ⟨k.1.b ct hrk r1 r2, ct _ k.2.1, ct _ k.2.2⟩ ⟨Pwx_blind, ?_, fun U hU hW => ⟨rfl, ⟨by rw [hU]; exact hP, va_K.moved hW.alike cK, cG⟩, hw.go hS hU hW cA⟩⟩ rfl hn hl.1 hst (lv_room hcat) d ⟨Nat.le_trans ha r3, Nat.le_trans hb r4⟩) hS cA hl kx kk
  rw [← hq1]
  exact v_recv cK hP hc hy hq
theorem v_callSX (C : CF X cc own nL rk mc ms) (hw : Xw (xA X) (xs_ X)) {y : MethodName} {bytes : ByteArray} {maxL idx n rk1 mc1 ms1 : Nat} {ret : Option FieldType} {ex : Option String} {rv : Option Value} {As : List Value} (k : KS own idx y bytes maxL ret n)
    (M : CX (xl X) y bytes maxL ret rk1 mc1 ms1 (xD X) (xK X) (xg X) As sg o ex rv sg1 o1) (hrk : rk1 + 1 ≤ rk) (hst : st = As.reverse ++ rest) (hn : As.length = n) (hcat : (rest.map fun v => v.category).sum ≤ 8) (ha : a + mc1 ≤ mc) (hb : b + ms1 ≤ ms)
    (d : decode cc pc = .ok (.invokestatic idx, 3)) (hp : pc + 3 = pc1) (kx : ∀ E, ex = some E → VX X (a + mc1) (b + ms1) nL sg o lo pc rest E) (kk : ex = none → V X (a + mc1) (b + ms1) nL sg1 o1 lo pc1 (rv.toList ++ rest)) : V X a b nL sg o lo pc st := by
  subst hp
  intro H locs ls hP hS hl
  obtain ⟨cx, cb, cm, co, ct, cK, cG, cA, ⟨r1, r2, r3, r4⟩, cl⟩ := C
  exact v_runX (vx_runS (As := As) (rest := rest) ⟨cx, cb, cm, co, ct⟩ M ⟨k.1.b ct hrk r1 r2, ct _ k.2⟩ ⟨Pwx_blind, fun U hU hW => ⟨rfl, ⟨by rw [hU]; exact hP, va_K.moved hW.alike cK, cG⟩, hw.go hS hU hW cA⟩⟩ rfl hn hl.1 hst (lv_room hcat) d ⟨Nat.le_trans ha r3, Nat.le_trans hb r4⟩) hS cA hl kx kk
end VCX
