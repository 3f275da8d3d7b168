/-! THE WORLD OF THIS CLAIM: sixty-eight cells that never move: the desk (0 to 40), the reference (41 to 65), the law's two rows (66, 67). What they hold: sg, a number for each cell and place; the two rows of the law: ot. -/
abbrev Sg : Type := Nat → Nat → Int32
abbrev Ot : Type := Int64 × UInt64
abbrev Lk : Type := (Nat × List Nat) ⊕ (Nat × Nat × Nat)
abbrev ix (x : Int32) : Nat := x.toNatClampNeg
def up (sg : Sg) (c k : Nat) (v : Int32) : Sg := fun c1 k1 => if c1 = c ∧ k1 = k then v else sg c1 k1
/-- the layout: an object: its class's place in vwCl, for each field 0: a number, 1: a town or null, d + 2: the cell d; a row: its kind, its length, the first cell that it names -/
def lay (c : Nat) : Lk :=
  if c < 23 then
    (match c with
    | 0 => .inl (6, [3, 4, 5, 6, 7, 13, 19, 0, 0, 0, 1, 0, 0])
    | 1 => .inr (2, 8, 23)
    | 2 => .inr (3, 6, 31)
    | 3 => .inr (4, 4, 37)
    | 4 => .inr (0, 3, 0)
    | 5 => .inl (4, [8, 9, 10, 11, 12, 0, 0, 0])
    | 10 => .inr (0, 8, 0)
    | 11 => .inl (4, [14, 15, 16, 17, 18, 0, 0, 0])
    | 16 => .inr (0, 8, 0)
    | 17 => .inl (4, [20, 21, 22, 23, 24, 0, 0, 0])
    | 22 => .inr (0, 8, 0)
    | _ => .inr (0, 6, 0))
  else if c < 31 then .inl (3, [0, 0])
  else if c < 37 then .inl (2, [0, 0, 0, 0, 0, 0, 0, 0, 0])
  else if c < 41 then .inl (5, [0, 0, 0, 0, 0, 0, 0, 0])
  else
    (match c with
    | 41 => .inl (7, [0, 44, 45, 0, 46, 47, 48, 49, 50, 51, 52, 53, 54, 55, 56, 0, 57, 58, 59, 60, 61, 62, 63, 0, 0, 64, 65, 66, 0, 0, 0, 0, 0, 67, 0])
    | 42 => .inr (0, 8, 0)
    | 43 => .inr (0, 8, 0)
    | 48 => .inr (1, 6, 0)
    | 54 => .inr (0, 3, 0)
    | 55 => .inr (0, 4, 0)
    | 56 => .inr (0, 4, 0)
    | 57 => .inr (0, 4, 0)
    | 58 => .inr (0, 4, 0)
    | 59 => .inr (0, 4, 0)
    | 60 => .inr (0, 4, 0)
    | 61 => .inr (0, 4, 0)
    | 66 => .inr (5, 1, 0)
    | 67 => .inr (6, 1, 0)
    | _ => .inr (0, 6, 0))
def pres (g : Nat → Nat) (x : Int32) : Value := if x < 0 then .null else .ref (g (37 + ix x))
def slv (g : Nat → Nat) (x : Int32) (code : Nat) : Value := match code with
  | 0 => .int x
  | 1 => pres g x
  | d + 2 => .ref (g d)
/-- the fields of an object, from the place k on -/
def sls (g : Nat → Nat) (f : Nat → Int32) : Nat → List Nat → List Value
  | _, [] => []
  | k, code :: r => slv g (f k) code :: sls g f (k + 1) r
def arc (g : Nat → Nat) (f : Nat → Int32) (o : Ot) (ty b : Nat) : (Nat → Int32) ⊕ (Nat → Int64) ⊕ (Nat → UInt32) ⊕ (Nat → UInt64) ⊕ (Nat → Option Nat) :=
  if ty < 2 then .inl f else if ty < 5 then .inr (.inr (.inr (.inr (fun j => some (g (b + j)))))) else if ty = 5 then .inr (.inl (fun _ => o.1)) else .inr (.inr (.inr (.inl (fun _ => o.2))))
def ent (g : Nat → Nat) (K : Nat → ClassId) (sg : Sg) (o : Ot) (c : Nat) : va_E := match lay c with
  | .inl (ci, sl) => .inr (ci, sls g (sg c) 0 sl)
  | .inr (ty, n, b) => .inl (K ty, n, arc g (sg c) o ty b)
def wls (g : Nat → Nat) (K : Nat → ClassId) (sg : Sg) (o : Ot) : va_W := (List.range 68).map (fun c => (g c, ent g K sg o c))
def tyl (K : Nat → ClassId) : List (ClassId × FieldType) := [(K 0, .int), (K 1, .boolean), (K 2, .object RX1), (K 3, .object RX0), (K 4, .object RX3), (K 5, .long), (K 6, .double)]
def inG (g : Nat → Nat) (q : Nat) : Prop := ∃ c, c < 68 ∧ q = g c
def apG (g : Nat → Nat) : Prop := ∀ i j, i < 68 → j < 68 → g i = g j → i = j
theorem wls_at {g : Nat → Nat} {K : Nat → ClassId} {sg : Sg} {o : Ot} {c : Nat} (h : c < 68) : (wls g K sg o)[c]? = some (g c, ent g K sg o c) := by
  unfold wls
  rw [List.getElem?_map, List.getElem?_range h]
  rfl
theorem wls_len {g : Nat → Nat} {K : Nat → ClassId} {sg : Sg} {o : Ot} : (wls g K sg o).length = 68 := by
  unfold wls
  rw [List.length_map, List.length_range]
theorem wls_set {g : Nat → Nat} {K : Nat → ClassId} {sg sg1 : Sg} {o o1 : Ot} {c : Nat} (h : c < 68) (hne : ∀ c1, c1 < 68 → c1 ≠ c → ent g K sg1 o1 c1 = ent g K sg o c1) : (wls g K sg o).set c (g c, ent g K sg1 o1 c) = wls g K sg1 o1 := by
  refine List.ext_getElem? fun i => ?_
  by_cases hi : i < 68
  · by_cases hc : i = c
    · subst hc
      rw [List.getElem?_set_self (by rw [wls_len]; exact h), wls_at h]
    · rw [List.getElem?_set_ne (Ne.symm hc), wls_at hi, wls_at hi, hne i hi hc]
  · rw [List.getElem?_eq_none (by rw [List.length_set, wls_len]; omega), List.getElem?_eq_none (by rw [wls_len]; omega)]
theorem wls_D {g : Nat → Nat} {K : Nat → ClassId} {sg : Sg} {o : Ot} {A : Nat → Prop} (hg : apG g) (hA : ∀ q, inG g q → A q) : va_D A (wls g K sg o) := by
  have hlt : ∀ (i : Nat) (p : Nat × va_E), (wls g K sg o)[i]? = some p → i < 68 ∧ p.1 = g i := by
    intro i p hp
    have hi : i < 68 := by
      have := (List.getElem?_eq_some_iff.mp hp).1
      rwa [wls_len] at this
    rw [wls_at hi] at hp
    cases hp
    exact ⟨hi, rfl⟩
  refine ⟨fun i j p q hi hj h => ?_, fun k q hk => ?_⟩
  · obtain ⟨h1, e1⟩ := hlt i p hi
    obtain ⟨h2, e2⟩ := hlt j q hj
    exact hg i j h1 h2 (by rw [← e1, ← e2]; exact h)
  · obtain ⟨h1, e1⟩ := hlt k q hk
    exact hA _ ⟨k, h1, e1⟩
theorem sls_at {g : Nat → Nat} {f : Nat → Int32} : ∀ (sl : List Nat) (k0 k code : Nat), sl[k]? = some code → (sls g f k0 sl)[k]? = some (slv g (f (k0 + k)) code)
  | [], _, k, _, h => by simp at h
  | c :: r, k0, 0, code, h => by
    rw [List.getElem?_cons_zero] at h
    cases h
    rfl
  | c :: r, k0, k + 1, code, h => by
    rw [List.getElem?_cons_succ] at h
    have := sls_at (g := g) (f := f) r (k0 + 1) k code h
    rw [show k0 + (k + 1) = k0 + 1 + k by omega]
    exact this
theorem sls_len {g : Nat → Nat} {f : Nat → Int32} : ∀ (sl : List Nat) (k0 : Nat), (sls g f k0 sl).length = sl.length
  | [], _ => rfl
  | _ :: r, k0 => congrArg (· + 1) (sls_len r (k0 + 1))
theorem sls_set {g : Nat → Nat} {f f1 : Nat → Int32} : ∀ (sl : List Nat) (k0 k code : Nat), sl[k]? = some code → (∀ j, j ≠ k0 + k → f1 j = f j) → (sls g f k0 sl).set k (slv g (f1 (k0 + k)) code) = sls g f1 k0 sl
  | [], _, k, _, h, _ => by simp at h
  | c :: r, k0, 0, code, h, hf => by
    rw [List.getElem?_cons_zero] at h
    cases h
    have e : ∀ (r : List Nat) (q : Nat), k0 < q → sls g f q r = sls g f1 q r := by
      intro r
      induction r with
      | nil => intro q _; rfl
      | cons a r ih => intro q hq; show slv g (f q) a :: _ = slv g (f1 q) a :: _; rw [hf q (by omega), ih (q + 1) (by omega)]
    show slv g (f1 (k0 + 0)) c :: sls g f (k0 + 1) r = slv g (f1 k0) c :: sls g f1 (k0 + 1) r
    rw [e r (k0 + 1) (by omega), Nat.add_zero]
  | c :: r, k0, k + 1, code, h, hf => by
    rw [List.getElem?_cons_succ] at h
    show slv g (f k0) c :: (sls g f (k0 + 1) r).set k (slv g (f1 (k0 + (k + 1))) code) = slv g (f1 k0) c :: sls g f1 (k0 + 1) r
    rw [show k0 + (k + 1) = k0 + 1 + k by omega] at hf ⊢
    rw [sls_set r (k0 + 1) k code h hf, hf k0 (by omega)]
theorem ent_ne {g : Nat → Nat} {K : Nat → ClassId} {sg : Sg} {o : Ot} {c k : Nat} {v : Int32} (c1 : Nat) (h : c1 ≠ c) : ent g K (up sg c k v) o c1 = ent g K sg o c1 := by
  have e : up sg c k v c1 = sg c1 := by
    funext j
    simp [up, h]
  unfold ent
  rw [e]
theorem up_row {sg : Sg} {c k : Nat} {v : Int32} : up sg c k v c = upd (sg c) k v := by
  funext j
  simp [up, upd]
theorem up_at {sg : Sg} {c k : Nat} {v : Int32} : up sg c k v c k = v := by simp [up]
theorem up_ne {sg : Sg} {c k : Nat} {v : Int32} (c1 k1 : Nat) (h : c1 ≠ c ∨ k1 ≠ k) : up sg c k v c1 k1 = sg c1 k1 := by
  simp only [up]
  rw [if_neg]
  rintro ⟨h1, h2⟩
  rcases h with h | h
  · exact h h1
  · exact h h2
/-! the frame of a walk, as one thing -/
abbrev Cx : Type := Program × Launch × Env × Room × State × MethodId × Array Value × List Frame × Method × Code × va_G × (Nat → ClassId) × (Nat → Nat) × (Nat → Prop) × (State → Prop)
abbrev xp (X : Cx) : Program := X.1
abbrev xl (X : Cx) : Launch := X.2.1
abbrev xe (X : Cx) : Env := X.2.2.1
abbrev xR (X : Cx) : Room := X.2.2.2.1
abbrev xs_ (X : Cx) : State := X.2.2.2.2.1
abbrev xm (X : Cx) : MethodId := X.2.2.2.2.2.1
abbrev xa (X : Cx) : Array Value := X.2.2.2.2.2.2.1
abbrev xb (X : Cx) : List Frame := X.2.2.2.2.2.2.2.1
abbrev xh (X : Cx) : Method := X.2.2.2.2.2.2.2.2.1
abbrev xc (X : Cx) : Code := X.2.2.2.2.2.2.2.2.2.1
abbrev xD (X : Cx) : va_G := X.2.2.2.2.2.2.2.2.2.2.1
abbrev xK (X : Cx) : Nat → ClassId := X.2.2.2.2.2.2.2.2.2.2.2.1
abbrev xg (X : Cx) : Nat → Nat := X.2.2.2.2.2.2.2.2.2.2.2.2.1
abbrev xA (X : Cx) : Nat → Prop := X.2.2.2.2.2.2.2.2.2.2.2.2.2.1
abbrev xQ (X : Cx) : State → Prop := X.2.2.2.2.2.2.2.2.2.2.2.2.2.2
abbrev WW (X : Cx) (H : Heap) (locs : List Loc) (a b : Nat) (g : JFrame) : Prop := W (xp X) (xl X) (xe X) (xR X) (xs_ X) (xm X) (xa X) (xb X) (xh X) (xc X) H locs a b (xQ X) g
abbrev Wd (D : va_G) (K : Nat → ClassId) (g : Nat → Nat) (sg : Sg) (o : Ot) (H : Heap) : Prop := va_P D vwCl (wls g K sg o) H
/-- FROM HERE ON IT ENDS WELL: at pc, with these locals and this stack, in every heap that holds sg -/
def V (X : Cx) (a b nL : Nat) (sg : Sg) (o : Ot) (lo : List (Nat × Value)) (pc : Nat) (st : List Value) : Prop :=
  ∀ (H : Heap) (locs : List Loc) (ls : Array Slot), Wd (xD X) (xK X) (xg X) sg o H → va_S (xA X) (xs_ X).heap H locs → lv_has ls nL lo → WW X H locs a b (F0 (xm X) pc ls st)
/-- what holds all along a walk -/
def CF (X : Cx) (cc : ByteArray) (own : String) (nL rk mc ms : Nat) : Prop :=
  (xp X).tables.exec = Jvm.exec ∧ (xc X).code = cc ∧ (xc X).maxLocals = nL ∧ (xs_ X).vm.findClass own = some (xm X).cls ∧ (∀ w ∈ ALL, w.before (xa X) (xs_ X) = true) ∧ va_K (xD X) vwCl (tyl (xK X)) (xs_ X) ∧ apG (xg X) ∧ (∀ q, inG (xg X) q → xA X q) ∧
  (rk ≤ (xR X).frames ∧ 40 * rk ≤ (xR X).locals ∧ mc ≤ (xR X).cells ∧ ms ≤ (xR X).slots) ∧ (xh X).locks = false
section VR
variable {X : Cx} {cc : ByteArray} {own : String} {a b nL rk mc ms : Nat} {sg : Sg} {o : Ot} {lo : List (Nat × Value)} {pc pc1 : Nat} {st : List Value}
theorem v_sub {lo1 : List (Nat × Value)} (ks : List Nat) (h : lv_pick lo ks = lo1) (k : V X a b nL sg o lo1 pc st) : V X a b nL sg o lo pc st := fun H locs ls hP hS hl => k H locs ls hP hS (lv_sub hl ks h)
theorem v_eq {sg1 : Sg} {lo1 : List (Nat × Value)} {st1 : List Value} (h1 : sg = sg1) (h2 : lo = lo1) (h3 : st = st1) (k : V X a b nL sg1 o lo1 pc st1) : V X a b nL sg o lo pc st := by
  subst h1; subst h2; subst h3; exact k
theorem v_topi {x : Int32} (k : ∀ y : Int32, y = x → V X a b nL sg o lo pc (.int y :: st)) : V X a b nL sg o lo pc (.int x :: st) := k x rfl
theorem v_iconst (C : CF X cc own nL rk mc ms) {n : Int} {v : Int32} (d : decode cc pc = .ok (.iconst n, 1)) (hv : Int32.ofInt n = v) (hp : pc + 1 = pc1) (k : V X a b nL sg o lo pc1 (.int v :: st)) : V X a b nL sg o lo pc st := by
  subst hp; exact fun H locs ls hP hS hl => lv_iconst C.1 C.2.1 d hv (k H locs ls hP hS hl)
theorem v_bipush (C : CF X cc own nL rk mc ms) {n : Int} {v : Int32} (d : decode cc pc = .ok (.bipush n, 2)) (hv : (Int8.ofInt n).toInt32 = v) (hp : pc + 2 = pc1) (k : V X a b nL sg o lo pc1 (.int v :: st)) : V X a b nL sg o lo pc st := by
  subst hp; exact fun H locs ls hP hS hl => lv_bipush C.1 C.2.1 d hv (k H locs ls hP hS hl)
theorem v_sipush (C : CF X cc own nL rk mc ms) {n : Int} {v : Int32} (d : decode cc pc = .ok (.sipush n, 3)) (hv : (Int16.ofInt n).toInt32 = v) (hp : pc + 3 = pc1) (k : V X a b nL sg o lo pc1 (.int v :: st)) : V X a b nL sg o lo pc st := by
  subst hp; exact fun H locs ls hP hS hl => lv_sipush C.1 C.2.1 d hv (k H locs ls hP hS hl)
theorem v_lconst (C : CF X cc own nL rk mc ms) {n : Fin 2} {v : Int64} (d : decode cc pc = .ok (.lconst n, 1)) (hv : Int64.ofNat (n : Nat) = v) (hp : pc + 1 = pc1) (k : V X a b nL sg o lo pc1 (.long v :: st)) : V X a b nL sg o lo pc st := by
  subst hp; exact fun H locs ls hP hS hl => lv_lconst C.1 C.2.1 d hv (k H locs ls hP hS hl)
theorem v_iload_n (C : CF X cc own nL rk mc ms) {n : Fin 4} {i j : Nat} {x : Int32} (d : decode cc pc = .ok (.iload_n n, 1)) (hi : (n : Nat) = i) (hj : lo[j]? = some (i, .int x)) (hp : pc + 1 = pc1) (k : V X a b nL sg o lo pc1 (.int x :: st)) : V X a b nL sg o lo pc st := by
  subst hp; exact fun H locs ls hP hS hl => lv_iload_n C.1 C.2.1 d hi (lv_at hl j hj) (k H locs ls hP hS hl)
theorem v_iload (C : CF X cc own nL rk mc ms) {i j : Nat} {x : Int32} (d : decode cc pc = .ok (.iload i, 2)) (hj : lo[j]? = some (i, .int x)) (hp : pc + 2 = pc1) (k : V X a b nL sg o lo pc1 (.int x :: st)) : V X a b nL sg o lo pc st := by
  subst hp; exact fun H locs ls hP hS hl => lv_iload C.1 C.2.1 d (lv_at hl j hj) (k H locs ls hP hS hl)
theorem v_aload_n (C : CF X cc own nL rk mc ms) {n : Fin 4} {i j : Nat} {x : Nat} (d : decode cc pc = .ok (.aload_n n, 1)) (hi : (n : Nat) = i) (hj : lo[j]? = some (i, .ref x)) (hp : pc + 1 = pc1) (k : V X a b nL sg o lo pc1 (.ref x :: st)) : V X a b nL sg o lo pc st := by
  subst hp; exact fun H locs ls hP hS hl => lv_aload_n C.1 C.2.1 d hi (lv_at hl j hj) (k H locs ls hP hS hl)
theorem v_aload (C : CF X cc own nL rk mc ms) {i j : Nat} {x : Nat} (d : decode cc pc = .ok (.aload i, 2)) (hj : lo[j]? = some (i, .ref x)) (hp : pc + 2 = pc1) (k : V X a b nL sg o lo pc1 (.ref x :: st)) : V X a b nL sg o lo pc st := by
  subst hp; exact fun H locs ls hP hS hl => lv_aload C.1 C.2.1 d (lv_at hl j hj) (k H locs ls hP hS hl)
theorem v_aload_nN (C : CF X cc own nL rk mc ms) {n : Fin 4} {i j : Nat} (d : decode cc pc = .ok (.aload_n n, 1)) (hi : (n : Nat) = i) (hj : lo[j]? = some (i, .null)) (hp : pc + 1 = pc1) (k : V X a b nL sg o lo pc1 (.null :: st)) : V X a b nL sg o lo pc st := by
  subst hp; exact fun H locs ls hP hS hl => lv_aload_nN C.1 C.2.1 d hi (lv_at hl j hj) (k H locs ls hP hS hl)
theorem v_lload_n (C : CF X cc own nL rk mc ms) {n : Fin 4} {i j : Nat} {x : Int64} (d : decode cc pc = .ok (.lload_n n, 1)) (hi : (n : Nat) = i) (hj : lo[j]? = some (i, .long x)) (hp : pc + 1 = pc1) (k : V X a b nL sg o lo pc1 (.long x :: st)) : V X a b nL sg o lo pc st := by
  subst hp; exact fun H locs ls hP hS hl => lv_lload_n C.1 C.2.1 d hi (lv_at hl j hj) (k H locs ls hP hS hl)
theorem v_fload (C : CF X cc own nL rk mc ms) {i j : Nat} {x : UInt32} (d : decode cc pc = .ok (.fload i, 2)) (hj : lo[j]? = some (i, .float x)) (hp : pc + 2 = pc1) (k : V X a b nL sg o lo pc1 (.float x :: st)) : V X a b nL sg o lo pc st := by
  subst hp; exact fun H locs ls hP hS hl => lv_fload C.1 C.2.1 d (lv_at hl j hj) (k H locs ls hP hS hl)
theorem v_dload (C : CF X cc own nL rk mc ms) {i j : Nat} {x : UInt64} (d : decode cc pc = .ok (.dload i, 2)) (hj : lo[j]? = some (i, .double x)) (hp : pc + 2 = pc1) (k : V X a b nL sg o lo pc1 (.double x :: st)) : V X a b nL sg o lo pc st := by
  subst hp; exact fun H locs ls hP hS hl => lv_dload C.1 C.2.1 d (lv_at hl j hj) (k H locs ls hP hS hl)
theorem v_istore_n (C : CF X cc own nL rk mc ms) {n : Fin 4} {i : Nat} {x : Int32} (lo1 : List (Nat × Value)) (d : decode cc pc = .ok (.istore_n n, 1)) (hi : (n : Nat) = i) (hn : i < nL) (hl1 : (i, Value.int x) :: lo.filter (fun q => !(q.1 == i) && !(q.1 + 1 == i && q.2.category == 2)) = lo1) (hp : pc + 1 = pc1) (k : V X a b nL sg o lo1 pc1 st) : V X a b nL sg o lo pc (.int x :: st) := by
  subst hp; exact fun H locs ls hP hS hl => lv_istore_n C.1 C.2.1 d hi hl hn hl1 (fun ls hl => k H locs ls hP hS hl)
theorem v_istore (C : CF X cc own nL rk mc ms) {i : Nat} {x : Int32} (lo1 : List (Nat × Value)) (d : decode cc pc = .ok (.istore i, 2)) (hn : i < nL) (hl1 : (i, Value.int x) :: lo.filter (fun q => !(q.1 == i) && !(q.1 + 1 == i && q.2.category == 2)) = lo1) (hp : pc + 2 = pc1) (k : V X a b nL sg o lo1 pc1 st) : V X a b nL sg o lo pc (.int x :: st) := by
  subst hp; exact fun H locs ls hP hS hl => lv_istore C.1 C.2.1 d hl hn hl1 (fun ls hl => k H locs ls hP hS hl)
theorem v_astore_n (C : CF X cc own nL rk mc ms) {n : Fin 4} {i : Nat} {x : Nat} (lo1 : List (Nat × Value)) (d : decode cc pc = .ok (.astore_n n, 1)) (hi : (n : Nat) = i) (hn : i < nL) (hl1 : (i, Value.ref x) :: lo.filter (fun q => !(q.1 == i) && !(q.1 + 1 == i && q.2.category == 2)) = lo1) (hp : pc + 1 = pc1) (k : V X a b nL sg o lo1 pc1 st) : V X a b nL sg o lo pc (.ref x :: st) := by
  subst hp; exact fun H locs ls hP hS hl => lv_astore_n C.1 C.2.1 d hi hl hn hl1 (fun ls hl => k H locs ls hP hS hl)
theorem v_astore_nN (C : CF X cc own nL rk mc ms) {n : Fin 4} {i : Nat} (lo1 : List (Nat × Value)) (d : decode cc pc = .ok (.astore_n n, 1)) (hi : (n : Nat) = i) (hn : i < nL) (hl1 : (i, Value.null) :: lo.filter (fun q => !(q.1 == i) && !(q.1 + 1 == i && q.2.category == 2)) = lo1) (hp : pc + 1 = pc1) (k : V X a b nL sg o lo1 pc1 st) : V X a b nL sg o lo pc (.null :: st) := by
  subst hp; exact fun H locs ls hP hS hl => lv_astore_nN C.1 C.2.1 d hi hl hn hl1 (fun ls hl => k H locs ls hP hS hl)
theorem v_astore (C : CF X cc own nL rk mc ms) {i : Nat} {x : Nat} (lo1 : List (Nat × Value)) (d : decode cc pc = .ok (.astore i, 2)) (hn : i < nL) (hl1 : (i, Value.ref x) :: lo.filter (fun q => !(q.1 == i) && !(q.1 + 1 == i && q.2.category == 2)) = lo1) (hp : pc + 2 = pc1) (k : V X a b nL sg o lo1 pc1 st) : V X a b nL sg o lo pc (.ref x :: st) := by
  subst hp; exact fun H locs ls hP hS hl => lv_astore C.1 C.2.1 d hl hn hl1 (fun ls hl => k H locs ls hP hS hl)
theorem v_lstore_n (C : CF X cc own nL rk mc ms) {n : Fin 4} {i : Nat} {x : Int64} (lo1 : List (Nat × Value)) (d : decode cc pc = .ok (.lstore_n n, 1)) (hi : (n : Nat) = i) (hn : i + 1 < nL) (hl1 : (i, Value.long x) :: lo.filter (fun q => !(q.1 == i) && (!(q.1 == i + 1) && !(q.1 + 1 == i && q.2.category == 2))) = lo1) (hp : pc + 1 = pc1) (k : V X a b nL sg o lo1 pc1 st) : V X a b nL sg o lo pc (.long x :: st) := by
  subst hp; exact fun H locs ls hP hS hl => lv_lstore_n C.1 C.2.1 d hi hl hn hl1 (fun ls hl => k H locs ls hP hS hl)
theorem v_dstore (C : CF X cc own nL rk mc ms) {i : Nat} {x : UInt64} (lo1 : List (Nat × Value)) (d : decode cc pc = .ok (.dstore i, 2)) (hn : i + 1 < nL) (hl1 : (i, Value.double x) :: lo.filter (fun q => !(q.1 == i) && (!(q.1 == i + 1) && !(q.1 + 1 == i && q.2.category == 2))) = lo1) (hp : pc + 2 = pc1) (k : V X a b nL sg o lo1 pc1 st) : V X a b nL sg o lo pc (.double x :: st) := by
  subst hp; exact fun H locs ls hP hS hl => lv_dstore C.1 C.2.1 d hl hn hl1 (fun ls hl => k H locs ls hP hS hl)
theorem v_fstore (C : CF X cc own nL rk mc ms) {i : Nat} {x : UInt32} (lo1 : List (Nat × Value)) (d : decode cc pc = .ok (.fstore i, 2)) (hn : i < nL) (hl1 : (i, Value.float x) :: lo.filter (fun q => !(q.1 == i) && !(q.1 + 1 == i && q.2.category == 2)) = lo1) (hp : pc + 2 = pc1) (k : V X a b nL sg o lo1 pc1 st) : V X a b nL sg o lo pc (.float x :: st) := by
  subst hp; exact fun H locs ls hP hS hl => lv_fstore C.1 C.2.1 d hl hn hl1 (fun ls hl => k H locs ls hP hS hl)
theorem v_iinc (C : CF X cc own nL rk mc ms) {i j : Nat} {n : Int} {x v : Int32} (lo1 : List (Nat × Value)) (d : decode cc pc = .ok (.iinc i n, 3)) (hj : lo[j]? = some (i, .int x)) (hv : x + Int32.ofInt n = v) (hn : i < nL) (hl1 : (i, Value.int v) :: lo.filter (fun q => !(q.1 == i) && !(q.1 + 1 == i && q.2.category == 2)) = lo1) (hp : pc + 3 = pc1) (k : V X a b nL sg o lo1 pc1 st) : V X a b nL sg o lo pc st := by
  subst hp; exact fun H locs ls hP hS hl => lv_iinc C.1 C.2.1 d hl hj hv hn hl1 (fun ls hl => k H locs ls hP hS hl)
theorem v_iadd (C : CF X cc own nL rk mc ms) {x y : Int32} (d : decode cc pc = .ok (.iadd, 1)) (hp : pc + 1 = pc1) (k : V X a b nL sg o lo pc1 (.int (x + y) :: st)) : V X a b nL sg o lo pc (.int y :: .int x :: st) := by
  subst hp; exact fun H locs ls hP hS hl => lv_iadd C.1 C.2.1 d (k H locs ls hP hS hl)
theorem v_isub (C : CF X cc own nL rk mc ms) {x y : Int32} (d : decode cc pc = .ok (.isub, 1)) (hp : pc + 1 = pc1) (k : V X a b nL sg o lo pc1 (.int (x - y) :: st)) : V X a b nL sg o lo pc (.int y :: .int x :: st) := by
  subst hp; exact fun H locs ls hP hS hl => lv_isub C.1 C.2.1 d (k H locs ls hP hS hl)
theorem v_imul (C : CF X cc own nL rk mc ms) {x y : Int32} (d : decode cc pc = .ok (.imul, 1)) (hp : pc + 1 = pc1) (k : V X a b nL sg o lo pc1 (.int (x * y) :: st)) : V X a b nL sg o lo pc (.int y :: .int x :: st) := by
  subst hp; exact fun H locs ls hP hS hl => lv_imul C.1 C.2.1 d (k H locs ls hP hS hl)
theorem v_idiv (C : CF X cc own nL rk mc ms) {x y : Int32} (d : decode cc pc = .ok (.idiv, 1)) (hne : ¬ y = 0) (hp : pc + 1 = pc1) (k : V X a b nL sg o lo pc1 (.int (x / y) :: st)) : V X a b nL sg o lo pc (.int y :: .int x :: st) := by
  subst hp; exact fun H locs ls hP hS hl => lv_idiv C.1 C.2.1 d hne (k H locs ls hP hS hl)
theorem v_iand (C : CF X cc own nL rk mc ms) {x y : Int32} (d : decode cc pc = .ok (.iand, 1)) (hp : pc + 1 = pc1) (k : V X a b nL sg o lo pc1 (.int (x &&& y) :: st)) : V X a b nL sg o lo pc (.int y :: .int x :: st) := by
  subst hp; exact fun H locs ls hP hS hl => lv_iand C.1 C.2.1 d (k H locs ls hP hS hl)
theorem v_ior (C : CF X cc own nL rk mc ms) {x y : Int32} (d : decode cc pc = .ok (.ior, 1)) (hp : pc + 1 = pc1) (k : V X a b nL sg o lo pc1 (.int (x ||| y) :: st)) : V X a b nL sg o lo pc (.int y :: .int x :: st) := by
  subst hp; exact fun H locs ls hP hS hl => lv_ior C.1 C.2.1 d (k H locs ls hP hS hl)
theorem v_ixor (C : CF X cc own nL rk mc ms) {x y : Int32} (d : decode cc pc = .ok (.ixor, 1)) (hp : pc + 1 = pc1) (k : V X a b nL sg o lo pc1 (.int (x ^^^ y) :: st)) : V X a b nL sg o lo pc (.int y :: .int x :: st) := by
  subst hp; exact fun H locs ls hP hS hl => lv_ixor C.1 C.2.1 d (k H locs ls hP hS hl)
theorem v_ishl (C : CF X cc own nL rk mc ms) {x y : Int32} (d : decode cc pc = .ok (.ishl, 1)) (hp : pc + 1 = pc1) (k : V X a b nL sg o lo pc1 (.int (x <<< (y &&& 31)) :: st)) : V X a b nL sg o lo pc (.int y :: .int x :: st) := by
  subst hp; exact fun H locs ls hP hS hl => lv_ishl C.1 C.2.1 d (k H locs ls hP hS hl)
theorem v_ishr (C : CF X cc own nL rk mc ms) {x y : Int32} (d : decode cc pc = .ok (.ishr, 1)) (hp : pc + 1 = pc1) (k : V X a b nL sg o lo pc1 (.int (x >>> (y &&& 31)) :: st)) : V X a b nL sg o lo pc (.int y :: .int x :: st) := by
  subst hp; exact fun H locs ls hP hS hl => lv_ishr C.1 C.2.1 d (k H locs ls hP hS hl)
theorem v_iushr (C : CF X cc own nL rk mc ms) {x y v : Int32} (d : decode cc pc = .ok (.iushr, 1)) (hv : (x.toUInt32 >>> (y.toUInt32 &&& Int32.toUInt32 31)).toInt32 = v) (hp : pc + 1 = pc1) (k : V X a b nL sg o lo pc1 (.int v :: st)) : V X a b nL sg o lo pc (.int y :: .int x :: st) := by
  subst hp; exact fun H locs ls hP hS hl => lv_iushr C.1 C.2.1 d hv (k H locs ls hP hS hl)
theorem v_i2l (C : CF X cc own nL rk mc ms) {x : Int32} (d : decode cc pc = .ok (.i2l, 1)) (hp : pc + 1 = pc1) (k : V X a b nL sg o lo pc1 (.long x.toInt64 :: st)) : V X a b nL sg o lo pc (.int x :: st) := by
  subst hp; exact fun H locs ls hP hS hl => lv_i2l C.1 C.2.1 d rfl (k H locs ls hP hS hl)
theorem v_ladd (C : CF X cc own nL rk mc ms) {x y : Int64} (d : decode cc pc = .ok (.ladd, 1)) (hp : pc + 1 = pc1) (k : V X a b nL sg o lo pc1 (.long (x + y) :: st)) : V X a b nL sg o lo pc (.long y :: .long x :: st) := by
  subst hp; exact fun H locs ls hP hS hl => lv_ladd C.1 C.2.1 d (k H locs ls hP hS hl)
theorem v_i2f (C : CF X cc own nL rk mc ms) {x : Int32} (d : decode cc pc = .ok (.i2f, 1)) (hp : pc + 1 = pc1) (k : V X a b nL sg o lo pc1 (.float (FP.i2f x) :: st)) : V X a b nL sg o lo pc (.int x :: st) := by
  subst hp; exact fun H locs ls hP hS hl => lv_i2f C.1 C.2.1 d (k H locs ls hP hS hl)
theorem v_i2d (C : CF X cc own nL rk mc ms) {x : Int32} (d : decode cc pc = .ok (.i2d, 1)) (hp : pc + 1 = pc1) (k : V X a b nL sg o lo pc1 (.double (FP.i2d x) :: st)) : V X a b nL sg o lo pc (.int x :: st) := by
  subst hp; exact fun H locs ls hP hS hl => lv_i2d C.1 C.2.1 d (k H locs ls hP hS hl)
theorem v_fdiv (C : CF X cc own nL rk mc ms) {x y : UInt32} (d : decode cc pc = .ok (.fdiv, 1)) (hne : vf_n32 (FP.fdiv x y)) (hp : pc + 1 = pc1) (k : V X a b nL sg o lo pc1 (.float (FP.fdiv x y) :: st)) : V X a b nL sg o lo pc (.float y :: .float x :: st) := by
  subst hp; exact fun H locs ls hP hS hl => lv_fdiv C.1 C.2.1 d hne (k H locs ls hP hS hl)
theorem v_ddiv (C : CF X cc own nL rk mc ms) {x y : UInt64} (d : decode cc pc = .ok (.ddiv, 1)) (hne : vf_n64 (FP.ddiv x y)) (hp : pc + 1 = pc1) (k : V X a b nL sg o lo pc1 (.double (FP.ddiv x y) :: st)) : V X a b nL sg o lo pc (.double y :: .double x :: st) := by
  subst hp; exact fun H locs ls hP hS hl => lv_ddiv C.1 C.2.1 d hne (k H locs ls hP hS hl)
theorem v_f2d (C : CF X cc own nL rk mc ms) {x : UInt32} (d : decode cc pc = .ok (.f2d, 1)) (hne : vf_n64 (FP.f2d x)) (hp : pc + 1 = pc1) (k : V X a b nL sg o lo pc1 (.double (FP.f2d x) :: st)) : V X a b nL sg o lo pc (.float x :: st) := by
  subst hp; exact fun H locs ls hP hS hl => lv_f2d C.1 C.2.1 d hne (k H locs ls hP hS hl)
theorem v_fconst0 (C : CF X cc own nL rk mc ms) (d : decode cc pc = .ok (.fconst 0, 1)) (hp : pc + 1 = pc1) (k : V X a b nL sg o lo pc1 (.float 0 :: st)) : V X a b nL sg o lo pc st := by
  subst hp; exact fun H locs ls hP hS hl => lv_fconst0 C.1 C.2.1 d (k H locs ls hP hS hl)
theorem v_dconst0 (C : CF X cc own nL rk mc ms) (d : decode cc pc = .ok (.dconst 0, 1)) (hp : pc + 1 = pc1) (k : V X a b nL sg o lo pc1 (.double 0 :: st)) : V X a b nL sg o lo pc st := by
  subst hp; exact fun H locs ls hP hS hl => lv_dconst0 C.1 C.2.1 d (k H locs ls hP hS hl)
theorem v_dup (C : CF X cc own nL rk mc ms) {v : Value} (d : decode cc pc = .ok (.dup, 1)) (hv : v.category = 1) (hp : pc + 1 = pc1) (k : V X a b nL sg o lo pc1 (v :: v :: st)) : V X a b nL sg o lo pc (v :: st) := by
  subst hp; exact fun H locs ls hP hS hl => lv_dup C.1 C.2.1 d hv (k H locs ls hP hS hl)
theorem v_dup2 (C : CF X cc own nL rk mc ms) {v w : Value} (d : decode cc pc = .ok (.dup2, 1)) (hv : v.category = 1) (hw : w.category = 1) (hp : pc + 1 = pc1) (k : V X a b nL sg o lo pc1 (v :: w :: v :: w :: st)) : V X a b nL sg o lo pc (v :: w :: st) := by
  subst hp; exact fun H locs ls hP hS hl => lv_dup2_11 C.1 C.2.1 d hv hw (k H locs ls hP hS hl)
theorem v_goto (C : CF X cc own nL rk mc ms) {off : Int} (d : decode cc pc = .ok (.goto off, 3)) (ht : (pc : Int) + off = (pc1 : Int)) (k : V X a b nL sg o lo pc1 st) : V X a b nL sg o lo pc st :=
  fun H locs ls hP hS hl => lv_goto C.1 C.2.1 d ht (k H locs ls hP hS hl)
end VR
