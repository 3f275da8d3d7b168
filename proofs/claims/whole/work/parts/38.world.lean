theorem izX4 : Cond.initialized RX4 ∈ ALL := (all_in1 1 (by decide +kernel) rfl)
theorem knX4 : KB RL 92 yX4_init cX4_init 2 none 0 := ⟨(all_in1 24 (by decide +kernel) rfl), izX4, ⟨by decide +kernel, by decide +kernel⟩, by decide +kernel, (all_in1 22 (by decide +kernel) rfl), by decide⟩
theorem niX4 : Cond.instanceMethod yX4_init ∈ ALL := (all_in1 23 (by decide +kernel) rfl)
theorem isX4 : Cond.instantiable RX4 13 ∈ ALL := (all_in1 21 (by decide +kernel) rfl)
theorem clX4 : Cond.classLink RL 8 RX4 ∈ ALL := (all_in1 20 (by decide +kernel) rfl)
theorem izX5 : Cond.initialized RX5 ∈ ALL := (all_in1 6 (by decide +kernel) rfl)
theorem knX5 : KB RL 95 yX5_init cX5_init 1 none 0 := ⟨(all_in4 46 (by decide +kernel) rfl), izX5, ⟨by decide +kernel, by decide +kernel⟩, by decide +kernel, (all_in4 44 (by decide +kernel) rfl), by decide⟩
theorem niX5 : Cond.instanceMethod yX5_init ∈ ALL := (all_in4 45 (by decide +kernel) rfl)
theorem isX5 : Cond.instantiable RX5 35 ∈ ALL := (all_in4 43 (by decide +kernel) rfl)
theorem clX5 : Cond.classLink RL 93 RX5 ∈ ALL := (all_in4 42 (by decide +kernel) rfl)
theorem acL : Cond.arrayClass .long ∈ ALL := (all_in5 174 (by decide +kernel) rfl)
theorem acD : Cond.arrayClass .double ∈ ALL := (all_in5 175 (by decide +kernel) rfl)
section GR2
variable {X : Cx} {cc : ByteArray} {own : String} {a b nL rk mc ms : Nat} {ws : va_W} {lo : List (Nat × Value)} {pc pc1 : Nat} {st : List Value}
theorem g_astore_n (C : GF X cc own nL rk mc ms) {n : Fin 4} {i : Nat} {x : Nat} (lo1 : List (Nat × Value)) (d : decode cc pc = .ok (.astore_n n, 1)) (hi : (n : Nat) = i) (hn : i < nL) (hl1 : (i, Value.ref x) :: lo.filter (fun q => !(q.1 == i) && !(q.1 + 1 == i && q.2.category == 2)) = lo1) (hp : pc + 1 = pc1) (k : GV X a b nL ws lo1 pc1 st) : GV X a b nL ws lo pc (.ref x :: st) := by
  subst hp; exact fun H locs ls hP hD hS hl => lv_astore_n C.1 C.2.1 d hi hl hn hl1 (fun ls hl => k H locs ls hP hD hS hl)
theorem g_astore (C : GF X cc own nL rk mc ms) {i : Nat} {x : Nat} (lo1 : List (Nat × Value)) (d : decode cc pc = .ok (.astore i, 2)) (hn : i < nL) (hl1 : (i, Value.ref x) :: lo.filter (fun q => !(q.1 == i) && !(q.1 + 1 == i && q.2.category == 2)) = lo1) (hp : pc + 2 = pc1) (k : GV X a b nL ws lo1 pc1 st) : GV X a b nL ws lo pc (.ref x :: st) := by
  subst hp; exact fun H locs ls hP hD hS hl => lv_astore C.1 C.2.1 d hl hn hl1 (fun ls hl => k H locs ls hP hD hS hl)
end GR2
def sg0 : Sg := fun c k => if c = 0 ∧ k = 10 then -1 else if 31 ≤ c ∧ c < 37 ∧ (k = 4 ∨ k = 5) then -1 else if 37 ≤ c ∧ c < 41 ∧ k = 0 then nI (c - 37) else if c = 41 ∧ k = 23 then -1 else 0
def o0 : Ot := (0, 0)
theorem cv_i {D : va_G} {q n : Nat} {k : ClassId} {f : Nat → Int32} {H : Heap} (hf : ∀ j, f j = 0) (h : va_at D vwCl (q, .inl (k, n, .inl (fun _ => 0))) H) : va_at D vwCl (q, .inl (k, n, .inl f)) H := by
  rw [show f = fun _ => 0 from funext hf]; exact h
theorem cv_q {D : va_G} {q n : Nat} {k : ClassId} {f f1 : Nat → Option Nat} {H : Heap} (hf : ∀ j, j < n → f1 j = f j) (h : va_at D vwCl (q, .inl (k, n, .inr (.inr (.inr (.inr f1))))) H) : va_at D vwCl (q, .inl (k, n, .inr (.inr (.inr (.inr f))))) H := by
  show H[q]? = some (vp_cell k _)
  rw [vp_cell_q, ← arrV_congr (fun j hj => congrArg va_rf (hf j hj)), ← vp_cell_q]
  exact h
def gOf (L : List Nat) : Nat → Nat := fun c => L.getD c 0
def w68 (k0 K1 K2 K3 K4 K5 K6 : ClassId) (x0 q1 q2 q3 q4 q5 q6 q7 q8 q9 q10 q11 q12 q13 q14 q15 q16 q17 q18 q19 q20 q21 q22 q23 q24 q25 q26 q27 q28 q29 q30 q31 q32 q33 q34 q35 q36 q37 q38 q39 q40 y0 r1 r2 r3 r4 r5 r6 r7 r8 r9 r10 r11 r12 r13 r14 r15 r16 r17 r18 r19 r20 r21 r22 r23 r24 z0 z1 : Nat) : va_W := [(x0, .inr (6, [.ref q1, .ref q2, .ref q3, .ref q4, .ref q5, .ref q11, .ref q17, .int 0, .int 0, .int 0, .null, .int 0, .int 0])), (q1, .inl (K2, 8, .inr (.inr (.inr (.inr (va_up (va_up (va_up (va_up (va_up (va_up (va_up (va_up (fun _ => none) (Int32.toNatClampNeg 0) (some q23)) (Int32.toNatClampNeg 1) (some q24)) (Int32.toNatClampNeg 2) (some q25)) (Int32.toNatClampNeg 3) (some q26)) (Int32.toNatClampNeg 4) (some q27)) (Int32.toNatClampNeg 5) (some q28)) (Int32.toNatClampNeg 6) (some q29)) (Int32.toNatClampNeg 7) (some q30))))))), (q2, .inl (K3, 6, .inr (.inr (.inr (.inr (va_up (va_up (va_up (va_up (va_up (va_up (fun _ => none) (Int32.toNatClampNeg 0) (some q31)) (Int32.toNatClampNeg 1) (some q32)) (Int32.toNatClampNeg 2) (some q33)) (Int32.toNatClampNeg 3) (some q34)) (Int32.toNatClampNeg 4) (some q35)) (Int32.toNatClampNeg 5) (some q36))))))), (q3, .inl (K4, 4, .inr (.inr (.inr (.inr (va_up (va_up (va_up (va_up (fun _ => none) (Int32.toNatClampNeg 0) (some q37)) (Int32.toNatClampNeg 1) (some q38)) (Int32.toNatClampNeg 2) (some q39)) (Int32.toNatClampNeg 3) (some q40))))))), (q4, .inl (k0, 3, .inl (fun _ => 0))), (q5, .inr (4, [.ref q6, .ref q7, .ref q8, .ref q9, .ref q10, .int 0, .int 0, .int 0])), (q6, .inl (k0, 6, .inl (fun _ => 0))), (q7, .inl (k0, 6, .inl (fun _ => 0))), (q8, .inl (k0, 6, .inl (fun _ => 0))), (q9, .inl (k0, 6, .inl (fun _ => 0))), (q10, .inl (k0, 8, .inl (fun _ => 0))), (q11, .inr (4, [.ref q12, .ref q13, .ref q14, .ref q15, .ref q16, .int 0, .int 0, .int 0])), (q12, .inl (k0, 6, .inl (fun _ => 0))), (q13, .inl (k0, 6, .inl (fun _ => 0))), (q14, .inl (k0, 6, .inl (fun _ => 0))), (q15, .inl (k0, 6, .inl (fun _ => 0))), (q16, .inl (k0, 8, .inl (fun _ => 0))), (q17, .inr (4, [.ref q18, .ref q19, .ref q20, .ref q21, .ref q22, .int 0, .int 0, .int 0])), (q18, .inl (k0, 6, .inl (fun _ => 0))), (q19, .inl (k0, 6, .inl (fun _ => 0))), (q20, .inl (k0, 6, .inl (fun _ => 0))), (q21, .inl (k0, 6, .inl (fun _ => 0))), (q22, .inl (k0, 8, .inl (fun _ => 0))), (q23, .inr (3, [.int 0, .int 0])), (q24, .inr (3, [.int 0, .int 0])), (q25, .inr (3, [.int 0, .int 0])), (q26, .inr (3, [.int 0, .int 0])), (q27, .inr (3, [.int 0, .int 0])), (q28, .inr (3, [.int 0, .int 0])), (q29, .inr (3, [.int 0, .int 0])), (q30, .inr (3, [.int 0, .int 0])), (q31, .inr (2, [.int 0, .int 0, .int 0, .int 0, .int (-1), .int (-1), .int 0, .int 0, .int 0])), (q32, .inr (2, [.int 0, .int 0, .int 0, .int 0, .int (-1), .int (-1), .int 0, .int 0, .int 0])), (q33, .inr (2, [.int 0, .int 0, .int 0, .int 0, .int (-1), .int (-1), .int 0, .int 0, .int 0])), (q34, .inr (2, [.int 0, .int 0, .int 0, .int 0, .int (-1), .int (-1), .int 0, .int 0, .int 0])), (q35, .inr (2, [.int 0, .int 0, .int 0, .int 0, .int (-1), .int (-1), .int 0, .int 0, .int 0])), (q36, .inr (2, [.int 0, .int 0, .int 0, .int 0, .int (-1), .int (-1), .int 0, .int 0, .int 0])), (q37, .inr (5, [.int 0, .int 0, .int 0, .int 0, .int 0, .int 0, .int 0, .int 0])), (q38, .inr (5, [.int 1, .int 0, .int 0, .int 0, .int 0, .int 0, .int 0, .int 0])), (q39, .inr (5, [.int 2, .int 0, .int 0, .int 0, .int 0, .int 0, .int 0, .int 0])), (q40, .inr (5, [.int 3, .int 0, .int 0, .int 0, .int 0, .int 0, .int 0, .int 0])), (y0, .inr (7, [.int 0, .ref r1, .ref r2, .int 0, .ref r3, .ref r4, .ref r5, .ref r6, .ref r7, .ref r8, .ref r9, .ref r10, .ref r11, .ref r12, .ref r13, .int 0, .ref r14, .ref r15, .ref r16, .ref r17, .ref r18, .ref r19, .ref r20, .int (-1), .int 0, .ref r21, .ref r22, .ref r23, .int 0, .int 0, .int 0, .int 0, .int 0, .ref r24, .int 0])), (r1, .inl (k0, 8, .inl (fun _ => 0))), (r2, .inl (k0, 8, .inl (fun _ => 0))), (r3, .inl (k0, 6, .inl (fun _ => 0))), (r4, .inl (k0, 6, .inl (fun _ => 0))), (r5, .inl (k0, 6, .inl (fun _ => 0))), (r6, .inl (k0, 6, .inl (fun _ => 0))), (r7, .inl (K1, 6, .inl (fun _ => 0))), (r8, .inl (k0, 6, .inl (fun _ => 0))), (r9, .inl (k0, 6, .inl (fun _ => 0))), (r10, .inl (k0, 6, .inl (fun _ => 0))), (r11, .inl (k0, 6, .inl (fun _ => 0))), (r12, .inl (k0, 6, .inl (fun _ => 0))), (r13, .inl (k0, 3, .inl (fun _ => 0))), (r14, .inl (k0, 4, .inl (fun _ => 0))), (r15, .inl (k0, 4, .inl (fun _ => 0))), (r16, .inl (k0, 4, .inl (fun _ => 0))), (r17, .inl (k0, 4, .inl (fun _ => 0))), (r18, .inl (k0, 4, .inl (fun _ => 0))), (r19, .inl (k0, 4, .inl (fun _ => 0))), (r20, .inl (k0, 4, .inl (fun _ => 0))), (r21, .inl (k0, 6, .inl (fun _ => 0))), (r22, .inl (k0, 6, .inl (fun _ => 0))), (r23, .inl (k0, 6, .inl (fun _ => 0))), (r24, .inl (k0, 6, .inl (fun _ => 0))), (z0, .inl (K5, 1, .inr (.inl (fun _ => 0)))), (z1, .inl (K6, 1, .inr (.inr (.inr (.inl (fun _ => 0))))))]
set_option maxHeartbeats 4000000 in
set_option maxRecDepth 100000 in
theorem to68 {D : va_G} {H : Heap} (K : Nat → ClassId) (x0 q1 q2 q3 q4 q5 q6 q7 q8 q9 q10 q11 q12 q13 q14 q15 q16 q17 q18 q19 q20 q21 q22 q23 q24 q25 q26 q27 q28 q29 q30 q31 q32 q33 q34 q35 q36 q37 q38 q39 q40 y0 r1 r2 r3 r4 r5 r6 r7 r8 r9 r10 r11 r12 r13 r14 r15 r16 r17 r18 r19 r20 r21 r22 r23 r24 z0 z1 : Nat) (hP : va_P D vwCl (w68 (K 0) (K 1) (K 2) (K 3) (K 4) (K 5) (K 6) x0 q1 q2 q3 q4 q5 q6 q7 q8 q9 q10 q11 q12 q13 q14 q15 q16 q17 q18 q19 q20 q21 q22 q23 q24 q25 q26 q27 q28 q29 q30 q31 q32 q33 q34 q35 q36 q37 q38 q39 q40 y0 r1 r2 r3 r4 r5 r6 r7 r8 r9 r10 r11 r12 r13 r14 r15 r16 r17 r18 r19 r20 r21 r22 r23 r24 z0 z1) H) : Wd D K (gOf [x0, q1, q2, q3, q4, q5, q6, q7, q8, q9, q10, q11, q12, q13, q14, q15, q16, q17, q18, q19, q20, q21, q22, q23, q24, q25, q26, q27, q28, q29, q30, q31, q32, q33, q34, q35, q36, q37, q38, q39, q40, y0, r1, r2, r3, r4, r5, r6, r7, r8, r9, r10, r11, r12, r13, r14, r15, r16, r17, r18, r19, r20, r21, r22, r23, r24, z0, z1]) sg0 o0 H := by
  intro k q hk
  have hk68 : k < 68 := by
    have := (List.getElem?_eq_some_iff.mp hk).1
    rwa [wls_len] at this
  rw [wls_at hk68] at hk
  cases hk
  match k, hk68 with
  | 0, _ => exact hP 0 _ rfl
  | 1, _ => exact cv_q (fun j hj => by rcases (show j = 0 ∨ j = 1 ∨ j = 2 ∨ j = 3 ∨ j = 4 ∨ j = 5 ∨ j = 6 ∨ j = 7 by omega) with rfl | rfl | rfl | rfl | rfl | rfl | rfl | rfl <;> rfl) (hP 1 _ rfl)
  | 2, _ => exact cv_q (fun j hj => by rcases (show j = 0 ∨ j = 1 ∨ j = 2 ∨ j = 3 ∨ j = 4 ∨ j = 5 by omega) with rfl | rfl | rfl | rfl | rfl | rfl <;> rfl) (hP 2 _ rfl)
  | 3, _ => exact cv_q (fun j hj => by rcases (show j = 0 ∨ j = 1 ∨ j = 2 ∨ j = 3 by omega) with rfl | rfl | rfl | rfl <;> rfl) (hP 3 _ rfl)
  | 4, _ => exact cv_i (fun j => by simp [sg0]) (hP 4 _ rfl)
  | 5, _ => exact hP 5 _ rfl
  | 6, _ => exact cv_i (fun j => by simp [sg0]) (hP 6 _ rfl)
  | 7, _ => exact cv_i (fun j => by simp [sg0]) (hP 7 _ rfl)
  | 8, _ => exact cv_i (fun j => by simp [sg0]) (hP 8 _ rfl)
  | 9, _ => exact cv_i (fun j => by simp [sg0]) (hP 9 _ rfl)
  | 10, _ => exact cv_i (fun j => by simp [sg0]) (hP 10 _ rfl)
  | 11, _ => exact hP 11 _ rfl
  | 12, _ => exact cv_i (fun j => by simp [sg0]) (hP 12 _ rfl)
  | 13, _ => exact cv_i (fun j => by simp [sg0]) (hP 13 _ rfl)
  | 14, _ => exact cv_i (fun j => by simp [sg0]) (hP 14 _ rfl)
  | 15, _ => exact cv_i (fun j => by simp [sg0]) (hP 15 _ rfl)
  | 16, _ => exact cv_i (fun j => by simp [sg0]) (hP 16 _ rfl)
  | 17, _ => exact hP 17 _ rfl
  | 18, _ => exact cv_i (fun j => by simp [sg0]) (hP 18 _ rfl)
  | 19, _ => exact cv_i (fun j => by simp [sg0]) (hP 19 _ rfl)
  | 20, _ => exact cv_i (fun j => by simp [sg0]) (hP 20 _ rfl)
  | 21, _ => exact cv_i (fun j => by simp [sg0]) (hP 21 _ rfl)
  | 22, _ => exact cv_i (fun j => by simp [sg0]) (hP 22 _ rfl)
  | 23, _ => exact hP 23 _ rfl
  | 24, _ => exact hP 24 _ rfl
  | 25, _ => exact hP 25 _ rfl
  | 26, _ => exact hP 26 _ rfl
  | 27, _ => exact hP 27 _ rfl
  | 28, _ => exact hP 28 _ rfl
  | 29, _ => exact hP 29 _ rfl
  | 30, _ => exact hP 30 _ rfl
  | 31, _ => exact hP 31 _ rfl
  | 32, _ => exact hP 32 _ rfl
  | 33, _ => exact hP 33 _ rfl
  | 34, _ => exact hP 34 _ rfl
  | 35, _ => exact hP 35 _ rfl
  | 36, _ => exact hP 36 _ rfl
  | 37, _ => exact hP 37 _ rfl
  | 38, _ => exact hP 38 _ rfl
  | 39, _ => exact hP 39 _ rfl
  | 40, _ => exact hP 40 _ rfl
  | 41, _ => exact hP 41 _ rfl
  | 42, _ => exact cv_i (fun j => by simp [sg0]) (hP 42 _ rfl)
  | 43, _ => exact cv_i (fun j => by simp [sg0]) (hP 43 _ rfl)
  | 44, _ => exact cv_i (fun j => by simp [sg0]) (hP 44 _ rfl)
  | 45, _ => exact cv_i (fun j => by simp [sg0]) (hP 45 _ rfl)
  | 46, _ => exact cv_i (fun j => by simp [sg0]) (hP 46 _ rfl)
  | 47, _ => exact cv_i (fun j => by simp [sg0]) (hP 47 _ rfl)
  | 48, _ => exact cv_i (fun j => by simp [sg0]) (hP 48 _ rfl)
  | 49, _ => exact cv_i (fun j => by simp [sg0]) (hP 49 _ rfl)
  | 50, _ => exact cv_i (fun j => by simp [sg0]) (hP 50 _ rfl)
  | 51, _ => exact cv_i (fun j => by simp [sg0]) (hP 51 _ rfl)
  | 52, _ => exact cv_i (fun j => by simp [sg0]) (hP 52 _ rfl)
  | 53, _ => exact cv_i (fun j => by simp [sg0]) (hP 53 _ rfl)
  | 54, _ => exact cv_i (fun j => by simp [sg0]) (hP 54 _ rfl)
  | 55, _ => exact cv_i (fun j => by simp [sg0]) (hP 55 _ rfl)
  | 56, _ => exact cv_i (fun j => by simp [sg0]) (hP 56 _ rfl)
  | 57, _ => exact cv_i (fun j => by simp [sg0]) (hP 57 _ rfl)
  | 58, _ => exact cv_i (fun j => by simp [sg0]) (hP 58 _ rfl)
  | 59, _ => exact cv_i (fun j => by simp [sg0]) (hP 59 _ rfl)
  | 60, _ => exact cv_i (fun j => by simp [sg0]) (hP 60 _ rfl)
  | 61, _ => exact cv_i (fun j => by simp [sg0]) (hP 61 _ rfl)
  | 62, _ => exact cv_i (fun j => by simp [sg0]) (hP 62 _ rfl)
  | 63, _ => exact cv_i (fun j => by simp [sg0]) (hP 63 _ rfl)
  | 64, _ => exact cv_i (fun j => by simp [sg0]) (hP 64 _ rfl)
  | 65, _ => exact cv_i (fun j => by simp [sg0]) (hP 65 _ rfl)
  | 66, _ => exact hP 66 _ rfl
  | 67, _ => exact hP 67 _ rfl
  | k + 68, h => exact absurd h (by omega)
