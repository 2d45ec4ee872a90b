/-! THE STATE: all ints and all arrays of both objects, by number; the heap that it is -/
abbrev AI : Type := Nat → Int32
abbrev AF : Type := Nat → Nat → Int32
abbrev AQ : Type := Option (Int32 × AI × AF)
def hp (I : AI) (F : AF) : AH := [.inr (9, [.ref 1, .ref 16, .ref 27, .ref 29, .ref 32, .ref 37, .ref 43, .ref 45, .int (I 0)]), .inr (6, [.ref 2, .ref 4, .ref 15, .int (I 1), .int (I 2), .int (I 3), .int (I 4)]), .inr (2, [.ref 3, .int (I 5)]), .inl (0, 250, F 0), .inr (5, [.int (I 6), .int (I 7), .int (I 8), .ref 5, .ref 6, .ref 7, .ref 8, .ref 9, .ref 10, .ref 11, .ref 12, .ref 13, .ref 14]), .inl (0, 6, F 1), .inl (0, 24, F 2), .inl (0, 6, F 3), .inl (0, 6, F 4), .inl (0, 6, F 5), .inl (0, 6, F 6), .inl (0, 8, F 7), .inl (0, 8, F 8), .inl (0, 8, F 9), .inl (0, 8, F 10), .inl (0, 5, F 11), .inr (5, [.int (I 9), .int (I 10), .int (I 11), .ref 17, .ref 18, .ref 19, .ref 20, .ref 21, .ref 22, .ref 23, .ref 24, .ref 25, .ref 26]), .inl (0, 6, F 12), .inl (0, 24, F 13), .inl (0, 6, F 14), .inl (0, 6, F 15), .inl (0, 6, F 16), .inl (0, 6, F 17), .inl (0, 8, F 18), .inl (0, 8, F 19), .inl (0, 8, F 20), .inl (0, 8, F 21), .inr (8, [.ref 28]), .inl (0, 21, F 22), .inr (4, [.ref 30, .ref 31, .int (I 12), .int (I 13), .int (I 14)]), .inl (0, 400, F 23), .inl (0, 42, F 24), .inr (3, [.ref 33, .ref 34, .ref 35, .ref 36, .int (I 15), .int (I 16)]), .inl (0, 8, F 25), .inl (0, 8, F 26), .inl (0, 15, F 27), .inl (0, 15, F 28), .inr (0, [.ref 38, .ref 39, .ref 40, .ref 41, .ref 42, .int (I 17), .int (I 18), .int (I 19)]), .inl (0, 6, F 29), .inl (0, 6, F 30), .inl (0, 6, F 31), .inl (0, 6, F 32), .inl (0, 6, F 33), .inr (7, [.ref 44, .int (I 20)]), .inl (0, 4, F 34), .inr (1, [.ref 46, .ref 47, .ref 48, .int (I 21)]), .inl (0, 64, F 35), .inl (0, 6, F 36), .inl (0, 6, F 37), .inr (10, [.int (I 22), .ref 50, .ref 51, .int (I 23), .ref 52, .ref 53, .ref 54, .int (I 24), .ref 55, .ref 56, .ref 57, .ref 58, .ref 59, .int (I 25), .ref 60, .int (I 26), .int (I 27), .int (I 28), .int (I 29), .int (I 30), .int (I 31), .ref 61, .ref 62, .ref 63, .int (I 32), .ref 64, .ref 65, .ref 66, .int (I 33), .ref 67, .ref 68, .ref 69, .ref 70, .int (I 34), .ref 71, .int (I 35), .int (I 36), .int (I 37), .ref 72, .ref 73, .int (I 38), .ref 74, .ref 75, .ref 76, .ref 77]), .inl (0, 24, F 38), .inl (0, 6, F 39), .inl (0, 6, F 40), .inl (0, 6, F 41), .inl (0, 6, F 42), .inl (0, 8, F 43), .inl (0, 8, F 44), .inl (0, 8, F 45), .inl (0, 8, F 46), .inl (0, 22, F 47), .inl (0, 250, F 48), .inl (0, 6, F 49), .inl (0, 24, F 50), .inl (0, 6, F 51), .inl (0, 6, F 52), .inl (0, 6, F 53), .inl (0, 6, F 54), .inl (0, 8, F 55), .inl (0, 8, F 56), .inl (0, 8, F 57), .inl (0, 8, F 58), .inl (0, 440, F 59), .inl (0, 8, F 60), .inl (0, 8, F 61), .inl (0, 15, F 62), .inl (0, 15, F 63), .inl (0, 46, F 64), .inl (1, 2, F 65)]
def ab_lt {α : Type} (e : α) (g : α → AQ) : AQ := g e
def ab_bd (o : AQ) (g : Int32 → AI → AF → AQ) : AQ := match o with
  | some (r, I, F) => g r I F
  | none => none
def ab_fu : Nat := 100000
def ab_vin (i : Int32) (n : Nat) : Bool := !(decide (i < 0) || decide (n ≤ i.toNatClampNeg))
theorem ab_vo {i : Int32} {n : Nat} (h : ab_vin i n = true) : vp_in i n := by
  intro q
  simp only [ab_vin, Bool.not_eq_true', Bool.or_eq_false_iff, decide_eq_false_iff_not] at h
  rcases q with q | q
  · exact h.1 q
  · exact h.2 q
def ab_nz (y : Int32) : Bool := !(decide (y = 0))
theorem ab_nzo {y : Int32} (h : ab_nz y = true) : ¬ y = 0 := by simpa [ab_nz] using h
def ab_bt (x : Int32) : Bool := decide (x = 0) || decide (x = 1)
theorem ab_bto {x : Int32} (h : ab_bt x = true) : x = 0 ∨ x = 1 := by simpa [ab_bt] using h
def ab_cg (sp dp n : Int32) (n0 n1 : Nat) : Bool := !(decide (sp < 0)) && !(decide (dp < 0)) && !(decide (n < 0)) && decide (sp.toNatClampNeg + n.toNatClampNeg ≤ n0) && decide (dp.toNatClampNeg + n.toNatClampNeg ≤ n1)
theorem ab_cgo {sp dp n : Int32} {n0 n1 : Nat} {P : Prop} (h : ab_cg sp dp n n0 n1 = true) (hP : P) : ¬ sp < 0 ∧ ¬ dp < 0 ∧ ¬ n < 0 ∧ sp.toNatClampNeg + n.toNatClampNeg ≤ n0 ∧ dp.toNatClampNeg + n.toNatClampNeg ≤ n1 ∧ P := by
  simp only [ab_cg, Bool.and_eq_true, Bool.not_eq_true', decide_eq_false_iff_not, decide_eq_true_eq] at h
  exact ⟨h.1.1.1.1, h.1.1.1.2, h.1.1.2, h.1.2, h.2, hP⟩
/-! the rules, of ab_E -/
theorem ab_Es {X : AX} {d k n : Nat} {M : MI} {R : AR} (hok : ab_ok M) : ∀ (j : Nat) (S S' : AS) (C : Prop), ab_iter X M j S = some (S', C) → C → ab_E X d k n M S' R → ab_E X d k n M S R
  | 0, S, S', C, h, _, hE => by
    cases h
    exact hE
  | j + 1, S, S', C, h, hC, hE => by
    intro P hP
    unfold ab_iter at h
    split at h
    · next e he =>
      split at h
      · next S1 C1 hs =>
        split at h
        · next S2 C2 hi =>
          cases h
          exact hP.1 X d k n M S R e S1 C1 hok he hs hC.1 (ab_Es hok j S1 _ C2 hi hC.2 hE P hP)
        · cases h
      · cases h
    · cases h
theorem ab_Ecv {X : AX} {d k n d1 k1 n1 k2 n2 : Nat} {M M' : MI} {R : AR} {pc : Nat} {lv : List (Nat × Value)} {As rest : List Value} {h h1 : AH} {v : Option Value} {e : AE} {idx ci a c0 : Nat} {f0 : List Value} (a1 : ab_ok M) (a2 : ab_ok M') (a3 : ab_lk M.2.2.2.2 pc = some e) (a4 : e.1 = .invokevirtual idx) (a5 : ab_CV M.1.cls idx ci M' As.length) (a6 : ab_nt h a = some (.inr (c0, f0))) (a7 : c0 = ci)
    (a8 : (lg_sl (Value.ref a :: As)).length ≤ M'.2.2.1) (a9 : d1 + 1 ≤ d) (b1 : k1 + k2 ≤ k) (b2 : n1 + n2 ≤ n) (b3 : (rest.map fun v => v.category).sum ≤ 8) (b4 : h.length ≤ h1.length) (b5 : k1 = 0 ∨ (ab_wl h.length lv = true ∧ ab_ws h.length rest = true)) (b6 : ab_vi v)
    (b7 : ab_E none d1 k1 n1 M' (0, ab_lz 0 (Value.ref a :: As), [], h) (v, h1)) (b8 : ab_E X d k2 n2 M (pc + 3, lv, v.toList ++ rest, h1) R) : ab_E X d k n M (pc, lv, As.reverse ++ .ref a :: rest, h) R :=
  fun P hP => hP.2.2.1 X d k n d1 k1 n1 k2 n2 M M' R pc lv As rest h h1 v e idx ci a c0 f0 a1 a2 a3 a4 a5 a6 a7 a8 a9 b1 b2 b3 b4 b5 b6 (b7 P hP) (b8 P hP)
theorem ab_Ecs {X : AX} {d k n d1 k1 n1 k2 n2 : Nat} {M M' : MI} {R : AR} {pc : Nat} {lv : List (Nat × Value)} {As rest : List Value} {h h1 : AH} {v : Option Value} {e : AE} {idx : Nat} (a1 : ab_ok M) (a2 : ab_ok M') (a3 : ab_lk M.2.2.2.2 pc = some e) (a4 : e.1 = .invokestatic idx) (a5 : ab_CS M.1.cls idx M' As.length)
    (a8 : (lg_sl As).length ≤ M'.2.2.1) (a9 : d1 + 1 ≤ d) (b1 : k1 + k2 ≤ k) (b2 : n1 + n2 ≤ n) (b3 : (rest.map fun v => v.category).sum ≤ 8) (b4 : h.length ≤ h1.length) (b5 : k1 = 0 ∨ (ab_wl h.length lv = true ∧ ab_ws h.length rest = true)) (b6 : ab_vi v)
    (b7 : ab_E none d1 k1 n1 M' (0, ab_lz 0 As, [], h) (v, h1)) (b8 : ab_E X d k2 n2 M (pc + 3, lv, v.toList ++ rest, h1) R) : ab_E X d k n M (pc, lv, As.reverse ++ rest, h) R :=
  fun P hP => hP.2.2.2.1 X d k n d1 k1 n1 k2 n2 M M' R pc lv As rest h h1 v e idx a1 a2 a3 a4 a5 a8 a9 b1 b2 b3 b4 b5 b6 (b7 P hP) (b8 P hP)
theorem ab_Eci {X : AX} {d k n d1 k1 n1 k2 n2 : Nat} {M M' : MI} {R : AR} {pc : Nat} {lv : List (Nat × Value)} {As rest : List Value} {h h1 : AH} {e : AE} {idx a : Nat} (a1 : ab_ok M) (a2 : ab_ok M') (a3 : ab_lk M.2.2.2.2 pc = some e) (a4 : e.1 = .invokespecial idx) (a5 : ab_CI M.1.cls idx M' As.length)
    (a8 : (lg_sl (Value.ref a :: As)).length ≤ M'.2.2.1) (a9 : d1 + 1 ≤ d) (b1 : k1 + k2 ≤ k) (b2 : n1 + n2 ≤ n) (b3 : (rest.map fun v => v.category).sum ≤ 8) (b4 : h.length ≤ h1.length) (b5 : k1 = 0 ∨ (ab_wl h.length lv = true ∧ ab_ws h.length rest = true))
    (b7 : ab_E none d1 k1 n1 M' (0, ab_lz 0 (Value.ref a :: As), [], h) (none, h1)) (b8 : ab_E X d k2 n2 M (pc + 3, lv, rest, h1) R) : ab_E X d k n M (pc, lv, As.reverse ++ .ref a :: rest, h) R :=
  fun P hP => hP.2.2.2.2.1 X d k n d1 k1 n1 k2 n2 M M' R pc lv As rest h h1 e idx a a1 a2 a3 a4 a5 a8 a9 b1 b2 b3 b4 b5 (b7 P hP) (b8 P hP)
theorem ab_En {X : AX} {d k n k2 n2 : Nat} {M : MI} {R : AR} {pc : Nat} {lv : List (Nat × Value)} {st : List Value} {h : AH} {e : AE} {idx ci N : Nat} {fs : List Value} (a1 : ab_ok M) (a2 : ab_lk M.2.2.2.2 pc = some e) (a3 : e.1 = .new idx) (a4 : ab_N M.1.cls idx ci N fs) (a5 : ab_wf (pc, lv, st, h) = true) (a6 : k2 + 1 ≤ k) (a7 : n2 + N ≤ n)
    (a8 : ab_E X d k2 n2 M (pc + 3, lv, .ref h.length :: st, h ++ [.inr (ci, fs)]) R) : ab_E X d k n M (pc, lv, st, h) R :=
  fun P hP => hP.2.2.2.2.2.1 X d k n k2 n2 M R pc lv st h e idx ci N fs a1 a2 a3 a4 a5 a6 a7 (a8 P hP)
theorem ab_Ea {X : AX} {d k n k2 n2 : Nat} {M : MI} {R : AR} {pc : Nat} {lv : List (Nat × Value)} {st : List Value} {h : AH} {e : AE} {t : Nat} {ty : ArrayType} {N : Nat} {x : Int32} (a1 : ab_ok M) (a2 : ab_lk M.2.2.2.2 pc = some e) (a3 : e.1 = .newarray ty) (a4 : (ty = .int ∧ t = 0) ∨ (ty = .boolean ∧ t = 1)) (a5 : ab_wf (pc, lv, st, h) = true) (a6 : ¬ x < 0) (a7 : x.toNatClampNeg = N) (a8 : N ≤ 1000) (a9 : k2 + 1 ≤ k) (b1 : n2 + N ≤ n)
    (b2 : ab_E X d k2 n2 M (pc + 2, lv, .ref h.length :: st, h ++ [.inl (t, N, fun _ => 0)]) R) : ab_E X d k n M (pc, lv, .int x :: st, h) R :=
  fun P hP => hP.2.2.2.2.2.2.1 X d k n k2 n2 M R pc lv st h e t ty N x a1 a2 a3 a4 a5 a6 a7 a8 a9 b1 (b2 P hP)
theorem ab_Ep {X : AX} {d k n : Nat} {M : MI} {R : AR} {pc : Nat} {lv lv' : List (Nat × Value)} {st : List Value} {h : AH} (ks : List Nat) (a1 : lv_pick lv ks = lv') (a2 : ab_E X d k n M (pc, lv', st, h) R) : ab_E X d k n M (pc, lv, st, h) R :=
  fun P hP => hP.2.2.2.2.2.2.2 X d k n M R pc lv lv' st h ks a1 (a2 P hP)
theorem ab_Er {X : AX} {d k n : Nat} {M : MI} {pc : Nat} {lv : List (Nat × Value)} {v : Option Value} {h : AH} {e : AE} (a1 : ab_ok M) (a2 : ab_lk M.2.2.2.2 pc = some e) (a3 : ab_rt M e.1 v) : ab_E X d k n M (pc, lv, v.toList, h) (v, h) :=
  fun P hP => hP.2.1 X d k n M pc lv v h e a1 a2 a3
/-! what a method's function says of it -/
def OK (d : Nat) (M : MI) (b : Bool) (o : AQ) (S : AS) : Prop := ∀ r I F, o = some (r, I, F) → ab_E none d 0 0 M S (bif b then some (.int r) else none, hp I F)
theorem OK_no {d : Nat} {M : MI} {b : Bool} {S : AS} : OK d M b none S := fun _ _ _ h => by cases h
theorem OK_st {d : Nat} {M : MI} {b : Bool} {o : AQ} {S S' : AS} {C : Prop} (j : Nat) (hok : ab_ok M) (h : ab_iter none M j S = some (S', C)) (hC : C) (hO : OK d M b o S') : OK d M b o S := fun r I F e => ab_Es hok j S S' C h hC (hO r I F e)
theorem OK_if {d : Nat} {M : MI} {b : Bool} {o1 o2 : AQ} {c : Prop} [Decidable c] {x y : Nat} {lv : List (Nat × Value)} {st : List Value} {h : AH} (h1 : c → OK d M b o1 (x, lv, st, h)) (h2 : ¬ c → OK d M b o2 (y, lv, st, h)) : OK d M b (if c then o1 else o2) (if c then x else y, lv, st, h) := by
  by_cases q : c
  · rw [if_pos q, if_pos q]; exact h1 q
  · rw [if_neg q, if_neg q]; exact h2 q
theorem OK_ci {d : Nat} {M : MI} {b : Bool} {o1 o2 : AQ} {c : Prop} [Decidable c] {S : AS} (h1 : c → OK d M b o1 S) (h2 : ¬ c → OK d M b o2 S) : OK d M b (if c then o1 else o2) S := by
  by_cases q : c
  · rw [if_pos q]; exact h1 q
  · rw [if_neg q]; exact h2 q
theorem OK_gd {d : Nat} {M : MI} {b : Bool} {o : AQ} {g : Bool} {S : AS} (h1 : g = true → OK d M b o S) : OK d M b (bif g then o else none) S := by
  cases g with
  | true => exact h1 rfl
  | false => exact OK_no
theorem OK_lt {d : Nat} {M : MI} {b : Bool} {α : Type} {e : α} {g : α → AQ} (S : α → AS) (h : ∀ x, OK d M b (g x) (S x)) : OK d M b (ab_lt e g) (S e) := h e
theorem OK_pk {d : Nat} {M : MI} {b : Bool} {o : AQ} {pc : Nat} {lv lv' : List (Nat × Value)} {st : List Value} {h : AH} (ks : List Nat) (a1 : lv_pick lv ks = lv') (a2 : OK d M b o (pc, lv', st, h)) : OK d M b o (pc, lv, st, h) := fun r I F e => ab_Ep ks a1 (a2 r I F e)
theorem OK_pc {d : Nat} {M : MI} {b : Bool} {o : AQ} {pc pc' : Nat} {lv : List (Nat × Value)} {st : List Value} {h : AH} (e : pc = pc') (a : OK d M b o (pc', lv, st, h)) : OK d M b o (pc, lv, st, h) := by rw [e]; exact a
theorem OK_ri {d : Nat} {M : MI} {r : Int32} {I : AI} {F : AF} {pc : Nat} {lv : List (Nat × Value)} {e : AE} (hok : ab_ok M) (hlk : ab_lk M.2.2.2.2 pc = some e) (he : e.1 = .ireturn) (hr : M.2.2.2.1 = some .int ∨ (M.2.2.2.1 = some .boolean ∧ (r = 0 ∨ r = 1))) : OK d M true (some (r, I, F)) (pc, lv, [.int r], hp I F) := fun r' I' F' q => by
  cases q
  exact ab_Er (v := some (.int r)) hok hlk ⟨he, hr⟩
theorem OK_rv {d : Nat} {M : MI} {r : Int32} {I : AI} {F : AF} {pc : Nat} {lv : List (Nat × Value)} {e : AE} (hok : ab_ok M) (hlk : ab_lk M.2.2.2.2 pc = some e) (he : e.1 = .return_) (hr : M.2.2.2.1 = none) : OK d M false (some (r, I, F)) (pc, lv, [], hp I F) := fun r' I' F' q => by
  cases q
  exact ab_Er (v := none) hok hlk ⟨he, hr⟩
theorem OK_cv {d d1 : Nat} {M M' : MI} {b b' : Bool} {o : AQ} {g : Int32 → AI → AF → AQ} {I : AI} {F : AF} {pc : Nat} {lv : List (Nat × Value)} (As rest : List Value) {e : AE} {idx ci a c0 : Nat} {f0 : List Value} (a1 : ab_ok M) (a2 : ab_ok M') (a3 : ab_lk M.2.2.2.2 pc = some e) (a4 : e.1 = .invokevirtual idx) (a5 : ab_CV M.1.cls idx ci M' As.length) (a6 : ab_nt (hp I F) a = some (.inr (c0, f0))) (a7 : c0 = ci)
    (a8 : (lg_sl (Value.ref a :: As)).length ≤ M'.2.2.1) (a9 : d1 + 1 ≤ d) (b3 : (rest.map fun v => v.category).sum ≤ 8)
    (b7 : OK d1 M' b' o (0, ab_lz 0 (Value.ref a :: As), [], hp I F)) (b8 : ∀ r I' F', OK d M b (g r I' F') (pc + 3, lv, (bif b' then [.int r] else []) ++ rest, hp I' F')) : OK d M b (ab_bd o g) (pc, lv, As.reverse ++ .ref a :: rest, hp I F) := by
  intro r I2 F2 q
  match o, b7, q with
  | some (r1, I1, F1), b7, q =>
    have k7 := b7 r1 I1 F1 rfl
    have k8 := b8 r1 I1 F1 r I2 F2 q
    cases b' with
    | true => exact ab_Ecv (h1 := hp I1 F1) (v := some (.int r1)) a1 a2 a3 a4 a5 a6 a7 a8 a9 (Nat.le_refl 0) (Nat.le_refl 0) b3 (Nat.le_refl _) (Or.inl rfl) trivial k7 k8
    | false => exact ab_Ecv (h1 := hp I1 F1) (v := none) a1 a2 a3 a4 a5 a6 a7 a8 a9 (Nat.le_refl 0) (Nat.le_refl 0) b3 (Nat.le_refl _) (Or.inl rfl) trivial k7 k8
  | none, _, q => cases q
theorem OK_cs {d d1 : Nat} {M M' : MI} {b b' : Bool} {o : AQ} {g : Int32 → AI → AF → AQ} {I : AI} {F : AF} {pc : Nat} {lv : List (Nat × Value)} (As rest : List Value) {e : AE} {idx : Nat} (a1 : ab_ok M) (a2 : ab_ok M') (a3 : ab_lk M.2.2.2.2 pc = some e) (a4 : e.1 = .invokestatic idx) (a5 : ab_CS M.1.cls idx M' As.length)
    (a8 : (lg_sl As).length ≤ M'.2.2.1) (a9 : d1 + 1 ≤ d) (b3 : (rest.map fun v => v.category).sum ≤ 8)
    (b7 : OK d1 M' b' o (0, ab_lz 0 As, [], hp I F)) (b8 : ∀ r I' F', OK d M b (g r I' F') (pc + 3, lv, (bif b' then [.int r] else []) ++ rest, hp I' F')) : OK d M b (ab_bd o g) (pc, lv, As.reverse ++ rest, hp I F) := by
  intro r I2 F2 q
  match o, b7, q with
  | some (r1, I1, F1), b7, q =>
    have k7 := b7 r1 I1 F1 rfl
    have k8 := b8 r1 I1 F1 r I2 F2 q
    cases b' with
    | true => exact ab_Ecs (h1 := hp I1 F1) (v := some (.int r1)) a1 a2 a3 a4 a5 a8 a9 (Nat.le_refl 0) (Nat.le_refl 0) b3 (Nat.le_refl _) (Or.inl rfl) trivial k7 k8
    | false => exact ab_Ecs (h1 := hp I1 F1) (v := none) a1 a2 a3 a4 a5 a8 a9 (Nat.le_refl 0) (Nat.le_refl 0) b3 (Nat.le_refl _) (Or.inl rfl) trivial k7 k8
  | none, _, q => cases q
