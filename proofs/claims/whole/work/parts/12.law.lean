/-! the law: its loop, out of what each operation keeps -/
def ab_Sim (Inv : AI → AF → Prop) (fx fm : AI → AF → AQ) : Prop := ∀ I F, Inv I F → ∃ r I1 F1 I2 F2, fx I F = some (r, I1, F1) ∧ fm I1 F1 = some (r, I2, F2) ∧ Inv I2 F2
def LK (L : Nat) (xs : Nat → Int32) (S : AS) : Prop := ∃ h, ab_E (some (L, xs)) 14 0 0 mL_law S (some (.int 1), h)
theorem LK_st {L : Nat} {xs : Nat → Int32} {S S' : AS} {C : Prop} (j : Nat) (h : ab_iter (some (L, xs)) mL_law j S = some (S', C)) (hC : C) (hE : LK L xs S') : LK L xs S := by
  obtain ⟨g, hE⟩ := hE
  exact ⟨g, ab_Es okL_law j S S' C h hC hE⟩
theorem LK_pc {L : Nat} {xs : Nat → Int32} {pc pc' : Nat} {lv : List (Nat × Value)} {st : List Value} {h : AH} (e : pc = pc') (a : LK L xs (pc', lv, st, h)) : LK L xs (pc, lv, st, h) := by rw [e]; exact a
theorem LK_cv {L : Nat} {xs : Nat → Int32} {d1 : Nat} {M' : MI} {o : AQ} {r : Int32} {I I1 : AI} {F F1 : AF} {pc : Nat} {lv : List (Nat × Value)} (As rest : List Value) {e : AE} {idx ci a c0 : Nat} {f0 : List Value} (a2 : ab_ok M') (a3 : ab_lk mL_law.2.2.2.2 pc = some e) (a4 : e.1 = .invokevirtual idx) (a5 : ab_CV mL_law.1.cls idx ci M' As.length) (a6 : ab_nt (hp I F) a = some (.inr (c0, f0))) (a7 : c0 = ci)
    (a8 : (lg_sl (Value.ref a :: As)).length ≤ M'.2.2.1) (a9 : d1 + 1 ≤ 14) (b3 : (rest.map fun v => v.category).sum ≤ 8)
    (b7 : OK d1 M' true o (0, ab_lz 0 (Value.ref a :: As), [], hp I F)) (ho : o = some (r, I1, F1)) (b8 : LK L xs (pc + 3, lv, .int r :: rest, hp I1 F1)) : LK L xs (pc, lv, As.reverse ++ .ref a :: rest, hp I F) := by
  obtain ⟨g, b8⟩ := b8
  exact ⟨g, ab_Ecv (h1 := hp I1 F1) (v := some (.int r)) okL_law a2 a3 a4 a5 a6 a7 a8 a9 (Nat.le_refl 0) (Nat.le_refl 0) b3 (Nat.le_refl _) (Or.inl rfl) trivial (b7 r I1 F1 ho) b8⟩
theorem law_in {L i k : Nat} (h : i + 4 ≤ L) (hk : k ≤ 3) (hL : L ≤ 256) {c : Int32} (hc : c = nI k) : vp_in (nI i + c) L := by
  rw [hc, nI_add]
  exact vp_in_nI (by omega) (by omega)
theorem law_out {L i : Nat} (hL : L ≤ 256) (hi : i ≤ L) (h : ¬ (Int32.ofNat L - 4 < nI i)) : i + 4 ≤ L := by
  apply Nat.le_of_not_lt
  intro q
  apply h
  have e1 : (Int32.ofNat L).toInt = (L : Int) := nI_toInt (n := L) (by omega)
  have e2 : (nI i).toInt = (i : Int) := nI_toInt (by omega)
  rw [Int32.lt_iff_toInt_lt, e2]
  have e3 : (Int32.ofNat L - 4).toInt = (L : Int) - 4 := by
    have e4 : (4 : Int32).toInt = 4 := rfl
    rw [Int32.toInt_sub, e1, e4]
    exact Int.bmod_eq_of_le (by omega) (by omega)
  omega
set_option maxRecDepth 20000 in
set_option maxHeartbeats 4000000 in
theorem law_c0 {Inv : AI → AF → Prop} (h_feed : ∀ a1, ab_Sim Inv (f_X9_feed a1) (f_X10_feed a1)) {L i : Nat} {xs : Nat → Int32} (hL : L ≤ 256) (h4 : i + 4 ≤ L) {I : AI} {F : AF} (hI : Inv I F) (go : ∀ I F, Inv I F → LK L xs (959, [(3, .int (nI i)), (2, .ref 49), (1, .ref 0), (0, .ref ab_scr)], [], hp I F)) : LK L xs (180, [(3, .int (nI i)), (2, .ref 49), (1, .ref 0), (0, .ref ab_scr)], [], hp I F) := by
  obtain ⟨r, I1, F1, I2, F2, e1, e2, hI2⟩ := h_feed (xs (nI i + (1 : Int32)).toNatClampNeg) I F hI
  refine LK_st 6 (S' := (186, [(3, .int (nI i)), (2, .ref 49), (1, .ref 0), (0, .ref ab_scr)], [.int (xs (nI i + (1 : Int32)).toNatClampNeg), .ref 0], hp I F)) rfl ⟨trivial, trivial, trivial, trivial, trivial, (law_in h4 (k := 1) (by decide) hL rfl), trivial⟩ ?_
  refine LK_cv [.int (xs (nI i + (1 : Int32)).toNatClampNeg)] [] okX9_feed rfl rfl cl_RL_13 rfl rfl (Nat.le_of_ble_eq_true rfl) (by decide) (Nat.le_of_ble_eq_true rfl) (kf_X9_feed (xs (nI i + (1 : Int32)).toNatClampNeg) I F) e1 ?_
  refine LK_st 6 (S' := (195, [(3, .int (nI i)), (2, .ref 49), (1, .ref 0), (0, .ref ab_scr)], [.int (xs (nI i + (1 : Int32)).toNatClampNeg), .ref 49, .int r], hp I1 F1)) rfl ⟨trivial, trivial, trivial, trivial, trivial, (law_in h4 (k := 1) (by decide) hL rfl), trivial⟩ ?_
  refine LK_cv [.int (xs (nI i + (1 : Int32)).toNatClampNeg)] [.int r] okX10_feed rfl rfl cl_RL_17 rfl rfl (Nat.le_of_ble_eq_true rfl) (by decide) (Nat.le_of_ble_eq_true rfl) (kf_X10_feed (xs (nI i + (1 : Int32)).toNatClampNeg) I1 F1) e2 ?_
  refine LK_st 1 (S' := ((if r = r then 959 else 201), [(3, .int (nI i)), (2, .ref 49), (1, .ref 0), (0, .ref ab_scr)], [], hp I2 F2)) rfl ⟨trivial, trivial⟩ ?_
  refine LK_pc (if_pos rfl) ?_
  exact go I2 F2 hI2
set_option maxRecDepth 20000 in
set_option maxHeartbeats 4000000 in
theorem law_c1 {Inv : AI → AF → Prop} (h_port : ab_Sim Inv f_X9_port f_X10_port) {L i : Nat} {xs : Nat → Int32} (hL : L ≤ 256) (h4 : i + 4 ≤ L) {I : AI} {F : AF} (hI : Inv I F) (go : ∀ I F, Inv I F → LK L xs (959, [(3, .int (nI i)), (2, .ref 49), (1, .ref 0), (0, .ref ab_scr)], [], hp I F)) : LK L xs (203, [(3, .int (nI i)), (2, .ref 49), (1, .ref 0), (0, .ref ab_scr)], [], hp I F) := by
  obtain ⟨r, I1, F1, I2, F2, e1, e2, hI2⟩ := h_port I F hI
  refine LK_st 1 (S' := (204, [(3, .int (nI i)), (2, .ref 49), (1, .ref 0), (0, .ref ab_scr)], [.ref 0], hp I F)) rfl ⟨trivial, trivial⟩ ?_
  refine LK_cv [] [] okX9_port rfl rfl cl_RL_18 rfl rfl (Nat.le_of_ble_eq_true rfl) (by decide) (Nat.le_of_ble_eq_true rfl) (kf_X9_port I F) e1 ?_
  refine LK_st 1 (S' := (208, [(3, .int (nI i)), (2, .ref 49), (1, .ref 0), (0, .ref ab_scr)], [.ref 49, .int r], hp I1 F1)) rfl ⟨trivial, trivial⟩ ?_
  refine LK_cv [] [.int r] okX10_port rfl rfl cl_RL_22 rfl rfl (Nat.le_of_ble_eq_true rfl) (by decide) (Nat.le_of_ble_eq_true rfl) (kf_X10_port I1 F1) e2 ?_
  refine LK_st 1 (S' := ((if r = r then 959 else 214), [(3, .int (nI i)), (2, .ref 49), (1, .ref 0), (0, .ref ab_scr)], [], hp I2 F2)) rfl ⟨trivial, trivial⟩ ?_
  refine LK_pc (if_pos rfl) ?_
  exact go I2 F2 hI2
set_option maxRecDepth 20000 in
set_option maxHeartbeats 4000000 in
theorem law_c2 {Inv : AI → AF → Prop} (h_fault : ab_Sim Inv f_X9_fault f_X10_fault) {L i : Nat} {xs : Nat → Int32} (hL : L ≤ 256) (h4 : i + 4 ≤ L) {I : AI} {F : AF} (hI : Inv I F) (go : ∀ I F, Inv I F → LK L xs (959, [(3, .int (nI i)), (2, .ref 49), (1, .ref 0), (0, .ref ab_scr)], [], hp I F)) : LK L xs (216, [(3, .int (nI i)), (2, .ref 49), (1, .ref 0), (0, .ref ab_scr)], [], hp I F) := by
  obtain ⟨r, I1, F1, I2, F2, e1, e2, hI2⟩ := h_fault I F hI
  refine LK_st 1 (S' := (217, [(3, .int (nI i)), (2, .ref 49), (1, .ref 0), (0, .ref ab_scr)], [.ref 0], hp I F)) rfl ⟨trivial, trivial⟩ ?_
  refine LK_cv [] [] okX9_fault rfl rfl cl_RL_23 rfl rfl (Nat.le_of_ble_eq_true rfl) (by decide) (Nat.le_of_ble_eq_true rfl) (kf_X9_fault I F) e1 ?_
  refine LK_st 1 (S' := (221, [(3, .int (nI i)), (2, .ref 49), (1, .ref 0), (0, .ref ab_scr)], [.ref 49, .int r], hp I1 F1)) rfl ⟨trivial, trivial⟩ ?_
  refine LK_cv [] [.int r] okX10_fault rfl rfl cl_RL_26 rfl rfl (Nat.le_of_ble_eq_true rfl) (by decide) (Nat.le_of_ble_eq_true rfl) (kf_X10_fault I1 F1) e2 ?_
  refine LK_st 1 (S' := ((if r = r then 959 else 227), [(3, .int (nI i)), (2, .ref 49), (1, .ref 0), (0, .ref ab_scr)], [], hp I2 F2)) rfl ⟨trivial, trivial⟩ ?_
  refine LK_pc (if_pos rfl) ?_
  exact go I2 F2 hI2
set_option maxRecDepth 20000 in
set_option maxHeartbeats 4000000 in
theorem law_c3 {Inv : AI → AF → Prop} (h_told : ∀ a1, ab_Sim Inv (f_X9_told a1) (f_X10_told a1)) {L i : Nat} {xs : Nat → Int32} (hL : L ≤ 256) (h4 : i + 4 ≤ L) {I : AI} {F : AF} (hI : Inv I F) (go : ∀ I F, Inv I F → LK L xs (959, [(3, .int (nI i)), (2, .ref 49), (1, .ref 0), (0, .ref ab_scr)], [], hp I F)) : LK L xs (229, [(3, .int (nI i)), (2, .ref 49), (1, .ref 0), (0, .ref ab_scr)], [], hp I F) := by
  obtain ⟨r, I1, F1, I2, F2, e1, e2, hI2⟩ := h_told (xs (nI i + (1 : Int32)).toNatClampNeg) I F hI
  refine LK_st 6 (S' := (235, [(3, .int (nI i)), (2, .ref 49), (1, .ref 0), (0, .ref ab_scr)], [.int (xs (nI i + (1 : Int32)).toNatClampNeg), .ref 0], hp I F)) rfl ⟨trivial, trivial, trivial, trivial, trivial, (law_in h4 (k := 1) (by decide) hL rfl), trivial⟩ ?_
  refine LK_cv [.int (xs (nI i + (1 : Int32)).toNatClampNeg)] [] okX9_told rfl rfl cl_RL_27 rfl rfl (Nat.le_of_ble_eq_true rfl) (by decide) (Nat.le_of_ble_eq_true rfl) (kf_X9_told (xs (nI i + (1 : Int32)).toNatClampNeg) I F) e1 ?_
  refine LK_st 6 (S' := (244, [(3, .int (nI i)), (2, .ref 49), (1, .ref 0), (0, .ref ab_scr)], [.int (xs (nI i + (1 : Int32)).toNatClampNeg), .ref 49, .int r], hp I1 F1)) rfl ⟨trivial, trivial, trivial, trivial, trivial, (law_in h4 (k := 1) (by decide) hL rfl), trivial⟩ ?_
  refine LK_cv [.int (xs (nI i + (1 : Int32)).toNatClampNeg)] [.int r] okX10_told rfl rfl cl_RL_30 rfl rfl (Nat.le_of_ble_eq_true rfl) (by decide) (Nat.le_of_ble_eq_true rfl) (kf_X10_told (xs (nI i + (1 : Int32)).toNatClampNeg) I1 F1) e2 ?_
  refine LK_st 1 (S' := ((if r = r then 959 else 250), [(3, .int (nI i)), (2, .ref 49), (1, .ref 0), (0, .ref ab_scr)], [], hp I2 F2)) rfl ⟨trivial, trivial⟩ ?_
  refine LK_pc (if_pos rfl) ?_
  exact go I2 F2 hI2
set_option maxRecDepth 20000 in
set_option maxHeartbeats 4000000 in
theorem law_c4 {Inv : AI → AF → Prop} (h_limb : ∀ a1 a2, ab_Sim Inv (f_X9_limb a1 a2) (f_X10_limb a1 a2)) {L i : Nat} {xs : Nat → Int32} (hL : L ≤ 256) (h4 : i + 4 ≤ L) {I : AI} {F : AF} (hI : Inv I F) (go : ∀ I F, Inv I F → LK L xs (959, [(3, .int (nI i)), (2, .ref 49), (1, .ref 0), (0, .ref ab_scr)], [], hp I F)) : LK L xs (252, [(3, .int (nI i)), (2, .ref 49), (1, .ref 0), (0, .ref ab_scr)], [], hp I F) := by
  obtain ⟨r, I1, F1, I2, F2, e1, e2, hI2⟩ := h_limb (xs (nI i + (1 : Int32)).toNatClampNeg) (xs (nI i + (2 : Int32)).toNatClampNeg) I F hI
  refine LK_st 11 (S' := (263, [(3, .int (nI i)), (2, .ref 49), (1, .ref 0), (0, .ref ab_scr)], [.int (xs (nI i + (2 : Int32)).toNatClampNeg), .int (xs (nI i + (1 : Int32)).toNatClampNeg), .ref 0], hp I F)) rfl ⟨trivial, trivial, trivial, trivial, trivial, (law_in h4 (k := 1) (by decide) hL rfl), trivial, trivial, trivial, trivial, (law_in h4 (k := 2) (by decide) hL rfl), trivial⟩ ?_
  refine LK_cv [.int (xs (nI i + (1 : Int32)).toNatClampNeg), .int (xs (nI i + (2 : Int32)).toNatClampNeg)] [] okX9_limb rfl rfl cl_RL_31 rfl rfl (Nat.le_of_ble_eq_true rfl) (by decide) (Nat.le_of_ble_eq_true rfl) (kf_X9_limb (xs (nI i + (1 : Int32)).toNatClampNeg) (xs (nI i + (2 : Int32)).toNatClampNeg) I F) e1 ?_
  refine LK_st 11 (S' := (277, [(3, .int (nI i)), (2, .ref 49), (1, .ref 0), (0, .ref ab_scr)], [.int (xs (nI i + (2 : Int32)).toNatClampNeg), .int (xs (nI i + (1 : Int32)).toNatClampNeg), .ref 49, .int r], hp I1 F1)) rfl ⟨trivial, trivial, trivial, trivial, trivial, (law_in h4 (k := 1) (by decide) hL rfl), trivial, trivial, trivial, trivial, (law_in h4 (k := 2) (by decide) hL rfl), trivial⟩ ?_
  refine LK_cv [.int (xs (nI i + (1 : Int32)).toNatClampNeg), .int (xs (nI i + (2 : Int32)).toNatClampNeg)] [.int r] okX10_limb rfl rfl cl_RL_35 rfl rfl (Nat.le_of_ble_eq_true rfl) (by decide) (Nat.le_of_ble_eq_true rfl) (kf_X10_limb (xs (nI i + (1 : Int32)).toNatClampNeg) (xs (nI i + (2 : Int32)).toNatClampNeg) I1 F1) e2 ?_
  refine LK_st 1 (S' := ((if r = r then 959 else 283), [(3, .int (nI i)), (2, .ref 49), (1, .ref 0), (0, .ref ab_scr)], [], hp I2 F2)) rfl ⟨trivial, trivial⟩ ?_
  refine LK_pc (if_pos rfl) ?_
  exact go I2 F2 hI2
set_option maxRecDepth 20000 in
set_option maxHeartbeats 4000000 in
theorem law_c5 {Inv : AI → AF → Prop} (h_contract : ∀ a1 a2, ab_Sim Inv (f_X9_contract a1 a2) (f_X10_contract a1 a2)) {L i : Nat} {xs : Nat → Int32} (hL : L ≤ 256) (h4 : i + 4 ≤ L) {I : AI} {F : AF} (hI : Inv I F) (go : ∀ I F, Inv I F → LK L xs (959, [(3, .int (nI i)), (2, .ref 49), (1, .ref 0), (0, .ref ab_scr)], [], hp I F)) : LK L xs (285, [(3, .int (nI i)), (2, .ref 49), (1, .ref 0), (0, .ref ab_scr)], [], hp I F) := by
  obtain ⟨r, I1, F1, I2, F2, e1, e2, hI2⟩ := h_contract (xs (nI i + (1 : Int32)).toNatClampNeg) (xs (nI i + (2 : Int32)).toNatClampNeg) I F hI
  refine LK_st 11 (S' := (296, [(3, .int (nI i)), (2, .ref 49), (1, .ref 0), (0, .ref ab_scr)], [.int (xs (nI i + (2 : Int32)).toNatClampNeg), .int (xs (nI i + (1 : Int32)).toNatClampNeg), .ref 0], hp I F)) rfl ⟨trivial, trivial, trivial, trivial, trivial, (law_in h4 (k := 1) (by decide) hL rfl), trivial, trivial, trivial, trivial, (law_in h4 (k := 2) (by decide) hL rfl), trivial⟩ ?_
  refine LK_cv [.int (xs (nI i + (1 : Int32)).toNatClampNeg), .int (xs (nI i + (2 : Int32)).toNatClampNeg)] [] okX9_contract rfl rfl cl_RL_36 rfl rfl (Nat.le_of_ble_eq_true rfl) (by decide) (Nat.le_of_ble_eq_true rfl) (kf_X9_contract (xs (nI i + (1 : Int32)).toNatClampNeg) (xs (nI i + (2 : Int32)).toNatClampNeg) I F) e1 ?_
  refine LK_st 11 (S' := (310, [(3, .int (nI i)), (2, .ref 49), (1, .ref 0), (0, .ref ab_scr)], [.int (xs (nI i + (2 : Int32)).toNatClampNeg), .int (xs (nI i + (1 : Int32)).toNatClampNeg), .ref 49, .int r], hp I1 F1)) rfl ⟨trivial, trivial, trivial, trivial, trivial, (law_in h4 (k := 1) (by decide) hL rfl), trivial, trivial, trivial, trivial, (law_in h4 (k := 2) (by decide) hL rfl), trivial⟩ ?_
  refine LK_cv [.int (xs (nI i + (1 : Int32)).toNatClampNeg), .int (xs (nI i + (2 : Int32)).toNatClampNeg)] [.int r] okX10_contract rfl rfl cl_RL_39 rfl rfl (Nat.le_of_ble_eq_true rfl) (by decide) (Nat.le_of_ble_eq_true rfl) (kf_X10_contract (xs (nI i + (1 : Int32)).toNatClampNeg) (xs (nI i + (2 : Int32)).toNatClampNeg) I1 F1) e2 ?_
  refine LK_st 1 (S' := ((if r = r then 959 else 316), [(3, .int (nI i)), (2, .ref 49), (1, .ref 0), (0, .ref ab_scr)], [], hp I2 F2)) rfl ⟨trivial, trivial⟩ ?_
  refine LK_pc (if_pos rfl) ?_
  exact go I2 F2 hI2
set_option maxRecDepth 20000 in
set_option maxHeartbeats 4000000 in
theorem law_c6 {Inv : AI → AF → Prop} (h_rate : ∀ a1 a2, ab_Sim Inv (f_X9_rate a1 a2) (f_X10_rate a1 a2)) {L i : Nat} {xs : Nat → Int32} (hL : L ≤ 256) (h4 : i + 4 ≤ L) {I : AI} {F : AF} (hI : Inv I F) (go : ∀ I F, Inv I F → LK L xs (959, [(3, .int (nI i)), (2, .ref 49), (1, .ref 0), (0, .ref ab_scr)], [], hp I F)) : LK L xs (318, [(3, .int (nI i)), (2, .ref 49), (1, .ref 0), (0, .ref ab_scr)], [], hp I F) := by
  obtain ⟨r, I1, F1, I2, F2, e1, e2, hI2⟩ := h_rate (xs (nI i + (1 : Int32)).toNatClampNeg) (xs (nI i + (2 : Int32)).toNatClampNeg) I F hI
  refine LK_st 11 (S' := (329, [(3, .int (nI i)), (2, .ref 49), (1, .ref 0), (0, .ref ab_scr)], [.int (xs (nI i + (2 : Int32)).toNatClampNeg), .int (xs (nI i + (1 : Int32)).toNatClampNeg), .ref 0], hp I F)) rfl ⟨trivial, trivial, trivial, trivial, trivial, (law_in h4 (k := 1) (by decide) hL rfl), trivial, trivial, trivial, trivial, (law_in h4 (k := 2) (by decide) hL rfl), trivial⟩ ?_
  refine LK_cv [.int (xs (nI i + (1 : Int32)).toNatClampNeg), .int (xs (nI i + (2 : Int32)).toNatClampNeg)] [] okX9_rate rfl rfl cl_RL_40 rfl rfl (Nat.le_of_ble_eq_true rfl) (by decide) (Nat.le_of_ble_eq_true rfl) (kf_X9_rate (xs (nI i + (1 : Int32)).toNatClampNeg) (xs (nI i + (2 : Int32)).toNatClampNeg) I F) e1 ?_
  refine LK_st 11 (S' := (343, [(3, .int (nI i)), (2, .ref 49), (1, .ref 0), (0, .ref ab_scr)], [.int (xs (nI i + (2 : Int32)).toNatClampNeg), .int (xs (nI i + (1 : Int32)).toNatClampNeg), .ref 49, .int r], hp I1 F1)) rfl ⟨trivial, trivial, trivial, trivial, trivial, (law_in h4 (k := 1) (by decide) hL rfl), trivial, trivial, trivial, trivial, (law_in h4 (k := 2) (by decide) hL rfl), trivial⟩ ?_
  refine LK_cv [.int (xs (nI i + (1 : Int32)).toNatClampNeg), .int (xs (nI i + (2 : Int32)).toNatClampNeg)] [.int r] okX10_rate rfl rfl cl_RL_43 rfl rfl (Nat.le_of_ble_eq_true rfl) (by decide) (Nat.le_of_ble_eq_true rfl) (kf_X10_rate (xs (nI i + (1 : Int32)).toNatClampNeg) (xs (nI i + (2 : Int32)).toNatClampNeg) I1 F1) e2 ?_
  refine LK_st 1 (S' := ((if r = r then 959 else 349), [(3, .int (nI i)), (2, .ref 49), (1, .ref 0), (0, .ref ab_scr)], [], hp I2 F2)) rfl ⟨trivial, trivial⟩ ?_
  refine LK_pc (if_pos rfl) ?_
  exact go I2 F2 hI2
set_option maxRecDepth 20000 in
set_option maxHeartbeats 4000000 in
theorem law_c7 {Inv : AI → AF → Prop} (h_season : ∀ a1, ab_Sim Inv (f_X9_season a1) (f_X10_season a1)) {L i : Nat} {xs : Nat → Int32} (hL : L ≤ 256) (h4 : i + 4 ≤ L) {I : AI} {F : AF} (hI : Inv I F) (go : ∀ I F, Inv I F → LK L xs (959, [(3, .int (nI i)), (2, .ref 49), (1, .ref 0), (0, .ref ab_scr)], [], hp I F)) : LK L xs (351, [(3, .int (nI i)), (2, .ref 49), (1, .ref 0), (0, .ref ab_scr)], [], hp I F) := by
  obtain ⟨r, I1, F1, I2, F2, e1, e2, hI2⟩ := h_season (xs (nI i + (1 : Int32)).toNatClampNeg) I F hI
  refine LK_st 6 (S' := (357, [(3, .int (nI i)), (2, .ref 49), (1, .ref 0), (0, .ref ab_scr)], [.int (xs (nI i + (1 : Int32)).toNatClampNeg), .ref 0], hp I F)) rfl ⟨trivial, trivial, trivial, trivial, trivial, (law_in h4 (k := 1) (by decide) hL rfl), trivial⟩ ?_
  refine LK_cv [.int (xs (nI i + (1 : Int32)).toNatClampNeg)] [] okX9_season rfl rfl cl_RL_44 rfl rfl (Nat.le_of_ble_eq_true rfl) (by decide) (Nat.le_of_ble_eq_true rfl) (kf_X9_season (xs (nI i + (1 : Int32)).toNatClampNeg) I F) e1 ?_
  refine LK_st 6 (S' := (366, [(3, .int (nI i)), (2, .ref 49), (1, .ref 0), (0, .ref ab_scr)], [.int (xs (nI i + (1 : Int32)).toNatClampNeg), .ref 49, .int r], hp I1 F1)) rfl ⟨trivial, trivial, trivial, trivial, trivial, (law_in h4 (k := 1) (by decide) hL rfl), trivial⟩ ?_
  refine LK_cv [.int (xs (nI i + (1 : Int32)).toNatClampNeg)] [.int r] okX10_season rfl rfl cl_RL_47 rfl rfl (Nat.le_of_ble_eq_true rfl) (by decide) (Nat.le_of_ble_eq_true rfl) (kf_X10_season (xs (nI i + (1 : Int32)).toNatClampNeg) I1 F1) e2 ?_
  refine LK_st 1 (S' := ((if r = r then 959 else 372), [(3, .int (nI i)), (2, .ref 49), (1, .ref 0), (0, .ref ab_scr)], [], hp I2 F2)) rfl ⟨trivial, trivial⟩ ?_
  refine LK_pc (if_pos rfl) ?_
  exact go I2 F2 hI2
set_option maxRecDepth 20000 in
set_option maxHeartbeats 4000000 in
theorem law_c8 {Inv : AI → AF → Prop} (h_gout : ∀ a1 a2, ab_Sim Inv (f_X9_gout a1 a2) (f_X10_gout a1 a2)) {L i : Nat} {xs : Nat → Int32} (hL : L ≤ 256) (h4 : i + 4 ≤ L) {I : AI} {F : AF} (hI : Inv I F) (go : ∀ I F, Inv I F → LK L xs (959, [(3, .int (nI i)), (2, .ref 49), (1, .ref 0), (0, .ref ab_scr)], [], hp I F)) : LK L xs (374, [(3, .int (nI i)), (2, .ref 49), (1, .ref 0), (0, .ref ab_scr)], [], hp I F) := by
  obtain ⟨r, I1, F1, I2, F2, e1, e2, hI2⟩ := h_gout (xs (nI i + (1 : Int32)).toNatClampNeg) (xs (nI i + (2 : Int32)).toNatClampNeg) I F hI
  refine LK_st 11 (S' := (385, [(3, .int (nI i)), (2, .ref 49), (1, .ref 0), (0, .ref ab_scr)], [.int (xs (nI i + (2 : Int32)).toNatClampNeg), .int (xs (nI i + (1 : Int32)).toNatClampNeg), .ref 0], hp I F)) rfl ⟨trivial, trivial, trivial, trivial, trivial, (law_in h4 (k := 1) (by decide) hL rfl), trivial, trivial, trivial, trivial, (law_in h4 (k := 2) (by decide) hL rfl), trivial⟩ ?_
  refine LK_cv [.int (xs (nI i + (1 : Int32)).toNatClampNeg), .int (xs (nI i + (2 : Int32)).toNatClampNeg)] [] okX9_gout rfl rfl cl_RL_48 rfl rfl (Nat.le_of_ble_eq_true rfl) (by decide) (Nat.le_of_ble_eq_true rfl) (kf_X9_gout (xs (nI i + (1 : Int32)).toNatClampNeg) (xs (nI i + (2 : Int32)).toNatClampNeg) I F) e1 ?_
  refine LK_st 11 (S' := (399, [(3, .int (nI i)), (2, .ref 49), (1, .ref 0), (0, .ref ab_scr)], [.int (xs (nI i + (2 : Int32)).toNatClampNeg), .int (xs (nI i + (1 : Int32)).toNatClampNeg), .ref 49, .int r], hp I1 F1)) rfl ⟨trivial, trivial, trivial, trivial, trivial, (law_in h4 (k := 1) (by decide) hL rfl), trivial, trivial, trivial, trivial, (law_in h4 (k := 2) (by decide) hL rfl), trivial⟩ ?_
  refine LK_cv [.int (xs (nI i + (1 : Int32)).toNatClampNeg), .int (xs (nI i + (2 : Int32)).toNatClampNeg)] [.int r] okX10_gout rfl rfl cl_RL_51 rfl rfl (Nat.le_of_ble_eq_true rfl) (by decide) (Nat.le_of_ble_eq_true rfl) (kf_X10_gout (xs (nI i + (1 : Int32)).toNatClampNeg) (xs (nI i + (2 : Int32)).toNatClampNeg) I1 F1) e2 ?_
  refine LK_st 1 (S' := ((if r = r then 959 else 405), [(3, .int (nI i)), (2, .ref 49), (1, .ref 0), (0, .ref ab_scr)], [], hp I2 F2)) rfl ⟨trivial, trivial⟩ ?_
  refine LK_pc (if_pos rfl) ?_
  exact go I2 F2 hI2
set_option maxRecDepth 20000 in
set_option maxHeartbeats 4000000 in
theorem law_c9 {Inv : AI → AF → Prop} (h_stub : ∀ a1, ab_Sim Inv (f_X9_stub a1) (f_X10_stub a1)) {L i : Nat} {xs : Nat → Int32} (hL : L ≤ 256) (h4 : i + 4 ≤ L) {I : AI} {F : AF} (hI : Inv I F) (go : ∀ I F, Inv I F → LK L xs (959, [(3, .int (nI i)), (2, .ref 49), (1, .ref 0), (0, .ref ab_scr)], [], hp I F)) : LK L xs (407, [(3, .int (nI i)), (2, .ref 49), (1, .ref 0), (0, .ref ab_scr)], [], hp I F) := by
  obtain ⟨r, I1, F1, I2, F2, e1, e2, hI2⟩ := h_stub (xs (nI i + (1 : Int32)).toNatClampNeg) I F hI
  refine LK_st 6 (S' := (413, [(3, .int (nI i)), (2, .ref 49), (1, .ref 0), (0, .ref ab_scr)], [.int (xs (nI i + (1 : Int32)).toNatClampNeg), .ref 0], hp I F)) rfl ⟨trivial, trivial, trivial, trivial, trivial, (law_in h4 (k := 1) (by decide) hL rfl), trivial⟩ ?_
  refine LK_cv [.int (xs (nI i + (1 : Int32)).toNatClampNeg)] [] okX9_stub rfl rfl cl_RL_52 rfl rfl (Nat.le_of_ble_eq_true rfl) (by decide) (Nat.le_of_ble_eq_true rfl) (kf_X9_stub (xs (nI i + (1 : Int32)).toNatClampNeg) I F) e1 ?_
  refine LK_st 6 (S' := (422, [(3, .int (nI i)), (2, .ref 49), (1, .ref 0), (0, .ref ab_scr)], [.int (xs (nI i + (1 : Int32)).toNatClampNeg), .ref 49, .int r], hp I1 F1)) rfl ⟨trivial, trivial, trivial, trivial, trivial, (law_in h4 (k := 1) (by decide) hL rfl), trivial⟩ ?_
  refine LK_cv [.int (xs (nI i + (1 : Int32)).toNatClampNeg)] [.int r] okX10_stub rfl rfl cl_RL_55 rfl rfl (Nat.le_of_ble_eq_true rfl) (by decide) (Nat.le_of_ble_eq_true rfl) (kf_X10_stub (xs (nI i + (1 : Int32)).toNatClampNeg) I1 F1) e2 ?_
  refine LK_st 1 (S' := ((if r = r then 959 else 428), [(3, .int (nI i)), (2, .ref 49), (1, .ref 0), (0, .ref ab_scr)], [], hp I2 F2)) rfl ⟨trivial, trivial⟩ ?_
  refine LK_pc (if_pos rfl) ?_
  exact go I2 F2 hI2
set_option maxRecDepth 20000 in
set_option maxHeartbeats 4000000 in
theorem law_c10 {Inv : AI → AF → Prop} (h_dies : ∀ a1, ab_Sim Inv (f_X9_dies a1) (f_X10_dies a1)) {L i : Nat} {xs : Nat → Int32} (hL : L ≤ 256) (h4 : i + 4 ≤ L) {I : AI} {F : AF} (hI : Inv I F) (go : ∀ I F, Inv I F → LK L xs (959, [(3, .int (nI i)), (2, .ref 49), (1, .ref 0), (0, .ref ab_scr)], [], hp I F)) : LK L xs (430, [(3, .int (nI i)), (2, .ref 49), (1, .ref 0), (0, .ref ab_scr)], [], hp I F) := by
  obtain ⟨r, I1, F1, I2, F2, e1, e2, hI2⟩ := h_dies (xs (nI i + (1 : Int32)).toNatClampNeg) I F hI
  refine LK_st 6 (S' := (436, [(3, .int (nI i)), (2, .ref 49), (1, .ref 0), (0, .ref ab_scr)], [.int (xs (nI i + (1 : Int32)).toNatClampNeg), .ref 0], hp I F)) rfl ⟨trivial, trivial, trivial, trivial, trivial, (law_in h4 (k := 1) (by decide) hL rfl), trivial⟩ ?_
  refine LK_cv [.int (xs (nI i + (1 : Int32)).toNatClampNeg)] [] okX9_dies rfl rfl cl_RL_56 rfl rfl (Nat.le_of_ble_eq_true rfl) (by decide) (Nat.le_of_ble_eq_true rfl) (kf_X9_dies (xs (nI i + (1 : Int32)).toNatClampNeg) I F) e1 ?_
  refine LK_st 6 (S' := (445, [(3, .int (nI i)), (2, .ref 49), (1, .ref 0), (0, .ref ab_scr)], [.int (xs (nI i + (1 : Int32)).toNatClampNeg), .ref 49, .int r], hp I1 F1)) rfl ⟨trivial, trivial, trivial, trivial, trivial, (law_in h4 (k := 1) (by decide) hL rfl), trivial⟩ ?_
  refine LK_cv [.int (xs (nI i + (1 : Int32)).toNatClampNeg)] [.int r] okX10_dies rfl rfl cl_RL_59 rfl rfl (Nat.le_of_ble_eq_true rfl) (by decide) (Nat.le_of_ble_eq_true rfl) (kf_X10_dies (xs (nI i + (1 : Int32)).toNatClampNeg) I1 F1) e2 ?_
  refine LK_st 1 (S' := ((if r = r then 959 else 451), [(3, .int (nI i)), (2, .ref 49), (1, .ref 0), (0, .ref ab_scr)], [], hp I2 F2)) rfl ⟨trivial, trivial⟩ ?_
  refine LK_pc (if_pos rfl) ?_
  exact go I2 F2 hI2
set_option maxRecDepth 20000 in
set_option maxHeartbeats 4000000 in
theorem law_c11 {Inv : AI → AF → Prop} (h_copy : ∀ a1, ab_Sim Inv (f_X9_copy a1) (f_X10_copy a1)) {L i : Nat} {xs : Nat → Int32} (hL : L ≤ 256) (h4 : i + 4 ≤ L) {I : AI} {F : AF} (hI : Inv I F) (go : ∀ I F, Inv I F → LK L xs (959, [(3, .int (nI i)), (2, .ref 49), (1, .ref 0), (0, .ref ab_scr)], [], hp I F)) : LK L xs (453, [(3, .int (nI i)), (2, .ref 49), (1, .ref 0), (0, .ref ab_scr)], [], hp I F) := by
  obtain ⟨r, I1, F1, I2, F2, e1, e2, hI2⟩ := h_copy (xs (nI i + (1 : Int32)).toNatClampNeg) I F hI
  refine LK_st 6 (S' := (459, [(3, .int (nI i)), (2, .ref 49), (1, .ref 0), (0, .ref ab_scr)], [.int (xs (nI i + (1 : Int32)).toNatClampNeg), .ref 0], hp I F)) rfl ⟨trivial, trivial, trivial, trivial, trivial, (law_in h4 (k := 1) (by decide) hL rfl), trivial⟩ ?_
  refine LK_cv [.int (xs (nI i + (1 : Int32)).toNatClampNeg)] [] okX9_copy rfl rfl cl_RL_60 rfl rfl (Nat.le_of_ble_eq_true rfl) (by decide) (Nat.le_of_ble_eq_true rfl) (kf_X9_copy (xs (nI i + (1 : Int32)).toNatClampNeg) I F) e1 ?_
  refine LK_st 6 (S' := (468, [(3, .int (nI i)), (2, .ref 49), (1, .ref 0), (0, .ref ab_scr)], [.int (xs (nI i + (1 : Int32)).toNatClampNeg), .ref 49, .int r], hp I1 F1)) rfl ⟨trivial, trivial, trivial, trivial, trivial, (law_in h4 (k := 1) (by decide) hL rfl), trivial⟩ ?_
  refine LK_cv [.int (xs (nI i + (1 : Int32)).toNatClampNeg)] [.int r] okX10_copy rfl rfl cl_RL_63 rfl rfl (Nat.le_of_ble_eq_true rfl) (by decide) (Nat.le_of_ble_eq_true rfl) (kf_X10_copy (xs (nI i + (1 : Int32)).toNatClampNeg) I1 F1) e2 ?_
  refine LK_st 1 (S' := ((if r = r then 959 else 474), [(3, .int (nI i)), (2, .ref 49), (1, .ref 0), (0, .ref ab_scr)], [], hp I2 F2)) rfl ⟨trivial, trivial⟩ ?_
  refine LK_pc (if_pos rfl) ?_
  exact go I2 F2 hI2
set_option maxRecDepth 20000 in
set_option maxHeartbeats 4000000 in
theorem law_c12 {Inv : AI → AF → Prop} (h_drift : ∀ a1, ab_Sim Inv (f_X9_drift a1) (f_X10_drift a1)) {L i : Nat} {xs : Nat → Int32} (hL : L ≤ 256) (h4 : i + 4 ≤ L) {I : AI} {F : AF} (hI : Inv I F) (go : ∀ I F, Inv I F → LK L xs (959, [(3, .int (nI i)), (2, .ref 49), (1, .ref 0), (0, .ref ab_scr)], [], hp I F)) : LK L xs (476, [(3, .int (nI i)), (2, .ref 49), (1, .ref 0), (0, .ref ab_scr)], [], hp I F) := by
  obtain ⟨r, I1, F1, I2, F2, e1, e2, hI2⟩ := h_drift (xs (nI i + (1 : Int32)).toNatClampNeg) I F hI
  refine LK_st 6 (S' := (482, [(3, .int (nI i)), (2, .ref 49), (1, .ref 0), (0, .ref ab_scr)], [.int (xs (nI i + (1 : Int32)).toNatClampNeg), .ref 0], hp I F)) rfl ⟨trivial, trivial, trivial, trivial, trivial, (law_in h4 (k := 1) (by decide) hL rfl), trivial⟩ ?_
  refine LK_cv [.int (xs (nI i + (1 : Int32)).toNatClampNeg)] [] okX9_drift rfl rfl cl_RL_64 rfl rfl (Nat.le_of_ble_eq_true rfl) (by decide) (Nat.le_of_ble_eq_true rfl) (kf_X9_drift (xs (nI i + (1 : Int32)).toNatClampNeg) I F) e1 ?_
  refine LK_st 6 (S' := (491, [(3, .int (nI i)), (2, .ref 49), (1, .ref 0), (0, .ref ab_scr)], [.int (xs (nI i + (1 : Int32)).toNatClampNeg), .ref 49, .int r], hp I1 F1)) rfl ⟨trivial, trivial, trivial, trivial, trivial, (law_in h4 (k := 1) (by decide) hL rfl), trivial⟩ ?_
  refine LK_cv [.int (xs (nI i + (1 : Int32)).toNatClampNeg)] [.int r] okX10_drift rfl rfl cl_RL_67 rfl rfl (Nat.le_of_ble_eq_true rfl) (by decide) (Nat.le_of_ble_eq_true rfl) (kf_X10_drift (xs (nI i + (1 : Int32)).toNatClampNeg) I1 F1) e2 ?_
  refine LK_st 1 (S' := ((if r = r then 959 else 497), [(3, .int (nI i)), (2, .ref 49), (1, .ref 0), (0, .ref ab_scr)], [], hp I2 F2)) rfl ⟨trivial, trivial⟩ ?_
  refine LK_pc (if_pos rfl) ?_
  exact go I2 F2 hI2
set_option maxRecDepth 20000 in
set_option maxHeartbeats 4000000 in
theorem law_c13 {Inv : AI → AF → Prop} (h_undo : ab_Sim Inv f_X9_undo f_X10_undo) {L i : Nat} {xs : Nat → Int32} (hL : L ≤ 256) (h4 : i + 4 ≤ L) {I : AI} {F : AF} (hI : Inv I F) (go : ∀ I F, Inv I F → LK L xs (959, [(3, .int (nI i)), (2, .ref 49), (1, .ref 0), (0, .ref ab_scr)], [], hp I F)) : LK L xs (499, [(3, .int (nI i)), (2, .ref 49), (1, .ref 0), (0, .ref ab_scr)], [], hp I F) := by
  obtain ⟨r, I1, F1, I2, F2, e1, e2, hI2⟩ := h_undo I F hI
  refine LK_st 1 (S' := (500, [(3, .int (nI i)), (2, .ref 49), (1, .ref 0), (0, .ref ab_scr)], [.ref 0], hp I F)) rfl ⟨trivial, trivial⟩ ?_
  refine LK_cv [] [] okX9_undo rfl rfl cl_RL_68 rfl rfl (Nat.le_of_ble_eq_true rfl) (by decide) (Nat.le_of_ble_eq_true rfl) (kf_X9_undo I F) e1 ?_
  refine LK_st 1 (S' := (504, [(3, .int (nI i)), (2, .ref 49), (1, .ref 0), (0, .ref ab_scr)], [.ref 49, .int r], hp I1 F1)) rfl ⟨trivial, trivial⟩ ?_
  refine LK_cv [] [.int r] okX10_undo rfl rfl cl_RL_71 rfl rfl (Nat.le_of_ble_eq_true rfl) (by decide) (Nat.le_of_ble_eq_true rfl) (kf_X10_undo I1 F1) e2 ?_
  refine LK_st 1 (S' := ((if r = r then 959 else 510), [(3, .int (nI i)), (2, .ref 49), (1, .ref 0), (0, .ref ab_scr)], [], hp I2 F2)) rfl ⟨trivial, trivial⟩ ?_
  refine LK_pc (if_pos rfl) ?_
  exact go I2 F2 hI2
set_option maxRecDepth 20000 in
set_option maxHeartbeats 4000000 in
theorem law_c14 {Inv : AI → AF → Prop} (h_firstNought : ab_Sim Inv f_X9_firstNought f_X10_firstNought) {L i : Nat} {xs : Nat → Int32} (hL : L ≤ 256) (h4 : i + 4 ≤ L) {I : AI} {F : AF} (hI : Inv I F) (go : ∀ I F, Inv I F → LK L xs (959, [(3, .int (nI i)), (2, .ref 49), (1, .ref 0), (0, .ref ab_scr)], [], hp I F)) : LK L xs (512, [(3, .int (nI i)), (2, .ref 49), (1, .ref 0), (0, .ref ab_scr)], [], hp I F) := by
  obtain ⟨r, I1, F1, I2, F2, e1, e2, hI2⟩ := h_firstNought I F hI
  refine LK_st 1 (S' := (513, [(3, .int (nI i)), (2, .ref 49), (1, .ref 0), (0, .ref ab_scr)], [.ref 0], hp I F)) rfl ⟨trivial, trivial⟩ ?_
  refine LK_cv [] [] okX9_firstNought rfl rfl cl_RL_72 rfl rfl (Nat.le_of_ble_eq_true rfl) (by decide) (Nat.le_of_ble_eq_true rfl) (kf_X9_firstNought I F) e1 ?_
  refine LK_st 1 (S' := (517, [(3, .int (nI i)), (2, .ref 49), (1, .ref 0), (0, .ref ab_scr)], [.ref 49, .int r], hp I1 F1)) rfl ⟨trivial, trivial⟩ ?_
  refine LK_cv [] [.int r] okX10_firstNought rfl rfl cl_RL_75 rfl rfl (Nat.le_of_ble_eq_true rfl) (by decide) (Nat.le_of_ble_eq_true rfl) (kf_X10_firstNought I1 F1) e2 ?_
  refine LK_st 1 (S' := ((if r = r then 959 else 523), [(3, .int (nI i)), (2, .ref 49), (1, .ref 0), (0, .ref ab_scr)], [], hp I2 F2)) rfl ⟨trivial, trivial⟩ ?_
  refine LK_pc (if_pos rfl) ?_
  exact go I2 F2 hI2
set_option maxRecDepth 20000 in
set_option maxHeartbeats 4000000 in
theorem law_c15 {Inv : AI → AF → Prop} (h_means : ∀ a1 a2, ab_Sim Inv (f_X9_means a1 a2) (f_X10_means a1 a2)) {L i : Nat} {xs : Nat → Int32} (hL : L ≤ 256) (h4 : i + 4 ≤ L) {I : AI} {F : AF} (hI : Inv I F) (go : ∀ I F, Inv I F → LK L xs (959, [(3, .int (nI i)), (2, .ref 49), (1, .ref 0), (0, .ref ab_scr)], [], hp I F)) : LK L xs (525, [(3, .int (nI i)), (2, .ref 49), (1, .ref 0), (0, .ref ab_scr)], [], hp I F) := by
  obtain ⟨r, I1, F1, I2, F2, e1, e2, hI2⟩ := h_means (xs (nI i + (1 : Int32)).toNatClampNeg) (xs (nI i + (2 : Int32)).toNatClampNeg) I F hI
  refine LK_st 11 (S' := (536, [(3, .int (nI i)), (2, .ref 49), (1, .ref 0), (0, .ref ab_scr)], [.int (xs (nI i + (2 : Int32)).toNatClampNeg), .int (xs (nI i + (1 : Int32)).toNatClampNeg), .ref 0], hp I F)) rfl ⟨trivial, trivial, trivial, trivial, trivial, (law_in h4 (k := 1) (by decide) hL rfl), trivial, trivial, trivial, trivial, (law_in h4 (k := 2) (by decide) hL rfl), trivial⟩ ?_
  refine LK_cv [.int (xs (nI i + (1 : Int32)).toNatClampNeg), .int (xs (nI i + (2 : Int32)).toNatClampNeg)] [] okX9_means rfl rfl cl_RL_76 rfl rfl (Nat.le_of_ble_eq_true rfl) (by decide) (Nat.le_of_ble_eq_true rfl) (kf_X9_means (xs (nI i + (1 : Int32)).toNatClampNeg) (xs (nI i + (2 : Int32)).toNatClampNeg) I F) e1 ?_
  refine LK_st 11 (S' := (550, [(3, .int (nI i)), (2, .ref 49), (1, .ref 0), (0, .ref ab_scr)], [.int (xs (nI i + (2 : Int32)).toNatClampNeg), .int (xs (nI i + (1 : Int32)).toNatClampNeg), .ref 49, .int r], hp I1 F1)) rfl ⟨trivial, trivial, trivial, trivial, trivial, (law_in h4 (k := 1) (by decide) hL rfl), trivial, trivial, trivial, trivial, (law_in h4 (k := 2) (by decide) hL rfl), trivial⟩ ?_
  refine LK_cv [.int (xs (nI i + (1 : Int32)).toNatClampNeg), .int (xs (nI i + (2 : Int32)).toNatClampNeg)] [.int r] okX10_means rfl rfl cl_RL_79 rfl rfl (Nat.le_of_ble_eq_true rfl) (by decide) (Nat.le_of_ble_eq_true rfl) (kf_X10_means (xs (nI i + (1 : Int32)).toNatClampNeg) (xs (nI i + (2 : Int32)).toNatClampNeg) I1 F1) e2 ?_
  refine LK_st 1 (S' := ((if r = r then 959 else 556), [(3, .int (nI i)), (2, .ref 49), (1, .ref 0), (0, .ref ab_scr)], [], hp I2 F2)) rfl ⟨trivial, trivial⟩ ?_
  refine LK_pc (if_pos rfl) ?_
  exact go I2 F2 hI2
set_option maxRecDepth 20000 in
set_option maxHeartbeats 4000000 in
theorem law_c16 {Inv : AI → AF → Prop} (h_basket : ∀ a1, ab_Sim Inv (f_X9_basket a1) (f_X10_basket a1)) {L i : Nat} {xs : Nat → Int32} (hL : L ≤ 256) (h4 : i + 4 ≤ L) {I : AI} {F : AF} (hI : Inv I F) (go : ∀ I F, Inv I F → LK L xs (959, [(3, .int (nI i)), (2, .ref 49), (1, .ref 0), (0, .ref ab_scr)], [], hp I F)) : LK L xs (558, [(3, .int (nI i)), (2, .ref 49), (1, .ref 0), (0, .ref ab_scr)], [], hp I F) := by
  obtain ⟨r, I1, F1, I2, F2, e1, e2, hI2⟩ := h_basket (xs (nI i + (1 : Int32)).toNatClampNeg) I F hI
  refine LK_st 6 (S' := (564, [(3, .int (nI i)), (2, .ref 49), (1, .ref 0), (0, .ref ab_scr)], [.int (xs (nI i + (1 : Int32)).toNatClampNeg), .ref 0], hp I F)) rfl ⟨trivial, trivial, trivial, trivial, trivial, (law_in h4 (k := 1) (by decide) hL rfl), trivial⟩ ?_
  refine LK_cv [.int (xs (nI i + (1 : Int32)).toNatClampNeg)] [] okX9_basket rfl rfl cl_RL_80 rfl rfl (Nat.le_of_ble_eq_true rfl) (by decide) (Nat.le_of_ble_eq_true rfl) (kf_X9_basket (xs (nI i + (1 : Int32)).toNatClampNeg) I F) e1 ?_
  refine LK_st 6 (S' := (573, [(3, .int (nI i)), (2, .ref 49), (1, .ref 0), (0, .ref ab_scr)], [.int (xs (nI i + (1 : Int32)).toNatClampNeg), .ref 49, .int r], hp I1 F1)) rfl ⟨trivial, trivial, trivial, trivial, trivial, (law_in h4 (k := 1) (by decide) hL rfl), trivial⟩ ?_
  refine LK_cv [.int (xs (nI i + (1 : Int32)).toNatClampNeg)] [.int r] okX10_basket rfl rfl cl_RL_83 rfl rfl (Nat.le_of_ble_eq_true rfl) (by decide) (Nat.le_of_ble_eq_true rfl) (kf_X10_basket (xs (nI i + (1 : Int32)).toNatClampNeg) I1 F1) e2 ?_
  refine LK_st 1 (S' := ((if r = r then 959 else 579), [(3, .int (nI i)), (2, .ref 49), (1, .ref 0), (0, .ref ab_scr)], [], hp I2 F2)) rfl ⟨trivial, trivial⟩ ?_
  refine LK_pc (if_pos rfl) ?_
  exact go I2 F2 hI2
set_option maxRecDepth 20000 in
set_option maxHeartbeats 4000000 in
theorem law_c17 {Inv : AI → AF → Prop} (h_ring : ∀ a1, ab_Sim Inv (f_X9_ring a1) (f_X10_ring a1)) {L i : Nat} {xs : Nat → Int32} (hL : L ≤ 256) (h4 : i + 4 ≤ L) {I : AI} {F : AF} (hI : Inv I F) (go : ∀ I F, Inv I F → LK L xs (959, [(3, .int (nI i)), (2, .ref 49), (1, .ref 0), (0, .ref ab_scr)], [], hp I F)) : LK L xs (581, [(3, .int (nI i)), (2, .ref 49), (1, .ref 0), (0, .ref ab_scr)], [], hp I F) := by
  obtain ⟨r, I1, F1, I2, F2, e1, e2, hI2⟩ := h_ring (xs (nI i + (1 : Int32)).toNatClampNeg) I F hI
  refine LK_st 6 (S' := (587, [(3, .int (nI i)), (2, .ref 49), (1, .ref 0), (0, .ref ab_scr)], [.int (xs (nI i + (1 : Int32)).toNatClampNeg), .ref 0], hp I F)) rfl ⟨trivial, trivial, trivial, trivial, trivial, (law_in h4 (k := 1) (by decide) hL rfl), trivial⟩ ?_
  refine LK_cv [.int (xs (nI i + (1 : Int32)).toNatClampNeg)] [] okX9_ring rfl rfl cl_RL_84 rfl rfl (Nat.le_of_ble_eq_true rfl) (by decide) (Nat.le_of_ble_eq_true rfl) (kf_X9_ring (xs (nI i + (1 : Int32)).toNatClampNeg) I F) e1 ?_
  refine LK_st 6 (S' := (596, [(3, .int (nI i)), (2, .ref 49), (1, .ref 0), (0, .ref ab_scr)], [.int (xs (nI i + (1 : Int32)).toNatClampNeg), .ref 49, .int r], hp I1 F1)) rfl ⟨trivial, trivial, trivial, trivial, trivial, (law_in h4 (k := 1) (by decide) hL rfl), trivial⟩ ?_
  refine LK_cv [.int (xs (nI i + (1 : Int32)).toNatClampNeg)] [.int r] okX10_ring rfl rfl cl_RL_87 rfl rfl (Nat.le_of_ble_eq_true rfl) (by decide) (Nat.le_of_ble_eq_true rfl) (kf_X10_ring (xs (nI i + (1 : Int32)).toNatClampNeg) I1 F1) e2 ?_
  refine LK_st 1 (S' := ((if r = r then 959 else 602), [(3, .int (nI i)), (2, .ref 49), (1, .ref 0), (0, .ref ab_scr)], [], hp I2 F2)) rfl ⟨trivial, trivial⟩ ?_
  refine LK_pc (if_pos rfl) ?_
  exact go I2 F2 hI2
set_option maxRecDepth 20000 in
set_option maxHeartbeats 4000000 in
theorem law_c18 {Inv : AI → AF → Prop} (h_mended : ab_Sim Inv f_X9_mended f_X10_mended) {L i : Nat} {xs : Nat → Int32} (hL : L ≤ 256) (h4 : i + 4 ≤ L) {I : AI} {F : AF} (hI : Inv I F) (go : ∀ I F, Inv I F → LK L xs (959, [(3, .int (nI i)), (2, .ref 49), (1, .ref 0), (0, .ref ab_scr)], [], hp I F)) : LK L xs (604, [(3, .int (nI i)), (2, .ref 49), (1, .ref 0), (0, .ref ab_scr)], [], hp I F) := by
  obtain ⟨r, I1, F1, I2, F2, e1, e2, hI2⟩ := h_mended I F hI
  refine LK_st 1 (S' := (605, [(3, .int (nI i)), (2, .ref 49), (1, .ref 0), (0, .ref ab_scr)], [.ref 0], hp I F)) rfl ⟨trivial, trivial⟩ ?_
  refine LK_cv [] [] okX9_mended rfl rfl cl_RL_88 rfl rfl (Nat.le_of_ble_eq_true rfl) (by decide) (Nat.le_of_ble_eq_true rfl) (kf_X9_mended I F) e1 ?_
  refine LK_st 1 (S' := (609, [(3, .int (nI i)), (2, .ref 49), (1, .ref 0), (0, .ref ab_scr)], [.ref 49, .int r], hp I1 F1)) rfl ⟨trivial, trivial⟩ ?_
  refine LK_cv [] [.int r] okX10_mended rfl rfl cl_RL_91 rfl rfl (Nat.le_of_ble_eq_true rfl) (by decide) (Nat.le_of_ble_eq_true rfl) (kf_X10_mended I1 F1) e2 ?_
  refine LK_st 1 (S' := ((if r = r then 959 else 615), [(3, .int (nI i)), (2, .ref 49), (1, .ref 0), (0, .ref ab_scr)], [], hp I2 F2)) rfl ⟨trivial, trivial⟩ ?_
  refine LK_pc (if_pos rfl) ?_
  exact go I2 F2 hI2
set_option maxRecDepth 20000 in
set_option maxHeartbeats 4000000 in
theorem law_c19 {Inv : AI → AF → Prop} (h_heirs : ∀ a1, ab_Sim Inv (f_X9_heirs a1) (f_X10_heirs a1)) {L i : Nat} {xs : Nat → Int32} (hL : L ≤ 256) (h4 : i + 4 ≤ L) {I : AI} {F : AF} (hI : Inv I F) (go : ∀ I F, Inv I F → LK L xs (959, [(3, .int (nI i)), (2, .ref 49), (1, .ref 0), (0, .ref ab_scr)], [], hp I F)) : LK L xs (617, [(3, .int (nI i)), (2, .ref 49), (1, .ref 0), (0, .ref ab_scr)], [], hp I F) := by
  obtain ⟨r, I1, F1, I2, F2, e1, e2, hI2⟩ := h_heirs (xs (nI i + (1 : Int32)).toNatClampNeg) I F hI
  refine LK_st 6 (S' := (623, [(3, .int (nI i)), (2, .ref 49), (1, .ref 0), (0, .ref ab_scr)], [.int (xs (nI i + (1 : Int32)).toNatClampNeg), .ref 0], hp I F)) rfl ⟨trivial, trivial, trivial, trivial, trivial, (law_in h4 (k := 1) (by decide) hL rfl), trivial⟩ ?_
  refine LK_cv [.int (xs (nI i + (1 : Int32)).toNatClampNeg)] [] okX9_heirs rfl rfl cl_RL_92 rfl rfl (Nat.le_of_ble_eq_true rfl) (by decide) (Nat.le_of_ble_eq_true rfl) (kf_X9_heirs (xs (nI i + (1 : Int32)).toNatClampNeg) I F) e1 ?_
  refine LK_st 6 (S' := (632, [(3, .int (nI i)), (2, .ref 49), (1, .ref 0), (0, .ref ab_scr)], [.int (xs (nI i + (1 : Int32)).toNatClampNeg), .ref 49, .int r], hp I1 F1)) rfl ⟨trivial, trivial, trivial, trivial, trivial, (law_in h4 (k := 1) (by decide) hL rfl), trivial⟩ ?_
  refine LK_cv [.int (xs (nI i + (1 : Int32)).toNatClampNeg)] [.int r] okX10_heirs rfl rfl cl_RL_95 rfl rfl (Nat.le_of_ble_eq_true rfl) (by decide) (Nat.le_of_ble_eq_true rfl) (kf_X10_heirs (xs (nI i + (1 : Int32)).toNatClampNeg) I1 F1) e2 ?_
  refine LK_st 1 (S' := ((if r = r then 959 else 638), [(3, .int (nI i)), (2, .ref 49), (1, .ref 0), (0, .ref ab_scr)], [], hp I2 F2)) rfl ⟨trivial, trivial⟩ ?_
  refine LK_pc (if_pos rfl) ?_
  exact go I2 F2 hI2
set_option maxRecDepth 20000 in
set_option maxHeartbeats 4000000 in
theorem law_c20 {Inv : AI → AF → Prop} (h_reach : ∀ a1 a2, ab_Sim Inv (f_X9_reach a1 a2) (f_X10_reach a1 a2)) {L i : Nat} {xs : Nat → Int32} (hL : L ≤ 256) (h4 : i + 4 ≤ L) {I : AI} {F : AF} (hI : Inv I F) (go : ∀ I F, Inv I F → LK L xs (959, [(3, .int (nI i)), (2, .ref 49), (1, .ref 0), (0, .ref ab_scr)], [], hp I F)) : LK L xs (640, [(3, .int (nI i)), (2, .ref 49), (1, .ref 0), (0, .ref ab_scr)], [], hp I F) := by
  obtain ⟨r, I1, F1, I2, F2, e1, e2, hI2⟩ := h_reach (xs (nI i + (1 : Int32)).toNatClampNeg) (xs (nI i + (2 : Int32)).toNatClampNeg) I F hI
  refine LK_st 11 (S' := (651, [(3, .int (nI i)), (2, .ref 49), (1, .ref 0), (0, .ref ab_scr)], [.int (xs (nI i + (2 : Int32)).toNatClampNeg), .int (xs (nI i + (1 : Int32)).toNatClampNeg), .ref 0], hp I F)) rfl ⟨trivial, trivial, trivial, trivial, trivial, (law_in h4 (k := 1) (by decide) hL rfl), trivial, trivial, trivial, trivial, (law_in h4 (k := 2) (by decide) hL rfl), trivial⟩ ?_
  refine LK_cv [.int (xs (nI i + (1 : Int32)).toNatClampNeg), .int (xs (nI i + (2 : Int32)).toNatClampNeg)] [] okX9_reach rfl rfl cl_RL_96 rfl rfl (Nat.le_of_ble_eq_true rfl) (by decide) (Nat.le_of_ble_eq_true rfl) (kf_X9_reach (xs (nI i + (1 : Int32)).toNatClampNeg) (xs (nI i + (2 : Int32)).toNatClampNeg) I F) e1 ?_
  refine LK_st 11 (S' := (665, [(3, .int (nI i)), (2, .ref 49), (1, .ref 0), (0, .ref ab_scr)], [.int (xs (nI i + (2 : Int32)).toNatClampNeg), .int (xs (nI i + (1 : Int32)).toNatClampNeg), .ref 49, .int r], hp I1 F1)) rfl ⟨trivial, trivial, trivial, trivial, trivial, (law_in h4 (k := 1) (by decide) hL rfl), trivial, trivial, trivial, trivial, (law_in h4 (k := 2) (by decide) hL rfl), trivial⟩ ?_
  refine LK_cv [.int (xs (nI i + (1 : Int32)).toNatClampNeg), .int (xs (nI i + (2 : Int32)).toNatClampNeg)] [.int r] okX10_reach rfl rfl cl_RL_99 rfl rfl (Nat.le_of_ble_eq_true rfl) (by decide) (Nat.le_of_ble_eq_true rfl) (kf_X10_reach (xs (nI i + (1 : Int32)).toNatClampNeg) (xs (nI i + (2 : Int32)).toNatClampNeg) I1 F1) e2 ?_
  refine LK_st 1 (S' := ((if r = r then 959 else 671), [(3, .int (nI i)), (2, .ref 49), (1, .ref 0), (0, .ref ab_scr)], [], hp I2 F2)) rfl ⟨trivial, trivial⟩ ?_
  refine LK_pc (if_pos rfl) ?_
  exact go I2 F2 hI2
set_option maxRecDepth 20000 in
set_option maxHeartbeats 4000000 in
theorem law_c21 {Inv : AI → AF → Prop} (h_bestCopy : ∀ a1 a2, ab_Sim Inv (f_X9_bestCopy a1 a2) (f_X10_bestCopy a1 a2)) {L i : Nat} {xs : Nat → Int32} (hL : L ≤ 256) (h4 : i + 4 ≤ L) {I : AI} {F : AF} (hI : Inv I F) (go : ∀ I F, Inv I F → LK L xs (959, [(3, .int (nI i)), (2, .ref 49), (1, .ref 0), (0, .ref ab_scr)], [], hp I F)) : LK L xs (673, [(3, .int (nI i)), (2, .ref 49), (1, .ref 0), (0, .ref ab_scr)], [], hp I F) := by
  obtain ⟨r, I1, F1, I2, F2, e1, e2, hI2⟩ := h_bestCopy (xs (nI i + (1 : Int32)).toNatClampNeg) (xs (nI i + (2 : Int32)).toNatClampNeg) I F hI
  refine LK_st 11 (S' := (684, [(3, .int (nI i)), (2, .ref 49), (1, .ref 0), (0, .ref ab_scr)], [.int (xs (nI i + (2 : Int32)).toNatClampNeg), .int (xs (nI i + (1 : Int32)).toNatClampNeg), .ref 0], hp I F)) rfl ⟨trivial, trivial, trivial, trivial, trivial, (law_in h4 (k := 1) (by decide) hL rfl), trivial, trivial, trivial, trivial, (law_in h4 (k := 2) (by decide) hL rfl), trivial⟩ ?_
  refine LK_cv [.int (xs (nI i + (1 : Int32)).toNatClampNeg), .int (xs (nI i + (2 : Int32)).toNatClampNeg)] [] okX9_bestCopy rfl rfl cl_RL_100 rfl rfl (Nat.le_of_ble_eq_true rfl) (by decide) (Nat.le_of_ble_eq_true rfl) (kf_X9_bestCopy (xs (nI i + (1 : Int32)).toNatClampNeg) (xs (nI i + (2 : Int32)).toNatClampNeg) I F) e1 ?_
  refine LK_st 11 (S' := (698, [(3, .int (nI i)), (2, .ref 49), (1, .ref 0), (0, .ref ab_scr)], [.int (xs (nI i + (2 : Int32)).toNatClampNeg), .int (xs (nI i + (1 : Int32)).toNatClampNeg), .ref 49, .int r], hp I1 F1)) rfl ⟨trivial, trivial, trivial, trivial, trivial, (law_in h4 (k := 1) (by decide) hL rfl), trivial, trivial, trivial, trivial, (law_in h4 (k := 2) (by decide) hL rfl), trivial⟩ ?_
  refine LK_cv [.int (xs (nI i + (1 : Int32)).toNatClampNeg), .int (xs (nI i + (2 : Int32)).toNatClampNeg)] [.int r] okX10_bestCopy rfl rfl cl_RL_103 rfl rfl (Nat.le_of_ble_eq_true rfl) (by decide) (Nat.le_of_ble_eq_true rfl) (kf_X10_bestCopy (xs (nI i + (1 : Int32)).toNatClampNeg) (xs (nI i + (2 : Int32)).toNatClampNeg) I1 F1) e2 ?_
  refine LK_st 1 (S' := ((if r = r then 959 else 704), [(3, .int (nI i)), (2, .ref 49), (1, .ref 0), (0, .ref ab_scr)], [], hp I2 F2)) rfl ⟨trivial, trivial⟩ ?_
  refine LK_pc (if_pos rfl) ?_
  exact go I2 F2 hI2
set_option maxRecDepth 20000 in
set_option maxHeartbeats 4000000 in
theorem law_c22 {Inv : AI → AF → Prop} (h_nearest : ∀ a1, ab_Sim Inv (f_X9_nearest a1) (f_X10_nearest a1)) {L i : Nat} {xs : Nat → Int32} (hL : L ≤ 256) (h4 : i + 4 ≤ L) {I : AI} {F : AF} (hI : Inv I F) (go : ∀ I F, Inv I F → LK L xs (959, [(3, .int (nI i)), (2, .ref 49), (1, .ref 0), (0, .ref ab_scr)], [], hp I F)) : LK L xs (706, [(3, .int (nI i)), (2, .ref 49), (1, .ref 0), (0, .ref ab_scr)], [], hp I F) := by
  obtain ⟨r, I1, F1, I2, F2, e1, e2, hI2⟩ := h_nearest (xs (nI i + (1 : Int32)).toNatClampNeg) I F hI
  refine LK_st 6 (S' := (712, [(3, .int (nI i)), (2, .ref 49), (1, .ref 0), (0, .ref ab_scr)], [.int (xs (nI i + (1 : Int32)).toNatClampNeg), .ref 0], hp I F)) rfl ⟨trivial, trivial, trivial, trivial, trivial, (law_in h4 (k := 1) (by decide) hL rfl), trivial⟩ ?_
  refine LK_cv [.int (xs (nI i + (1 : Int32)).toNatClampNeg)] [] okX9_nearest rfl rfl cl_RL_104 rfl rfl (Nat.le_of_ble_eq_true rfl) (by decide) (Nat.le_of_ble_eq_true rfl) (kf_X9_nearest (xs (nI i + (1 : Int32)).toNatClampNeg) I F) e1 ?_
  refine LK_st 6 (S' := (721, [(3, .int (nI i)), (2, .ref 49), (1, .ref 0), (0, .ref ab_scr)], [.int (xs (nI i + (1 : Int32)).toNatClampNeg), .ref 49, .int r], hp I1 F1)) rfl ⟨trivial, trivial, trivial, trivial, trivial, (law_in h4 (k := 1) (by decide) hL rfl), trivial⟩ ?_
  refine LK_cv [.int (xs (nI i + (1 : Int32)).toNatClampNeg)] [.int r] okX10_nearest rfl rfl cl_RL_107 rfl rfl (Nat.le_of_ble_eq_true rfl) (by decide) (Nat.le_of_ble_eq_true rfl) (kf_X10_nearest (xs (nI i + (1 : Int32)).toNatClampNeg) I1 F1) e2 ?_
  refine LK_st 1 (S' := ((if r = r then 959 else 727), [(3, .int (nI i)), (2, .ref 49), (1, .ref 0), (0, .ref ab_scr)], [], hp I2 F2)) rfl ⟨trivial, trivial⟩ ?_
  refine LK_pc (if_pos rfl) ?_
  exact go I2 F2 hI2
set_option maxRecDepth 20000 in
set_option maxHeartbeats 4000000 in
theorem law_c23 {Inv : AI → AF → Prop} (h_odds : ∀ a1 a2 a3, ab_Sim Inv (f_X9_odds a1 a2 a3) (f_X10_odds a1 a2 a3)) {L i : Nat} {xs : Nat → Int32} (hL : L ≤ 256) (h4 : i + 4 ≤ L) {I : AI} {F : AF} (hI : Inv I F) (go : ∀ I F, Inv I F → LK L xs (959, [(3, .int (nI i)), (2, .ref 49), (1, .ref 0), (0, .ref ab_scr)], [], hp I F)) : LK L xs (729, [(3, .int (nI i)), (2, .ref 49), (1, .ref 0), (0, .ref ab_scr)], [], hp I F) := by
  obtain ⟨r, I1, F1, I2, F2, e1, e2, hI2⟩ := h_odds (xs (nI i + (1 : Int32)).toNatClampNeg) (xs (nI i + (2 : Int32)).toNatClampNeg) (xs (nI i + (3 : Int32)).toNatClampNeg) I F hI
  refine LK_st 16 (S' := (745, [(3, .int (nI i)), (2, .ref 49), (1, .ref 0), (0, .ref ab_scr)], [.int (xs (nI i + (3 : Int32)).toNatClampNeg), .int (xs (nI i + (2 : Int32)).toNatClampNeg), .int (xs (nI i + (1 : Int32)).toNatClampNeg), .ref 0], hp I F)) rfl ⟨trivial, trivial, trivial, trivial, trivial, (law_in h4 (k := 1) (by decide) hL rfl), trivial, trivial, trivial, trivial, (law_in h4 (k := 2) (by decide) hL rfl), trivial, trivial, trivial, trivial, (law_in h4 (k := 3) (by decide) hL rfl), trivial⟩ ?_
  refine LK_cv [.int (xs (nI i + (1 : Int32)).toNatClampNeg), .int (xs (nI i + (2 : Int32)).toNatClampNeg), .int (xs (nI i + (3 : Int32)).toNatClampNeg)] [] okX9_odds rfl rfl cl_RL_108 rfl rfl (Nat.le_of_ble_eq_true rfl) (by decide) (Nat.le_of_ble_eq_true rfl) (kf_X9_odds (xs (nI i + (1 : Int32)).toNatClampNeg) (xs (nI i + (2 : Int32)).toNatClampNeg) (xs (nI i + (3 : Int32)).toNatClampNeg) I F) e1 ?_
  refine LK_st 16 (S' := (764, [(3, .int (nI i)), (2, .ref 49), (1, .ref 0), (0, .ref ab_scr)], [.int (xs (nI i + (3 : Int32)).toNatClampNeg), .int (xs (nI i + (2 : Int32)).toNatClampNeg), .int (xs (nI i + (1 : Int32)).toNatClampNeg), .ref 49, .int r], hp I1 F1)) rfl ⟨trivial, trivial, trivial, trivial, trivial, (law_in h4 (k := 1) (by decide) hL rfl), trivial, trivial, trivial, trivial, (law_in h4 (k := 2) (by decide) hL rfl), trivial, trivial, trivial, trivial, (law_in h4 (k := 3) (by decide) hL rfl), trivial⟩ ?_
  refine LK_cv [.int (xs (nI i + (1 : Int32)).toNatClampNeg), .int (xs (nI i + (2 : Int32)).toNatClampNeg), .int (xs (nI i + (3 : Int32)).toNatClampNeg)] [.int r] okX10_odds rfl rfl cl_RL_112 rfl rfl (Nat.le_of_ble_eq_true rfl) (by decide) (Nat.le_of_ble_eq_true rfl) (kf_X10_odds (xs (nI i + (1 : Int32)).toNatClampNeg) (xs (nI i + (2 : Int32)).toNatClampNeg) (xs (nI i + (3 : Int32)).toNatClampNeg) I1 F1) e2 ?_
  refine LK_st 1 (S' := ((if r = r then 959 else 770), [(3, .int (nI i)), (2, .ref 49), (1, .ref 0), (0, .ref ab_scr)], [], hp I2 F2)) rfl ⟨trivial, trivial⟩ ?_
  refine LK_pc (if_pos rfl) ?_
  exact go I2 F2 hI2
set_option maxRecDepth 20000 in
set_option maxHeartbeats 4000000 in
theorem law_c24 {Inv : AI → AF → Prop} (h_got : ∀ a1 a2, ab_Sim Inv (f_X9_got a1 a2) (f_X10_got a1 a2)) {L i : Nat} {xs : Nat → Int32} (hL : L ≤ 256) (h4 : i + 4 ≤ L) {I : AI} {F : AF} (hI : Inv I F) (go : ∀ I F, Inv I F → LK L xs (959, [(3, .int (nI i)), (2, .ref 49), (1, .ref 0), (0, .ref ab_scr)], [], hp I F)) : LK L xs (772, [(3, .int (nI i)), (2, .ref 49), (1, .ref 0), (0, .ref ab_scr)], [], hp I F) := by
  obtain ⟨r, I1, F1, I2, F2, e1, e2, hI2⟩ := h_got (xs (nI i + (1 : Int32)).toNatClampNeg) (xs (nI i + (2 : Int32)).toNatClampNeg) I F hI
  refine LK_st 11 (S' := (783, [(3, .int (nI i)), (2, .ref 49), (1, .ref 0), (0, .ref ab_scr)], [.int (xs (nI i + (2 : Int32)).toNatClampNeg), .int (xs (nI i + (1 : Int32)).toNatClampNeg), .ref 0], hp I F)) rfl ⟨trivial, trivial, trivial, trivial, trivial, (law_in h4 (k := 1) (by decide) hL rfl), trivial, trivial, trivial, trivial, (law_in h4 (k := 2) (by decide) hL rfl), trivial⟩ ?_
  refine LK_cv [.int (xs (nI i + (1 : Int32)).toNatClampNeg), .int (xs (nI i + (2 : Int32)).toNatClampNeg)] [] okX9_got rfl rfl cl_RL_113 rfl rfl (Nat.le_of_ble_eq_true rfl) (by decide) (Nat.le_of_ble_eq_true rfl) (kf_X9_got (xs (nI i + (1 : Int32)).toNatClampNeg) (xs (nI i + (2 : Int32)).toNatClampNeg) I F) e1 ?_
  refine LK_st 11 (S' := (797, [(3, .int (nI i)), (2, .ref 49), (1, .ref 0), (0, .ref ab_scr)], [.int (xs (nI i + (2 : Int32)).toNatClampNeg), .int (xs (nI i + (1 : Int32)).toNatClampNeg), .ref 49, .int r], hp I1 F1)) rfl ⟨trivial, trivial, trivial, trivial, trivial, (law_in h4 (k := 1) (by decide) hL rfl), trivial, trivial, trivial, trivial, (law_in h4 (k := 2) (by decide) hL rfl), trivial⟩ ?_
  refine LK_cv [.int (xs (nI i + (1 : Int32)).toNatClampNeg), .int (xs (nI i + (2 : Int32)).toNatClampNeg)] [.int r] okX10_got rfl rfl cl_RL_116 rfl rfl (Nat.le_of_ble_eq_true rfl) (by decide) (Nat.le_of_ble_eq_true rfl) (kf_X10_got (xs (nI i + (1 : Int32)).toNatClampNeg) (xs (nI i + (2 : Int32)).toNatClampNeg) I1 F1) e2 ?_
  refine LK_st 1 (S' := ((if r = r then 959 else 803), [(3, .int (nI i)), (2, .ref 49), (1, .ref 0), (0, .ref ab_scr)], [], hp I2 F2)) rfl ⟨trivial, trivial⟩ ?_
  refine LK_pc (if_pos rfl) ?_
  exact go I2 F2 hI2
set_option maxRecDepth 20000 in
set_option maxHeartbeats 4000000 in
theorem law_c25 {Inv : AI → AF → Prop} (h_used : ab_Sim Inv f_X9_used f_X10_used) {L i : Nat} {xs : Nat → Int32} (hL : L ≤ 256) (h4 : i + 4 ≤ L) {I : AI} {F : AF} (hI : Inv I F) (go : ∀ I F, Inv I F → LK L xs (959, [(3, .int (nI i)), (2, .ref 49), (1, .ref 0), (0, .ref ab_scr)], [], hp I F)) : LK L xs (805, [(3, .int (nI i)), (2, .ref 49), (1, .ref 0), (0, .ref ab_scr)], [], hp I F) := by
  obtain ⟨r, I1, F1, I2, F2, e1, e2, hI2⟩ := h_used I F hI
  refine LK_st 1 (S' := (806, [(3, .int (nI i)), (2, .ref 49), (1, .ref 0), (0, .ref ab_scr)], [.ref 0], hp I F)) rfl ⟨trivial, trivial⟩ ?_
  refine LK_cv [] [] okX9_used rfl rfl cl_RL_117 rfl rfl (Nat.le_of_ble_eq_true rfl) (by decide) (Nat.le_of_ble_eq_true rfl) (kf_X9_used I F) e1 ?_
  refine LK_st 1 (S' := (810, [(3, .int (nI i)), (2, .ref 49), (1, .ref 0), (0, .ref ab_scr)], [.ref 49, .int r], hp I1 F1)) rfl ⟨trivial, trivial⟩ ?_
  refine LK_cv [] [.int r] okX10_used rfl rfl cl_RL_120 rfl rfl (Nat.le_of_ble_eq_true rfl) (by decide) (Nat.le_of_ble_eq_true rfl) (kf_X10_used I1 F1) e2 ?_
  refine LK_st 1 (S' := ((if r = r then 959 else 816), [(3, .int (nI i)), (2, .ref 49), (1, .ref 0), (0, .ref ab_scr)], [], hp I2 F2)) rfl ⟨trivial, trivial⟩ ?_
  refine LK_pc (if_pos rfl) ?_
  exact go I2 F2 hI2
set_option maxRecDepth 20000 in
set_option maxHeartbeats 4000000 in
theorem law_c26 {Inv : AI → AF → Prop} (h_bale : ab_Sim Inv f_X9_bale f_X10_bale) {L i : Nat} {xs : Nat → Int32} (hL : L ≤ 256) (h4 : i + 4 ≤ L) {I : AI} {F : AF} (hI : Inv I F) (go : ∀ I F, Inv I F → LK L xs (959, [(3, .int (nI i)), (2, .ref 49), (1, .ref 0), (0, .ref ab_scr)], [], hp I F)) : LK L xs (818, [(3, .int (nI i)), (2, .ref 49), (1, .ref 0), (0, .ref ab_scr)], [], hp I F) := by
  obtain ⟨r, I1, F1, I2, F2, e1, e2, hI2⟩ := h_bale I F hI
  refine LK_st 1 (S' := (819, [(3, .int (nI i)), (2, .ref 49), (1, .ref 0), (0, .ref ab_scr)], [.ref 0], hp I F)) rfl ⟨trivial, trivial⟩ ?_
  refine LK_cv [] [] okX9_bale rfl rfl cl_RL_121 rfl rfl (Nat.le_of_ble_eq_true rfl) (by decide) (Nat.le_of_ble_eq_true rfl) (kf_X9_bale I F) e1 ?_
  refine LK_st 1 (S' := (823, [(3, .int (nI i)), (2, .ref 49), (1, .ref 0), (0, .ref ab_scr)], [.ref 49, .int r], hp I1 F1)) rfl ⟨trivial, trivial⟩ ?_
  refine LK_cv [] [.int r] okX10_bale rfl rfl cl_RL_124 rfl rfl (Nat.le_of_ble_eq_true rfl) (by decide) (Nat.le_of_ble_eq_true rfl) (kf_X10_bale I1 F1) e2 ?_
  refine LK_st 1 (S' := ((if r = r then 959 else 829), [(3, .int (nI i)), (2, .ref 49), (1, .ref 0), (0, .ref ab_scr)], [], hp I2 F2)) rfl ⟨trivial, trivial⟩ ?_
  refine LK_pc (if_pos rfl) ?_
  exact go I2 F2 hI2
set_option maxRecDepth 20000 in
set_option maxHeartbeats 4000000 in
theorem law_c27 {Inv : AI → AF → Prop} (h_write : ∀ a1 a2, ab_Sim Inv (f_X9_write a1 a2) (f_X10_write a1 a2)) {L i : Nat} {xs : Nat → Int32} (hL : L ≤ 256) (h4 : i + 4 ≤ L) {I : AI} {F : AF} (hI : Inv I F) (go : ∀ I F, Inv I F → LK L xs (959, [(3, .int (nI i)), (2, .ref 49), (1, .ref 0), (0, .ref ab_scr)], [], hp I F)) : LK L xs (831, [(3, .int (nI i)), (2, .ref 49), (1, .ref 0), (0, .ref ab_scr)], [], hp I F) := by
  obtain ⟨r, I1, F1, I2, F2, e1, e2, hI2⟩ := h_write (xs (nI i + (1 : Int32)).toNatClampNeg) (xs (nI i + (2 : Int32)).toNatClampNeg) I F hI
  refine LK_st 11 (S' := (842, [(3, .int (nI i)), (2, .ref 49), (1, .ref 0), (0, .ref ab_scr)], [.int (xs (nI i + (2 : Int32)).toNatClampNeg), .int (xs (nI i + (1 : Int32)).toNatClampNeg), .ref 0], hp I F)) rfl ⟨trivial, trivial, trivial, trivial, trivial, (law_in h4 (k := 1) (by decide) hL rfl), trivial, trivial, trivial, trivial, (law_in h4 (k := 2) (by decide) hL rfl), trivial⟩ ?_
  refine LK_cv [.int (xs (nI i + (1 : Int32)).toNatClampNeg), .int (xs (nI i + (2 : Int32)).toNatClampNeg)] [] okX9_write rfl rfl cl_RL_125 rfl rfl (Nat.le_of_ble_eq_true rfl) (by decide) (Nat.le_of_ble_eq_true rfl) (kf_X9_write (xs (nI i + (1 : Int32)).toNatClampNeg) (xs (nI i + (2 : Int32)).toNatClampNeg) I F) e1 ?_
  refine LK_st 11 (S' := (856, [(3, .int (nI i)), (2, .ref 49), (1, .ref 0), (0, .ref ab_scr)], [.int (xs (nI i + (2 : Int32)).toNatClampNeg), .int (xs (nI i + (1 : Int32)).toNatClampNeg), .ref 49, .int r], hp I1 F1)) rfl ⟨trivial, trivial, trivial, trivial, trivial, (law_in h4 (k := 1) (by decide) hL rfl), trivial, trivial, trivial, trivial, (law_in h4 (k := 2) (by decide) hL rfl), trivial⟩ ?_
  refine LK_cv [.int (xs (nI i + (1 : Int32)).toNatClampNeg), .int (xs (nI i + (2 : Int32)).toNatClampNeg)] [.int r] okX10_write rfl rfl cl_RL_128 rfl rfl (Nat.le_of_ble_eq_true rfl) (by decide) (Nat.le_of_ble_eq_true rfl) (kf_X10_write (xs (nI i + (1 : Int32)).toNatClampNeg) (xs (nI i + (2 : Int32)).toNatClampNeg) I1 F1) e2 ?_
  refine LK_st 1 (S' := ((if r = r then 959 else 862), [(3, .int (nI i)), (2, .ref 49), (1, .ref 0), (0, .ref ab_scr)], [], hp I2 F2)) rfl ⟨trivial, trivial⟩ ?_
  refine LK_pc (if_pos rfl) ?_
  exact go I2 F2 hI2
set_option maxRecDepth 20000 in
set_option maxHeartbeats 4000000 in
theorem law_c28 {Inv : AI → AF → Prop} (h_tear : ab_Sim Inv f_X9_tear f_X10_tear) {L i : Nat} {xs : Nat → Int32} (hL : L ≤ 256) (h4 : i + 4 ≤ L) {I : AI} {F : AF} (hI : Inv I F) (go : ∀ I F, Inv I F → LK L xs (959, [(3, .int (nI i)), (2, .ref 49), (1, .ref 0), (0, .ref ab_scr)], [], hp I F)) : LK L xs (864, [(3, .int (nI i)), (2, .ref 49), (1, .ref 0), (0, .ref ab_scr)], [], hp I F) := by
  obtain ⟨r, I1, F1, I2, F2, e1, e2, hI2⟩ := h_tear I F hI
  refine LK_st 1 (S' := (865, [(3, .int (nI i)), (2, .ref 49), (1, .ref 0), (0, .ref ab_scr)], [.ref 0], hp I F)) rfl ⟨trivial, trivial⟩ ?_
  refine LK_cv [] [] okX9_tear rfl rfl cl_RL_129 rfl rfl (Nat.le_of_ble_eq_true rfl) (by decide) (Nat.le_of_ble_eq_true rfl) (kf_X9_tear I F) e1 ?_
  refine LK_st 1 (S' := (869, [(3, .int (nI i)), (2, .ref 49), (1, .ref 0), (0, .ref ab_scr)], [.ref 49, .int r], hp I1 F1)) rfl ⟨trivial, trivial⟩ ?_
  refine LK_cv [] [.int r] okX10_tear rfl rfl cl_RL_132 rfl rfl (Nat.le_of_ble_eq_true rfl) (by decide) (Nat.le_of_ble_eq_true rfl) (kf_X10_tear I1 F1) e2 ?_
  refine LK_st 1 (S' := ((if r = r then 959 else 875), [(3, .int (nI i)), (2, .ref 49), (1, .ref 0), (0, .ref ab_scr)], [], hp I2 F2)) rfl ⟨trivial, trivial⟩ ?_
  refine LK_pc (if_pos rfl) ?_
  exact go I2 F2 hI2
set_option maxRecDepth 20000 in
set_option maxHeartbeats 4000000 in
theorem law_c29 {Inv : AI → AF → Prop} (h_judge : ab_Sim Inv f_X9_judge f_X10_judge) {L i : Nat} {xs : Nat → Int32} (hL : L ≤ 256) (h4 : i + 4 ≤ L) {I : AI} {F : AF} (hI : Inv I F) (go : ∀ I F, Inv I F → LK L xs (959, [(3, .int (nI i)), (2, .ref 49), (1, .ref 0), (0, .ref ab_scr)], [], hp I F)) : LK L xs (877, [(3, .int (nI i)), (2, .ref 49), (1, .ref 0), (0, .ref ab_scr)], [], hp I F) := by
  obtain ⟨r, I1, F1, I2, F2, e1, e2, hI2⟩ := h_judge I F hI
  refine LK_st 1 (S' := (878, [(3, .int (nI i)), (2, .ref 49), (1, .ref 0), (0, .ref ab_scr)], [.ref 0], hp I F)) rfl ⟨trivial, trivial⟩ ?_
  refine LK_cv [] [] okX9_judge rfl rfl cl_RL_133 rfl rfl (Nat.le_of_ble_eq_true rfl) (by decide) (Nat.le_of_ble_eq_true rfl) (kf_X9_judge I F) e1 ?_
  refine LK_st 1 (S' := (882, [(3, .int (nI i)), (2, .ref 49), (1, .ref 0), (0, .ref ab_scr)], [.ref 49, .int r], hp I1 F1)) rfl ⟨trivial, trivial⟩ ?_
  refine LK_cv [] [.int r] okX10_judge rfl rfl cl_RL_136 rfl rfl (Nat.le_of_ble_eq_true rfl) (by decide) (Nat.le_of_ble_eq_true rfl) (kf_X10_judge I1 F1) e2 ?_
  refine LK_st 1 (S' := ((if r = r then 959 else 888), [(3, .int (nI i)), (2, .ref 49), (1, .ref 0), (0, .ref ab_scr)], [], hp I2 F2)) rfl ⟨trivial, trivial⟩ ?_
  refine LK_pc (if_pos rfl) ?_
  exact go I2 F2 hI2
set_option maxRecDepth 20000 in
set_option maxHeartbeats 4000000 in
theorem law_c30 {Inv : AI → AF → Prop} (h_seed : ∀ a1, ab_Sim Inv (f_X9_seed a1) (f_X10_seed a1)) {L i : Nat} {xs : Nat → Int32} (hL : L ≤ 256) (h4 : i + 4 ≤ L) {I : AI} {F : AF} (hI : Inv I F) (go : ∀ I F, Inv I F → LK L xs (959, [(3, .int (nI i)), (2, .ref 49), (1, .ref 0), (0, .ref ab_scr)], [], hp I F)) : LK L xs (890, [(3, .int (nI i)), (2, .ref 49), (1, .ref 0), (0, .ref ab_scr)], [], hp I F) := by
  obtain ⟨r, I1, F1, I2, F2, e1, e2, hI2⟩ := h_seed (xs (nI i + (1 : Int32)).toNatClampNeg) I F hI
  refine LK_st 6 (S' := (896, [(3, .int (nI i)), (2, .ref 49), (1, .ref 0), (0, .ref ab_scr)], [.int (xs (nI i + (1 : Int32)).toNatClampNeg), .ref 0], hp I F)) rfl ⟨trivial, trivial, trivial, trivial, trivial, (law_in h4 (k := 1) (by decide) hL rfl), trivial⟩ ?_
  refine LK_cv [.int (xs (nI i + (1 : Int32)).toNatClampNeg)] [] okX9_seed rfl rfl cl_RL_137 rfl rfl (Nat.le_of_ble_eq_true rfl) (by decide) (Nat.le_of_ble_eq_true rfl) (kf_X9_seed (xs (nI i + (1 : Int32)).toNatClampNeg) I F) e1 ?_
  refine LK_st 6 (S' := (905, [(3, .int (nI i)), (2, .ref 49), (1, .ref 0), (0, .ref ab_scr)], [.int (xs (nI i + (1 : Int32)).toNatClampNeg), .ref 49, .int r], hp I1 F1)) rfl ⟨trivial, trivial, trivial, trivial, trivial, (law_in h4 (k := 1) (by decide) hL rfl), trivial⟩ ?_
  refine LK_cv [.int (xs (nI i + (1 : Int32)).toNatClampNeg)] [.int r] okX10_seed rfl rfl cl_RL_140 rfl rfl (Nat.le_of_ble_eq_true rfl) (by decide) (Nat.le_of_ble_eq_true rfl) (kf_X10_seed (xs (nI i + (1 : Int32)).toNatClampNeg) I1 F1) e2 ?_
  refine LK_st 1 (S' := ((if r = r then 959 else 911), [(3, .int (nI i)), (2, .ref 49), (1, .ref 0), (0, .ref ab_scr)], [], hp I2 F2)) rfl ⟨trivial, trivial⟩ ?_
  refine LK_pc (if_pos rfl) ?_
  exact go I2 F2 hI2
set_option maxRecDepth 20000 in
set_option maxHeartbeats 4000000 in
theorem law_c31 {Inv : AI → AF → Prop} (h_keep : ∀ a1, ab_Sim Inv (f_X9_keep a1) (f_X10_keep a1)) {L i : Nat} {xs : Nat → Int32} (hL : L ≤ 256) (h4 : i + 4 ≤ L) {I : AI} {F : AF} (hI : Inv I F) (go : ∀ I F, Inv I F → LK L xs (959, [(3, .int (nI i)), (2, .ref 49), (1, .ref 0), (0, .ref ab_scr)], [], hp I F)) : LK L xs (913, [(3, .int (nI i)), (2, .ref 49), (1, .ref 0), (0, .ref ab_scr)], [], hp I F) := by
  obtain ⟨r, I1, F1, I2, F2, e1, e2, hI2⟩ := h_keep (xs (nI i + (1 : Int32)).toNatClampNeg) I F hI
  refine LK_st 6 (S' := (919, [(3, .int (nI i)), (2, .ref 49), (1, .ref 0), (0, .ref ab_scr)], [.int (xs (nI i + (1 : Int32)).toNatClampNeg), .ref 0], hp I F)) rfl ⟨trivial, trivial, trivial, trivial, trivial, (law_in h4 (k := 1) (by decide) hL rfl), trivial⟩ ?_
  refine LK_cv [.int (xs (nI i + (1 : Int32)).toNatClampNeg)] [] okX9_keep rfl rfl cl_RL_141 rfl rfl (Nat.le_of_ble_eq_true rfl) (by decide) (Nat.le_of_ble_eq_true rfl) (kf_X9_keep (xs (nI i + (1 : Int32)).toNatClampNeg) I F) e1 ?_
  refine LK_st 6 (S' := (928, [(3, .int (nI i)), (2, .ref 49), (1, .ref 0), (0, .ref ab_scr)], [.int (xs (nI i + (1 : Int32)).toNatClampNeg), .ref 49, .int r], hp I1 F1)) rfl ⟨trivial, trivial, trivial, trivial, trivial, (law_in h4 (k := 1) (by decide) hL rfl), trivial⟩ ?_
  refine LK_cv [.int (xs (nI i + (1 : Int32)).toNatClampNeg)] [.int r] okX10_keep rfl rfl cl_RL_144 rfl rfl (Nat.le_of_ble_eq_true rfl) (by decide) (Nat.le_of_ble_eq_true rfl) (kf_X10_keep (xs (nI i + (1 : Int32)).toNatClampNeg) I1 F1) e2 ?_
  refine LK_st 1 (S' := ((if r = r then 959 else 934), [(3, .int (nI i)), (2, .ref 49), (1, .ref 0), (0, .ref ab_scr)], [], hp I2 F2)) rfl ⟨trivial, trivial⟩ ?_
  refine LK_pc (if_pos rfl) ?_
  exact go I2 F2 hI2
set_option maxRecDepth 20000 in
set_option maxHeartbeats 4000000 in
theorem law_c32 {Inv : AI → AF → Prop} (h_goBack : ∀ a1, ab_Sim Inv (f_X9_goBack a1) (f_X10_goBack a1)) {L i : Nat} {xs : Nat → Int32} (hL : L ≤ 256) (h4 : i + 4 ≤ L) {I : AI} {F : AF} (hI : Inv I F) (go : ∀ I F, Inv I F → LK L xs (959, [(3, .int (nI i)), (2, .ref 49), (1, .ref 0), (0, .ref ab_scr)], [], hp I F)) : LK L xs (936, [(3, .int (nI i)), (2, .ref 49), (1, .ref 0), (0, .ref ab_scr)], [], hp I F) := by
  obtain ⟨r, I1, F1, I2, F2, e1, e2, hI2⟩ := h_goBack (xs (nI i + (1 : Int32)).toNatClampNeg) I F hI
  refine LK_st 6 (S' := (942, [(3, .int (nI i)), (2, .ref 49), (1, .ref 0), (0, .ref ab_scr)], [.int (xs (nI i + (1 : Int32)).toNatClampNeg), .ref 0], hp I F)) rfl ⟨trivial, trivial, trivial, trivial, trivial, (law_in h4 (k := 1) (by decide) hL rfl), trivial⟩ ?_
  refine LK_cv [.int (xs (nI i + (1 : Int32)).toNatClampNeg)] [] okX9_goBack rfl rfl cl_RL_145 rfl rfl (Nat.le_of_ble_eq_true rfl) (by decide) (Nat.le_of_ble_eq_true rfl) (kf_X9_goBack (xs (nI i + (1 : Int32)).toNatClampNeg) I F) e1 ?_
  refine LK_st 6 (S' := (951, [(3, .int (nI i)), (2, .ref 49), (1, .ref 0), (0, .ref ab_scr)], [.int (xs (nI i + (1 : Int32)).toNatClampNeg), .ref 49, .int r], hp I1 F1)) rfl ⟨trivial, trivial, trivial, trivial, trivial, (law_in h4 (k := 1) (by decide) hL rfl), trivial⟩ ?_
  refine LK_cv [.int (xs (nI i + (1 : Int32)).toNatClampNeg)] [.int r] okX10_goBack rfl rfl cl_RL_148 rfl rfl (Nat.le_of_ble_eq_true rfl) (by decide) (Nat.le_of_ble_eq_true rfl) (kf_X10_goBack (xs (nI i + (1 : Int32)).toNatClampNeg) I1 F1) e2 ?_
  refine LK_st 1 (S' := ((if r = r then 959 else 957), [(3, .int (nI i)), (2, .ref 49), (1, .ref 0), (0, .ref ab_scr)], [], hp I2 F2)) rfl ⟨trivial, trivial⟩ ?_
  refine LK_pc (if_pos rfl) ?_
  exact go I2 F2 hI2
set_option maxRecDepth 20000 in
set_option maxHeartbeats 4000000 in
theorem law_loop {Inv : AI → AF → Prop} (h_feed : ∀ a1, ab_Sim Inv (f_X9_feed a1) (f_X10_feed a1)) (h_port : ab_Sim Inv f_X9_port f_X10_port) (h_fault : ab_Sim Inv f_X9_fault f_X10_fault) (h_told : ∀ a1, ab_Sim Inv (f_X9_told a1) (f_X10_told a1)) (h_limb : ∀ a1 a2, ab_Sim Inv (f_X9_limb a1 a2) (f_X10_limb a1 a2)) (h_contract : ∀ a1 a2, ab_Sim Inv (f_X9_contract a1 a2) (f_X10_contract a1 a2)) (h_rate : ∀ a1 a2, ab_Sim Inv (f_X9_rate a1 a2) (f_X10_rate a1 a2)) (h_season : ∀ a1, ab_Sim Inv (f_X9_season a1) (f_X10_season a1)) (h_gout : ∀ a1 a2, ab_Sim Inv (f_X9_gout a1 a2) (f_X10_gout a1 a2)) (h_stub : ∀ a1, ab_Sim Inv (f_X9_stub a1) (f_X10_stub a1)) (h_dies : ∀ a1, ab_Sim Inv (f_X9_dies a1) (f_X10_dies a1)) (h_copy : ∀ a1, ab_Sim Inv (f_X9_copy a1) (f_X10_copy a1)) (h_drift : ∀ a1, ab_Sim Inv (f_X9_drift a1) (f_X10_drift a1)) (h_undo : ab_Sim Inv f_X9_undo f_X10_undo) (h_firstNought : ab_Sim Inv f_X9_firstNought f_X10_firstNought) (h_means : ∀ a1 a2, ab_Sim Inv (f_X9_means a1 a2) (f_X10_means a1 a2)) (h_basket : ∀ a1, ab_Sim Inv (f_X9_basket a1) (f_X10_basket a1)) (h_ring : ∀ a1, ab_Sim Inv (f_X9_ring a1) (f_X10_ring a1)) (h_mended : ab_Sim Inv f_X9_mended f_X10_mended) (h_heirs : ∀ a1, ab_Sim Inv (f_X9_heirs a1) (f_X10_heirs a1)) (h_reach : ∀ a1 a2, ab_Sim Inv (f_X9_reach a1 a2) (f_X10_reach a1 a2)) (h_bestCopy : ∀ a1 a2, ab_Sim Inv (f_X9_bestCopy a1 a2) (f_X10_bestCopy a1 a2)) (h_nearest : ∀ a1, ab_Sim Inv (f_X9_nearest a1) (f_X10_nearest a1)) (h_odds : ∀ a1 a2 a3, ab_Sim Inv (f_X9_odds a1 a2 a3) (f_X10_odds a1 a2 a3)) (h_got : ∀ a1 a2, ab_Sim Inv (f_X9_got a1 a2) (f_X10_got a1 a2)) (h_used : ab_Sim Inv f_X9_used f_X10_used) (h_bale : ab_Sim Inv f_X9_bale f_X10_bale) (h_write : ∀ a1 a2, ab_Sim Inv (f_X9_write a1 a2) (f_X10_write a1 a2)) (h_tear : ab_Sim Inv f_X9_tear f_X10_tear) (h_judge : ab_Sim Inv f_X9_judge f_X10_judge) (h_seed : ∀ a1, ab_Sim Inv (f_X9_seed a1) (f_X10_seed a1)) (h_keep : ∀ a1, ab_Sim Inv (f_X9_keep a1) (f_X10_keep a1)) (h_goBack : ∀ a1, ab_Sim Inv (f_X9_goBack a1) (f_X10_goBack a1)) {L : Nat} {xs : Nat → Int32} (hL : L ≤ 256) : ∀ (n i : Nat) (I : AI) (F : AF), i ≤ L → L + 4 ≤ i + 4 * n → Inv I F → LK L xs (18, [(3, .int (nI i)), (2, .ref 49), (1, .ref 0), (0, .ref ab_scr)], [], hp I F) := by
  intro n
  induction n with
  | zero =>
    intro i I F h1 h2 hI
    omega
  | succ n ih =>
    intro i I F h1 h2 hI
    refine LK_st 6 (S' := ((if Int32.ofNat L - (4 : Int32) < nI i then 965 else 26), [(3, .int (nI i)), (2, .ref 49), (1, .ref 0), (0, .ref ab_scr)], [], hp I F)) rfl ⟨trivial, trivial, trivial, trivial, trivial, trivial, trivial⟩ ?_
    by_cases hx : Int32.ofNat L - (4 : Int32) < nI i
    · refine LK_pc (if_pos hx) ?_
      refine LK_st 1 (S' := (966, [(3, .int (nI i)), (2, .ref 49), (1, .ref 0), (0, .ref ab_scr)], [.int (1 : Int32)], hp I F)) rfl ⟨trivial, trivial⟩ ?_
      exact ⟨_, ab_Er (v := some (.int 1)) okL_law rfl ⟨rfl, Or.inr ⟨rfl, Or.inr rfl⟩⟩⟩
    refine LK_pc (if_neg hx) ?_
    have h4 := law_out hL h1 hx
    have go : ∀ I F, Inv I F → LK L xs (959, [(3, .int (nI i)), (2, .ref 49), (1, .ref 0), (0, .ref ab_scr)], [], hp I F) := by
      intro I F hI
      refine LK_st 2 (S' := (18, [(3, .int (nI i + (4 : Int32))), (2, .ref 49), (1, .ref 0), (0, .ref ab_scr)], [], hp I F)) rfl ⟨(by decide), trivial, trivial⟩ ?_
      rw [show (4 : Int32) = nI 4 from rfl, nI_add]
      exact ih (i + 4) I F h4 (by omega) hI
    refine LK_st 5 (S' := (32, [(3, .int (nI i)), (2, .ref 49), (1, .ref 0), (0, .ref ab_scr)], [.int (xs (nI i).toNatClampNeg &&& (63 : Int32))], hp I F)) rfl ⟨trivial, trivial, vp_in_nI (by omega) (by omega), trivial, trivial, trivial⟩ ?_
    generalize xs (nI i).toNatClampNeg &&& (63 : Int32) = x
    by_cases x0 : x = (0 : Int32)
    · rw [x0]
      refine LK_st 1 (S' := (180, [(3, .int (nI i)), (2, .ref 49), (1, .ref 0), (0, .ref ab_scr)], [], hp I F)) rfl ⟨trivial, trivial⟩ ?_
      exact law_c0 h_feed hL h4 hI go
    by_cases x1 : x = (1 : Int32)
    · rw [x1]
      refine LK_st 1 (S' := (203, [(3, .int (nI i)), (2, .ref 49), (1, .ref 0), (0, .ref ab_scr)], [], hp I F)) rfl ⟨trivial, trivial⟩ ?_
      exact law_c1 h_port hL h4 hI go
    by_cases x2 : x = (2 : Int32)
    · rw [x2]
      refine LK_st 1 (S' := (216, [(3, .int (nI i)), (2, .ref 49), (1, .ref 0), (0, .ref ab_scr)], [], hp I F)) rfl ⟨trivial, trivial⟩ ?_
      exact law_c2 h_fault hL h4 hI go
    by_cases x3 : x = (3 : Int32)
    · rw [x3]
      refine LK_st 1 (S' := (229, [(3, .int (nI i)), (2, .ref 49), (1, .ref 0), (0, .ref ab_scr)], [], hp I F)) rfl ⟨trivial, trivial⟩ ?_
      exact law_c3 h_told hL h4 hI go
    by_cases x4 : x = (4 : Int32)
    · rw [x4]
      refine LK_st 1 (S' := (252, [(3, .int (nI i)), (2, .ref 49), (1, .ref 0), (0, .ref ab_scr)], [], hp I F)) rfl ⟨trivial, trivial⟩ ?_
      exact law_c4 h_limb hL h4 hI go
    by_cases x5 : x = (5 : Int32)
    · rw [x5]
      refine LK_st 1 (S' := (285, [(3, .int (nI i)), (2, .ref 49), (1, .ref 0), (0, .ref ab_scr)], [], hp I F)) rfl ⟨trivial, trivial⟩ ?_
      exact law_c5 h_contract hL h4 hI go
    by_cases x6 : x = (6 : Int32)
    · rw [x6]
      refine LK_st 1 (S' := (318, [(3, .int (nI i)), (2, .ref 49), (1, .ref 0), (0, .ref ab_scr)], [], hp I F)) rfl ⟨trivial, trivial⟩ ?_
      exact law_c6 h_rate hL h4 hI go
    by_cases x7 : x = (7 : Int32)
    · rw [x7]
      refine LK_st 1 (S' := (351, [(3, .int (nI i)), (2, .ref 49), (1, .ref 0), (0, .ref ab_scr)], [], hp I F)) rfl ⟨trivial, trivial⟩ ?_
      exact law_c7 h_season hL h4 hI go
    by_cases x8 : x = (8 : Int32)
    · rw [x8]
      refine LK_st 1 (S' := (374, [(3, .int (nI i)), (2, .ref 49), (1, .ref 0), (0, .ref ab_scr)], [], hp I F)) rfl ⟨trivial, trivial⟩ ?_
      exact law_c8 h_gout hL h4 hI go
    by_cases x9 : x = (9 : Int32)
    · rw [x9]
      refine LK_st 1 (S' := (407, [(3, .int (nI i)), (2, .ref 49), (1, .ref 0), (0, .ref ab_scr)], [], hp I F)) rfl ⟨trivial, trivial⟩ ?_
      exact law_c9 h_stub hL h4 hI go
    by_cases x10 : x = (10 : Int32)
    · rw [x10]
      refine LK_st 1 (S' := (430, [(3, .int (nI i)), (2, .ref 49), (1, .ref 0), (0, .ref ab_scr)], [], hp I F)) rfl ⟨trivial, trivial⟩ ?_
      exact law_c10 h_dies hL h4 hI go
    by_cases x11 : x = (11 : Int32)
    · rw [x11]
      refine LK_st 1 (S' := (453, [(3, .int (nI i)), (2, .ref 49), (1, .ref 0), (0, .ref ab_scr)], [], hp I F)) rfl ⟨trivial, trivial⟩ ?_
      exact law_c11 h_copy hL h4 hI go
    by_cases x12 : x = (12 : Int32)
    · rw [x12]
      refine LK_st 1 (S' := (476, [(3, .int (nI i)), (2, .ref 49), (1, .ref 0), (0, .ref ab_scr)], [], hp I F)) rfl ⟨trivial, trivial⟩ ?_
      exact law_c12 h_drift hL h4 hI go
    by_cases x13 : x = (13 : Int32)
    · rw [x13]
      refine LK_st 1 (S' := (499, [(3, .int (nI i)), (2, .ref 49), (1, .ref 0), (0, .ref ab_scr)], [], hp I F)) rfl ⟨trivial, trivial⟩ ?_
      exact law_c13 h_undo hL h4 hI go
    by_cases x14 : x = (14 : Int32)
    · rw [x14]
      refine LK_st 1 (S' := (512, [(3, .int (nI i)), (2, .ref 49), (1, .ref 0), (0, .ref ab_scr)], [], hp I F)) rfl ⟨trivial, trivial⟩ ?_
      exact law_c14 h_firstNought hL h4 hI go
    by_cases x15 : x = (15 : Int32)
    · rw [x15]
      refine LK_st 1 (S' := (525, [(3, .int (nI i)), (2, .ref 49), (1, .ref 0), (0, .ref ab_scr)], [], hp I F)) rfl ⟨trivial, trivial⟩ ?_
      exact law_c15 h_means hL h4 hI go
    by_cases x16 : x = (16 : Int32)
    · rw [x16]
      refine LK_st 1 (S' := (558, [(3, .int (nI i)), (2, .ref 49), (1, .ref 0), (0, .ref ab_scr)], [], hp I F)) rfl ⟨trivial, trivial⟩ ?_
      exact law_c16 h_basket hL h4 hI go
    by_cases x17 : x = (17 : Int32)
    · rw [x17]
      refine LK_st 1 (S' := (581, [(3, .int (nI i)), (2, .ref 49), (1, .ref 0), (0, .ref ab_scr)], [], hp I F)) rfl ⟨trivial, trivial⟩ ?_
      exact law_c17 h_ring hL h4 hI go
    by_cases x18 : x = (18 : Int32)
    · rw [x18]
      refine LK_st 1 (S' := (604, [(3, .int (nI i)), (2, .ref 49), (1, .ref 0), (0, .ref ab_scr)], [], hp I F)) rfl ⟨trivial, trivial⟩ ?_
      exact law_c18 h_mended hL h4 hI go
    by_cases x19 : x = (19 : Int32)
    · rw [x19]
      refine LK_st 1 (S' := (617, [(3, .int (nI i)), (2, .ref 49), (1, .ref 0), (0, .ref ab_scr)], [], hp I F)) rfl ⟨trivial, trivial⟩ ?_
      exact law_c19 h_heirs hL h4 hI go
    by_cases x20 : x = (20 : Int32)
    · rw [x20]
      refine LK_st 1 (S' := (640, [(3, .int (nI i)), (2, .ref 49), (1, .ref 0), (0, .ref ab_scr)], [], hp I F)) rfl ⟨trivial, trivial⟩ ?_
      exact law_c20 h_reach hL h4 hI go
    by_cases x21 : x = (21 : Int32)
    · rw [x21]
      refine LK_st 1 (S' := (673, [(3, .int (nI i)), (2, .ref 49), (1, .ref 0), (0, .ref ab_scr)], [], hp I F)) rfl ⟨trivial, trivial⟩ ?_
      exact law_c21 h_bestCopy hL h4 hI go
    by_cases x22 : x = (22 : Int32)
    · rw [x22]
      refine LK_st 1 (S' := (706, [(3, .int (nI i)), (2, .ref 49), (1, .ref 0), (0, .ref ab_scr)], [], hp I F)) rfl ⟨trivial, trivial⟩ ?_
      exact law_c22 h_nearest hL h4 hI go
    by_cases x23 : x = (23 : Int32)
    · rw [x23]
      refine LK_st 1 (S' := (729, [(3, .int (nI i)), (2, .ref 49), (1, .ref 0), (0, .ref ab_scr)], [], hp I F)) rfl ⟨trivial, trivial⟩ ?_
      exact law_c23 h_odds hL h4 hI go
    by_cases x24 : x = (24 : Int32)
    · rw [x24]
      refine LK_st 1 (S' := (772, [(3, .int (nI i)), (2, .ref 49), (1, .ref 0), (0, .ref ab_scr)], [], hp I F)) rfl ⟨trivial, trivial⟩ ?_
      exact law_c24 h_got hL h4 hI go
    by_cases x25 : x = (25 : Int32)
    · rw [x25]
      refine LK_st 1 (S' := (805, [(3, .int (nI i)), (2, .ref 49), (1, .ref 0), (0, .ref ab_scr)], [], hp I F)) rfl ⟨trivial, trivial⟩ ?_
      exact law_c25 h_used hL h4 hI go
    by_cases x26 : x = (26 : Int32)
    · rw [x26]
      refine LK_st 1 (S' := (818, [(3, .int (nI i)), (2, .ref 49), (1, .ref 0), (0, .ref ab_scr)], [], hp I F)) rfl ⟨trivial, trivial⟩ ?_
      exact law_c26 h_bale hL h4 hI go
    by_cases x27 : x = (27 : Int32)
    · rw [x27]
      refine LK_st 1 (S' := (831, [(3, .int (nI i)), (2, .ref 49), (1, .ref 0), (0, .ref ab_scr)], [], hp I F)) rfl ⟨trivial, trivial⟩ ?_
      exact law_c27 h_write hL h4 hI go
    by_cases x28 : x = (28 : Int32)
    · rw [x28]
      refine LK_st 1 (S' := (864, [(3, .int (nI i)), (2, .ref 49), (1, .ref 0), (0, .ref ab_scr)], [], hp I F)) rfl ⟨trivial, trivial⟩ ?_
      exact law_c28 h_tear hL h4 hI go
    by_cases x29 : x = (29 : Int32)
    · rw [x29]
      refine LK_st 1 (S' := (877, [(3, .int (nI i)), (2, .ref 49), (1, .ref 0), (0, .ref ab_scr)], [], hp I F)) rfl ⟨trivial, trivial⟩ ?_
      exact law_c29 h_judge hL h4 hI go
    by_cases x30 : x = (30 : Int32)
    · rw [x30]
      refine LK_st 1 (S' := (890, [(3, .int (nI i)), (2, .ref 49), (1, .ref 0), (0, .ref ab_scr)], [], hp I F)) rfl ⟨trivial, trivial⟩ ?_
      exact law_c30 h_seed hL h4 hI go
    by_cases x31 : x = (31 : Int32)
    · rw [x31]
      refine LK_st 1 (S' := (913, [(3, .int (nI i)), (2, .ref 49), (1, .ref 0), (0, .ref ab_scr)], [], hp I F)) rfl ⟨trivial, trivial⟩ ?_
      exact law_c31 h_keep hL h4 hI go
    by_cases x32 : x = (32 : Int32)
    · rw [x32]
      refine LK_st 1 (S' := (936, [(3, .int (nI i)), (2, .ref 49), (1, .ref 0), (0, .ref ab_scr)], [], hp I F)) rfl ⟨trivial, trivial⟩ ?_
      exact law_c32 h_goBack hL h4 hI go
    refine LK_st 1 (S' := (ab_tsw 32 927 0 32 #[148, 171, 184, 197, 220, 253, 286, 319, 342, 375, 398, 421, 444, 467, 480, 493, 526, 549, 572, 585, 608, 641, 674, 697, 740, 773, 786, 799, 832, 845, 858, 881, 904] x, [(3, .int (nI i)), (2, .ref 49), (1, .ref 0), (0, .ref ab_scr)], [], hp I F)) rfl ⟨trivial, trivial⟩ ?_
    refine LK_pc (pc' := 959) (if_pos (by
      have q0 := lv_neT x0 (show (0 : Int32).toInt = 0 from rfl)
      have q1 := lv_neT x1 (show (1 : Int32).toInt = 1 from rfl)
      have q2 := lv_neT x2 (show (2 : Int32).toInt = 2 from rfl)
      have q3 := lv_neT x3 (show (3 : Int32).toInt = 3 from rfl)
      have q4 := lv_neT x4 (show (4 : Int32).toInt = 4 from rfl)
      have q5 := lv_neT x5 (show (5 : Int32).toInt = 5 from rfl)
      have q6 := lv_neT x6 (show (6 : Int32).toInt = 6 from rfl)
      have q7 := lv_neT x7 (show (7 : Int32).toInt = 7 from rfl)
      have q8 := lv_neT x8 (show (8 : Int32).toInt = 8 from rfl)
      have q9 := lv_neT x9 (show (9 : Int32).toInt = 9 from rfl)
      have q10 := lv_neT x10 (show (10 : Int32).toInt = 10 from rfl)
      have q11 := lv_neT x11 (show (11 : Int32).toInt = 11 from rfl)
      have q12 := lv_neT x12 (show (12 : Int32).toInt = 12 from rfl)
      have q13 := lv_neT x13 (show (13 : Int32).toInt = 13 from rfl)
      have q14 := lv_neT x14 (show (14 : Int32).toInt = 14 from rfl)
      have q15 := lv_neT x15 (show (15 : Int32).toInt = 15 from rfl)
      have q16 := lv_neT x16 (show (16 : Int32).toInt = 16 from rfl)
      have q17 := lv_neT x17 (show (17 : Int32).toInt = 17 from rfl)
      have q18 := lv_neT x18 (show (18 : Int32).toInt = 18 from rfl)
      have q19 := lv_neT x19 (show (19 : Int32).toInt = 19 from rfl)
      have q20 := lv_neT x20 (show (20 : Int32).toInt = 20 from rfl)
      have q21 := lv_neT x21 (show (21 : Int32).toInt = 21 from rfl)
      have q22 := lv_neT x22 (show (22 : Int32).toInt = 22 from rfl)
      have q23 := lv_neT x23 (show (23 : Int32).toInt = 23 from rfl)
      have q24 := lv_neT x24 (show (24 : Int32).toInt = 24 from rfl)
      have q25 := lv_neT x25 (show (25 : Int32).toInt = 25 from rfl)
      have q26 := lv_neT x26 (show (26 : Int32).toInt = 26 from rfl)
      have q27 := lv_neT x27 (show (27 : Int32).toInt = 27 from rfl)
      have q28 := lv_neT x28 (show (28 : Int32).toInt = 28 from rfl)
      have q29 := lv_neT x29 (show (29 : Int32).toInt = 29 from rfl)
      have q30 := lv_neT x30 (show (30 : Int32).toInt = 30 from rfl)
      have q31 := lv_neT x31 (show (31 : Int32).toInt = 31 from rfl)
      have q32 := lv_neT x32 (show (32 : Int32).toInt = 32 from rfl)
      omega)) ?_
    exact go I F hI
theorem law_all {Inv : AI → AF → Prop} (h0 : Inv I_0 F_0) (h_feed : ∀ a1, ab_Sim Inv (f_X9_feed a1) (f_X10_feed a1)) (h_port : ab_Sim Inv f_X9_port f_X10_port) (h_fault : ab_Sim Inv f_X9_fault f_X10_fault) (h_told : ∀ a1, ab_Sim Inv (f_X9_told a1) (f_X10_told a1)) (h_limb : ∀ a1 a2, ab_Sim Inv (f_X9_limb a1 a2) (f_X10_limb a1 a2)) (h_contract : ∀ a1 a2, ab_Sim Inv (f_X9_contract a1 a2) (f_X10_contract a1 a2)) (h_rate : ∀ a1 a2, ab_Sim Inv (f_X9_rate a1 a2) (f_X10_rate a1 a2)) (h_season : ∀ a1, ab_Sim Inv (f_X9_season a1) (f_X10_season a1)) (h_gout : ∀ a1 a2, ab_Sim Inv (f_X9_gout a1 a2) (f_X10_gout a1 a2)) (h_stub : ∀ a1, ab_Sim Inv (f_X9_stub a1) (f_X10_stub a1)) (h_dies : ∀ a1, ab_Sim Inv (f_X9_dies a1) (f_X10_dies a1)) (h_copy : ∀ a1, ab_Sim Inv (f_X9_copy a1) (f_X10_copy a1)) (h_drift : ∀ a1, ab_Sim Inv (f_X9_drift a1) (f_X10_drift a1)) (h_undo : ab_Sim Inv f_X9_undo f_X10_undo) (h_firstNought : ab_Sim Inv f_X9_firstNought f_X10_firstNought) (h_means : ∀ a1 a2, ab_Sim Inv (f_X9_means a1 a2) (f_X10_means a1 a2)) (h_basket : ∀ a1, ab_Sim Inv (f_X9_basket a1) (f_X10_basket a1)) (h_ring : ∀ a1, ab_Sim Inv (f_X9_ring a1) (f_X10_ring a1)) (h_mended : ab_Sim Inv f_X9_mended f_X10_mended) (h_heirs : ∀ a1, ab_Sim Inv (f_X9_heirs a1) (f_X10_heirs a1)) (h_reach : ∀ a1 a2, ab_Sim Inv (f_X9_reach a1 a2) (f_X10_reach a1 a2)) (h_bestCopy : ∀ a1 a2, ab_Sim Inv (f_X9_bestCopy a1 a2) (f_X10_bestCopy a1 a2)) (h_nearest : ∀ a1, ab_Sim Inv (f_X9_nearest a1) (f_X10_nearest a1)) (h_odds : ∀ a1 a2 a3, ab_Sim Inv (f_X9_odds a1 a2 a3) (f_X10_odds a1 a2 a3)) (h_got : ∀ a1 a2, ab_Sim Inv (f_X9_got a1 a2) (f_X10_got a1 a2)) (h_used : ab_Sim Inv f_X9_used f_X10_used) (h_bale : ab_Sim Inv f_X9_bale f_X10_bale) (h_write : ∀ a1 a2, ab_Sim Inv (f_X9_write a1 a2) (f_X10_write a1 a2)) (h_tear : ab_Sim Inv f_X9_tear f_X10_tear) (h_judge : ab_Sim Inv f_X9_judge f_X10_judge) (h_seed : ∀ a1, ab_Sim Inv (f_X9_seed a1) (f_X10_seed a1)) (h_keep : ∀ a1, ab_Sim Inv (f_X9_keep a1) (f_X10_keep a1)) (h_goBack : ∀ a1, ab_Sim Inv (f_X9_goBack a1) (f_X10_goBack a1)) {L : Nat} {xs : Nat → Int32} (hL : L ≤ 256) : ∃ h, ab_E (some (L, xs)) 14 78 2133 mL_law (0, [(0, .ref ab_scr)], [], []) (some (.int 1), h) := by
  obtain ⟨h, hE⟩ := law_loop (Inv := Inv) h_feed h_port h_fault h_told h_limb h_contract h_rate h_season h_gout h_stub h_dies h_copy h_drift h_undo h_firstNought h_means h_basket h_ring h_mended h_heirs h_reach h_bestCopy h_nearest h_odds h_got h_used h_bale h_write h_tear h_judge h_seed h_keep h_goBack (xs := xs) hL (L + 1) 0 I_0 F_0 (Nat.zero_le _) (by omega) h0
  exact ⟨h, law_begin hE⟩
