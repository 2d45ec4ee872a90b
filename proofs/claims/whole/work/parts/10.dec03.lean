/-! methods as functions (by program) -/
def f_X0_extend_75 (rc : Int32 → Int32 → Int32 → Int32 → Int32 → Int32 → AI → AF → AQ) (v2 : Int32) (v3 : Int32) (v4 : Int32) (v5 : Int32) (v6 : Int32) (v7 : Int32) (ko : Int32 → AI → AF → AQ) : Nat → Int32 → AI → AF → AQ
  | 0, _, _, _ => none
  | n + 1, v8, I, F =>
    if (nI 4) < v8 then
      ko v8 I F
    else
      if (I 17) ≤ (((v3 + v8) + v2) - (1 : Int32)) then
        ko v8 I F
      else
        bif ab_vin v7 6 then
          bif ab_vin v7 6 then
            bif ab_vin v7 6 then
              bif ab_vin v7 6 then
                ab_lt (va_up F 32 (upd (F 32) v7.toNatClampNeg v8)) (fun F782 =>
                  ab_bd (rc (v7 + (1 : Int32)) (v2 - (1 : Int32)) (v3 + v8) (v4 + (v8 * ((F 29) v7.toNatClampNeg))) (v5 + (v8 * ((F 30) v7.toNatClampNeg))) (v6 + (v8 * ((F 31) v7.toNatClampNeg))) I F782) (fun r783 I784 F785 =>
                    f_X0_extend_75 rc v2 v3 v4 v5 v6 v7 ko n (v8 + (1 : Int32)) I784 F785))
              else none
            else none
          else none
        else none
set_option maxRecDepth 20000 in
set_option maxHeartbeats 4000000 in
theorem kf_X0_extend_75 (d : Nat) (rc : Int32 → Int32 → Int32 → Int32 → Int32 → Int32 → AI → AF → AQ) (hrc : ∀ v1 v2 v3 v4 v5 v6 I F, OK d mX0_extend false (rc v1 v2 v3 v4 v5 v6 I F) (0, [(0, .ref 37), (1, .int v1), (2, .int v2), (3, .int v3), (4, .int v4), (5, .int v5), (6, .int v6)], [], hp I F)) (v2 : Int32) (v3 : Int32) (v4 : Int32) (v5 : Int32) (v6 : Int32) (v7 : Int32) (ko : Int32 → AI → AF → AQ) (hko : ∀ v8 I F, OK (d + 1) mX0_extend false (ko v8 I F) (165, [(0, .ref 37), (2, .int v2), (3, .int v3), (4, .int v4), (5, .int v5), (6, .int v6), (7, .int v7), (8, .int v8)], [], hp I F)) : ∀ n v8 I F, OK (d + 1) mX0_extend false (f_X0_extend_75 rc v2 v3 v4 v5 v6 v7 ko n v8 I F) (75, [(0, .ref 37), (2, .int v2), (3, .int v3), (4, .int v4), (5, .int v5), (6, .int v6), (7, .int v7), (8, .int v8)], [], hp I F) := by
  intro n
  induction n with
  | zero =>
    intro v8 I F
    exact OK_no
  | succ n ih =>
    intro v8 I F
    rw [f_X0_extend_75]
    refine OK_st 3 okX0_extend (S' := ((if (nI 4) < v8 then 165 else 81), [(0, .ref 37), (2, .int v2), (3, .int v3), (4, .int v4), (5, .int v5), (6, .int v6), (7, .int v7), (8, .int v8)], [], hp I F)) rfl ⟨trivial, trivial, trivial, trivial⟩ ?_
    refine OK_if (fun h776 => ?_) (fun h776 => ?_)
    · exact hko v8 I F
    · refine OK_st 10 okX0_extend (S' := ((if (I 17) ≤ (((v3 + v8) + v2) - (1 : Int32)) then 165 else 96), [(0, .ref 37), (2, .int v2), (3, .int v3), (4, .int v4), (5, .int v5), (6, .int v6), (7, .int v7), (8, .int v8)], [], hp I F)) rfl ⟨trivial, trivial, trivial, trivial, trivial, trivial, trivial, trivial, trivial, trivial, trivial⟩ ?_
      refine OK_if (fun h777 => ?_) (fun h777 => ?_)
      · exact hko v8 I F
      · refine OK_gd (fun g778 => ?_)
        refine OK_gd (fun g779 => ?_)
        refine OK_gd (fun g780 => ?_)
        refine OK_gd (fun g781 => ?_)
        refine OK_st 39 okX0_extend (S' := (156, [(0, .ref 37), (2, .int v2), (3, .int v3), (4, .int v4), (5, .int v5), (6, .int v6), (7, .int v7), (8, .int v8)], [.int (v6 + (v8 * ((F 31) v7.toNatClampNeg))), .int (v5 + (v8 * ((F 30) v7.toNatClampNeg))), .int (v4 + (v8 * ((F 29) v7.toNatClampNeg))), .int (v3 + v8), .int (v2 - (1 : Int32)), .int (v7 + (1 : Int32)), .ref 37], hp I (va_up F 32 (upd (F 32) v7.toNatClampNeg v8)))) rfl ⟨trivial, trivial, trivial, trivial, (ab_vo g778), trivial, trivial, trivial, trivial, trivial, trivial, trivial, trivial, trivial, trivial, trivial, trivial, trivial, trivial, trivial, (ab_vo g779), trivial, trivial, trivial, trivial, trivial, trivial, trivial, (ab_vo g780), trivial, trivial, trivial, trivial, trivial, trivial, trivial, (ab_vo g781), trivial, trivial, trivial⟩ ?_
        refine OK_lt (fun F782 => (156, [(0, .ref 37), (2, .int v2), (3, .int v3), (4, .int v4), (5, .int v5), (6, .int v6), (7, .int v7), (8, .int v8)], [.int (v6 + (v8 * ((F 31) v7.toNatClampNeg))), .int (v5 + (v8 * ((F 30) v7.toNatClampNeg))), .int (v4 + (v8 * ((F 29) v7.toNatClampNeg))), .int (v3 + v8), .int (v2 - (1 : Int32)), .int (v7 + (1 : Int32)), .ref 37], hp I F782)) (fun F782 => ?_)
        refine OK_cv [.int (v7 + (1 : Int32)), .int (v2 - (1 : Int32)), .int (v3 + v8), .int (v4 + (v8 * ((F 29) v7.toNatClampNeg))), .int (v5 + (v8 * ((F 30) v7.toNatClampNeg))), .int (v6 + (v8 * ((F 31) v7.toNatClampNeg)))] [] okX0_extend okX0_extend rfl rfl cl_RX0_53 rfl rfl (Nat.le_of_ble_eq_true rfl) (Nat.le_refl _) (Nat.le_of_ble_eq_true rfl) (hrc (v7 + (1 : Int32)) (v2 - (1 : Int32)) (v3 + v8) (v4 + (v8 * ((F 29) v7.toNatClampNeg))) (v5 + (v8 * ((F 30) v7.toNatClampNeg))) (v6 + (v8 * ((F 31) v7.toNatClampNeg))) I F782) (fun r783 I784 F785 => ?_)
        refine OK_st 2 okX0_extend (S' := (75, [(8, .int (v8 + (1 : Int32))), (0, .ref 37), (2, .int v2), (3, .int v3), (4, .int v4), (5, .int v5), (6, .int v6), (7, .int v7)], [], hp I784 F785)) rfl ⟨(by decide), trivial, trivial⟩ ?_
        refine OK_pk [1, 2, 3, 4, 5, 6, 7, 0] rfl ?_
        exact ih (v8 + (1 : Int32)) I784 F785

def f_X0_extend_51 (rc : Int32 → Int32 → Int32 → Int32 → Int32 → Int32 → AI → AF → AQ) (v2 : Int32) (v3 : Int32) (v4 : Int32) (v5 : Int32) (v6 : Int32) (ko : Int32 → AI → AF → AQ) : Nat → Int32 → AI → AF → AQ
  | 0, _, _, _ => none
  | n + 1, v7, I, F =>
    if (I 19) ≤ v7 then
      ko v7 I F
    else
      if (((I 18) >>> (v7 &&& 31)) &&& (1 : Int32)) = 0 then
        f_X0_extend_51 rc v2 v3 v4 v5 v6 ko n (v7 + (1 : Int32)) I F
      else
        f_X0_extend_75 rc v2 v3 v4 v5 v6 v7 (fun v8_786 I787 F788 =>
          bif ab_vin v7 6 then
            ab_lt (va_up F788 32 (upd (F788 32) v7.toNatClampNeg (0 : Int32))) (fun F790 =>
              f_X0_extend_51 rc v2 v3 v4 v5 v6 ko n (v7 + (1 : Int32)) I787 F790)
          else none) ab_fu (1 : Int32) I F
set_option maxRecDepth 20000 in
set_option maxHeartbeats 4000000 in
theorem kf_X0_extend_51 (d : Nat) (rc : Int32 → Int32 → Int32 → Int32 → Int32 → Int32 → AI → AF → AQ) (hrc : ∀ v1 v2 v3 v4 v5 v6 I F, OK d mX0_extend false (rc v1 v2 v3 v4 v5 v6 I F) (0, [(0, .ref 37), (1, .int v1), (2, .int v2), (3, .int v3), (4, .int v4), (5, .int v5), (6, .int v6)], [], hp I F)) (v2 : Int32) (v3 : Int32) (v4 : Int32) (v5 : Int32) (v6 : Int32) (ko : Int32 → AI → AF → AQ) (hko : ∀ v7 I F, OK (d + 1) mX0_extend false (ko v7 I F) (179, [(0, .ref 37), (2, .int v2), (3, .int v3), (4, .int v4), (5, .int v5), (6, .int v6), (7, .int v7)], [], hp I F)) : ∀ n v7 I F, OK (d + 1) mX0_extend false (f_X0_extend_51 rc v2 v3 v4 v5 v6 ko n v7 I F) (51, [(0, .ref 37), (2, .int v2), (3, .int v3), (4, .int v4), (5, .int v5), (6, .int v6), (7, .int v7)], [], hp I F) := by
  intro n
  induction n with
  | zero =>
    intro v7 I F
    exact OK_no
  | succ n ih =>
    intro v7 I F
    rw [f_X0_extend_51]
    refine OK_st 4 okX0_extend (S' := ((if (I 19) ≤ v7 then 179 else 60), [(0, .ref 37), (2, .int v2), (3, .int v3), (4, .int v4), (5, .int v5), (6, .int v6), (7, .int v7)], [], hp I F)) rfl ⟨trivial, trivial, trivial, trivial, trivial⟩ ?_
    refine OK_if (fun h774 => ?_) (fun h774 => ?_)
    · exact hko v7 I F
    · refine OK_st 7 okX0_extend (S' := ((if (((I 18) >>> (v7 &&& 31)) &&& (1 : Int32)) = 0 then 173 else 72), [(0, .ref 37), (2, .int v2), (3, .int v3), (4, .int v4), (5, .int v5), (6, .int v6), (7, .int v7)], [], hp I F)) rfl ⟨trivial, trivial, trivial, trivial, trivial, trivial, trivial, trivial⟩ ?_
      refine OK_if (fun h775 => ?_) (fun h775 => ?_)
      · refine OK_st 2 okX0_extend (S' := (51, [(7, .int (v7 + (1 : Int32))), (0, .ref 37), (2, .int v2), (3, .int v3), (4, .int v4), (5, .int v5), (6, .int v6)], [], hp I F)) rfl ⟨(by decide), trivial, trivial⟩ ?_
        refine OK_pk [1, 2, 3, 4, 5, 6, 0] rfl ?_
        exact ih (v7 + (1 : Int32)) I F
      · refine OK_st 2 okX0_extend (S' := (75, [(8, .int (1 : Int32)), (0, .ref 37), (2, .int v2), (3, .int v3), (4, .int v4), (5, .int v5), (6, .int v6), (7, .int v7)], [], hp I F)) rfl ⟨trivial, (by decide), trivial⟩ ?_
        refine OK_pk [1, 2, 3, 4, 5, 6, 7, 0] rfl ?_
        refine kf_X0_extend_75 d rc hrc v2 v3 v4 v5 v6 v7 _ (fun v8_786 I787 F788 => ?_) ab_fu (1 : Int32) I F
        refine OK_gd (fun g789 => ?_)
        refine OK_st 7 okX0_extend (S' := (51, [(7, .int (v7 + (1 : Int32))), (0, .ref 37), (2, .int v2), (3, .int v3), (4, .int v4), (5, .int v5), (6, .int v6), (8, .int v8_786)], [], hp I787 (va_up F788 32 (upd (F788 32) v7.toNatClampNeg (0 : Int32))))) rfl ⟨trivial, trivial, trivial, trivial, (ab_vo g789), (by decide), trivial, trivial⟩ ?_
        refine OK_lt (fun F790 => (51, [(7, .int (v7 + (1 : Int32))), (0, .ref 37), (2, .int v2), (3, .int v3), (4, .int v4), (5, .int v5), (6, .int v6), (8, .int v8_786)], [], hp I787 F790)) (fun F790 => ?_)
        refine OK_pk [1, 2, 3, 4, 5, 6, 0] rfl ?_
        exact ih (v7 + (1 : Int32)) I787 F790

def f_X0_extend_b (rc : Int32 → Int32 → Int32 → Int32 → Int32 → Int32 → AI → AF → AQ) (v1 : Int32) (v2 : Int32) (v3 : Int32) (v4 : Int32) (v5 : Int32) (v6 : Int32) (I : AI) (F : AF) : AQ :=
  if 0 < v2 then
    f_X0_extend_51 rc v2 v3 v4 v5 v6 (fun v7_791 I792 F793 =>
      some (0, I792, F793)) ab_fu v1 I F
  else
    if (I 17) ≤ v3 then
      some (0, I, F)
    else
      if ¬ v4 = 0 then
        some (0, I, F)
      else
        if ¬ v5 = 0 then
          some (0, I, F)
        else
          if ¬ v6 = 0 then
            some (0, I, F)
          else
            ab_lt (va_up I 17 v3) (fun I798 =>
              ab_lt (va_up F 33 (va_cpy (F 32) (F 33) 0 0 6)) (fun F799 =>
                some (0, I798, F799)))
set_option maxRecDepth 20000 in
set_option maxHeartbeats 4000000 in
theorem kf_X0_extend_b (d : Nat) (rc : Int32 → Int32 → Int32 → Int32 → Int32 → Int32 → AI → AF → AQ) (hrc : ∀ v1 v2 v3 v4 v5 v6 I F, OK d mX0_extend false (rc v1 v2 v3 v4 v5 v6 I F) (0, [(0, .ref 37), (1, .int v1), (2, .int v2), (3, .int v3), (4, .int v4), (5, .int v5), (6, .int v6)], [], hp I F)) (v1 : Int32) (v2 : Int32) (v3 : Int32) (v4 : Int32) (v5 : Int32) (v6 : Int32) (I : AI) (F : AF) : OK (d + 1) mX0_extend false (f_X0_extend_b rc v1 v2 v3 v4 v5 v6 I F) (0, [(0, .ref 37), (1, .int v1), (2, .int v2), (3, .int v3), (4, .int v4), (5, .int v5), (6, .int v6)], [], hp I F) := by
  rw [f_X0_extend_b]
  refine OK_st 2 okX0_extend (S' := ((if 0 < v2 then 48 else 4), [(0, .ref 37), (1, .int v1), (2, .int v2), (3, .int v3), (4, .int v4), (5, .int v5), (6, .int v6)], [], hp I F)) rfl ⟨trivial, trivial, trivial⟩ ?_
  refine OK_if (fun h773 => ?_) (fun h773 => ?_)
  · refine OK_st 2 okX0_extend (S' := (51, [(7, .int v1), (0, .ref 37), (1, .int v1), (2, .int v2), (3, .int v3), (4, .int v4), (5, .int v5), (6, .int v6)], [], hp I F)) rfl ⟨trivial, (by decide), trivial⟩ ?_
    refine OK_pk [1, 3, 4, 5, 6, 7, 0] rfl ?_
    refine kf_X0_extend_51 d rc hrc v2 v3 v4 v5 v6 _ (fun v7_791 I792 F793 => ?_) ab_fu v1 I F
    exact OK_rv okX0_extend rfl rfl rfl
  · refine OK_st 4 okX0_extend (S' := ((if (I 17) ≤ v3 then 47 else 12), [(0, .ref 37), (1, .int v1), (2, .int v2), (3, .int v3), (4, .int v4), (5, .int v5), (6, .int v6)], [], hp I F)) rfl ⟨trivial, trivial, trivial, trivial, trivial⟩ ?_
    refine OK_if (fun h794 => ?_) (fun h794 => ?_)
    · exact OK_rv okX0_extend rfl rfl rfl
    · refine OK_st 2 okX0_extend (S' := ((if ¬ v4 = 0 then 47 else 17), [(0, .ref 37), (1, .int v1), (2, .int v2), (3, .int v3), (4, .int v4), (5, .int v5), (6, .int v6)], [], hp I F)) rfl ⟨trivial, trivial, trivial⟩ ?_
      refine OK_if (fun h795 => ?_) (fun h795 => ?_)
      · exact OK_rv okX0_extend rfl rfl rfl
      · refine OK_st 2 okX0_extend (S' := ((if ¬ v5 = 0 then 47 else 22), [(0, .ref 37), (1, .int v1), (2, .int v2), (3, .int v3), (4, .int v4), (5, .int v5), (6, .int v6)], [], hp I F)) rfl ⟨trivial, trivial, trivial⟩ ?_
        refine OK_if (fun h796 => ?_) (fun h796 => ?_)
        · exact OK_rv okX0_extend rfl rfl rfl
        · refine OK_st 2 okX0_extend (S' := ((if ¬ v6 = 0 then 47 else 27), [(0, .ref 37), (1, .int v1), (2, .int v2), (3, .int v3), (4, .int v4), (5, .int v5), (6, .int v6)], [], hp I F)) rfl ⟨trivial, trivial, trivial⟩ ?_
          refine OK_if (fun h797 => ?_) (fun h797 => ?_)
          · exact OK_rv okX0_extend rfl rfl rfl
          · refine OK_st 11 okX0_extend (S' := (47, [(0, .ref 37), (1, .int v1), (2, .int v2), (3, .int v3), (4, .int v4), (5, .int v5), (6, .int v6)], [], hp (va_up I 17 v3) (va_up F 33 (va_cpy (F 32) (F 33) 0 0 6)))) rfl ⟨trivial, trivial, trivial, trivial, trivial, trivial, trivial, trivial, trivial, trivial, ⟨by decide, by decide, by decide, by decide, by decide, Nat.le_of_ble_eq_true rfl⟩, trivial⟩ ?_
            refine OK_lt (fun I798 => (47, [(0, .ref 37), (1, .int v1), (2, .int v2), (3, .int v3), (4, .int v4), (5, .int v5), (6, .int v6)], [], hp I798 (va_up F 33 (va_cpy (F 32) (F 33) 0 0 6)))) (fun I798 => ?_)
            refine OK_lt (fun F799 => (47, [(0, .ref 37), (1, .int v1), (2, .int v2), (3, .int v3), (4, .int v4), (5, .int v5), (6, .int v6)], [], hp I798 F799)) (fun F799 => ?_)
            exact OK_rv okX0_extend rfl rfl rfl
def f_X0_extend_n : Nat → Int32 → Int32 → Int32 → Int32 → Int32 → Int32 → AI → AF → AQ
  | 0, _, _, _, _, _, _, _, _ => none
  | n + 1, v1, v2, v3, v4, v5, v6, I, F => f_X0_extend_b (f_X0_extend_n n) v1 v2 v3 v4 v5 v6 I F
theorem kf_X0_extend_n : ∀ n v1 v2 v3 v4 v5 v6 I F, OK (n + 1) mX0_extend false (f_X0_extend_n n v1 v2 v3 v4 v5 v6 I F) (0, [(0, .ref 37), (1, .int v1), (2, .int v2), (3, .int v3), (4, .int v4), (5, .int v5), (6, .int v6)], [], hp I F) := by
  intro n
  induction n with
  | zero =>
    intro v1 v2 v3 v4 v5 v6 I F
    exact OK_no
  | succ n ih =>
    intro v1 v2 v3 v4 v5 v6 I F
    have := kf_X0_extend_b (n + 1) (f_X0_extend_n n) ih v1 v2 v3 v4 v5 v6 I F
    rw [show n + 1 + 1 = n + 1 + 1 by omega]
    exact this
def f_X0_extend : Int32 → Int32 → Int32 → Int32 → Int32 → Int32 → AI → AF → AQ := f_X0_extend_n 8
theorem kf_X0_extend (v1 : Int32) (v2 : Int32) (v3 : Int32) (v4 : Int32) (v5 : Int32) (v6 : Int32) (I : AI) (F : AF) : OK 9 mX0_extend false (f_X0_extend v1 v2 v3 v4 v5 v6 I F) (0, [(0, .ref 37), (1, .int v1), (2, .int v2), (3, .int v3), (4, .int v4), (5, .int v5), (6, .int v6)], [], hp I F) := kf_X0_extend_n 8 v1 v2 v3 v4 v5 v6 I F

def f_X0_search_111 (ko : Int32 → AI → AF → AQ) : Nat → Int32 → AI → AF → AQ
  | 0, _, _, _ => none
  | n + 1, v3, I, F =>
    if (nI 3) < v3 then
      ko v3 I F
    else
      ab_bd (f_X0_extend (0 : Int32) v3 (0 : Int32) (0 : Int32) (0 : Int32) (0 : Int32) I F) (fun r800 I801 F802 =>
        f_X0_search_111 ko n (v3 + (1 : Int32)) I801 F802)
set_option maxRecDepth 20000 in
set_option maxHeartbeats 4000000 in
theorem kf_X0_search_111 (ko : Int32 → AI → AF → AQ) (hko : ∀ v3 I F, OK 10 mX0_search false (ko v3 I F) (132, [(0, .ref 37), (3, .int v3)], [], hp I F)) : ∀ n v3 I F, OK 10 mX0_search false (f_X0_search_111 ko n v3 I F) (111, [(0, .ref 37), (3, .int v3)], [], hp I F) := by
  intro n
  induction n with
  | zero =>
    intro v3 I F
    exact OK_no
  | succ n ih =>
    intro v3 I F
    rw [f_X0_search_111]
    refine OK_st 3 okX0_search (S' := ((if (nI 3) < v3 then 132 else 116), [(0, .ref 37), (3, .int v3)], [], hp I F)) rfl ⟨trivial, trivial, trivial, trivial⟩ ?_
    refine OK_if (fun h772 => ?_) (fun h772 => ?_)
    · exact hko v3 I F
    · refine OK_st 7 okX0_search (S' := (123, [(0, .ref 37), (3, .int v3)], [.int (0 : Int32), .int (0 : Int32), .int (0 : Int32), .int (0 : Int32), .int v3, .int (0 : Int32), .ref 37], hp I F)) rfl ⟨trivial, trivial, trivial, trivial, trivial, trivial, trivial, trivial⟩ ?_
      refine OK_cv [.int (0 : Int32), .int v3, .int (0 : Int32), .int (0 : Int32), .int (0 : Int32), .int (0 : Int32)] [] okX0_search okX0_extend rfl rfl cl_RX0_53 rfl rfl (Nat.le_of_ble_eq_true rfl) (by decide) (Nat.le_of_ble_eq_true rfl) (kf_X0_extend (0 : Int32) v3 (0 : Int32) (0 : Int32) (0 : Int32) (0 : Int32) I F) (fun r800 I801 F802 => ?_)
      refine OK_st 2 okX0_search (S' := (111, [(3, .int (v3 + (1 : Int32))), (0, .ref 37)], [], hp I801 F802)) rfl ⟨(by decide), trivial, trivial⟩ ?_
      refine OK_pk [1, 0] rfl ?_
      exact ih (v3 + (1 : Int32)) I801 F802

def f_X0_search (I : AI) (F : AF) : AQ :=
  ab_lt (va_up I 19 (I 9)) (fun I741 =>
    ab_bd (f_X8_living I741 F) (fun r742 I743 F744 =>
      ab_bd (f_X8_copied I743 F744) (fun r745 I746 F747 =>
        ab_lt (va_up (va_up I746 18 (r742 &&& (r745 ^^^ (-1 : Int32)))) 17 (nI 13)) (fun I748 =>
          f_X0_search_31 (fun v3_769 I770 F771 =>
            f_X0_search_111 (fun v3_803 I804 F805 =>
              some (0, I804, F805)) ab_fu (1 : Int32) I770 F771) ab_fu (0 : Int32) I748 F747))))
set_option maxRecDepth 20000 in
set_option maxHeartbeats 4000000 in
theorem kf_X0_search (I : AI) (F : AF) : OK 10 mX0_search false (f_X0_search I F) (0, [(0, .ref 37), (1, .ref 16), (2, .ref 27)], [], hp I F) := by
  rw [f_X0_search]
  refine OK_st 6 okX0_search (S' := (10, [(0, .ref 37), (1, .ref 16), (2, .ref 27)], [.ref 27, .ref 37], hp (va_up I 19 (I 9)) F)) rfl ⟨trivial, trivial, trivial, trivial, trivial, trivial, trivial⟩ ?_
  refine OK_lt (fun I741 => (10, [(0, .ref 37), (1, .ref 16), (2, .ref 27)], [.ref 27, .ref 37], hp I741 F)) (fun I741 => ?_)
  refine OK_cv [] [.ref 37] okX0_search okX8_living rfl rfl cl_RX0_37 rfl rfl (Nat.le_of_ble_eq_true rfl) (by decide) (Nat.le_of_ble_eq_true rfl) (kf_X8_living I741 F) (fun r742 I743 F744 => ?_)
  refine OK_st 1 okX0_search (S' := (14, [(0, .ref 37), (1, .ref 16), (2, .ref 27)], [.ref 27, .int r742, .ref 37], hp I743 F744)) rfl ⟨trivial, trivial⟩ ?_
  refine OK_cv [] [.int r742, .ref 37] okX0_search okX8_copied rfl rfl cl_RX0_43 rfl rfl (Nat.le_of_ble_eq_true rfl) (by decide) (Nat.le_of_ble_eq_true rfl) (kf_X8_copied I743 F744) (fun r745 I746 F747 => ?_)
  refine OK_st 9 okX0_search (S' := (31, [(3, .int (0 : Int32)), (0, .ref 37), (1, .ref 16), (2, .ref 27)], [], hp (va_up (va_up I746 18 (r742 &&& (r745 ^^^ (-1 : Int32)))) 17 (nI 13)) F747)) rfl ⟨trivial, trivial, trivial, trivial, trivial, trivial, trivial, trivial, (by decide), trivial⟩ ?_
  refine OK_lt (fun I748 => (31, [(3, .int (0 : Int32)), (0, .ref 37), (1, .ref 16), (2, .ref 27)], [], hp I748 F747)) (fun I748 => ?_)
  refine OK_pk [1, 2, 3, 0] rfl ?_
  refine kf_X0_search_31 _ (fun v3_769 I770 F771 => ?_) ab_fu (0 : Int32) I748 F747
  refine OK_st 2 okX0_search (S' := (111, [(3, .int (1 : Int32)), (0, .ref 37), (1, .ref 16), (2, .ref 27)], [], hp I770 F771)) rfl ⟨trivial, (by decide), trivial⟩ ?_
  refine OK_pk [1, 0] rfl ?_
  refine kf_X0_search_111 _ (fun v3_803 I804 F805 => ?_) ab_fu (1 : Int32) I770 F771
  exact OK_rv okX0_search rfl rfl rfl

def f_X0_isFound (I : AI) (F : AF) : AQ :=
  if (nI 13) ≤ (I 17) then
    some ((0 : Int32), I, F)
  else
    some ((1 : Int32), I, F)
set_option maxRecDepth 20000 in
set_option maxHeartbeats 4000000 in
theorem kf_X0_isFound (I : AI) (F : AF) : OK 0 mX0_isFound true (f_X0_isFound I F) (0, [(0, .ref 37)], [], hp I F) := by
  rw [f_X0_isFound]
  refine OK_st 4 okX0_isFound (S' := ((if (nI 13) ≤ (I 17) then 13 else 9), [(0, .ref 37)], [], hp I F)) rfl ⟨trivial, trivial, trivial, trivial, trivial⟩ ?_
  refine OK_if (fun h809 => ?_) (fun h809 => ?_)
  · refine OK_st 1 okX0_isFound (S' := (14, [(0, .ref 37)], [.int (0 : Int32)], hp I F)) rfl ⟨trivial, trivial⟩ ?_
    exact OK_ri okX0_isFound rfl rfl (Or.inr ⟨rfl, Or.inl rfl⟩)
  · refine OK_st 2 okX0_isFound (S' := (14, [(0, .ref 37)], [.int (1 : Int32)], hp I F)) rfl ⟨trivial, trivial, trivial⟩ ?_
    exact OK_ri okX0_isFound rfl rfl (Or.inr ⟨rfl, Or.inr rfl⟩)

def f_X9_basket_j19 (v1 : Int32) (I : AI) (F : AF) : AQ :=
  ab_bd (f_X0_search I F) (fun r806 I807 F808 =>
    ab_bd (f_X0_isFound I807 F808) (fun r810 I811 F812 =>
      if ¬ r810 = 0 then
        if ¬ v1 = (-1 : Int32) then
          bif ab_vin v1 6 then
            some (((F812 33) v1.toNatClampNeg), I811, F812)
          else none
        else
          some ((I811 17), I811, F812)
      else
        some ((-1 : Int32), I811, F812)))
set_option maxRecDepth 20000 in
set_option maxHeartbeats 4000000 in
theorem kf_X9_basket_j19 (v1 : Int32) (I : AI) (F : AF) : OK 11 mX9_basket true (f_X9_basket_j19 v1 I F) (19, [(0, .ref 0), (1, .int v1)], [], hp I F) := by
  rw [f_X9_basket_j19]
  refine OK_st 6 okX9_basket (S' := (31, [(0, .ref 0), (1, .int v1)], [.ref 27, .ref 16, .ref 37], hp I F)) rfl ⟨trivial, trivial, trivial, trivial, trivial, trivial, trivial⟩ ?_
  refine OK_cv [.ref 16, .ref 27] [] okX9_basket okX0_search rfl rfl cl_RX9_246 rfl rfl (Nat.le_of_ble_eq_true rfl) (by decide) (Nat.le_of_ble_eq_true rfl) (kf_X0_search I F) (fun r806 I807 F808 => ?_)
  refine OK_st 2 okX9_basket (S' := (38, [(0, .ref 0), (1, .int v1)], [.ref 37], hp I807 F808)) rfl ⟨trivial, trivial, trivial⟩ ?_
  refine OK_cv [] [] okX9_basket okX0_isFound rfl rfl cl_RX9_250 rfl rfl (Nat.le_of_ble_eq_true rfl) (by decide) (Nat.le_of_ble_eq_true rfl) (kf_X0_isFound I807 F808) (fun r810 I811 F812 => ?_)
  refine OK_st 1 okX9_basket (S' := ((if ¬ r810 = 0 then 46 else 44), [(0, .ref 0), (1, .int v1)], [], hp I811 F812)) rfl ⟨trivial, trivial⟩ ?_
  refine OK_if (fun h813 => ?_) (fun h813 => ?_)
  · refine OK_st 3 okX9_basket (S' := ((if ¬ v1 = (-1 : Int32) then 61 else 51), [(0, .ref 0), (1, .int v1)], [], hp I811 F812)) rfl ⟨trivial, trivial, trivial, trivial⟩ ?_
    refine OK_if (fun h814 => ?_) (fun h814 => ?_)
    · refine OK_gd (fun g815 => ?_)
      refine OK_st 5 okX9_basket (S' := (70, [(0, .ref 0), (1, .int v1)], [.int ((F812 33) v1.toNatClampNeg)], hp I811 F812)) rfl ⟨trivial, trivial, trivial, trivial, (ab_vo g815), trivial⟩ ?_
      exact OK_ri okX9_basket rfl rfl (Or.inl rfl)
    · refine OK_st 4 okX9_basket (S' := (70, [(0, .ref 0), (1, .int v1)], [.int (I811 17)], hp I811 F812)) rfl ⟨trivial, trivial, trivial, trivial, trivial⟩ ?_
      exact OK_ri okX9_basket rfl rfl (Or.inl rfl)
  · refine OK_st 1 okX9_basket (S' := (45, [(0, .ref 0), (1, .int v1)], [.int (-1 : Int32)], hp I811 F812)) rfl ⟨trivial, trivial⟩ ?_
    exact OK_ri okX9_basket rfl rfl (Or.inl rfl)

def f_X9_basket (v1 : Int32) (I : AI) (F : AF) : AQ :=
  if v1 = (-1 : Int32) then
    f_X9_basket_j19 v1 I F
  else
    ab_bd (f_X5_hasLimb v1 I F) (fun r816 I817 F818 =>
      if ¬ r816 = 0 then
        f_X9_basket_j19 v1 I817 F818
      else
        some ((-1000000001 : Int32), I817, F818))
set_option maxRecDepth 20000 in
set_option maxHeartbeats 4000000 in
theorem kf_X9_basket (v1 : Int32) (I : AI) (F : AF) : OK 11 mX9_basket true (f_X9_basket v1 I F) (0, [(0, .ref 0), (1, .int v1)], [], hp I F) := by
  rw [f_X9_basket]
  refine OK_st 3 okX9_basket (S' := ((if v1 = (-1 : Int32) then 19 else 5), [(0, .ref 0), (1, .int v1)], [], hp I F)) rfl ⟨trivial, trivial, trivial, trivial⟩ ?_
  refine OK_if (fun h740 => ?_) (fun h740 => ?_)
  · exact kf_X9_basket_j19 v1 I F
  · refine OK_st 3 okX9_basket (S' := (10, [(0, .ref 0), (1, .int v1)], [.int v1, .ref 16], hp I F)) rfl ⟨trivial, trivial, trivial, trivial⟩ ?_
    refine OK_cv [.int v1] [] okX9_basket okX5_hasLimb rfl rfl cl_RX9_151 rfl rfl (Nat.le_of_ble_eq_true rfl) (by decide) (Nat.le_of_ble_eq_true rfl) (kf_X5_hasLimb v1 I F) (fun r816 I817 F818 => ?_)
    refine OK_st 1 okX9_basket (S' := ((if ¬ r816 = 0 then 19 else 16), [(0, .ref 0), (1, .int v1)], [], hp I817 F818)) rfl ⟨trivial, trivial⟩ ?_
    refine OK_if (fun h819 => ?_) (fun h819 => ?_)
    · exact kf_X9_basket_j19 v1 I817 F818
    · refine OK_st 1 okX9_basket (S' := (18, [(0, .ref 0), (1, .int v1)], [.int (-1000000001 : Int32)], hp I817 F818)) rfl ⟨trivial, trivial⟩ ?_
      exact OK_ri okX9_basket rfl rfl (Or.inl rfl)

def f_X7_extend_j55_10 (rc : Int32 → Int32 → Int32 → Int32 → AI → AF → AQ) (bk ko : Int32 → AI → AF → AQ) (v2 : Int32) (v3 : Int32) (v4 : Int32) (v5 : Int32) (v6 : Int32) (v7 : Int32) (s0 : Int32) (I : AI) (F : AF) : AQ :=
  if s0 = 0 then
    bk (v6 + (1 : Int32)) I F
  else
    if ¬ ((v3 >>> (v7 &&& 31)) &&& (1 : Int32)) = 0 then
      bk (v6 + (1 : Int32)) I F
    else
      bif ab_vin v2 4 then
        bif ab_vin v6 8 then
          ab_lt (va_up F 34 (upd (F 34) v2.toNatClampNeg v6)) (fun F830 =>
            ab_lt (v4 * ((F 20) v6.toNatClampNeg)) (fun x831 =>
              bif ab_vin v6 8 then
                ab_lt (v5 * ((F830 21) v6.toNatClampNeg)) (fun x833 =>
                  if ¬ (v2 + (1 : Int32)) = (I 20) then
                    ab_bd (rc (v2 + (1 : Int32)) (v3 ||| ((1 : Int32) <<< (v7 &&& 31))) x831 x833 I F830) (fun r835 I836 F837 =>
                      if r835 = 0 then
                        bk (v6 + (1 : Int32)) I836 F837
                      else
                        some ((1 : Int32), I836, F837))
                  else
                    bif ab_vin v6 8 then
                      bif ab_vin ((F830 34) 0) 8 then
                        if ¬ ((F830 19) v6.toNatClampNeg) = ((F830 18) ((F830 34) 0).toNatClampNeg) then
                          if (0 : Int32) = 0 then
                            bk (v6 + (1 : Int32)) I F830
                          else
                            some ((1 : Int32), I, F830)
                        else
                          if x833 ≤ x831 then
                            if (0 : Int32) = 0 then
                              bk (v6 + (1 : Int32)) I F830
                            else
                              some ((1 : Int32), I, F830)
                          else
                            if (1 : Int32) = 0 then
                              bk (v6 + (1 : Int32)) I F830
                            else
                              some ((1 : Int32), I, F830)
                      else none
                    else none)
              else none))
        else none
      else none
set_option maxRecDepth 20000 in
set_option maxHeartbeats 4000000 in
theorem kf_X7_extend_j55_10 (d : Nat) (rc : Int32 → Int32 → Int32 → Int32 → AI → AF → AQ) (hrc : ∀ v2 v3 v4 v5 I F, OK d mX7_extend true (rc v2 v3 v4 v5 I F) (0, [(0, .ref 43), (1, .ref 16), (2, .int v2), (3, .int v3), (4, .int v4), (5, .int v5)], [], hp I F)) (bk ko : Int32 → AI → AF → AQ) (v2 : Int32) (v3 : Int32) (v4 : Int32) (v5 : Int32) (v6 : Int32) (v7 : Int32) (hbk : ∀ v6 I F, OK (d + 1) mX7_extend true (bk v6 I F) (10, [(0, .ref 43), (1, .ref 16), (2, .int v2), (3, .int v3), (4, .int v4), (5, .int v5), (6, .int v6)], [], hp I F)) (hko : ∀ v6 I F, OK (d + 1) mX7_extend true (ko v6 I F) (182, [(0, .ref 43), (1, .ref 16), (2, .int v2), (3, .int v3), (4, .int v4), (5, .int v5), (6, .int v6)], [], hp I F)) (s0 : Int32) (I : AI) (F : AF) : OK (d + 1) mX7_extend true (f_X7_extend_j55_10 rc bk ko v2 v3 v4 v5 v6 v7 s0 I F) (55, [(0, .ref 43), (1, .ref 16), (2, .int v2), (3, .int v3), (4, .int v4), (5, .int v5), (6, .int v6), (7, .int v7)], [.int s0], hp I F) := by
  rw [f_X7_extend_j55_10]
  refine OK_st 3 okX7_extend (S' := ((if s0 = 0 then 176 else 62), [(8, .int s0), (0, .ref 43), (1, .ref 16), (2, .int v2), (3, .int v3), (4, .int v4), (5, .int v5), (6, .int v6), (7, .int v7)], [], hp I F)) rfl ⟨(by decide), trivial, trivial, trivial⟩ ?_
  refine OK_if (fun h826 => ?_) (fun h826 => ?_)
  · refine OK_st 2 okX7_extend (S' := (10, [(6, .int (v6 + (1 : Int32))), (8, .int s0), (0, .ref 43), (1, .ref 16), (2, .int v2), (3, .int v3), (4, .int v4), (5, .int v5), (7, .int v7)], [], hp I F)) rfl ⟨(by decide), trivial, trivial⟩ ?_
    refine OK_pk [2, 3, 4, 5, 6, 7, 0] rfl ?_
    exact hbk (v6 + (1 : Int32)) I F
  · refine OK_st 6 okX7_extend (S' := ((if ¬ ((v3 >>> (v7 &&& 31)) &&& (1 : Int32)) = 0 then 176 else 71), [(8, .int s0), (0, .ref 43), (1, .ref 16), (2, .int v2), (3, .int v3), (4, .int v4), (5, .int v5), (6, .int v6), (7, .int v7)], [], hp I F)) rfl ⟨trivial, trivial, trivial, trivial, trivial, trivial, trivial⟩ ?_
    refine OK_if (fun h827 => ?_) (fun h827 => ?_)
    · refine OK_st 2 okX7_extend (S' := (10, [(6, .int (v6 + (1 : Int32))), (8, .int s0), (0, .ref 43), (1, .ref 16), (2, .int v2), (3, .int v3), (4, .int v4), (5, .int v5), (7, .int v7)], [], hp I F)) rfl ⟨(by decide), trivial, trivial⟩ ?_
      refine OK_pk [2, 3, 4, 5, 6, 7, 0] rfl ?_
      exact hbk (v6 + (1 : Int32)) I F
    · refine OK_gd (fun g828 => ?_)
      refine OK_gd (fun g829 => ?_)
      refine OK_st 12 okX7_extend (S' := (91, [(9, .int (v4 * ((F 20) v6.toNatClampNeg))), (8, .int s0), (0, .ref 43), (1, .ref 16), (2, .int v2), (3, .int v3), (4, .int v4), (5, .int v5), (6, .int v6), (7, .int v7)], [], hp I (va_up F 34 (upd (F 34) v2.toNatClampNeg v6)))) rfl ⟨trivial, trivial, trivial, trivial, (ab_vo g828), trivial, trivial, trivial, trivial, (ab_vo g829), trivial, (by decide), trivial⟩ ?_
      refine OK_lt (fun F830 => (91, [(9, .int (v4 * ((F 20) v6.toNatClampNeg))), (8, .int s0), (0, .ref 43), (1, .ref 16), (2, .int v2), (3, .int v3), (4, .int v4), (5, .int v5), (6, .int v6), (7, .int v7)], [], hp I F830)) (fun F830 => ?_)
      refine OK_lt (fun x831 => (91, [(9, .int x831), (8, .int s0), (0, .ref 43), (1, .ref 16), (2, .int v2), (3, .int v3), (4, .int v4), (5, .int v5), (6, .int v6), (7, .int v7)], [], hp I F830)) (fun x831 => ?_)
      refine OK_gd (fun g832 => ?_)
      refine OK_st 7 okX7_extend (S' := (103, [(10, .int (v5 * ((F830 21) v6.toNatClampNeg))), (9, .int x831), (8, .int s0), (0, .ref 43), (1, .ref 16), (2, .int v2), (3, .int v3), (4, .int v4), (5, .int v5), (6, .int v6), (7, .int v7)], [], hp I F830)) rfl ⟨trivial, trivial, trivial, trivial, (ab_vo g832), trivial, (by decide), trivial⟩ ?_
      refine OK_lt (fun x833 => (103, [(10, .int x833), (9, .int x831), (8, .int s0), (0, .ref 43), (1, .ref 16), (2, .int v2), (3, .int v3), (4, .int v4), (5, .int v5), (6, .int v6), (7, .int v7)], [], hp I F830)) (fun x833 => ?_)
      refine OK_st 6 okX7_extend (S' := ((if ¬ (v2 + (1 : Int32)) = (I 20) then 149 else 113), [(10, .int x833), (9, .int x831), (8, .int s0), (0, .ref 43), (1, .ref 16), (2, .int v2), (3, .int v3), (4, .int v4), (5, .int v5), (6, .int v6), (7, .int v7)], [], hp I F830)) rfl ⟨trivial, trivial, trivial, trivial, trivial, trivial, trivial⟩ ?_
      refine OK_if (fun h834 => ?_) (fun h834 => ?_)
      · refine OK_st 12 okX7_extend (S' := (164, [(10, .int x833), (9, .int x831), (8, .int s0), (0, .ref 43), (1, .ref 16), (2, .int v2), (3, .int v3), (4, .int v4), (5, .int v5), (6, .int v6), (7, .int v7)], [.int x833, .int x831, .int (v3 ||| ((1 : Int32) <<< (v7 &&& 31))), .int (v2 + (1 : Int32)), .ref 16, .ref 43], hp I F830)) rfl ⟨trivial, trivial, trivial, trivial, trivial, trivial, trivial, trivial, trivial, trivial, trivial, trivial, trivial⟩ ?_
        refine OK_cv [.ref 16, .int (v2 + (1 : Int32)), .int (v3 ||| ((1 : Int32) <<< (v7 &&& 31))), .int x831, .int x833] [] okX7_extend okX7_extend rfl rfl cl_RX7_19 rfl rfl (Nat.le_of_ble_eq_true rfl) (Nat.le_refl _) (Nat.le_of_ble_eq_true rfl) (hrc (v2 + (1 : Int32)) (v3 ||| ((1 : Int32) <<< (v7 &&& 31))) x831 x833 I F830) (fun r835 I836 F837 => ?_)
        refine OK_st 3 okX7_extend (S' := ((if r835 = 0 then 176 else 174), [(11, .int r835), (10, .int x833), (9, .int x831), (8, .int s0), (0, .ref 43), (1, .ref 16), (2, .int v2), (3, .int v3), (4, .int v4), (5, .int v5), (6, .int v6), (7, .int v7)], [], hp I836 F837)) rfl ⟨(by decide), trivial, trivial, trivial⟩ ?_
        refine OK_if (fun h838 => ?_) (fun h838 => ?_)
        · refine OK_st 2 okX7_extend (S' := (10, [(6, .int (v6 + (1 : Int32))), (11, .int r835), (10, .int x833), (9, .int x831), (8, .int s0), (0, .ref 43), (1, .ref 16), (2, .int v2), (3, .int v3), (4, .int v4), (5, .int v5), (7, .int v7)], [], hp I836 F837)) rfl ⟨(by decide), trivial, trivial⟩ ?_
          refine OK_pk [5, 6, 7, 8, 9, 10, 0] rfl ?_
          exact hbk (v6 + (1 : Int32)) I836 F837
        · refine OK_st 1 okX7_extend (S' := (175, [(11, .int r835), (10, .int x833), (9, .int x831), (8, .int s0), (0, .ref 43), (1, .ref 16), (2, .int v2), (3, .int v3), (4, .int v4), (5, .int v5), (6, .int v6), (7, .int v7)], [.int (1 : Int32)], hp I836 F837)) rfl ⟨trivial, trivial⟩ ?_
          exact OK_ri okX7_extend rfl rfl (Or.inr ⟨rfl, Or.inr rfl⟩)
      · refine OK_gd (fun g839 => ?_)
        refine OK_gd (fun g840 => ?_)
        refine OK_st 12 okX7_extend (S' := ((if ¬ ((F830 19) v6.toNatClampNeg) = ((F830 18) ((F830 34) 0).toNatClampNeg) then 145 else 134), [(10, .int x833), (9, .int x831), (8, .int s0), (0, .ref 43), (1, .ref 16), (2, .int v2), (3, .int v3), (4, .int v4), (5, .int v5), (6, .int v6), (7, .int v7)], [], hp I F830)) rfl ⟨trivial, trivial, trivial, (ab_vo g839), trivial, trivial, trivial, trivial, trivial, (ab_vo (by decide)), (ab_vo g840), trivial, trivial⟩ ?_
        refine OK_if (fun h841 => ?_) (fun h841 => ?_)
        · refine OK_st 5 okX7_extend (S' := ((if (0 : Int32) = 0 then 176 else 174), [(11, .int (0 : Int32)), (10, .int x833), (9, .int x831), (8, .int s0), (0, .ref 43), (1, .ref 16), (2, .int v2), (3, .int v3), (4, .int v4), (5, .int v5), (6, .int v6), (7, .int v7)], [], hp I F830)) rfl ⟨trivial, trivial, (by decide), trivial, trivial, trivial⟩ ?_
          refine OK_if (fun h842 => ?_) (fun h842 => ?_)
          · refine OK_st 2 okX7_extend (S' := (10, [(6, .int (v6 + (1 : Int32))), (11, .int (0 : Int32)), (10, .int x833), (9, .int x831), (8, .int s0), (0, .ref 43), (1, .ref 16), (2, .int v2), (3, .int v3), (4, .int v4), (5, .int v5), (7, .int v7)], [], hp I F830)) rfl ⟨(by decide), trivial, trivial⟩ ?_
            refine OK_pk [5, 6, 7, 8, 9, 10, 0] rfl ?_
            exact hbk (v6 + (1 : Int32)) I F830
          · refine OK_st 1 okX7_extend (S' := (175, [(11, .int (0 : Int32)), (10, .int x833), (9, .int x831), (8, .int s0), (0, .ref 43), (1, .ref 16), (2, .int v2), (3, .int v3), (4, .int v4), (5, .int v5), (6, .int v6), (7, .int v7)], [.int (1 : Int32)], hp I F830)) rfl ⟨trivial, trivial⟩ ?_
            exact OK_ri okX7_extend rfl rfl (Or.inr ⟨rfl, Or.inr rfl⟩)
        · refine OK_st 3 okX7_extend (S' := ((if x833 ≤ x831 then 145 else 141), [(10, .int x833), (9, .int x831), (8, .int s0), (0, .ref 43), (1, .ref 16), (2, .int v2), (3, .int v3), (4, .int v4), (5, .int v5), (6, .int v6), (7, .int v7)], [], hp I F830)) rfl ⟨trivial, trivial, trivial, trivial⟩ ?_
          refine OK_if (fun h843 => ?_) (fun h843 => ?_)
          · refine OK_st 5 okX7_extend (S' := ((if (0 : Int32) = 0 then 176 else 174), [(11, .int (0 : Int32)), (10, .int x833), (9, .int x831), (8, .int s0), (0, .ref 43), (1, .ref 16), (2, .int v2), (3, .int v3), (4, .int v4), (5, .int v5), (6, .int v6), (7, .int v7)], [], hp I F830)) rfl ⟨trivial, trivial, (by decide), trivial, trivial, trivial⟩ ?_
            refine OK_if (fun h844 => ?_) (fun h844 => ?_)
            · refine OK_st 2 okX7_extend (S' := (10, [(6, .int (v6 + (1 : Int32))), (11, .int (0 : Int32)), (10, .int x833), (9, .int x831), (8, .int s0), (0, .ref 43), (1, .ref 16), (2, .int v2), (3, .int v3), (4, .int v4), (5, .int v5), (7, .int v7)], [], hp I F830)) rfl ⟨(by decide), trivial, trivial⟩ ?_
              refine OK_pk [5, 6, 7, 8, 9, 10, 0] rfl ?_
              exact hbk (v6 + (1 : Int32)) I F830
            · refine OK_st 1 okX7_extend (S' := (175, [(11, .int (0 : Int32)), (10, .int x833), (9, .int x831), (8, .int s0), (0, .ref 43), (1, .ref 16), (2, .int v2), (3, .int v3), (4, .int v4), (5, .int v5), (6, .int v6), (7, .int v7)], [.int (1 : Int32)], hp I F830)) rfl ⟨trivial, trivial⟩ ?_
              exact OK_ri okX7_extend rfl rfl (Or.inr ⟨rfl, Or.inr rfl⟩)
          · refine OK_st 5 okX7_extend (S' := ((if (1 : Int32) = 0 then 176 else 174), [(11, .int (1 : Int32)), (10, .int x833), (9, .int x831), (8, .int s0), (0, .ref 43), (1, .ref 16), (2, .int v2), (3, .int v3), (4, .int v4), (5, .int v5), (6, .int v6), (7, .int v7)], [], hp I F830)) rfl ⟨trivial, trivial, (by decide), trivial, trivial, trivial⟩ ?_
            refine OK_if (fun h845 => ?_) (fun h845 => ?_)
            · refine OK_st 2 okX7_extend (S' := (10, [(6, .int (v6 + (1 : Int32))), (11, .int (1 : Int32)), (10, .int x833), (9, .int x831), (8, .int s0), (0, .ref 43), (1, .ref 16), (2, .int v2), (3, .int v3), (4, .int v4), (5, .int v5), (7, .int v7)], [], hp I F830)) rfl ⟨(by decide), trivial, trivial⟩ ?_
              refine OK_pk [5, 6, 7, 8, 9, 10, 0] rfl ?_
              exact hbk (v6 + (1 : Int32)) I F830
            · refine OK_st 1 okX7_extend (S' := (175, [(11, .int (1 : Int32)), (10, .int x833), (9, .int x831), (8, .int s0), (0, .ref 43), (1, .ref 16), (2, .int v2), (3, .int v3), (4, .int v4), (5, .int v5), (6, .int v6), (7, .int v7)], [.int (1 : Int32)], hp I F830)) rfl ⟨trivial, trivial⟩ ?_
              exact OK_ri okX7_extend rfl rfl (Or.inr ⟨rfl, Or.inr rfl⟩)

def f_X7_extend_j50_10 (rc : Int32 → Int32 → Int32 → Int32 → AI → AF → AQ) (bk ko : Int32 → AI → AF → AQ) (v2 : Int32) (v3 : Int32) (v4 : Int32) (v5 : Int32) (v6 : Int32) (v7 : Int32) (I : AI) (F : AF) : AQ :=
  f_X7_extend_j55_10 rc (bk) ko v2 v3 v4 v5 v6 v7 (1 : Int32) I F
set_option maxRecDepth 20000 in
set_option maxHeartbeats 4000000 in
theorem kf_X7_extend_j50_10 (d : Nat) (rc : Int32 → Int32 → Int32 → Int32 → AI → AF → AQ) (hrc : ∀ v2 v3 v4 v5 I F, OK d mX7_extend true (rc v2 v3 v4 v5 I F) (0, [(0, .ref 43), (1, .ref 16), (2, .int v2), (3, .int v3), (4, .int v4), (5, .int v5)], [], hp I F)) (bk ko : Int32 → AI → AF → AQ) (v2 : Int32) (v3 : Int32) (v4 : Int32) (v5 : Int32) (v6 : Int32) (v7 : Int32) (hbk : ∀ v6 I F, OK (d + 1) mX7_extend true (bk v6 I F) (10, [(0, .ref 43), (1, .ref 16), (2, .int v2), (3, .int v3), (4, .int v4), (5, .int v5), (6, .int v6)], [], hp I F)) (hko : ∀ v6 I F, OK (d + 1) mX7_extend true (ko v6 I F) (182, [(0, .ref 43), (1, .ref 16), (2, .int v2), (3, .int v3), (4, .int v4), (5, .int v5), (6, .int v6)], [], hp I F)) (I : AI) (F : AF) : OK (d + 1) mX7_extend true (f_X7_extend_j50_10 rc bk ko v2 v3 v4 v5 v6 v7 I F) (50, [(0, .ref 43), (1, .ref 16), (2, .int v2), (3, .int v3), (4, .int v4), (5, .int v5), (6, .int v6), (7, .int v7)], [], hp I F) := by
  rw [f_X7_extend_j50_10]
  refine OK_st 2 okX7_extend (S' := (55, [(0, .ref 43), (1, .ref 16), (2, .int v2), (3, .int v3), (4, .int v4), (5, .int v5), (6, .int v6), (7, .int v7)], [.int (1 : Int32)], hp I F)) rfl ⟨trivial, trivial, trivial⟩ ?_
  exact kf_X7_extend_j55_10 d rc hrc (bk) ko v2 v3 v4 v5 v6 v7 hbk hko (1 : Int32) I F

def f_X7_extend_10 (rc : Int32 → Int32 → Int32 → Int32 → AI → AF → AQ) (v2 : Int32) (v3 : Int32) (v4 : Int32) (v5 : Int32) (ko : Int32 → AI → AF → AQ) : Nat → Int32 → AI → AF → AQ
  | 0, _, _, _ => none
  | n + 1, v6, I, F =>
    if (I 11) ≤ v6 then
      ko v6 I F
    else
      bif ab_vin v6 8 then
        if v2 = 0 then
          f_X7_extend_j50_10 rc (f_X7_extend_10 rc v2 v3 v4 v5 ko n) ko v2 v3 v4 v5 v6 ((F 18) v6.toNatClampNeg) I F
        else
          bif ab_vin (v2 - (1 : Int32)) 4 then
            bif ab_vin ((F 34) (v2 - (1 : Int32)).toNatClampNeg) 8 then
              if ¬ ((F 18) v6.toNatClampNeg) = ((F 19) ((F 34) (v2 - (1 : Int32)).toNatClampNeg).toNatClampNeg) then
                f_X7_extend_j55_10 rc (f_X7_extend_10 rc v2 v3 v4 v5 ko n) ko v2 v3 v4 v5 v6 ((F 18) v6.toNatClampNeg) (0 : Int32) I F
              else
                f_X7_extend_j50_10 rc (f_X7_extend_10 rc v2 v3 v4 v5 ko n) ko v2 v3 v4 v5 v6 ((F 18) v6.toNatClampNeg) I F
            else none
          else none
      else none
set_option maxRecDepth 20000 in
set_option maxHeartbeats 4000000 in
theorem kf_X7_extend_10 (d : Nat) (rc : Int32 → Int32 → Int32 → Int32 → AI → AF → AQ) (hrc : ∀ v2 v3 v4 v5 I F, OK d mX7_extend true (rc v2 v3 v4 v5 I F) (0, [(0, .ref 43), (1, .ref 16), (2, .int v2), (3, .int v3), (4, .int v4), (5, .int v5)], [], hp I F)) (v2 : Int32) (v3 : Int32) (v4 : Int32) (v5 : Int32) (ko : Int32 → AI → AF → AQ) (hko : ∀ v6 I F, OK (d + 1) mX7_extend true (ko v6 I F) (182, [(0, .ref 43), (1, .ref 16), (2, .int v2), (3, .int v3), (4, .int v4), (5, .int v5), (6, .int v6)], [], hp I F)) : ∀ n v6 I F, OK (d + 1) mX7_extend true (f_X7_extend_10 rc v2 v3 v4 v5 ko n v6 I F) (10, [(0, .ref 43), (1, .ref 16), (2, .int v2), (3, .int v3), (4, .int v4), (5, .int v5), (6, .int v6)], [], hp I F) := by
  intro n
  induction n with
  | zero =>
    intro v6 I F
    exact OK_no
  | succ n ih =>
    intro v6 I F
    rw [f_X7_extend_10]
    refine OK_st 4 okX7_extend (S' := ((if (I 11) ≤ v6 then 182 else 19), [(0, .ref 43), (1, .ref 16), (2, .int v2), (3, .int v3), (4, .int v4), (5, .int v5), (6, .int v6)], [], hp I F)) rfl ⟨trivial, trivial, trivial, trivial, trivial⟩ ?_
    refine OK_if (fun h823 => ?_) (fun h823 => ?_)
    · exact hko v6 I F
    · refine OK_gd (fun g824 => ?_)
      refine OK_st 7 okX7_extend (S' := ((if v2 = 0 then 50 else 32), [(7, .int ((F 18) v6.toNatClampNeg)), (0, .ref 43), (1, .ref 16), (2, .int v2), (3, .int v3), (4, .int v4), (5, .int v5), (6, .int v6)], [], hp I F)) rfl ⟨trivial, trivial, trivial, (ab_vo g824), (by decide), trivial, trivial, trivial⟩ ?_
      refine OK_if (fun h825 => ?_) (fun h825 => ?_)
      · refine OK_pk [1, 2, 3, 4, 5, 6, 7, 0] rfl ?_
        exact kf_X7_extend_j50_10 d rc hrc (f_X7_extend_10 rc v2 v3 v4 v5 ko n) ko v2 v3 v4 v5 v6 ((F 18) v6.toNatClampNeg) ih hko I F
      · refine OK_gd (fun g846 => ?_)
        refine OK_gd (fun g847 => ?_)
        refine OK_st 11 okX7_extend (S' := ((if ¬ ((F 18) v6.toNatClampNeg) = ((F 19) ((F 34) (v2 - (1 : Int32)).toNatClampNeg).toNatClampNeg) then 54 else 50), [(7, .int ((F 18) v6.toNatClampNeg)), (0, .ref 43), (1, .ref 16), (2, .int v2), (3, .int v3), (4, .int v4), (5, .int v5), (6, .int v6)], [], hp I F)) rfl ⟨trivial, trivial, trivial, trivial, trivial, trivial, trivial, trivial, (ab_vo g846), (ab_vo g847), trivial, trivial⟩ ?_
        refine OK_if (fun h848 => ?_) (fun h848 => ?_)
        · refine OK_st 1 okX7_extend (S' := (55, [(7, .int ((F 18) v6.toNatClampNeg)), (0, .ref 43), (1, .ref 16), (2, .int v2), (3, .int v3), (4, .int v4), (5, .int v5), (6, .int v6)], [.int (0 : Int32)], hp I F)) rfl ⟨trivial, trivial⟩ ?_
          refine OK_pk [1, 2, 3, 4, 5, 6, 7, 0] rfl ?_
          exact kf_X7_extend_j55_10 d rc hrc (f_X7_extend_10 rc v2 v3 v4 v5 ko n) ko v2 v3 v4 v5 v6 ((F 18) v6.toNatClampNeg) ih hko (0 : Int32) I F
        · refine OK_pk [1, 2, 3, 4, 5, 6, 7, 0] rfl ?_
          exact kf_X7_extend_j50_10 d rc hrc (f_X7_extend_10 rc v2 v3 v4 v5 ko n) ko v2 v3 v4 v5 v6 ((F 18) v6.toNatClampNeg) ih hko I F

def f_X7_extend_b (rc : Int32 → Int32 → Int32 → Int32 → AI → AF → AQ) (v2 : Int32) (v3 : Int32) (v4 : Int32) (v5 : Int32) (I : AI) (F : AF) : AQ :=
  if v2 < (nI 4) then
    f_X7_extend_10 rc v2 v3 v4 v5 (fun v6_849 I850 F851 =>
      some ((0 : Int32), I850, F851)) ab_fu (0 : Int32) I F
  else
    some ((0 : Int32), I, F)
set_option maxRecDepth 20000 in
set_option maxHeartbeats 4000000 in
theorem kf_X7_extend_b (d : Nat) (rc : Int32 → Int32 → Int32 → Int32 → AI → AF → AQ) (hrc : ∀ v2 v3 v4 v5 I F, OK d mX7_extend true (rc v2 v3 v4 v5 I F) (0, [(0, .ref 43), (1, .ref 16), (2, .int v2), (3, .int v3), (4, .int v4), (5, .int v5)], [], hp I F)) (v2 : Int32) (v3 : Int32) (v4 : Int32) (v5 : Int32) (I : AI) (F : AF) : OK (d + 1) mX7_extend true (f_X7_extend_b rc v2 v3 v4 v5 I F) (0, [(0, .ref 43), (1, .ref 16), (2, .int v2), (3, .int v3), (4, .int v4), (5, .int v5)], [], hp I F) := by
  rw [f_X7_extend_b]
  refine OK_st 3 okX7_extend (S' := ((if v2 < (nI 4) then 7 else 5), [(0, .ref 43), (1, .ref 16), (2, .int v2), (3, .int v3), (4, .int v4), (5, .int v5)], [], hp I F)) rfl ⟨trivial, trivial, trivial, trivial⟩ ?_
  refine OK_if (fun h822 => ?_) (fun h822 => ?_)
  · refine OK_st 2 okX7_extend (S' := (10, [(6, .int (0 : Int32)), (0, .ref 43), (1, .ref 16), (2, .int v2), (3, .int v3), (4, .int v4), (5, .int v5)], [], hp I F)) rfl ⟨trivial, (by decide), trivial⟩ ?_
    refine OK_pk [1, 2, 3, 4, 5, 6, 0] rfl ?_
    refine kf_X7_extend_10 d rc hrc v2 v3 v4 v5 _ (fun v6_849 I850 F851 => ?_) ab_fu (0 : Int32) I F
    refine OK_st 1 okX7_extend (S' := (183, [(0, .ref 43), (1, .ref 16), (2, .int v2), (3, .int v3), (4, .int v4), (5, .int v5), (6, .int v6_849)], [.int (0 : Int32)], hp I850 F851)) rfl ⟨trivial, trivial⟩ ?_
    exact OK_ri okX7_extend rfl rfl (Or.inr ⟨rfl, Or.inl rfl⟩)
  · refine OK_st 1 okX7_extend (S' := (6, [(0, .ref 43), (1, .ref 16), (2, .int v2), (3, .int v3), (4, .int v4), (5, .int v5)], [.int (0 : Int32)], hp I F)) rfl ⟨trivial, trivial⟩ ?_
    exact OK_ri okX7_extend rfl rfl (Or.inr ⟨rfl, Or.inl rfl⟩)
def f_X7_extend_n : Nat → Int32 → Int32 → Int32 → Int32 → AI → AF → AQ
  | 0, _, _, _, _, _, _ => none
  | n + 1, v2, v3, v4, v5, I, F => f_X7_extend_b (f_X7_extend_n n) v2 v3 v4 v5 I F
theorem kf_X7_extend_n : ∀ n v2 v3 v4 v5 I F, OK (n + 1) mX7_extend true (f_X7_extend_n n v2 v3 v4 v5 I F) (0, [(0, .ref 43), (1, .ref 16), (2, .int v2), (3, .int v3), (4, .int v4), (5, .int v5)], [], hp I F) := by
  intro n
  induction n with
  | zero =>
    intro v2 v3 v4 v5 I F
    exact OK_no
  | succ n ih =>
    intro v2 v3 v4 v5 I F
    have := kf_X7_extend_b (n + 1) (f_X7_extend_n n) ih v2 v3 v4 v5 I F
    rw [show n + 1 + 1 = n + 1 + 1 by omega]
    exact this
def f_X7_extend : Int32 → Int32 → Int32 → Int32 → AI → AF → AQ := f_X7_extend_n 8
theorem kf_X7_extend (v2 : Int32) (v3 : Int32) (v4 : Int32) (v5 : Int32) (I : AI) (F : AF) : OK 9 mX7_extend true (f_X7_extend v2 v3 v4 v5 I F) (0, [(0, .ref 43), (1, .ref 16), (2, .int v2), (3, .int v3), (4, .int v4), (5, .int v5)], [], hp I F) := kf_X7_extend_n 8 v2 v3 v4 v5 I F

def f_X7_search_2 (ko : Int32 → AI → AF → AQ) : Nat → Int32 → AI → AF → AQ
  | 0, _, _, _ => none
  | n + 1, v2, I, F =>
    if (nI 4) < v2 then
      ko v2 I F
    else
      ab_lt (va_up I 20 v2) (fun I821 =>
        ab_bd (f_X7_extend (0 : Int32) (0 : Int32) (1 : Int32) (1 : Int32) I821 F) (fun r852 I853 F854 =>
          if r852 = 0 then
            f_X7_search_2 ko n (v2 + (1 : Int32)) I853 F854
          else
            some (0, I853, F854)))
set_option maxRecDepth 20000 in
set_option maxHeartbeats 4000000 in
theorem kf_X7_search_2 (ko : Int32 → AI → AF → AQ) (hko : ∀ v2 I F, OK 10 mX7_search false (ko v2 I F) (31, [(0, .ref 43), (1, .ref 16), (2, .int v2)], [], hp I F)) : ∀ n v2 I F, OK 10 mX7_search false (f_X7_search_2 ko n v2 I F) (2, [(0, .ref 43), (1, .ref 16), (2, .int v2)], [], hp I F) := by
  intro n
  induction n with
  | zero =>
    intro v2 I F
    exact OK_no
  | succ n ih =>
    intro v2 I F
    rw [f_X7_search_2]
    refine OK_st 3 okX7_search (S' := ((if (nI 4) < v2 then 31 else 7), [(0, .ref 43), (1, .ref 16), (2, .int v2)], [], hp I F)) rfl ⟨trivial, trivial, trivial, trivial⟩ ?_
    refine OK_if (fun h820 => ?_) (fun h820 => ?_)
    · exact hko v2 I F
    · refine OK_st 9 okX7_search (S' := (18, [(0, .ref 43), (1, .ref 16), (2, .int v2)], [.int (1 : Int32), .int (1 : Int32), .int (0 : Int32), .int (0 : Int32), .ref 16, .ref 43], hp (va_up I 20 v2) F)) rfl ⟨trivial, trivial, trivial, trivial, trivial, trivial, trivial, trivial, trivial, trivial⟩ ?_
      refine OK_lt (fun I821 => (18, [(0, .ref 43), (1, .ref 16), (2, .int v2)], [.int (1 : Int32), .int (1 : Int32), .int (0 : Int32), .int (0 : Int32), .ref 16, .ref 43], hp I821 F)) (fun I821 => ?_)
      refine OK_cv [.ref 16, .int (0 : Int32), .int (0 : Int32), .int (1 : Int32), .int (1 : Int32)] [] okX7_search okX7_extend rfl rfl cl_RX7_19 rfl rfl (Nat.le_of_ble_eq_true rfl) (by decide) (Nat.le_of_ble_eq_true rfl) (kf_X7_extend (0 : Int32) (0 : Int32) (1 : Int32) (1 : Int32) I821 F) (fun r852 I853 F854 => ?_)
      refine OK_st 1 okX7_search (S' := ((if r852 = 0 then 25 else 24), [(0, .ref 43), (1, .ref 16), (2, .int v2)], [], hp I853 F854)) rfl ⟨trivial, trivial⟩ ?_
      refine OK_if (fun h855 => ?_) (fun h855 => ?_)
      · refine OK_st 2 okX7_search (S' := (2, [(2, .int (v2 + (1 : Int32))), (0, .ref 43), (1, .ref 16)], [], hp I853 F854)) rfl ⟨(by decide), trivial, trivial⟩ ?_
        refine OK_pk [1, 2, 0] rfl ?_
        exact ih (v2 + (1 : Int32)) I853 F854
      · exact OK_rv okX7_search rfl rfl rfl

def f_X7_search (I : AI) (F : AF) : AQ :=
  f_X7_search_2 (fun v2_856 I857 F858 =>
    some (0, (va_up I857 20 (0 : Int32)), F858)) ab_fu (nI 2) I F
set_option maxRecDepth 20000 in
set_option maxHeartbeats 4000000 in
theorem kf_X7_search (I : AI) (F : AF) : OK 10 mX7_search false (f_X7_search I F) (0, [(0, .ref 43), (1, .ref 16)], [], hp I F) := by
  rw [f_X7_search]
  refine OK_st 2 okX7_search (S' := (2, [(2, .int (nI 2)), (0, .ref 43), (1, .ref 16)], [], hp I F)) rfl ⟨trivial, (by decide), trivial⟩ ?_
  refine OK_pk [1, 2, 0] rfl ?_
  refine kf_X7_search_2 _ (fun v2_856 I857 F858 => ?_) ab_fu (nI 2) I F
  refine OK_st 3 okX7_search (S' := (36, [(0, .ref 43), (1, .ref 16), (2, .int v2_856)], [], hp (va_up I857 20 (0 : Int32)) F858)) rfl ⟨trivial, trivial, trivial, trivial⟩ ?_
  exact OK_rv okX7_search rfl rfl rfl

def f_X9_ring (v1 : Int32) (I : AI) (F : AF) : AQ :=
  ab_bd (f_X7_search I F) (fun r859 I860 F861 =>
    if ¬ (I860 20) = 0 then
      if ¬ v1 = (-1 : Int32) then
        if v1 < 0 then
          some ((-1 : Int32), I860, F861)
        else
          if v1 < (I860 20) then
            bif ab_vin v1 4 then
              some (((F861 34) v1.toNatClampNeg), I860, F861)
            else none
          else
            some ((-1 : Int32), I860, F861)
      else
        some ((I860 20), I860, F861)
    else
      some ((-1 : Int32), I860, F861))
set_option maxRecDepth 20000 in
set_option maxHeartbeats 4000000 in
theorem kf_X9_ring (v1 : Int32) (I : AI) (F : AF) : OK 11 mX9_ring true (f_X9_ring v1 I F) (0, [(0, .ref 0), (1, .int v1)], [], hp I F) := by
  rw [f_X9_ring]
  refine OK_st 4 okX9_ring (S' := (8, [(0, .ref 0), (1, .int v1)], [.ref 16, .ref 43], hp I F)) rfl ⟨trivial, trivial, trivial, trivial, trivial⟩ ?_
  refine OK_cv [.ref 16] [] okX9_ring okX7_search rfl rfl cl_RX9_259 rfl rfl (Nat.le_of_ble_eq_true rfl) (by decide) (Nat.le_of_ble_eq_true rfl) (kf_X7_search I F) (fun r859 I860 F861 => ?_)
  refine OK_st 4 okX9_ring (S' := ((if ¬ (I860 20) = 0 then 23 else 21), [(0, .ref 0), (1, .int v1)], [], hp I860 F861)) rfl ⟨trivial, trivial, trivial, trivial, trivial⟩ ?_
  refine OK_if (fun h862 => ?_) (fun h862 => ?_)
  · refine OK_st 3 okX9_ring (S' := ((if ¬ v1 = (-1 : Int32) then 36 else 28), [(0, .ref 0), (1, .int v1)], [], hp I860 F861)) rfl ⟨trivial, trivial, trivial, trivial⟩ ?_
    refine OK_if (fun h863 => ?_) (fun h863 => ?_)
    · refine OK_st 2 okX9_ring (S' := ((if v1 < 0 then 51 else 40), [(0, .ref 0), (1, .int v1)], [], hp I860 F861)) rfl ⟨trivial, trivial, trivial⟩ ?_
      refine OK_if (fun h864 => ?_) (fun h864 => ?_)
      · refine OK_st 2 okX9_ring (S' := (64, [(0, .ref 0), (1, .int v1)], [.int (-1 : Int32)], hp I860 F861)) rfl ⟨trivial, trivial, trivial⟩ ?_
        exact OK_ri okX9_ring rfl rfl (Or.inl rfl)
      · refine OK_st 5 okX9_ring (S' := ((if v1 < (I860 20) then 55 else 51), [(0, .ref 0), (1, .int v1)], [], hp I860 F861)) rfl ⟨trivial, trivial, trivial, trivial, trivial, trivial⟩ ?_
        refine OK_if (fun h865 => ?_) (fun h865 => ?_)
        · refine OK_gd (fun g866 => ?_)
          refine OK_st 5 okX9_ring (S' := (64, [(0, .ref 0), (1, .int v1)], [.int ((F861 34) v1.toNatClampNeg)], hp I860 F861)) rfl ⟨trivial, trivial, trivial, trivial, (ab_vo g866), trivial⟩ ?_
          exact OK_ri okX9_ring rfl rfl (Or.inl rfl)
        · refine OK_st 2 okX9_ring (S' := (64, [(0, .ref 0), (1, .int v1)], [.int (-1 : Int32)], hp I860 F861)) rfl ⟨trivial, trivial, trivial⟩ ?_
          exact OK_ri okX9_ring rfl rfl (Or.inl rfl)
    · refine OK_st 3 okX9_ring (S' := (35, [(0, .ref 0), (1, .int v1)], [.int (I860 20)], hp I860 F861)) rfl ⟨trivial, trivial, trivial, trivial⟩ ?_
      exact OK_ri okX9_ring rfl rfl (Or.inl rfl)
  · refine OK_st 1 okX9_ring (S' := (22, [(0, .ref 0), (1, .int v1)], [.int (-1 : Int32)], hp I860 F861)) rfl ⟨trivial, trivial⟩ ?_
    exact OK_ri okX9_ring rfl rfl (Or.inl rfl)

def f_X7_gainsWithLess_8 (v2 : Int32) (ko : Int32 → Int32 → Int32 → AI → AF → AQ) : Nat → Int32 → Int32 → Int32 → AI → AF → AQ
  | 0, _, _, _, _, _ => none
  | n + 1, v3, v4, v5, I, F =>
    if (I 20) ≤ v5 then
      ko v3 v4 v5 I F
    else
      bif ab_vin v5 4 then
        bif ab_vin ((F 34) v5.toNatClampNeg) 8 then
          ab_lt ((F 21) ((F 34) v5.toNatClampNeg).toNatClampNeg) (fun x875 =>
            bif ab_vin v5 4 then
              bif ab_vin ((F 34) v5.toNatClampNeg) 8 then
                ab_lt (v3 * ((F 20) ((F 34) v5.toNatClampNeg).toNatClampNeg)) (fun x878 =>
                  if ¬ v5 = v2 then
                    f_X7_gainsWithLess_8 v2 ko n x878 (v4 * x875) (v5 + (1 : Int32)) I F
                  else
                    ab_lt (v4 * (if (1 : Int32) < (x875 - (1 : Int32)) then (x875 - (1 : Int32)) else (1 : Int32))) (fun x880 =>
                      f_X7_gainsWithLess_8 v2 ko n x878 x880 (v5 + (1 : Int32)) I F))
              else none
            else none)
        else none
      else none
set_option maxRecDepth 20000 in
set_option maxHeartbeats 4000000 in
theorem kf_X7_gainsWithLess_8 (v2 : Int32) (ko : Int32 → Int32 → Int32 → AI → AF → AQ) (hko : ∀ v3 v4 v5 I F, OK 0 mX7_gainsWithLess true (ko v3 v4 v5 I F) (76, [(0, .ref 43), (1, .ref 16), (2, .int v2), (3, .int v3), (4, .int v4), (5, .int v5)], [], hp I F)) : ∀ n v3 v4 v5 I F, OK 0 mX7_gainsWithLess true (f_X7_gainsWithLess_8 v2 ko n v3 v4 v5 I F) (8, [(0, .ref 43), (1, .ref 16), (2, .int v2), (3, .int v3), (4, .int v4), (5, .int v5)], [], hp I F) := by
  intro n
  induction n with
  | zero =>
    intro v3 v4 v5 I F
    exact OK_no
  | succ n ih =>
    intro v3 v4 v5 I F
    rw [f_X7_gainsWithLess_8]
    refine OK_st 4 okX7_gainsWithLess (S' := ((if (I 20) ≤ v5 then 76 else 17), [(0, .ref 43), (1, .ref 16), (2, .int v2), (3, .int v3), (4, .int v4), (5, .int v5)], [], hp I F)) rfl ⟨trivial, trivial, trivial, trivial, trivial⟩ ?_
    refine OK_if (fun h872 => ?_) (fun h872 => ?_)
    · exact hko v3 v4 v5 I F
    · refine OK_gd (fun g873 => ?_)
      refine OK_gd (fun g874 => ?_)
      refine OK_st 8 okX7_gainsWithLess (S' := (31, [(6, .int ((F 21) ((F 34) v5.toNatClampNeg).toNatClampNeg)), (0, .ref 43), (1, .ref 16), (2, .int v2), (3, .int v3), (4, .int v4), (5, .int v5)], [], hp I F)) rfl ⟨trivial, trivial, trivial, trivial, trivial, (ab_vo g873), (ab_vo g874), (by decide), trivial⟩ ?_
      refine OK_lt (fun x875 => (31, [(6, .int x875), (0, .ref 43), (1, .ref 16), (2, .int v2), (3, .int v3), (4, .int v4), (5, .int v5)], [], hp I F)) (fun x875 => ?_)
      refine OK_gd (fun g876 => ?_)
      refine OK_gd (fun g877 => ?_)
      refine OK_st 10 okX7_gainsWithLess (S' := (46, [(3, .int (v3 * ((F 20) ((F 34) v5.toNatClampNeg).toNatClampNeg))), (6, .int x875), (0, .ref 43), (1, .ref 16), (2, .int v2), (4, .int v4), (5, .int v5)], [], hp I F)) rfl ⟨trivial, trivial, trivial, trivial, trivial, trivial, (ab_vo g876), (ab_vo g877), trivial, (by decide), trivial⟩ ?_
      refine OK_lt (fun x878 => (46, [(3, .int x878), (6, .int x875), (0, .ref 43), (1, .ref 16), (2, .int v2), (4, .int v4), (5, .int v5)], [], hp I F)) (fun x878 => ?_)
      refine OK_st 4 okX7_gainsWithLess (S' := ((if ¬ v5 = v2 then 65 else 54), [(3, .int x878), (6, .int x875), (0, .ref 43), (1, .ref 16), (2, .int v2), (4, .int v4), (5, .int v5)], [.int v4], hp I F)) rfl ⟨trivial, trivial, trivial, trivial, trivial⟩ ?_
      refine OK_if (fun h879 => ?_) (fun h879 => ?_)
      · refine OK_st 5 okX7_gainsWithLess (S' := (8, [(5, .int (v5 + (1 : Int32))), (4, .int (v4 * x875)), (3, .int x878), (6, .int x875), (0, .ref 43), (1, .ref 16), (2, .int v2)], [], hp I F)) rfl ⟨trivial, trivial, (by decide), (by decide), trivial, trivial⟩ ?_
        refine OK_pk [4, 5, 6, 2, 1, 0] rfl ?_
        exact ih x878 (v4 * x875) (v5 + (1 : Int32)) I F
      · refine OK_st 8 okX7_gainsWithLess (S' := (70, [(4, .int (v4 * (if (1 : Int32) < (x875 - (1 : Int32)) then (x875 - (1 : Int32)) else (1 : Int32)))), (3, .int x878), (6, .int x875), (0, .ref 43), (1, .ref 16), (2, .int v2), (5, .int v5)], [], hp I F)) rfl ⟨trivial, trivial, trivial, trivial, (Nat.le_of_ble_eq_true rfl), trivial, trivial, (by decide), trivial⟩ ?_
        refine OK_lt (fun x880 => (70, [(4, .int x880), (3, .int x878), (6, .int x875), (0, .ref 43), (1, .ref 16), (2, .int v2), (5, .int v5)], [], hp I F)) (fun x880 => ?_)
        refine OK_st 2 okX7_gainsWithLess (S' := (8, [(5, .int (v5 + (1 : Int32))), (4, .int x880), (3, .int x878), (6, .int x875), (0, .ref 43), (1, .ref 16), (2, .int v2)], [], hp I F)) rfl ⟨(by decide), trivial, trivial⟩ ?_
        refine OK_pk [4, 5, 6, 2, 1, 0] rfl ?_
        exact ih x878 x880 (v5 + (1 : Int32)) I F

def f_X7_gainsWithLess (v2 : Int32) (I : AI) (F : AF) : AQ :=
  f_X7_gainsWithLess_8 v2 (fun v3_881 v4_882 v5_883 I884 F885 =>
    if v4_882 ≤ v3_881 then
      some ((0 : Int32), I884, F885)
    else
      some ((1 : Int32), I884, F885)) ab_fu (1 : Int32) (1 : Int32) (0 : Int32) I F
set_option maxRecDepth 20000 in
set_option maxHeartbeats 4000000 in
theorem kf_X7_gainsWithLess (v2 : Int32) (I : AI) (F : AF) : OK 0 mX7_gainsWithLess true (f_X7_gainsWithLess v2 I F) (0, [(0, .ref 43), (1, .ref 16), (2, .int v2)], [], hp I F) := by
  rw [f_X7_gainsWithLess]
  refine OK_st 6 okX7_gainsWithLess (S' := (8, [(5, .int (0 : Int32)), (4, .int (1 : Int32)), (3, .int (1 : Int32)), (0, .ref 43), (1, .ref 16), (2, .int v2)], [], hp I F)) rfl ⟨trivial, (by decide), trivial, (by decide), trivial, (by decide), trivial⟩ ?_
  refine OK_pk [3, 4, 5, 2, 1, 0] rfl ?_
  refine kf_X7_gainsWithLess_8 v2 _ (fun v3_881 v4_882 v5_883 I884 F885 => ?_) ab_fu (1 : Int32) (1 : Int32) (0 : Int32) I F
  refine OK_st 3 okX7_gainsWithLess (S' := ((if v4_882 ≤ v3_881 then 86 else 82), [(0, .ref 43), (1, .ref 16), (2, .int v2), (3, .int v3_881), (4, .int v4_882), (5, .int v5_883)], [], hp I884 F885)) rfl ⟨trivial, trivial, trivial, trivial⟩ ?_
  refine OK_if (fun h886 => ?_) (fun h886 => ?_)
  · refine OK_st 1 okX7_gainsWithLess (S' := (87, [(0, .ref 43), (1, .ref 16), (2, .int v2), (3, .int v3_881), (4, .int v4_882), (5, .int v5_883)], [.int (0 : Int32)], hp I884 F885)) rfl ⟨trivial, trivial⟩ ?_
    exact OK_ri okX7_gainsWithLess rfl rfl (Or.inr ⟨rfl, Or.inl rfl⟩)
  · refine OK_st 2 okX7_gainsWithLess (S' := (87, [(0, .ref 43), (1, .ref 16), (2, .int v2), (3, .int v3_881), (4, .int v4_882), (5, .int v5_883)], [.int (1 : Int32)], hp I884 F885)) rfl ⟨trivial, trivial, trivial⟩ ?_
    exact OK_ri okX7_gainsWithLess rfl rfl (Or.inr ⟨rfl, Or.inr rfl⟩)

def f_X7_leastMending_4 (ko : Int32 → Int32 → AI → AF → AQ) : Nat → Int32 → Int32 → AI → AF → AQ
  | 0, _, _, _, _ => none
  | n + 1, v2, v3, I, F =>
    if (I 20) ≤ v3 then
      ko v2 v3 I F
    else
      if v2 = (-1 : Int32) then
        ab_bd (f_X7_gainsWithLess v3 I F) (fun r887 I888 F889 =>
          if ¬ r887 = 0 then
            f_X7_leastMending_4 ko n v2 (v3 + (1 : Int32)) I888 F889
          else
            bif ab_vin v3 4 then
              f_X7_leastMending_4 ko n ((F889 34) v3.toNatClampNeg) (v3 + (1 : Int32)) I888 F889
            else none)
      else
        bif ab_vin v3 4 then
          if v2 ≤ ((F 34) v3.toNatClampNeg) then
            f_X7_leastMending_4 ko n v2 (v3 + (1 : Int32)) I F
          else
            ab_bd (f_X7_gainsWithLess v3 I F) (fun r894 I895 F896 =>
              if ¬ r894 = 0 then
                f_X7_leastMending_4 ko n v2 (v3 + (1 : Int32)) I895 F896
              else
                bif ab_vin v3 4 then
                  f_X7_leastMending_4 ko n ((F896 34) v3.toNatClampNeg) (v3 + (1 : Int32)) I895 F896
                else none)
        else none
set_option maxRecDepth 20000 in
set_option maxHeartbeats 4000000 in
theorem kf_X7_leastMending_4 (ko : Int32 → Int32 → AI → AF → AQ) (hko : ∀ v2 v3 I F, OK 1 mX7_leastMending true (ko v2 v3 I F) (49, [(0, .ref 43), (1, .ref 16), (2, .int v2), (3, .int v3)], [], hp I F)) : ∀ n v2 v3 I F, OK 1 mX7_leastMending true (f_X7_leastMending_4 ko n v2 v3 I F) (4, [(0, .ref 43), (1, .ref 16), (2, .int v2), (3, .int v3)], [], hp I F) := by
  intro n
  induction n with
  | zero =>
    intro v2 v3 I F
    exact OK_no
  | succ n ih =>
    intro v2 v3 I F
    rw [f_X7_leastMending_4]
    refine OK_st 4 okX7_leastMending (S' := ((if (I 20) ≤ v3 then 49 else 12), [(0, .ref 43), (1, .ref 16), (2, .int v2), (3, .int v3)], [], hp I F)) rfl ⟨trivial, trivial, trivial, trivial, trivial⟩ ?_
    refine OK_if (fun h870 => ?_) (fun h870 => ?_)
    · exact hko v2 v3 I F
    · refine OK_st 3 okX7_leastMending (S' := ((if v2 = (-1 : Int32) then 27 else 17), [(0, .ref 43), (1, .ref 16), (2, .int v2), (3, .int v3)], [], hp I F)) rfl ⟨trivial, trivial, trivial, trivial⟩ ?_
      refine OK_if (fun h871 => ?_) (fun h871 => ?_)
      · refine OK_st 3 okX7_leastMending (S' := (30, [(0, .ref 43), (1, .ref 16), (2, .int v2), (3, .int v3)], [.int v3, .ref 16, .ref 43], hp I F)) rfl ⟨trivial, trivial, trivial, trivial⟩ ?_
        refine OK_cv [.ref 16, .int v3] [] okX7_leastMending okX7_gainsWithLess rfl rfl cl_RX7_40 rfl rfl (Nat.le_of_ble_eq_true rfl) (by decide) (Nat.le_of_ble_eq_true rfl) (kf_X7_gainsWithLess v3 I F) (fun r887 I888 F889 => ?_)
        refine OK_st 1 okX7_leastMending (S' := ((if ¬ r887 = 0 then 43 else 36), [(0, .ref 43), (1, .ref 16), (2, .int v2), (3, .int v3)], [], hp I888 F889)) rfl ⟨trivial, trivial⟩ ?_
        refine OK_if (fun h890 => ?_) (fun h890 => ?_)
        · refine OK_st 2 okX7_leastMending (S' := (4, [(3, .int (v3 + (1 : Int32))), (0, .ref 43), (1, .ref 16), (2, .int v2)], [], hp I888 F889)) rfl ⟨(by decide), trivial, trivial⟩ ?_
          refine OK_pk [1, 2, 3, 0] rfl ?_
          exact ih v2 (v3 + (1 : Int32)) I888 F889
        · refine OK_gd (fun g891 => ?_)
          refine OK_st 7 okX7_leastMending (S' := (4, [(3, .int (v3 + (1 : Int32))), (2, .int ((F889 34) v3.toNatClampNeg)), (0, .ref 43), (1, .ref 16)], [], hp I888 F889)) rfl ⟨trivial, trivial, trivial, (ab_vo g891), (by decide), (by decide), trivial, trivial⟩ ?_
          refine OK_pk [2, 3, 1, 0] rfl ?_
          exact ih ((F889 34) v3.toNatClampNeg) (v3 + (1 : Int32)) I888 F889
      · refine OK_gd (fun g892 => ?_)
        refine OK_st 6 okX7_leastMending (S' := ((if v2 ≤ ((F 34) v3.toNatClampNeg) then 43 else 27), [(0, .ref 43), (1, .ref 16), (2, .int v2), (3, .int v3)], [], hp I F)) rfl ⟨trivial, trivial, trivial, (ab_vo g892), trivial, trivial, trivial⟩ ?_
        refine OK_if (fun h893 => ?_) (fun h893 => ?_)
        · refine OK_st 2 okX7_leastMending (S' := (4, [(3, .int (v3 + (1 : Int32))), (0, .ref 43), (1, .ref 16), (2, .int v2)], [], hp I F)) rfl ⟨(by decide), trivial, trivial⟩ ?_
          refine OK_pk [1, 2, 3, 0] rfl ?_
          exact ih v2 (v3 + (1 : Int32)) I F
        · refine OK_st 3 okX7_leastMending (S' := (30, [(0, .ref 43), (1, .ref 16), (2, .int v2), (3, .int v3)], [.int v3, .ref 16, .ref 43], hp I F)) rfl ⟨trivial, trivial, trivial, trivial⟩ ?_
          refine OK_cv [.ref 16, .int v3] [] okX7_leastMending okX7_gainsWithLess rfl rfl cl_RX7_40 rfl rfl (Nat.le_of_ble_eq_true rfl) (by decide) (Nat.le_of_ble_eq_true rfl) (kf_X7_gainsWithLess v3 I F) (fun r894 I895 F896 => ?_)
          refine OK_st 1 okX7_leastMending (S' := ((if ¬ r894 = 0 then 43 else 36), [(0, .ref 43), (1, .ref 16), (2, .int v2), (3, .int v3)], [], hp I895 F896)) rfl ⟨trivial, trivial⟩ ?_
          refine OK_if (fun h897 => ?_) (fun h897 => ?_)
          · refine OK_st 2 okX7_leastMending (S' := (4, [(3, .int (v3 + (1 : Int32))), (0, .ref 43), (1, .ref 16), (2, .int v2)], [], hp I895 F896)) rfl ⟨(by decide), trivial, trivial⟩ ?_
            refine OK_pk [1, 2, 3, 0] rfl ?_
            exact ih v2 (v3 + (1 : Int32)) I895 F896
          · refine OK_gd (fun g898 => ?_)
            refine OK_st 7 okX7_leastMending (S' := (4, [(3, .int (v3 + (1 : Int32))), (2, .int ((F896 34) v3.toNatClampNeg)), (0, .ref 43), (1, .ref 16)], [], hp I895 F896)) rfl ⟨trivial, trivial, trivial, (ab_vo g898), (by decide), (by decide), trivial, trivial⟩ ?_
            refine OK_pk [2, 3, 1, 0] rfl ?_
            exact ih ((F896 34) v3.toNatClampNeg) (v3 + (1 : Int32)) I895 F896

def f_X7_leastMending (I : AI) (F : AF) : AQ :=
  f_X7_leastMending_4 (fun v2_899 v3_900 I901 F902 =>
    some (v2_899, I901, F902)) ab_fu (-1 : Int32) (0 : Int32) I F
set_option maxRecDepth 20000 in
set_option maxHeartbeats 4000000 in
theorem kf_X7_leastMending (I : AI) (F : AF) : OK 1 mX7_leastMending true (f_X7_leastMending I F) (0, [(0, .ref 43), (1, .ref 16)], [], hp I F) := by
  rw [f_X7_leastMending]
  refine OK_st 4 okX7_leastMending (S' := (4, [(3, .int (0 : Int32)), (2, .int (-1 : Int32)), (0, .ref 43), (1, .ref 16)], [], hp I F)) rfl ⟨trivial, (by decide), trivial, (by decide), trivial⟩ ?_
  refine OK_pk [2, 3, 1, 0] rfl ?_
  refine kf_X7_leastMending_4 _ (fun v2_899 v3_900 I901 F902 => ?_) ab_fu (-1 : Int32) (0 : Int32) I F
  refine OK_st 1 okX7_leastMending (S' := (50, [(0, .ref 43), (1, .ref 16), (2, .int v2_899), (3, .int v3_900)], [.int v2_899], hp I901 F902)) rfl ⟨trivial, trivial⟩ ?_
  exact OK_ri okX7_leastMending rfl rfl (Or.inl rfl)

def f_X9_mended (I : AI) (F : AF) : AQ :=
  ab_bd (f_X7_search I F) (fun r867 I868 F869 =>
    ab_bd (f_X7_leastMending I868 F869) (fun r903 I904 F905 =>
      some (r903, I904, F905)))
set_option maxRecDepth 20000 in
set_option maxHeartbeats 4000000 in
theorem kf_X9_mended (I : AI) (F : AF) : OK 11 mX9_mended true (f_X9_mended I F) (0, [(0, .ref 0)], [], hp I F) := by
  rw [f_X9_mended]
  refine OK_st 4 okX9_mended (S' := (8, [(0, .ref 0)], [.ref 16, .ref 43], hp I F)) rfl ⟨trivial, trivial, trivial, trivial, trivial⟩ ?_
  refine OK_cv [.ref 16] [] okX9_mended okX7_search rfl rfl cl_RX9_259 rfl rfl (Nat.le_of_ble_eq_true rfl) (by decide) (Nat.le_of_ble_eq_true rfl) (kf_X7_search I F) (fun r867 I868 F869 => ?_)
  refine OK_st 4 okX9_mended (S' := (19, [(0, .ref 0)], [.ref 16, .ref 43], hp I868 F869)) rfl ⟨trivial, trivial, trivial, trivial, trivial⟩ ?_
  refine OK_cv [.ref 16] [] okX9_mended okX7_leastMending rfl rfl cl_RX9_267 rfl rfl (Nat.le_of_ble_eq_true rfl) (by decide) (Nat.le_of_ble_eq_true rfl) (kf_X7_leastMending I868 F869) (fun r903 I904 F905 => ?_)
  exact OK_ri okX9_mended rfl rfl (Or.inl rfl)

def f_J6_bitCount_0f7a4 (v0 : Int32) (I : AI) (F : AF) : AQ :=
  ab_lt (v0 - (((v0.toUInt32 >>> ((1 : Int32).toUInt32 &&& Int32.toUInt32 31)).toInt32) &&& (nI 1431655765))) (fun x910 =>
    ab_lt ((x910 &&& (nI 858993459)) + (((x910.toUInt32 >>> ((nI 2).toUInt32 &&& Int32.toUInt32 31)).toInt32) &&& (nI 858993459))) (fun x911 =>
      ab_lt ((x911 + ((x911.toUInt32 >>> ((nI 4).toUInt32 &&& Int32.toUInt32 31)).toInt32)) &&& (nI 252645135)) (fun x912 =>
        ab_lt (x912 + ((x912.toUInt32 >>> ((nI 8).toUInt32 &&& Int32.toUInt32 31)).toInt32)) (fun x913 =>
          ab_lt (x913 + ((x913.toUInt32 >>> ((nI 16).toUInt32 &&& Int32.toUInt32 31)).toInt32)) (fun x914 =>
            some ((x914 &&& (nI 63)), I, F))))))
set_option maxRecDepth 20000 in
set_option maxHeartbeats 4000000 in
theorem kf_J6_bitCount_0f7a4 (v0 : Int32) (I : AI) (F : AF) : OK 0 mJ6_bitCount_0f7a4 true (f_J6_bitCount_0f7a4 v0 I F) (0, [(0, .int v0)], [], hp I F) := by
  rw [f_J6_bitCount_0f7a4]
  refine OK_st 8 okJ6_bitCount_0f7a4 (S' := (10, [(0, .int (v0 - (((v0.toUInt32 >>> ((1 : Int32).toUInt32 &&& Int32.toUInt32 31)).toInt32) &&& (nI 1431655765))))], [], hp I F)) rfl ⟨trivial, trivial, trivial, trivial, trivial, trivial, trivial, (by decide), trivial⟩ ?_
  refine OK_lt (fun x910 => (10, [(0, .int x910)], [], hp I F)) (fun x910 => ?_)
  refine OK_st 10 okJ6_bitCount_0f7a4 (S' := (24, [(0, .int ((x910 &&& (nI 858993459)) + (((x910.toUInt32 >>> ((nI 2).toUInt32 &&& Int32.toUInt32 31)).toInt32) &&& (nI 858993459))))], [], hp I F)) rfl ⟨trivial, trivial, trivial, trivial, trivial, trivial, trivial, trivial, trivial, (by decide), trivial⟩ ?_
  refine OK_lt (fun x911 => (24, [(0, .int x911)], [], hp I F)) (fun x911 => ?_)
  refine OK_st 8 okJ6_bitCount_0f7a4 (S' := (34, [(0, .int ((x911 + ((x911.toUInt32 >>> ((nI 4).toUInt32 &&& Int32.toUInt32 31)).toInt32)) &&& (nI 252645135)))], [], hp I F)) rfl ⟨trivial, trivial, trivial, trivial, trivial, trivial, trivial, (by decide), trivial⟩ ?_
  refine OK_lt (fun x912 => (34, [(0, .int x912)], [], hp I F)) (fun x912 => ?_)
  refine OK_st 6 okJ6_bitCount_0f7a4 (S' := (41, [(0, .int (x912 + ((x912.toUInt32 >>> ((nI 8).toUInt32 &&& Int32.toUInt32 31)).toInt32)))], [], hp I F)) rfl ⟨trivial, trivial, trivial, trivial, trivial, (by decide), trivial⟩ ?_
  refine OK_lt (fun x913 => (41, [(0, .int x913)], [], hp I F)) (fun x913 => ?_)
  refine OK_st 6 okJ6_bitCount_0f7a4 (S' := (48, [(0, .int (x913 + ((x913.toUInt32 >>> ((nI 16).toUInt32 &&& Int32.toUInt32 31)).toInt32)))], [], hp I F)) rfl ⟨trivial, trivial, trivial, trivial, trivial, (by decide), trivial⟩ ?_
  refine OK_lt (fun x914 => (48, [(0, .int x914)], [], hp I F)) (fun x914 => ?_)
  refine OK_st 3 okJ6_bitCount_0f7a4 (S' := (52, [(0, .int x914)], [.int (x914 &&& (nI 63))], hp I F)) rfl ⟨trivial, trivial, trivial, trivial⟩ ?_
  exact OK_ri okJ6_bitCount_0f7a4 rfl rfl (Or.inl rfl)

def f_X1_search_7 (ko : Int32 → AI → AF → AQ) : Nat → Int32 → AI → AF → AQ
  | 0, _, _, _ => none
  | n + 1, v2, I, F =>
    if (nI 6) ≤ v2 then
      ko v2 I F
    else
      bif ab_vin v2 6 then
        ab_lt (va_up F 36 (upd (F 36) v2.toNatClampNeg (-1 : Int32))) (fun F922 =>
          ab_bd (f_X8_lives v2 I F922) (fun r923 I924 F925 =>
            if r923 = 0 then
              f_X1_search_7 ko n (v2 + (1 : Int32)) I924 F925
            else
              bif ab_vin (I924 21) 6 then
                ab_lt (va_up I924 21 ((I924 21) + (1 : Int32))) (fun I928 =>
                  ab_lt (va_up F925 37 (upd (F925 37) (I924 21).toNatClampNeg v2)) (fun F929 =>
                    f_X1_search_7 ko n (v2 + (1 : Int32)) I928 F929))
              else none))
      else none
set_option maxRecDepth 20000 in
set_option maxHeartbeats 4000000 in
theorem kf_X1_search_7 (ko : Int32 → AI → AF → AQ) (hko : ∀ v2 I F, OK 3 mX1_search false (ko v2 I F) (54, [(0, .ref 45), (1, .ref 27), (2, .int v2)], [], hp I F)) : ∀ n v2 I F, OK 3 mX1_search false (f_X1_search_7 ko n v2 I F) (7, [(0, .ref 45), (1, .ref 27), (2, .int v2)], [], hp I F) := by
  intro n
  induction n with
  | zero =>
    intro v2 I F
    exact OK_no
  | succ n ih =>
    intro v2 I F
    rw [f_X1_search_7]
    refine OK_st 3 okX1_search (S' := ((if (nI 6) ≤ v2 then 54 else 13), [(0, .ref 45), (1, .ref 27), (2, .int v2)], [], hp I F)) rfl ⟨trivial, trivial, trivial, trivial⟩ ?_
    refine OK_if (fun h920 => ?_) (fun h920 => ?_)
    · exact hko v2 I F
    · refine OK_gd (fun g921 => ?_)
      refine OK_st 7 okX1_search (S' := (22, [(0, .ref 45), (1, .ref 27), (2, .int v2)], [.int v2, .ref 27], hp I (va_up F 36 (upd (F 36) v2.toNatClampNeg (-1 : Int32))))) rfl ⟨trivial, trivial, trivial, trivial, (ab_vo g921), trivial, trivial, trivial⟩ ?_
      refine OK_lt (fun F922 => (22, [(0, .ref 45), (1, .ref 27), (2, .int v2)], [.int v2, .ref 27], hp I F922)) (fun F922 => ?_)
      refine OK_cv [.int v2] [] okX1_search okX8_lives rfl rfl cl_RX1_25 rfl rfl (Nat.le_of_ble_eq_true rfl) (by decide) (Nat.le_of_ble_eq_true rfl) (kf_X8_lives v2 I F922) (fun r923 I924 F925 => ?_)
      refine OK_st 1 okX1_search (S' := ((if r923 = 0 then 48 else 28), [(0, .ref 45), (1, .ref 27), (2, .int v2)], [], hp I924 F925)) rfl ⟨trivial, trivial⟩ ?_
      refine OK_if (fun h926 => ?_) (fun h926 => ?_)
      · refine OK_st 2 okX1_search (S' := (7, [(2, .int (v2 + (1 : Int32))), (0, .ref 45), (1, .ref 27)], [], hp I924 F925)) rfl ⟨(by decide), trivial, trivial⟩ ?_
        refine OK_pk [1, 2, 0] rfl ?_
        exact ih (v2 + (1 : Int32)) I924 F925
      · refine OK_gd (fun g927 => ?_)
        refine OK_st 14 okX1_search (S' := (7, [(2, .int (v2 + (1 : Int32))), (0, .ref 45), (1, .ref 27)], [], hp (va_up I924 21 ((I924 21) + (1 : Int32))) (va_up F925 37 (upd (F925 37) (I924 21).toNatClampNeg v2)))) rfl ⟨trivial, trivial, trivial, trivial, trivial, (ab_vo g927), trivial, rfl, trivial, trivial, trivial, trivial, (by decide), trivial, trivial⟩ ?_
        refine OK_lt (fun I928 => (7, [(2, .int (v2 + (1 : Int32))), (0, .ref 45), (1, .ref 27)], [], hp I928 (va_up F925 37 (upd (F925 37) (I924 21).toNatClampNeg v2)))) (fun I928 => ?_)
        refine OK_lt (fun F929 => (7, [(2, .int (v2 + (1 : Int32))), (0, .ref 45), (1, .ref 27)], [], hp I928 F929)) (fun F929 => ?_)
        refine OK_pk [1, 2, 0] rfl ?_
        exact ih (v2 + (1 : Int32)) I928 F929

def f_X1_isFree (v1 : Int32) (v2 : Int32) (v3 : Int32) (I : AI) (F : AF) : AQ :=
  if v3 = v2 then
    some ((0 : Int32), I, F)
  else
    bif ab_vin v3 6 then
      if ¬ ((v1 >>> (((F 37) v3.toNatClampNeg) &&& 31)) &&& (1 : Int32)) = 0 then
        some ((0 : Int32), I, F)
      else
        some ((1 : Int32), I, F)
    else none
set_option maxRecDepth 20000 in
set_option maxHeartbeats 4000000 in
theorem kf_X1_isFree (v1 : Int32) (v2 : Int32) (v3 : Int32) (I : AI) (F : AF) : OK 0 mX1_isFree true (f_X1_isFree v1 v2 v3 I F) (0, [(0, .ref 45), (1, .int v1), (2, .int v2), (3, .int v3)], [], hp I F) := by
  rw [f_X1_isFree]
  refine OK_st 3 okX1_isFree (S' := ((if v3 = v2 then 22 else 5), [(0, .ref 45), (1, .int v1), (2, .int v2), (3, .int v3)], [], hp I F)) rfl ⟨trivial, trivial, trivial, trivial⟩ ?_
  refine OK_if (fun h943 => ?_) (fun h943 => ?_)
  · refine OK_st 1 okX1_isFree (S' := (23, [(0, .ref 45), (1, .int v1), (2, .int v2), (3, .int v3)], [.int (0 : Int32)], hp I F)) rfl ⟨trivial, trivial⟩ ?_
    exact OK_ri okX1_isFree rfl rfl (Or.inr ⟨rfl, Or.inl rfl⟩)
  · refine OK_gd (fun g944 => ?_)
    refine OK_st 9 okX1_isFree (S' := ((if ¬ ((v1 >>> (((F 37) v3.toNatClampNeg) &&& 31)) &&& (1 : Int32)) = 0 then 22 else 18), [(0, .ref 45), (1, .int v1), (2, .int v2), (3, .int v3)], [], hp I F)) rfl ⟨trivial, trivial, trivial, trivial, (ab_vo g944), trivial, trivial, trivial, trivial, trivial⟩ ?_
    refine OK_if (fun h945 => ?_) (fun h945 => ?_)
    · refine OK_st 1 okX1_isFree (S' := (23, [(0, .ref 45), (1, .int v1), (2, .int v2), (3, .int v3)], [.int (0 : Int32)], hp I F)) rfl ⟨trivial, trivial⟩ ?_
      exact OK_ri okX1_isFree rfl rfl (Or.inr ⟨rfl, Or.inl rfl⟩)
    · refine OK_st 2 okX1_isFree (S' := (23, [(0, .ref 45), (1, .int v1), (2, .int v2), (3, .int v3)], [.int (1 : Int32)], hp I F)) rfl ⟨trivial, trivial, trivial⟩ ?_
      exact OK_ri okX1_isFree rfl rfl (Or.inr ⟨rfl, Or.inr rfl⟩)

def f_X1_apartBy (v2 : Int32) (v3 : Int32) (v4 : Int32) (I : AI) (F : AF) : AQ :=
  bif ab_vin v3 6 then
    ab_bd (f_X8_lengthOf ((F 37) v3.toNatClampNeg) I F) (fun r951 I952 F953 =>
      bif ab_vin v4 6 then
        ab_bd (f_X8_lengthOf ((F953 37) v4.toNatClampNeg) I952 F953) (fun r955 I956 F957 =>
          ab_lt (if 0 ≤ (r951 - r955) then (r951 - r955) else 0 - (r951 - r955)) (fun x958 =>
            bif ab_vin v4 6 then
              bif ab_vin (v2 ||| ((1 : Int32) <<< (((F957 37) v4.toNatClampNeg) &&& 31))) 64 then
                some ((x958 + ((F957 35) (v2 ||| ((1 : Int32) <<< (((F957 37) v4.toNatClampNeg) &&& 31))).toNatClampNeg)), I956, F957)
              else none
            else none))
      else none)
  else none
set_option maxRecDepth 20000 in
set_option maxHeartbeats 4000000 in
theorem kf_X1_apartBy (v2 : Int32) (v3 : Int32) (v4 : Int32) (I : AI) (F : AF) : OK 1 mX1_apartBy true (f_X1_apartBy v2 v3 v4 I F) (0, [(0, .ref 45), (1, .ref 27), (2, .int v2), (3, .int v3), (4, .int v4)], [], hp I F) := by
  rw [f_X1_apartBy]
  refine OK_gd (fun g950 => ?_)
  refine OK_st 5 okX1_apartBy (S' := (7, [(0, .ref 45), (1, .ref 27), (2, .int v2), (3, .int v3), (4, .int v4)], [.int ((F 37) v3.toNatClampNeg), .ref 27], hp I F)) rfl ⟨trivial, trivial, trivial, trivial, (ab_vo g950), trivial⟩ ?_
  refine OK_cv [.int ((F 37) v3.toNatClampNeg)] [] okX1_apartBy okX8_lengthOf rfl rfl cl_RX1_64 rfl rfl (Nat.le_of_ble_eq_true rfl) (by decide) (Nat.le_of_ble_eq_true rfl) (kf_X8_lengthOf ((F 37) v3.toNatClampNeg) I F) (fun r951 I952 F953 => ?_)
  refine OK_gd (fun g954 => ?_)
  refine OK_st 5 okX1_apartBy (S' := (18, [(0, .ref 45), (1, .ref 27), (2, .int v2), (3, .int v3), (4, .int v4)], [.int ((F953 37) v4.toNatClampNeg), .ref 27, .int r951], hp I952 F953)) rfl ⟨trivial, trivial, trivial, trivial, (ab_vo g954), trivial⟩ ?_
  refine OK_cv [.int ((F953 37) v4.toNatClampNeg)] [.int r951] okX1_apartBy okX8_lengthOf rfl rfl cl_RX1_64 rfl rfl (Nat.le_of_ble_eq_true rfl) (by decide) (Nat.le_of_ble_eq_true rfl) (kf_X8_lengthOf ((F953 37) v4.toNatClampNeg) I952 F953) (fun r955 I956 F957 => ?_)
  refine OK_st 3 okX1_apartBy (S' := (27, [(5, .int (if 0 ≤ (r951 - r955) then (r951 - r955) else 0 - (r951 - r955))), (0, .ref 45), (1, .ref 27), (2, .int v2), (3, .int v3), (4, .int v4)], [], hp I956 F957)) rfl ⟨trivial, (Nat.le_of_ble_eq_true rfl), (by decide), trivial⟩ ?_
  refine OK_lt (fun x958 => (27, [(5, .int x958), (0, .ref 45), (1, .ref 27), (2, .int v2), (3, .int v3), (4, .int v4)], [], hp I956 F957)) (fun x958 => ?_)
  refine OK_gd (fun g959 => ?_)
  refine OK_gd (fun g960 => ?_)
  refine OK_st 13 okX1_apartBy (S' := (46, [(5, .int x958), (0, .ref 45), (1, .ref 27), (2, .int v2), (3, .int v3), (4, .int v4)], [.int (x958 + ((F957 35) (v2 ||| ((1 : Int32) <<< (((F957 37) v4.toNatClampNeg) &&& 31))).toNatClampNeg))], hp I956 F957)) rfl ⟨trivial, trivial, trivial, trivial, trivial, trivial, trivial, trivial, (ab_vo g959), trivial, trivial, (ab_vo g960), trivial, trivial⟩ ?_
  exact OK_ri okX1_apartBy rfl rfl (Or.inl rfl)

def f_X1_leastFrom_22 (v2 : Int32) (v3 : Int32) (ko : Int32 → Int32 → AI → AF → AQ) : Nat → Int32 → Int32 → AI → AF → AQ
  | 0, _, _, _, _ => none
  | n + 1, v4, v5, I, F =>
    if (I 21) ≤ v5 then
      ko v4 v5 I F
    else
      ab_bd (f_X1_isFree v2 v3 v5 I F) (fun r946 I947 F948 =>
        if r946 = 0 then
          f_X1_leastFrom_22 v2 v3 ko n v4 (v5 + (1 : Int32)) I947 F948
        else
          ab_bd (f_X1_apartBy v2 v3 v5 I947 F948) (fun r961 I962 F963 =>
            ab_lt (if r961 < v4 then r961 else v4) (fun x964 =>
              f_X1_leastFrom_22 v2 v3 ko n x964 (v5 + (1 : Int32)) I962 F963)))
set_option maxRecDepth 20000 in
set_option maxHeartbeats 4000000 in
theorem kf_X1_leastFrom_22 (v2 : Int32) (v3 : Int32) (ko : Int32 → Int32 → AI → AF → AQ) (hko : ∀ v4 v5 I F, OK 2 mX1_leastFrom true (ko v4 v5 I F) (64, [(0, .ref 45), (1, .ref 27), (2, .int v2), (3, .int v3), (4, .int v4), (5, .int v5)], [], hp I F)) : ∀ n v4 v5 I F, OK 2 mX1_leastFrom true (f_X1_leastFrom_22 v2 v3 ko n v4 v5 I F) (22, [(0, .ref 45), (1, .ref 27), (2, .int v2), (3, .int v3), (4, .int v4), (5, .int v5)], [], hp I F) := by
  intro n
  induction n with
  | zero =>
    intro v4 v5 I F
    exact OK_no
  | succ n ih =>
    intro v4 v5 I F
    rw [f_X1_leastFrom_22]
    refine OK_st 4 okX1_leastFrom (S' := ((if (I 21) ≤ v5 then 64 else 31), [(0, .ref 45), (1, .ref 27), (2, .int v2), (3, .int v3), (4, .int v4), (5, .int v5)], [], hp I F)) rfl ⟨trivial, trivial, trivial, trivial, trivial⟩ ?_
    refine OK_if (fun h942 => ?_) (fun h942 => ?_)
    · exact hko v4 v5 I F
    · refine OK_st 4 okX1_leastFrom (S' := (36, [(0, .ref 45), (1, .ref 27), (2, .int v2), (3, .int v3), (4, .int v4), (5, .int v5)], [.int v5, .int v3, .int v2, .ref 45], hp I F)) rfl ⟨trivial, trivial, trivial, trivial, trivial⟩ ?_
      refine OK_cv [.int v2, .int v3, .int v5] [] okX1_leastFrom okX1_isFree rfl rfl cl_RX1_50 rfl rfl (Nat.le_of_ble_eq_true rfl) (by decide) (Nat.le_of_ble_eq_true rfl) (kf_X1_isFree v2 v3 v5 I F) (fun r946 I947 F948 => ?_)
      refine OK_st 1 okX1_leastFrom (S' := ((if r946 = 0 then 58 else 42), [(0, .ref 45), (1, .ref 27), (2, .int v2), (3, .int v3), (4, .int v4), (5, .int v5)], [], hp I947 F948)) rfl ⟨trivial, trivial⟩ ?_
      refine OK_if (fun h949 => ?_) (fun h949 => ?_)
      · refine OK_st 2 okX1_leastFrom (S' := (22, [(5, .int (v5 + (1 : Int32))), (0, .ref 45), (1, .ref 27), (2, .int v2), (3, .int v3), (4, .int v4)], [], hp I947 F948)) rfl ⟨(by decide), trivial, trivial⟩ ?_
        refine OK_pk [1, 2, 3, 4, 5, 0] rfl ?_
        exact ih v4 (v5 + (1 : Int32)) I947 F948
      · refine OK_st 6 okX1_leastFrom (S' := (50, [(0, .ref 45), (1, .ref 27), (2, .int v2), (3, .int v3), (4, .int v4), (5, .int v5)], [.int v5, .int v3, .int v2, .ref 27, .ref 45, .int v4], hp I947 F948)) rfl ⟨trivial, trivial, trivial, trivial, trivial, trivial, trivial⟩ ?_
        refine OK_cv [.ref 27, .int v2, .int v3, .int v5] [.int v4] okX1_leastFrom okX1_apartBy rfl rfl cl_RX1_54 rfl rfl (Nat.le_of_ble_eq_true rfl) (by decide) (Nat.le_of_ble_eq_true rfl) (kf_X1_apartBy v2 v3 v5 I947 F948) (fun r961 I962 F963 => ?_)
        refine OK_st 2 okX1_leastFrom (S' := (58, [(4, .int (if r961 < v4 then r961 else v4)), (0, .ref 45), (1, .ref 27), (2, .int v2), (3, .int v3), (5, .int v5)], [], hp I962 F963)) rfl ⟨(Nat.le_of_ble_eq_true rfl), (by decide), trivial⟩ ?_
        refine OK_lt (fun x964 => (58, [(4, .int x964), (0, .ref 45), (1, .ref 27), (2, .int v2), (3, .int v3), (5, .int v5)], [], hp I962 F963)) (fun x964 => ?_)
        refine OK_st 2 okX1_leastFrom (S' := (22, [(5, .int (v5 + (1 : Int32))), (4, .int x964), (0, .ref 45), (1, .ref 27), (2, .int v2), (3, .int v3)], [], hp I962 F963)) rfl ⟨(by decide), trivial, trivial⟩ ?_
        refine OK_pk [2, 3, 4, 5, 1, 0] rfl ?_
        exact ih x964 (v5 + (1 : Int32)) I962 F963

def f_X1_leastFrom (v2 : Int32) (I : AI) (F : AF) : AQ :=
  ab_bd (f_J6_bitCount_0f7a4 v2 I F) (fun r938 I939 F940 =>
    if r938 < (I939 21) then
      f_X1_leastFrom_22 v2 r938 (fun v4_965 v5_966 I967 F968 =>
        some (v4_965, I967, F968)) ab_fu (nI 1000000) (0 : Int32) I939 F940
    else
      some ((0 : Int32), I939, F940))
set_option maxRecDepth 20000 in
set_option maxHeartbeats 4000000 in
theorem kf_X1_leastFrom (v2 : Int32) (I : AI) (F : AF) : OK 2 mX1_leastFrom true (f_X1_leastFrom v2 I F) (0, [(0, .ref 45), (1, .ref 27), (2, .int v2)], [], hp I F) := by
  rw [f_X1_leastFrom]
  refine OK_st 1 okX1_leastFrom (S' := (1, [(0, .ref 45), (1, .ref 27), (2, .int v2)], [.int v2], hp I F)) rfl ⟨trivial, trivial⟩ ?_
  refine OK_cs [.int v2] [] okX1_leastFrom okJ6_bitCount_0f7a4 rfl rfl cl_RX1_43 (Nat.le_of_ble_eq_true rfl) (by decide) (Nat.le_of_ble_eq_true rfl) (kf_J6_bitCount_0f7a4 v2 I F) (fun r938 I939 F940 => ?_)
  refine OK_st 5 okX1_leastFrom (S' := ((if r938 < (I939 21) then 15 else 13), [(3, .int r938), (0, .ref 45), (1, .ref 27), (2, .int v2)], [], hp I939 F940)) rfl ⟨(by decide), trivial, trivial, trivial, trivial, trivial⟩ ?_
  refine OK_if (fun h941 => ?_) (fun h941 => ?_)
  · refine OK_st 4 okX1_leastFrom (S' := (22, [(5, .int (0 : Int32)), (4, .int (nI 1000000)), (3, .int r938), (0, .ref 45), (1, .ref 27), (2, .int v2)], [], hp I939 F940)) rfl ⟨trivial, (by decide), trivial, (by decide), trivial⟩ ?_
    refine OK_pk [3, 4, 5, 2, 1, 0] rfl ?_
    refine kf_X1_leastFrom_22 v2 r938 _ (fun v4_965 v5_966 I967 F968 => ?_) ab_fu (nI 1000000) (0 : Int32) I939 F940
    refine OK_st 1 okX1_leastFrom (S' := (66, [(0, .ref 45), (1, .ref 27), (2, .int v2), (3, .int r938), (4, .int v4_965), (5, .int v5_966)], [.int v4_965], hp I967 F968)) rfl ⟨trivial, trivial⟩ ?_
    exact OK_ri okX1_leastFrom rfl rfl (Or.inl rfl)
  · refine OK_st 1 okX1_leastFrom (S' := (14, [(3, .int r938), (0, .ref 45), (1, .ref 27), (2, .int v2)], [.int (0 : Int32)], hp I939 F940)) rfl ⟨trivial, trivial⟩ ?_
    exact OK_ri okX1_leastFrom rfl rfl (Or.inl rfl)
