/-! methods as functions (by program) -/
def f_X0_extend_75 (rc : Int32 → Int32 → Int32 → Int32 → Int32 → Int32 → AI → AF → AQ) (v2 : Int32) (v3 : Int32) (v4 : Int32) (v5 : Int32) (v6 : Int32) (v7 : Int32) (ko : Int32 → AI → AF → AQ) : Nat → Int32 → AI → AF → AQ
  | 0, _, _, _ => none
  | n + 1, v8, I, F =>
    if (4 : Int32) < v8 then
      ko v8 I F
    else
      if (I 17) ≤ (((v3 + v8) + v2) - (1 : Int32)) then
        ko v8 I F
      else
        bif ab_vin v7 6 then
          bif ab_vin v7 6 then
            bif ab_vin v7 6 then
              bif ab_vin v7 6 then
                ab_lt (va_up F 32 (upd (F 32) v7.toNatClampNeg v8)) (fun F772 =>
                  ab_bd (rc (v7 + (1 : Int32)) (v2 - (1 : Int32)) (v3 + v8) (v4 + (v8 * ((F 29) v7.toNatClampNeg))) (v5 + (v8 * ((F 30) v7.toNatClampNeg))) (v6 + (v8 * ((F 31) v7.toNatClampNeg))) I F772) (fun r773 I774 F775 =>
                    f_X0_extend_75 rc v2 v3 v4 v5 v6 v7 ko n (v8 + (1 : Int32)) I774 F775))
              else none
            else none
          else none
        else none
set_option maxRecDepth 20000 in
set_option maxHeartbeats 4000000 in
theorem kf_X0_extend_75 (d : Nat) (rc : Int32 → Int32 → Int32 → Int32 → Int32 → Int32 → AI → AF → AQ) (hrc : ∀ v1 v2 v3 v4 v5 v6 I F, OK d mX0_extend false (rc v1 v2 v3 v4 v5 v6 I F) (0, [(0, .ref 37), (1, .int v1), (2, .int v2), (3, .int v3), (4, .int v4), (5, .int v5), (6, .int v6)], [], hp I F)) (v2 : Int32) (v3 : Int32) (v4 : Int32) (v5 : Int32) (v6 : Int32) (v7 : Int32) (ko : Int32 → AI → AF → AQ) (hko : ∀ v8 I F, OK (d + 1) mX0_extend false (ko v8 I F) (165, [(0, .ref 37), (2, .int v2), (3, .int v3), (4, .int v4), (5, .int v5), (6, .int v6), (7, .int v7), (8, .int v8)], [], hp I F)) : ∀ n v8 I F, OK (d + 1) mX0_extend false (f_X0_extend_75 rc v2 v3 v4 v5 v6 v7 ko n v8 I F) (75, [(0, .ref 37), (2, .int v2), (3, .int v3), (4, .int v4), (5, .int v5), (6, .int v6), (7, .int v7), (8, .int v8)], [], hp I F) := by
  intro n
  induction n with
  | zero =>
    intro v8 I F
    exact OK_no
  | succ n ih =>
    intro v8 I F
    rw [f_X0_extend_75]
    refine OK_st 3 okX0_extend (S' := ((if (4 : Int32) < v8 then 165 else 81), [(0, .ref 37), (2, .int v2), (3, .int v3), (4, .int v4), (5, .int v5), (6, .int v6), (7, .int v7), (8, .int v8)], [], hp I F)) rfl ⟨trivial, trivial, trivial, trivial⟩ ?_
    refine OK_if (fun h766 => ?_) (fun h766 => ?_)
    · exact hko v8 I F
    · refine OK_st 10 okX0_extend (S' := ((if (I 17) ≤ (((v3 + v8) + v2) - (1 : Int32)) then 165 else 96), [(0, .ref 37), (2, .int v2), (3, .int v3), (4, .int v4), (5, .int v5), (6, .int v6), (7, .int v7), (8, .int v8)], [], hp I F)) rfl ⟨trivial, trivial, trivial, trivial, trivial, trivial, trivial, trivial, trivial, trivial, trivial⟩ ?_
      refine OK_if (fun h767 => ?_) (fun h767 => ?_)
      · exact hko v8 I F
      · refine OK_gd (fun g768 => ?_)
        refine OK_gd (fun g769 => ?_)
        refine OK_gd (fun g770 => ?_)
        refine OK_gd (fun g771 => ?_)
        refine OK_st 39 okX0_extend (S' := (156, [(0, .ref 37), (2, .int v2), (3, .int v3), (4, .int v4), (5, .int v5), (6, .int v6), (7, .int v7), (8, .int v8)], [.int (v6 + (v8 * ((F 31) v7.toNatClampNeg))), .int (v5 + (v8 * ((F 30) v7.toNatClampNeg))), .int (v4 + (v8 * ((F 29) v7.toNatClampNeg))), .int (v3 + v8), .int (v2 - (1 : Int32)), .int (v7 + (1 : Int32)), .ref 37], hp I (va_up F 32 (upd (F 32) v7.toNatClampNeg v8)))) rfl ⟨trivial, trivial, trivial, trivial, (ab_vo g768), trivial, trivial, trivial, trivial, trivial, trivial, trivial, trivial, trivial, trivial, trivial, trivial, trivial, trivial, trivial, (ab_vo g769), trivial, trivial, trivial, trivial, trivial, trivial, trivial, (ab_vo g770), trivial, trivial, trivial, trivial, trivial, trivial, trivial, (ab_vo g771), trivial, trivial, trivial⟩ ?_
        refine OK_lt (fun F772 => (156, [(0, .ref 37), (2, .int v2), (3, .int v3), (4, .int v4), (5, .int v5), (6, .int v6), (7, .int v7), (8, .int v8)], [.int (v6 + (v8 * ((F 31) v7.toNatClampNeg))), .int (v5 + (v8 * ((F 30) v7.toNatClampNeg))), .int (v4 + (v8 * ((F 29) v7.toNatClampNeg))), .int (v3 + v8), .int (v2 - (1 : Int32)), .int (v7 + (1 : Int32)), .ref 37], hp I F772)) (fun F772 => ?_)
        refine OK_cv [.int (v7 + (1 : Int32)), .int (v2 - (1 : Int32)), .int (v3 + v8), .int (v4 + (v8 * ((F 29) v7.toNatClampNeg))), .int (v5 + (v8 * ((F 30) v7.toNatClampNeg))), .int (v6 + (v8 * ((F 31) v7.toNatClampNeg)))] [] okX0_extend okX0_extend rfl rfl cl_RX0_53 rfl rfl (Nat.le_of_ble_eq_true rfl) (Nat.le_refl _) (Nat.le_of_ble_eq_true rfl) (hrc (v7 + (1 : Int32)) (v2 - (1 : Int32)) (v3 + v8) (v4 + (v8 * ((F 29) v7.toNatClampNeg))) (v5 + (v8 * ((F 30) v7.toNatClampNeg))) (v6 + (v8 * ((F 31) v7.toNatClampNeg))) I F772) (fun r773 I774 F775 => ?_)
        refine OK_st 2 okX0_extend (S' := (75, [(8, .int (v8 + (1 : Int32))), (0, .ref 37), (2, .int v2), (3, .int v3), (4, .int v4), (5, .int v5), (6, .int v6), (7, .int v7)], [], hp I774 F775)) rfl ⟨(by decide), trivial, trivial⟩ ?_
        refine OK_pk [1, 2, 3, 4, 5, 6, 7, 0] rfl ?_
        exact ih (v8 + (1 : Int32)) I774 F775

def f_X0_extend_51 (rc : Int32 → Int32 → Int32 → Int32 → Int32 → Int32 → AI → AF → AQ) (v2 : Int32) (v3 : Int32) (v4 : Int32) (v5 : Int32) (v6 : Int32) (ko : Int32 → AI → AF → AQ) : Nat → Int32 → AI → AF → AQ
  | 0, _, _, _ => none
  | n + 1, v7, I, F =>
    if (I 19) ≤ v7 then
      ko v7 I F
    else
      if (((I 18) >>> (v7 &&& 31)) &&& (1 : Int32)) = 0 then
        f_X0_extend_51 rc v2 v3 v4 v5 v6 ko n (v7 + (1 : Int32)) I F
      else
        f_X0_extend_75 rc v2 v3 v4 v5 v6 v7 (fun v8_776 I777 F778 =>
          bif ab_vin v7 6 then
            ab_lt (va_up F778 32 (upd (F778 32) v7.toNatClampNeg (0 : Int32))) (fun F780 =>
              f_X0_extend_51 rc v2 v3 v4 v5 v6 ko n (v7 + (1 : Int32)) I777 F780)
          else none) ab_fu (1 : Int32) I F
set_option maxRecDepth 20000 in
set_option maxHeartbeats 4000000 in
theorem kf_X0_extend_51 (d : Nat) (rc : Int32 → Int32 → Int32 → Int32 → Int32 → Int32 → AI → AF → AQ) (hrc : ∀ v1 v2 v3 v4 v5 v6 I F, OK d mX0_extend false (rc v1 v2 v3 v4 v5 v6 I F) (0, [(0, .ref 37), (1, .int v1), (2, .int v2), (3, .int v3), (4, .int v4), (5, .int v5), (6, .int v6)], [], hp I F)) (v2 : Int32) (v3 : Int32) (v4 : Int32) (v5 : Int32) (v6 : Int32) (ko : Int32 → AI → AF → AQ) (hko : ∀ v7 I F, OK (d + 1) mX0_extend false (ko v7 I F) (179, [(0, .ref 37), (2, .int v2), (3, .int v3), (4, .int v4), (5, .int v5), (6, .int v6), (7, .int v7)], [], hp I F)) : ∀ n v7 I F, OK (d + 1) mX0_extend false (f_X0_extend_51 rc v2 v3 v4 v5 v6 ko n v7 I F) (51, [(0, .ref 37), (2, .int v2), (3, .int v3), (4, .int v4), (5, .int v5), (6, .int v6), (7, .int v7)], [], hp I F) := by
  intro n
  induction n with
  | zero =>
    intro v7 I F
    exact OK_no
  | succ n ih =>
    intro v7 I F
    rw [f_X0_extend_51]
    refine OK_st 4 okX0_extend (S' := ((if (I 19) ≤ v7 then 179 else 60), [(0, .ref 37), (2, .int v2), (3, .int v3), (4, .int v4), (5, .int v5), (6, .int v6), (7, .int v7)], [], hp I F)) rfl ⟨trivial, trivial, trivial, trivial, trivial⟩ ?_
    refine OK_if (fun h764 => ?_) (fun h764 => ?_)
    · exact hko v7 I F
    · refine OK_st 7 okX0_extend (S' := ((if (((I 18) >>> (v7 &&& 31)) &&& (1 : Int32)) = 0 then 173 else 72), [(0, .ref 37), (2, .int v2), (3, .int v3), (4, .int v4), (5, .int v5), (6, .int v6), (7, .int v7)], [], hp I F)) rfl ⟨trivial, trivial, trivial, trivial, trivial, trivial, trivial, trivial⟩ ?_
      refine OK_if (fun h765 => ?_) (fun h765 => ?_)
      · refine OK_st 2 okX0_extend (S' := (51, [(7, .int (v7 + (1 : Int32))), (0, .ref 37), (2, .int v2), (3, .int v3), (4, .int v4), (5, .int v5), (6, .int v6)], [], hp I F)) rfl ⟨(by decide), trivial, trivial⟩ ?_
        refine OK_pk [1, 2, 3, 4, 5, 6, 0] rfl ?_
        exact ih (v7 + (1 : Int32)) I F
      · refine OK_st 2 okX0_extend (S' := (75, [(8, .int (1 : Int32)), (0, .ref 37), (2, .int v2), (3, .int v3), (4, .int v4), (5, .int v5), (6, .int v6), (7, .int v7)], [], hp I F)) rfl ⟨trivial, (by decide), trivial⟩ ?_
        refine OK_pk [1, 2, 3, 4, 5, 6, 7, 0] rfl ?_
        refine kf_X0_extend_75 d rc hrc v2 v3 v4 v5 v6 v7 _ (fun v8_776 I777 F778 => ?_) ab_fu (1 : Int32) I F
        refine OK_gd (fun g779 => ?_)
        refine OK_st 7 okX0_extend (S' := (51, [(7, .int (v7 + (1 : Int32))), (0, .ref 37), (2, .int v2), (3, .int v3), (4, .int v4), (5, .int v5), (6, .int v6), (8, .int v8_776)], [], hp I777 (va_up F778 32 (upd (F778 32) v7.toNatClampNeg (0 : Int32))))) rfl ⟨trivial, trivial, trivial, trivial, (ab_vo g779), (by decide), trivial, trivial⟩ ?_
        refine OK_lt (fun F780 => (51, [(7, .int (v7 + (1 : Int32))), (0, .ref 37), (2, .int v2), (3, .int v3), (4, .int v4), (5, .int v5), (6, .int v6), (8, .int v8_776)], [], hp I777 F780)) (fun F780 => ?_)
        refine OK_pk [1, 2, 3, 4, 5, 6, 0] rfl ?_
        exact ih (v7 + (1 : Int32)) I777 F780

def f_X0_extend_b (rc : Int32 → Int32 → Int32 → Int32 → Int32 → Int32 → AI → AF → AQ) (v1 : Int32) (v2 : Int32) (v3 : Int32) (v4 : Int32) (v5 : Int32) (v6 : Int32) (I : AI) (F : AF) : AQ :=
  if 0 < v2 then
    f_X0_extend_51 rc v2 v3 v4 v5 v6 (fun v7_781 I782 F783 =>
      some (0, I782, F783)) ab_fu v1 I F
  else
    if (I 17) ≤ v3 then
      some (0, I, F)
    else
      if ¬ v4 = 0 then
        some (0, I, F)
      else
        if ¬ v5 = 0 then
          some (0, I, F)
        else
          if ¬ v6 = 0 then
            some (0, I, F)
          else
            some (0, (va_up I 17 v3), (va_up F 33 (va_cpy (F 32) (F 33) 0 0 6)))
set_option maxRecDepth 20000 in
set_option maxHeartbeats 4000000 in
theorem kf_X0_extend_b (d : Nat) (rc : Int32 → Int32 → Int32 → Int32 → Int32 → Int32 → AI → AF → AQ) (hrc : ∀ v1 v2 v3 v4 v5 v6 I F, OK d mX0_extend false (rc v1 v2 v3 v4 v5 v6 I F) (0, [(0, .ref 37), (1, .int v1), (2, .int v2), (3, .int v3), (4, .int v4), (5, .int v5), (6, .int v6)], [], hp I F)) (v1 : Int32) (v2 : Int32) (v3 : Int32) (v4 : Int32) (v5 : Int32) (v6 : Int32) (I : AI) (F : AF) : OK (d + 1) mX0_extend false (f_X0_extend_b rc v1 v2 v3 v4 v5 v6 I F) (0, [(0, .ref 37), (1, .int v1), (2, .int v2), (3, .int v3), (4, .int v4), (5, .int v5), (6, .int v6)], [], hp I F) := by
  rw [f_X0_extend_b]
  refine OK_st 2 okX0_extend (S' := ((if 0 < v2 then 48 else 4), [(0, .ref 37), (1, .int v1), (2, .int v2), (3, .int v3), (4, .int v4), (5, .int v5), (6, .int v6)], [], hp I F)) rfl ⟨trivial, trivial, trivial⟩ ?_
  refine OK_if (fun h763 => ?_) (fun h763 => ?_)
  · refine OK_st 2 okX0_extend (S' := (51, [(7, .int v1), (0, .ref 37), (1, .int v1), (2, .int v2), (3, .int v3), (4, .int v4), (5, .int v5), (6, .int v6)], [], hp I F)) rfl ⟨trivial, (by decide), trivial⟩ ?_
    refine OK_pk [1, 3, 4, 5, 6, 7, 0] rfl ?_
    refine kf_X0_extend_51 d rc hrc v2 v3 v4 v5 v6 _ (fun v7_781 I782 F783 => ?_) ab_fu v1 I F
    exact OK_rv okX0_extend rfl rfl rfl
  · refine OK_st 4 okX0_extend (S' := ((if (I 17) ≤ v3 then 47 else 12), [(0, .ref 37), (1, .int v1), (2, .int v2), (3, .int v3), (4, .int v4), (5, .int v5), (6, .int v6)], [], hp I F)) rfl ⟨trivial, trivial, trivial, trivial, trivial⟩ ?_
    refine OK_if (fun h784 => ?_) (fun h784 => ?_)
    · exact OK_rv okX0_extend rfl rfl rfl
    · refine OK_st 2 okX0_extend (S' := ((if ¬ v4 = 0 then 47 else 17), [(0, .ref 37), (1, .int v1), (2, .int v2), (3, .int v3), (4, .int v4), (5, .int v5), (6, .int v6)], [], hp I F)) rfl ⟨trivial, trivial, trivial⟩ ?_
      refine OK_if (fun h785 => ?_) (fun h785 => ?_)
      · exact OK_rv okX0_extend rfl rfl rfl
      · refine OK_st 2 okX0_extend (S' := ((if ¬ v5 = 0 then 47 else 22), [(0, .ref 37), (1, .int v1), (2, .int v2), (3, .int v3), (4, .int v4), (5, .int v5), (6, .int v6)], [], hp I F)) rfl ⟨trivial, trivial, trivial⟩ ?_
        refine OK_if (fun h786 => ?_) (fun h786 => ?_)
        · exact OK_rv okX0_extend rfl rfl rfl
        · refine OK_st 2 okX0_extend (S' := ((if ¬ v6 = 0 then 47 else 27), [(0, .ref 37), (1, .int v1), (2, .int v2), (3, .int v3), (4, .int v4), (5, .int v5), (6, .int v6)], [], hp I F)) rfl ⟨trivial, trivial, trivial⟩ ?_
          refine OK_if (fun h787 => ?_) (fun h787 => ?_)
          · exact OK_rv okX0_extend rfl rfl rfl
          · refine OK_st 11 okX0_extend (S' := (47, [(0, .ref 37), (1, .int v1), (2, .int v2), (3, .int v3), (4, .int v4), (5, .int v5), (6, .int v6)], [], hp (va_up I 17 v3) (va_up F 33 (va_cpy (F 32) (F 33) 0 0 6)))) rfl ⟨trivial, trivial, trivial, trivial, trivial, trivial, trivial, trivial, trivial, trivial, ⟨by decide, by decide, by decide, by decide, by decide, Nat.le_of_ble_eq_true rfl⟩, trivial⟩ ?_
            exact OK_rv okX0_extend rfl rfl rfl
def f_X0_extend_n : Nat → Int32 → Int32 → Int32 → Int32 → Int32 → Int32 → AI → AF → AQ
  | 0, _, _, _, _, _, _, _, _ => none
  | n + 1, v1, v2, v3, v4, v5, v6, I, F => f_X0_extend_b (f_X0_extend_n n) v1 v2 v3 v4 v5 v6 I F
theorem kf_X0_extend_n : ∀ n v1 v2 v3 v4 v5 v6 I F, OK (n + 1) mX0_extend false (f_X0_extend_n n v1 v2 v3 v4 v5 v6 I F) (0, [(0, .ref 37), (1, .int v1), (2, .int v2), (3, .int v3), (4, .int v4), (5, .int v5), (6, .int v6)], [], hp I F) := by
  intro n
  induction n with
  | zero =>
    intro v1 v2 v3 v4 v5 v6 I F
    exact OK_no
  | succ n ih =>
    intro v1 v2 v3 v4 v5 v6 I F
    have := kf_X0_extend_b (n + 1) (f_X0_extend_n n) ih v1 v2 v3 v4 v5 v6 I F
    rw [show n + 1 + 1 = n + 1 + 1 by omega]
    exact this
def f_X0_extend : Int32 → Int32 → Int32 → Int32 → Int32 → Int32 → AI → AF → AQ := f_X0_extend_n 8
theorem kf_X0_extend (v1 : Int32) (v2 : Int32) (v3 : Int32) (v4 : Int32) (v5 : Int32) (v6 : Int32) (I : AI) (F : AF) : OK 9 mX0_extend false (f_X0_extend v1 v2 v3 v4 v5 v6 I F) (0, [(0, .ref 37), (1, .int v1), (2, .int v2), (3, .int v3), (4, .int v4), (5, .int v5), (6, .int v6)], [], hp I F) := kf_X0_extend_n 8 v1 v2 v3 v4 v5 v6 I F

def f_X0_search_111 (ko : Int32 → AI → AF → AQ) : Nat → Int32 → AI → AF → AQ
  | 0, _, _, _ => none
  | n + 1, v3, I, F =>
    if (3 : Int32) < v3 then
      ko v3 I F
    else
      ab_bd (f_X0_extend (0 : Int32) v3 (0 : Int32) (0 : Int32) (0 : Int32) (0 : Int32) I F) (fun r788 I789 F790 =>
        f_X0_search_111 ko n (v3 + (1 : Int32)) I789 F790)
set_option maxRecDepth 20000 in
set_option maxHeartbeats 4000000 in
theorem kf_X0_search_111 (ko : Int32 → AI → AF → AQ) (hko : ∀ v3 I F, OK 10 mX0_search false (ko v3 I F) (132, [(0, .ref 37), (3, .int v3)], [], hp I F)) : ∀ n v3 I F, OK 10 mX0_search false (f_X0_search_111 ko n v3 I F) (111, [(0, .ref 37), (3, .int v3)], [], hp I F) := by
  intro n
  induction n with
  | zero =>
    intro v3 I F
    exact OK_no
  | succ n ih =>
    intro v3 I F
    rw [f_X0_search_111]
    refine OK_st 3 okX0_search (S' := ((if (3 : Int32) < v3 then 132 else 116), [(0, .ref 37), (3, .int v3)], [], hp I F)) rfl ⟨trivial, trivial, trivial, trivial⟩ ?_
    refine OK_if (fun h762 => ?_) (fun h762 => ?_)
    · exact hko v3 I F
    · refine OK_st 7 okX0_search (S' := (123, [(0, .ref 37), (3, .int v3)], [.int (0 : Int32), .int (0 : Int32), .int (0 : Int32), .int (0 : Int32), .int v3, .int (0 : Int32), .ref 37], hp I F)) rfl ⟨trivial, trivial, trivial, trivial, trivial, trivial, trivial, trivial⟩ ?_
      refine OK_cv [.int (0 : Int32), .int v3, .int (0 : Int32), .int (0 : Int32), .int (0 : Int32), .int (0 : Int32)] [] okX0_search okX0_extend rfl rfl cl_RX0_53 rfl rfl (Nat.le_of_ble_eq_true rfl) (by decide) (Nat.le_of_ble_eq_true rfl) (kf_X0_extend (0 : Int32) v3 (0 : Int32) (0 : Int32) (0 : Int32) (0 : Int32) I F) (fun r788 I789 F790 => ?_)
      refine OK_st 2 okX0_search (S' := (111, [(3, .int (v3 + (1 : Int32))), (0, .ref 37)], [], hp I789 F790)) rfl ⟨(by decide), trivial, trivial⟩ ?_
      refine OK_pk [1, 0] rfl ?_
      exact ih (v3 + (1 : Int32)) I789 F790

def f_X0_search (I : AI) (F : AF) : AQ :=
  ab_lt (va_up I 19 (I 9)) (fun I731 =>
    ab_bd (f_X8_living I731 F) (fun r732 I733 F734 =>
      ab_bd (f_X8_copied I733 F734) (fun r735 I736 F737 =>
        ab_lt (va_up (va_up I736 18 (r732 &&& (r735 ^^^ (-1 : Int32)))) 17 (13 : Int32)) (fun I738 =>
          f_X0_search_31 (fun v3_759 I760 F761 =>
            f_X0_search_111 (fun v3_791 I792 F793 =>
              some (0, I792, F793)) ab_fu (1 : Int32) I760 F761) ab_fu (0 : Int32) I738 F737))))
set_option maxRecDepth 20000 in
set_option maxHeartbeats 4000000 in
theorem kf_X0_search (I : AI) (F : AF) : OK 10 mX0_search false (f_X0_search I F) (0, [(0, .ref 37), (1, .ref 16), (2, .ref 27)], [], hp I F) := by
  rw [f_X0_search]
  refine OK_st 6 okX0_search (S' := (10, [(0, .ref 37), (1, .ref 16), (2, .ref 27)], [.ref 27, .ref 37], hp (va_up I 19 (I 9)) F)) rfl ⟨trivial, trivial, trivial, trivial, trivial, trivial, trivial⟩ ?_
  refine OK_lt (fun I731 => (10, [(0, .ref 37), (1, .ref 16), (2, .ref 27)], [.ref 27, .ref 37], hp I731 F)) (fun I731 => ?_)
  refine OK_cv [] [.ref 37] okX0_search okX8_living rfl rfl cl_RX0_37 rfl rfl (Nat.le_of_ble_eq_true rfl) (by decide) (Nat.le_of_ble_eq_true rfl) (kf_X8_living I731 F) (fun r732 I733 F734 => ?_)
  refine OK_st 1 okX0_search (S' := (14, [(0, .ref 37), (1, .ref 16), (2, .ref 27)], [.ref 27, .int r732, .ref 37], hp I733 F734)) rfl ⟨trivial, trivial⟩ ?_
  refine OK_cv [] [.int r732, .ref 37] okX0_search okX8_copied rfl rfl cl_RX0_43 rfl rfl (Nat.le_of_ble_eq_true rfl) (by decide) (Nat.le_of_ble_eq_true rfl) (kf_X8_copied I733 F734) (fun r735 I736 F737 => ?_)
  refine OK_st 9 okX0_search (S' := (31, [(3, .int (0 : Int32)), (0, .ref 37), (1, .ref 16), (2, .ref 27)], [], hp (va_up (va_up I736 18 (r732 &&& (r735 ^^^ (-1 : Int32)))) 17 (13 : Int32)) F737)) rfl ⟨trivial, trivial, trivial, trivial, trivial, trivial, trivial, trivial, (by decide), trivial⟩ ?_
  refine OK_lt (fun I738 => (31, [(3, .int (0 : Int32)), (0, .ref 37), (1, .ref 16), (2, .ref 27)], [], hp I738 F737)) (fun I738 => ?_)
  refine OK_pk [1, 2, 3, 0] rfl ?_
  refine kf_X0_search_31 _ (fun v3_759 I760 F761 => ?_) ab_fu (0 : Int32) I738 F737
  refine OK_st 2 okX0_search (S' := (111, [(3, .int (1 : Int32)), (0, .ref 37), (1, .ref 16), (2, .ref 27)], [], hp I760 F761)) rfl ⟨trivial, (by decide), trivial⟩ ?_
  refine OK_pk [1, 0] rfl ?_
  refine kf_X0_search_111 _ (fun v3_791 I792 F793 => ?_) ab_fu (1 : Int32) I760 F761
  exact OK_rv okX0_search rfl rfl rfl

def f_X0_isFound (I : AI) (F : AF) : AQ :=
  if (13 : Int32) ≤ (I 17) then
    some ((0 : Int32), I, F)
  else
    some ((1 : Int32), I, F)
set_option maxRecDepth 20000 in
set_option maxHeartbeats 4000000 in
theorem kf_X0_isFound (I : AI) (F : AF) : OK 0 mX0_isFound true (f_X0_isFound I F) (0, [(0, .ref 37)], [], hp I F) := by
  rw [f_X0_isFound]
  refine OK_st 4 okX0_isFound (S' := ((if (13 : Int32) ≤ (I 17) then 13 else 9), [(0, .ref 37)], [], hp I F)) rfl ⟨trivial, trivial, trivial, trivial, trivial⟩ ?_
  refine OK_if (fun h797 => ?_) (fun h797 => ?_)
  · refine OK_st 1 okX0_isFound (S' := (14, [(0, .ref 37)], [.int (0 : Int32)], hp I F)) rfl ⟨trivial, trivial⟩ ?_
    exact OK_ri okX0_isFound rfl rfl (Or.inr ⟨rfl, Or.inl rfl⟩)
  · refine OK_st 2 okX0_isFound (S' := (14, [(0, .ref 37)], [.int (1 : Int32)], hp I F)) rfl ⟨trivial, trivial, trivial⟩ ?_
    exact OK_ri okX0_isFound rfl rfl (Or.inr ⟨rfl, Or.inr rfl⟩)

def f_X9_basket_j19 (v1 : Int32) (I : AI) (F : AF) : AQ :=
  ab_bd (f_X0_search I F) (fun r794 I795 F796 =>
    ab_bd (f_X0_isFound I795 F796) (fun r798 I799 F800 =>
      if ¬ r798 = 0 then
        if ¬ v1 = (-1 : Int32) then
          bif ab_vin v1 6 then
            some (((F800 33) v1.toNatClampNeg), I799, F800)
          else none
        else
          some ((I799 17), I799, F800)
      else
        some ((-1 : Int32), I799, F800)))
set_option maxRecDepth 20000 in
set_option maxHeartbeats 4000000 in
theorem kf_X9_basket_j19 (v1 : Int32) (I : AI) (F : AF) : OK 11 mX9_basket true (f_X9_basket_j19 v1 I F) (19, [(0, .ref 0), (1, .int v1)], [], hp I F) := by
  rw [f_X9_basket_j19]
  refine OK_st 6 okX9_basket (S' := (31, [(0, .ref 0), (1, .int v1)], [.ref 27, .ref 16, .ref 37], hp I F)) rfl ⟨trivial, trivial, trivial, trivial, trivial, trivial, trivial⟩ ?_
  refine OK_cv [.ref 16, .ref 27] [] okX9_basket okX0_search rfl rfl cl_RX9_246 rfl rfl (Nat.le_of_ble_eq_true rfl) (by decide) (Nat.le_of_ble_eq_true rfl) (kf_X0_search I F) (fun r794 I795 F796 => ?_)
  refine OK_st 2 okX9_basket (S' := (38, [(0, .ref 0), (1, .int v1)], [.ref 37], hp I795 F796)) rfl ⟨trivial, trivial, trivial⟩ ?_
  refine OK_cv [] [] okX9_basket okX0_isFound rfl rfl cl_RX9_250 rfl rfl (Nat.le_of_ble_eq_true rfl) (by decide) (Nat.le_of_ble_eq_true rfl) (kf_X0_isFound I795 F796) (fun r798 I799 F800 => ?_)
  refine OK_st 1 okX9_basket (S' := ((if ¬ r798 = 0 then 46 else 44), [(0, .ref 0), (1, .int v1)], [], hp I799 F800)) rfl ⟨trivial, trivial⟩ ?_
  refine OK_if (fun h801 => ?_) (fun h801 => ?_)
  · refine OK_st 3 okX9_basket (S' := ((if ¬ v1 = (-1 : Int32) then 61 else 51), [(0, .ref 0), (1, .int v1)], [], hp I799 F800)) rfl ⟨trivial, trivial, trivial, trivial⟩ ?_
    refine OK_if (fun h802 => ?_) (fun h802 => ?_)
    · refine OK_gd (fun g803 => ?_)
      refine OK_st 5 okX9_basket (S' := (70, [(0, .ref 0), (1, .int v1)], [.int ((F800 33) v1.toNatClampNeg)], hp I799 F800)) rfl ⟨trivial, trivial, trivial, trivial, (ab_vo g803), trivial⟩ ?_
      exact OK_ri okX9_basket rfl rfl (Or.inl rfl)
    · refine OK_st 4 okX9_basket (S' := (70, [(0, .ref 0), (1, .int v1)], [.int (I799 17)], hp I799 F800)) rfl ⟨trivial, trivial, trivial, trivial, trivial⟩ ?_
      exact OK_ri okX9_basket rfl rfl (Or.inl rfl)
  · refine OK_st 1 okX9_basket (S' := (45, [(0, .ref 0), (1, .int v1)], [.int (-1 : Int32)], hp I799 F800)) rfl ⟨trivial, trivial⟩ ?_
    exact OK_ri okX9_basket rfl rfl (Or.inl rfl)

def f_X9_basket (v1 : Int32) (I : AI) (F : AF) : AQ :=
  if v1 = (-1 : Int32) then
    f_X9_basket_j19 v1 I F
  else
    ab_bd (f_X5_hasLimb v1 I F) (fun r804 I805 F806 =>
      if ¬ r804 = 0 then
        f_X9_basket_j19 v1 I805 F806
      else
        some ((-1000000001 : Int32), I805, F806))
set_option maxRecDepth 20000 in
set_option maxHeartbeats 4000000 in
theorem kf_X9_basket (v1 : Int32) (I : AI) (F : AF) : OK 11 mX9_basket true (f_X9_basket v1 I F) (0, [(0, .ref 0), (1, .int v1)], [], hp I F) := by
  rw [f_X9_basket]
  refine OK_st 3 okX9_basket (S' := ((if v1 = (-1 : Int32) then 19 else 5), [(0, .ref 0), (1, .int v1)], [], hp I F)) rfl ⟨trivial, trivial, trivial, trivial⟩ ?_
  refine OK_if (fun h730 => ?_) (fun h730 => ?_)
  · exact kf_X9_basket_j19 v1 I F
  · refine OK_st 3 okX9_basket (S' := (10, [(0, .ref 0), (1, .int v1)], [.int v1, .ref 16], hp I F)) rfl ⟨trivial, trivial, trivial, trivial⟩ ?_
    refine OK_cv [.int v1] [] okX9_basket okX5_hasLimb rfl rfl cl_RX9_151 rfl rfl (Nat.le_of_ble_eq_true rfl) (by decide) (Nat.le_of_ble_eq_true rfl) (kf_X5_hasLimb v1 I F) (fun r804 I805 F806 => ?_)
    refine OK_st 1 okX9_basket (S' := ((if ¬ r804 = 0 then 19 else 16), [(0, .ref 0), (1, .int v1)], [], hp I805 F806)) rfl ⟨trivial, trivial⟩ ?_
    refine OK_if (fun h807 => ?_) (fun h807 => ?_)
    · exact kf_X9_basket_j19 v1 I805 F806
    · refine OK_st 1 okX9_basket (S' := (18, [(0, .ref 0), (1, .int v1)], [.int (-1000000001 : Int32)], hp I805 F806)) rfl ⟨trivial, trivial⟩ ?_
      exact OK_ri okX9_basket rfl rfl (Or.inl rfl)

def f_X7_extend_j55_10 (rc : Int32 → Int32 → Int32 → Int32 → AI → AF → AQ) (bk ko : Int32 → AI → AF → AQ) (v2 : Int32) (v3 : Int32) (v4 : Int32) (v5 : Int32) (v6 : Int32) (v7 : Int32) (s0 : Int32) (I : AI) (F : AF) : AQ :=
  if s0 = 0 then
    bk (v6 + (1 : Int32)) I F
  else
    if ¬ ((v3 >>> (v7 &&& 31)) &&& (1 : Int32)) = 0 then
      bk (v6 + (1 : Int32)) I F
    else
      bif ab_vin v2 4 then
        bif ab_vin v6 8 then
          ab_lt (va_up F 34 (upd (F 34) v2.toNatClampNeg v6)) (fun F818 =>
            ab_lt (v4 * ((F 20) v6.toNatClampNeg)) (fun x819 =>
              bif ab_vin v6 8 then
                ab_lt (v5 * ((F818 21) v6.toNatClampNeg)) (fun x821 =>
                  if ¬ (v2 + (1 : Int32)) = (I 20) then
                    ab_bd (rc (v2 + (1 : Int32)) (v3 ||| ((1 : Int32) <<< (v7 &&& 31))) x819 x821 I F818) (fun r823 I824 F825 =>
                      if r823 = 0 then
                        bk (v6 + (1 : Int32)) I824 F825
                      else
                        some ((1 : Int32), I824, F825))
                  else
                    bif ab_vin v6 8 then
                      bif ab_vin ((F818 34) 0) 8 then
                        if ¬ ((F818 19) v6.toNatClampNeg) = ((F818 18) ((F818 34) 0).toNatClampNeg) then
                          if (0 : Int32) = 0 then
                            bk (v6 + (1 : Int32)) I F818
                          else
                            some ((1 : Int32), I, F818)
                        else
                          if x821 ≤ x819 then
                            if (0 : Int32) = 0 then
                              bk (v6 + (1 : Int32)) I F818
                            else
                              some ((1 : Int32), I, F818)
                          else
                            if (1 : Int32) = 0 then
                              bk (v6 + (1 : Int32)) I F818
                            else
                              some ((1 : Int32), I, F818)
                      else none
                    else none)
              else none))
        else none
      else none
set_option maxRecDepth 20000 in
set_option maxHeartbeats 4000000 in
theorem kf_X7_extend_j55_10 (d : Nat) (rc : Int32 → Int32 → Int32 → Int32 → AI → AF → AQ) (hrc : ∀ v2 v3 v4 v5 I F, OK d mX7_extend true (rc v2 v3 v4 v5 I F) (0, [(0, .ref 43), (1, .ref 16), (2, .int v2), (3, .int v3), (4, .int v4), (5, .int v5)], [], hp I F)) (bk ko : Int32 → AI → AF → AQ) (v2 : Int32) (v3 : Int32) (v4 : Int32) (v5 : Int32) (v6 : Int32) (v7 : Int32) (hbk : ∀ v6 I F, OK (d + 1) mX7_extend true (bk v6 I F) (10, [(0, .ref 43), (1, .ref 16), (2, .int v2), (3, .int v3), (4, .int v4), (5, .int v5), (6, .int v6)], [], hp I F)) (hko : ∀ v6 I F, OK (d + 1) mX7_extend true (ko v6 I F) (182, [(0, .ref 43), (1, .ref 16), (2, .int v2), (3, .int v3), (4, .int v4), (5, .int v5), (6, .int v6)], [], hp I F)) (s0 : Int32) (I : AI) (F : AF) : OK (d + 1) mX7_extend true (f_X7_extend_j55_10 rc bk ko v2 v3 v4 v5 v6 v7 s0 I F) (55, [(0, .ref 43), (1, .ref 16), (2, .int v2), (3, .int v3), (4, .int v4), (5, .int v5), (6, .int v6), (7, .int v7)], [.int s0], hp I F) := by
  rw [f_X7_extend_j55_10]
  refine OK_st 3 okX7_extend (S' := ((if s0 = 0 then 176 else 62), [(8, .int s0), (0, .ref 43), (1, .ref 16), (2, .int v2), (3, .int v3), (4, .int v4), (5, .int v5), (6, .int v6), (7, .int v7)], [], hp I F)) rfl ⟨(by decide), trivial, trivial, trivial⟩ ?_
  refine OK_if (fun h814 => ?_) (fun h814 => ?_)
  · refine OK_st 2 okX7_extend (S' := (10, [(6, .int (v6 + (1 : Int32))), (8, .int s0), (0, .ref 43), (1, .ref 16), (2, .int v2), (3, .int v3), (4, .int v4), (5, .int v5), (7, .int v7)], [], hp I F)) rfl ⟨(by decide), trivial, trivial⟩ ?_
    refine OK_pk [2, 3, 4, 5, 6, 7, 0] rfl ?_
    exact hbk (v6 + (1 : Int32)) I F
  · refine OK_st 6 okX7_extend (S' := ((if ¬ ((v3 >>> (v7 &&& 31)) &&& (1 : Int32)) = 0 then 176 else 71), [(8, .int s0), (0, .ref 43), (1, .ref 16), (2, .int v2), (3, .int v3), (4, .int v4), (5, .int v5), (6, .int v6), (7, .int v7)], [], hp I F)) rfl ⟨trivial, trivial, trivial, trivial, trivial, trivial, trivial⟩ ?_
    refine OK_if (fun h815 => ?_) (fun h815 => ?_)
    · refine OK_st 2 okX7_extend (S' := (10, [(6, .int (v6 + (1 : Int32))), (8, .int s0), (0, .ref 43), (1, .ref 16), (2, .int v2), (3, .int v3), (4, .int v4), (5, .int v5), (7, .int v7)], [], hp I F)) rfl ⟨(by decide), trivial, trivial⟩ ?_
      refine OK_pk [2, 3, 4, 5, 6, 7, 0] rfl ?_
      exact hbk (v6 + (1 : Int32)) I F
    · refine OK_gd (fun g816 => ?_)
      refine OK_gd (fun g817 => ?_)
      refine OK_st 12 okX7_extend (S' := (91, [(9, .int (v4 * ((F 20) v6.toNatClampNeg))), (8, .int s0), (0, .ref 43), (1, .ref 16), (2, .int v2), (3, .int v3), (4, .int v4), (5, .int v5), (6, .int v6), (7, .int v7)], [], hp I (va_up F 34 (upd (F 34) v2.toNatClampNeg v6)))) rfl ⟨trivial, trivial, trivial, trivial, (ab_vo g816), trivial, trivial, trivial, trivial, (ab_vo g817), trivial, (by decide), trivial⟩ ?_
      refine OK_lt (fun F818 => (91, [(9, .int (v4 * ((F 20) v6.toNatClampNeg))), (8, .int s0), (0, .ref 43), (1, .ref 16), (2, .int v2), (3, .int v3), (4, .int v4), (5, .int v5), (6, .int v6), (7, .int v7)], [], hp I F818)) (fun F818 => ?_)
      refine OK_lt (fun x819 => (91, [(9, .int x819), (8, .int s0), (0, .ref 43), (1, .ref 16), (2, .int v2), (3, .int v3), (4, .int v4), (5, .int v5), (6, .int v6), (7, .int v7)], [], hp I F818)) (fun x819 => ?_)
      refine OK_gd (fun g820 => ?_)
      refine OK_st 7 okX7_extend (S' := (103, [(10, .int (v5 * ((F818 21) v6.toNatClampNeg))), (9, .int x819), (8, .int s0), (0, .ref 43), (1, .ref 16), (2, .int v2), (3, .int v3), (4, .int v4), (5, .int v5), (6, .int v6), (7, .int v7)], [], hp I F818)) rfl ⟨trivial, trivial, trivial, trivial, (ab_vo g820), trivial, (by decide), trivial⟩ ?_
      refine OK_lt (fun x821 => (103, [(10, .int x821), (9, .int x819), (8, .int s0), (0, .ref 43), (1, .ref 16), (2, .int v2), (3, .int v3), (4, .int v4), (5, .int v5), (6, .int v6), (7, .int v7)], [], hp I F818)) (fun x821 => ?_)
      refine OK_st 6 okX7_extend (S' := ((if ¬ (v2 + (1 : Int32)) = (I 20) then 149 else 113), [(10, .int x821), (9, .int x819), (8, .int s0), (0, .ref 43), (1, .ref 16), (2, .int v2), (3, .int v3), (4, .int v4), (5, .int v5), (6, .int v6), (7, .int v7)], [], hp I F818)) rfl ⟨trivial, trivial, trivial, trivial, trivial, trivial, trivial⟩ ?_
      refine OK_if (fun h822 => ?_) (fun h822 => ?_)
      · refine OK_st 12 okX7_extend (S' := (164, [(10, .int x821), (9, .int x819), (8, .int s0), (0, .ref 43), (1, .ref 16), (2, .int v2), (3, .int v3), (4, .int v4), (5, .int v5), (6, .int v6), (7, .int v7)], [.int x821, .int x819, .int (v3 ||| ((1 : Int32) <<< (v7 &&& 31))), .int (v2 + (1 : Int32)), .ref 16, .ref 43], hp I F818)) rfl ⟨trivial, trivial, trivial, trivial, trivial, trivial, trivial, trivial, trivial, trivial, trivial, trivial, trivial⟩ ?_
        refine OK_cv [.ref 16, .int (v2 + (1 : Int32)), .int (v3 ||| ((1 : Int32) <<< (v7 &&& 31))), .int x819, .int x821] [] okX7_extend okX7_extend rfl rfl cl_RX7_19 rfl rfl (Nat.le_of_ble_eq_true rfl) (Nat.le_refl _) (Nat.le_of_ble_eq_true rfl) (hrc (v2 + (1 : Int32)) (v3 ||| ((1 : Int32) <<< (v7 &&& 31))) x819 x821 I F818) (fun r823 I824 F825 => ?_)
        refine OK_st 3 okX7_extend (S' := ((if r823 = 0 then 176 else 174), [(11, .int r823), (10, .int x821), (9, .int x819), (8, .int s0), (0, .ref 43), (1, .ref 16), (2, .int v2), (3, .int v3), (4, .int v4), (5, .int v5), (6, .int v6), (7, .int v7)], [], hp I824 F825)) rfl ⟨(by decide), trivial, trivial, trivial⟩ ?_
        refine OK_if (fun h826 => ?_) (fun h826 => ?_)
        · refine OK_st 2 okX7_extend (S' := (10, [(6, .int (v6 + (1 : Int32))), (11, .int r823), (10, .int x821), (9, .int x819), (8, .int s0), (0, .ref 43), (1, .ref 16), (2, .int v2), (3, .int v3), (4, .int v4), (5, .int v5), (7, .int v7)], [], hp I824 F825)) rfl ⟨(by decide), trivial, trivial⟩ ?_
          refine OK_pk [5, 6, 7, 8, 9, 10, 0] rfl ?_
          exact hbk (v6 + (1 : Int32)) I824 F825
        · refine OK_st 1 okX7_extend (S' := (175, [(11, .int r823), (10, .int x821), (9, .int x819), (8, .int s0), (0, .ref 43), (1, .ref 16), (2, .int v2), (3, .int v3), (4, .int v4), (5, .int v5), (6, .int v6), (7, .int v7)], [.int (1 : Int32)], hp I824 F825)) rfl ⟨trivial, trivial⟩ ?_
          exact OK_ri okX7_extend rfl rfl (Or.inr ⟨rfl, Or.inr rfl⟩)
      · refine OK_gd (fun g827 => ?_)
        refine OK_gd (fun g828 => ?_)
        refine OK_st 12 okX7_extend (S' := ((if ¬ ((F818 19) v6.toNatClampNeg) = ((F818 18) ((F818 34) 0).toNatClampNeg) then 145 else 134), [(10, .int x821), (9, .int x819), (8, .int s0), (0, .ref 43), (1, .ref 16), (2, .int v2), (3, .int v3), (4, .int v4), (5, .int v5), (6, .int v6), (7, .int v7)], [], hp I F818)) rfl ⟨trivial, trivial, trivial, (ab_vo g827), trivial, trivial, trivial, trivial, trivial, (ab_vo (by decide)), (ab_vo g828), trivial, trivial⟩ ?_
        refine OK_if (fun h829 => ?_) (fun h829 => ?_)
        · refine OK_st 5 okX7_extend (S' := ((if (0 : Int32) = 0 then 176 else 174), [(11, .int (0 : Int32)), (10, .int x821), (9, .int x819), (8, .int s0), (0, .ref 43), (1, .ref 16), (2, .int v2), (3, .int v3), (4, .int v4), (5, .int v5), (6, .int v6), (7, .int v7)], [], hp I F818)) rfl ⟨trivial, trivial, (by decide), trivial, trivial, trivial⟩ ?_
          refine OK_if (fun h830 => ?_) (fun h830 => ?_)
          · refine OK_st 2 okX7_extend (S' := (10, [(6, .int (v6 + (1 : Int32))), (11, .int (0 : Int32)), (10, .int x821), (9, .int x819), (8, .int s0), (0, .ref 43), (1, .ref 16), (2, .int v2), (3, .int v3), (4, .int v4), (5, .int v5), (7, .int v7)], [], hp I F818)) rfl ⟨(by decide), trivial, trivial⟩ ?_
            refine OK_pk [5, 6, 7, 8, 9, 10, 0] rfl ?_
            exact hbk (v6 + (1 : Int32)) I F818
          · refine OK_st 1 okX7_extend (S' := (175, [(11, .int (0 : Int32)), (10, .int x821), (9, .int x819), (8, .int s0), (0, .ref 43), (1, .ref 16), (2, .int v2), (3, .int v3), (4, .int v4), (5, .int v5), (6, .int v6), (7, .int v7)], [.int (1 : Int32)], hp I F818)) rfl ⟨trivial, trivial⟩ ?_
            exact OK_ri okX7_extend rfl rfl (Or.inr ⟨rfl, Or.inr rfl⟩)
        · refine OK_st 3 okX7_extend (S' := ((if x821 ≤ x819 then 145 else 141), [(10, .int x821), (9, .int x819), (8, .int s0), (0, .ref 43), (1, .ref 16), (2, .int v2), (3, .int v3), (4, .int v4), (5, .int v5), (6, .int v6), (7, .int v7)], [], hp I F818)) rfl ⟨trivial, trivial, trivial, trivial⟩ ?_
          refine OK_if (fun h831 => ?_) (fun h831 => ?_)
          · refine OK_st 5 okX7_extend (S' := ((if (0 : Int32) = 0 then 176 else 174), [(11, .int (0 : Int32)), (10, .int x821), (9, .int x819), (8, .int s0), (0, .ref 43), (1, .ref 16), (2, .int v2), (3, .int v3), (4, .int v4), (5, .int v5), (6, .int v6), (7, .int v7)], [], hp I F818)) rfl ⟨trivial, trivial, (by decide), trivial, trivial, trivial⟩ ?_
            refine OK_if (fun h832 => ?_) (fun h832 => ?_)
            · refine OK_st 2 okX7_extend (S' := (10, [(6, .int (v6 + (1 : Int32))), (11, .int (0 : Int32)), (10, .int x821), (9, .int x819), (8, .int s0), (0, .ref 43), (1, .ref 16), (2, .int v2), (3, .int v3), (4, .int v4), (5, .int v5), (7, .int v7)], [], hp I F818)) rfl ⟨(by decide), trivial, trivial⟩ ?_
              refine OK_pk [5, 6, 7, 8, 9, 10, 0] rfl ?_
              exact hbk (v6 + (1 : Int32)) I F818
            · refine OK_st 1 okX7_extend (S' := (175, [(11, .int (0 : Int32)), (10, .int x821), (9, .int x819), (8, .int s0), (0, .ref 43), (1, .ref 16), (2, .int v2), (3, .int v3), (4, .int v4), (5, .int v5), (6, .int v6), (7, .int v7)], [.int (1 : Int32)], hp I F818)) rfl ⟨trivial, trivial⟩ ?_
              exact OK_ri okX7_extend rfl rfl (Or.inr ⟨rfl, Or.inr rfl⟩)
          · refine OK_st 5 okX7_extend (S' := ((if (1 : Int32) = 0 then 176 else 174), [(11, .int (1 : Int32)), (10, .int x821), (9, .int x819), (8, .int s0), (0, .ref 43), (1, .ref 16), (2, .int v2), (3, .int v3), (4, .int v4), (5, .int v5), (6, .int v6), (7, .int v7)], [], hp I F818)) rfl ⟨trivial, trivial, (by decide), trivial, trivial, trivial⟩ ?_
            refine OK_if (fun h833 => ?_) (fun h833 => ?_)
            · refine OK_st 2 okX7_extend (S' := (10, [(6, .int (v6 + (1 : Int32))), (11, .int (1 : Int32)), (10, .int x821), (9, .int x819), (8, .int s0), (0, .ref 43), (1, .ref 16), (2, .int v2), (3, .int v3), (4, .int v4), (5, .int v5), (7, .int v7)], [], hp I F818)) rfl ⟨(by decide), trivial, trivial⟩ ?_
              refine OK_pk [5, 6, 7, 8, 9, 10, 0] rfl ?_
              exact hbk (v6 + (1 : Int32)) I F818
            · refine OK_st 1 okX7_extend (S' := (175, [(11, .int (1 : Int32)), (10, .int x821), (9, .int x819), (8, .int s0), (0, .ref 43), (1, .ref 16), (2, .int v2), (3, .int v3), (4, .int v4), (5, .int v5), (6, .int v6), (7, .int v7)], [.int (1 : Int32)], hp I F818)) rfl ⟨trivial, trivial⟩ ?_
              exact OK_ri okX7_extend rfl rfl (Or.inr ⟨rfl, Or.inr rfl⟩)

def f_X7_extend_j50_10 (rc : Int32 → Int32 → Int32 → Int32 → AI → AF → AQ) (bk ko : Int32 → AI → AF → AQ) (v2 : Int32) (v3 : Int32) (v4 : Int32) (v5 : Int32) (v6 : Int32) (v7 : Int32) (I : AI) (F : AF) : AQ :=
  f_X7_extend_j55_10 rc (bk) ko v2 v3 v4 v5 v6 v7 (1 : Int32) I F
set_option maxRecDepth 20000 in
set_option maxHeartbeats 4000000 in
theorem kf_X7_extend_j50_10 (d : Nat) (rc : Int32 → Int32 → Int32 → Int32 → AI → AF → AQ) (hrc : ∀ v2 v3 v4 v5 I F, OK d mX7_extend true (rc v2 v3 v4 v5 I F) (0, [(0, .ref 43), (1, .ref 16), (2, .int v2), (3, .int v3), (4, .int v4), (5, .int v5)], [], hp I F)) (bk ko : Int32 → AI → AF → AQ) (v2 : Int32) (v3 : Int32) (v4 : Int32) (v5 : Int32) (v6 : Int32) (v7 : Int32) (hbk : ∀ v6 I F, OK (d + 1) mX7_extend true (bk v6 I F) (10, [(0, .ref 43), (1, .ref 16), (2, .int v2), (3, .int v3), (4, .int v4), (5, .int v5), (6, .int v6)], [], hp I F)) (hko : ∀ v6 I F, OK (d + 1) mX7_extend true (ko v6 I F) (182, [(0, .ref 43), (1, .ref 16), (2, .int v2), (3, .int v3), (4, .int v4), (5, .int v5), (6, .int v6)], [], hp I F)) (I : AI) (F : AF) : OK (d + 1) mX7_extend true (f_X7_extend_j50_10 rc bk ko v2 v3 v4 v5 v6 v7 I F) (50, [(0, .ref 43), (1, .ref 16), (2, .int v2), (3, .int v3), (4, .int v4), (5, .int v5), (6, .int v6), (7, .int v7)], [], hp I F) := by
  rw [f_X7_extend_j50_10]
  refine OK_st 2 okX7_extend (S' := (55, [(0, .ref 43), (1, .ref 16), (2, .int v2), (3, .int v3), (4, .int v4), (5, .int v5), (6, .int v6), (7, .int v7)], [.int (1 : Int32)], hp I F)) rfl ⟨trivial, trivial, trivial⟩ ?_
  exact kf_X7_extend_j55_10 d rc hrc (bk) ko v2 v3 v4 v5 v6 v7 hbk hko (1 : Int32) I F

def f_X7_extend_10 (rc : Int32 → Int32 → Int32 → Int32 → AI → AF → AQ) (v2 : Int32) (v3 : Int32) (v4 : Int32) (v5 : Int32) (ko : Int32 → AI → AF → AQ) : Nat → Int32 → AI → AF → AQ
  | 0, _, _, _ => none
  | n + 1, v6, I, F =>
    if (I 11) ≤ v6 then
      ko v6 I F
    else
      bif ab_vin v6 8 then
        if v2 = 0 then
          f_X7_extend_j50_10 rc (f_X7_extend_10 rc v2 v3 v4 v5 ko n) ko v2 v3 v4 v5 v6 ((F 18) v6.toNatClampNeg) I F
        else
          bif ab_vin (v2 - (1 : Int32)) 4 then
            bif ab_vin ((F 34) (v2 - (1 : Int32)).toNatClampNeg) 8 then
              if ¬ ((F 18) v6.toNatClampNeg) = ((F 19) ((F 34) (v2 - (1 : Int32)).toNatClampNeg).toNatClampNeg) then
                f_X7_extend_j55_10 rc (f_X7_extend_10 rc v2 v3 v4 v5 ko n) ko v2 v3 v4 v5 v6 ((F 18) v6.toNatClampNeg) (0 : Int32) I F
              else
                f_X7_extend_j50_10 rc (f_X7_extend_10 rc v2 v3 v4 v5 ko n) ko v2 v3 v4 v5 v6 ((F 18) v6.toNatClampNeg) I F
            else none
          else none
      else none
set_option maxRecDepth 20000 in
set_option maxHeartbeats 4000000 in
theorem kf_X7_extend_10 (d : Nat) (rc : Int32 → Int32 → Int32 → Int32 → AI → AF → AQ) (hrc : ∀ v2 v3 v4 v5 I F, OK d mX7_extend true (rc v2 v3 v4 v5 I F) (0, [(0, .ref 43), (1, .ref 16), (2, .int v2), (3, .int v3), (4, .int v4), (5, .int v5)], [], hp I F)) (v2 : Int32) (v3 : Int32) (v4 : Int32) (v5 : Int32) (ko : Int32 → AI → AF → AQ) (hko : ∀ v6 I F, OK (d + 1) mX7_extend true (ko v6 I F) (182, [(0, .ref 43), (1, .ref 16), (2, .int v2), (3, .int v3), (4, .int v4), (5, .int v5), (6, .int v6)], [], hp I F)) : ∀ n v6 I F, OK (d + 1) mX7_extend true (f_X7_extend_10 rc v2 v3 v4 v5 ko n v6 I F) (10, [(0, .ref 43), (1, .ref 16), (2, .int v2), (3, .int v3), (4, .int v4), (5, .int v5), (6, .int v6)], [], hp I F) := by
  intro n
  induction n with
  | zero =>
    intro v6 I F
    exact OK_no
  | succ n ih =>
    intro v6 I F
    rw [f_X7_extend_10]
    refine OK_st 4 okX7_extend (S' := ((if (I 11) ≤ v6 then 182 else 19), [(0, .ref 43), (1, .ref 16), (2, .int v2), (3, .int v3), (4, .int v4), (5, .int v5), (6, .int v6)], [], hp I F)) rfl ⟨trivial, trivial, trivial, trivial, trivial⟩ ?_
    refine OK_if (fun h811 => ?_) (fun h811 => ?_)
    · exact hko v6 I F
    · refine OK_gd (fun g812 => ?_)
      refine OK_st 7 okX7_extend (S' := ((if v2 = 0 then 50 else 32), [(7, .int ((F 18) v6.toNatClampNeg)), (0, .ref 43), (1, .ref 16), (2, .int v2), (3, .int v3), (4, .int v4), (5, .int v5), (6, .int v6)], [], hp I F)) rfl ⟨trivial, trivial, trivial, (ab_vo g812), (by decide), trivial, trivial, trivial⟩ ?_
      refine OK_if (fun h813 => ?_) (fun h813 => ?_)
      · refine OK_pk [1, 2, 3, 4, 5, 6, 7, 0] rfl ?_
        exact kf_X7_extend_j50_10 d rc hrc (f_X7_extend_10 rc v2 v3 v4 v5 ko n) ko v2 v3 v4 v5 v6 ((F 18) v6.toNatClampNeg) ih hko I F
      · refine OK_gd (fun g834 => ?_)
        refine OK_gd (fun g835 => ?_)
        refine OK_st 11 okX7_extend (S' := ((if ¬ ((F 18) v6.toNatClampNeg) = ((F 19) ((F 34) (v2 - (1 : Int32)).toNatClampNeg).toNatClampNeg) then 54 else 50), [(7, .int ((F 18) v6.toNatClampNeg)), (0, .ref 43), (1, .ref 16), (2, .int v2), (3, .int v3), (4, .int v4), (5, .int v5), (6, .int v6)], [], hp I F)) rfl ⟨trivial, trivial, trivial, trivial, trivial, trivial, trivial, trivial, (ab_vo g834), (ab_vo g835), trivial, trivial⟩ ?_
        refine OK_if (fun h836 => ?_) (fun h836 => ?_)
        · refine OK_st 1 okX7_extend (S' := (55, [(7, .int ((F 18) v6.toNatClampNeg)), (0, .ref 43), (1, .ref 16), (2, .int v2), (3, .int v3), (4, .int v4), (5, .int v5), (6, .int v6)], [.int (0 : Int32)], hp I F)) rfl ⟨trivial, trivial⟩ ?_
          refine OK_pk [1, 2, 3, 4, 5, 6, 7, 0] rfl ?_
          exact kf_X7_extend_j55_10 d rc hrc (f_X7_extend_10 rc v2 v3 v4 v5 ko n) ko v2 v3 v4 v5 v6 ((F 18) v6.toNatClampNeg) ih hko (0 : Int32) I F
        · refine OK_pk [1, 2, 3, 4, 5, 6, 7, 0] rfl ?_
          exact kf_X7_extend_j50_10 d rc hrc (f_X7_extend_10 rc v2 v3 v4 v5 ko n) ko v2 v3 v4 v5 v6 ((F 18) v6.toNatClampNeg) ih hko I F

def f_X7_extend_b (rc : Int32 → Int32 → Int32 → Int32 → AI → AF → AQ) (v2 : Int32) (v3 : Int32) (v4 : Int32) (v5 : Int32) (I : AI) (F : AF) : AQ :=
  if v2 < (4 : Int32) then
    f_X7_extend_10 rc v2 v3 v4 v5 (fun v6_837 I838 F839 =>
      some ((0 : Int32), I838, F839)) ab_fu (0 : Int32) I F
  else
    some ((0 : Int32), I, F)
set_option maxRecDepth 20000 in
set_option maxHeartbeats 4000000 in
theorem kf_X7_extend_b (d : Nat) (rc : Int32 → Int32 → Int32 → Int32 → AI → AF → AQ) (hrc : ∀ v2 v3 v4 v5 I F, OK d mX7_extend true (rc v2 v3 v4 v5 I F) (0, [(0, .ref 43), (1, .ref 16), (2, .int v2), (3, .int v3), (4, .int v4), (5, .int v5)], [], hp I F)) (v2 : Int32) (v3 : Int32) (v4 : Int32) (v5 : Int32) (I : AI) (F : AF) : OK (d + 1) mX7_extend true (f_X7_extend_b rc v2 v3 v4 v5 I F) (0, [(0, .ref 43), (1, .ref 16), (2, .int v2), (3, .int v3), (4, .int v4), (5, .int v5)], [], hp I F) := by
  rw [f_X7_extend_b]
  refine OK_st 3 okX7_extend (S' := ((if v2 < (4 : Int32) then 7 else 5), [(0, .ref 43), (1, .ref 16), (2, .int v2), (3, .int v3), (4, .int v4), (5, .int v5)], [], hp I F)) rfl ⟨trivial, trivial, trivial, trivial⟩ ?_
  refine OK_if (fun h810 => ?_) (fun h810 => ?_)
  · refine OK_st 2 okX7_extend (S' := (10, [(6, .int (0 : Int32)), (0, .ref 43), (1, .ref 16), (2, .int v2), (3, .int v3), (4, .int v4), (5, .int v5)], [], hp I F)) rfl ⟨trivial, (by decide), trivial⟩ ?_
    refine OK_pk [1, 2, 3, 4, 5, 6, 0] rfl ?_
    refine kf_X7_extend_10 d rc hrc v2 v3 v4 v5 _ (fun v6_837 I838 F839 => ?_) ab_fu (0 : Int32) I F
    refine OK_st 1 okX7_extend (S' := (183, [(0, .ref 43), (1, .ref 16), (2, .int v2), (3, .int v3), (4, .int v4), (5, .int v5), (6, .int v6_837)], [.int (0 : Int32)], hp I838 F839)) rfl ⟨trivial, trivial⟩ ?_
    exact OK_ri okX7_extend rfl rfl (Or.inr ⟨rfl, Or.inl rfl⟩)
  · refine OK_st 1 okX7_extend (S' := (6, [(0, .ref 43), (1, .ref 16), (2, .int v2), (3, .int v3), (4, .int v4), (5, .int v5)], [.int (0 : Int32)], hp I F)) rfl ⟨trivial, trivial⟩ ?_
    exact OK_ri okX7_extend rfl rfl (Or.inr ⟨rfl, Or.inl rfl⟩)
def f_X7_extend_n : Nat → Int32 → Int32 → Int32 → Int32 → AI → AF → AQ
  | 0, _, _, _, _, _, _ => none
  | n + 1, v2, v3, v4, v5, I, F => f_X7_extend_b (f_X7_extend_n n) v2 v3 v4 v5 I F
theorem kf_X7_extend_n : ∀ n v2 v3 v4 v5 I F, OK (n + 1) mX7_extend true (f_X7_extend_n n v2 v3 v4 v5 I F) (0, [(0, .ref 43), (1, .ref 16), (2, .int v2), (3, .int v3), (4, .int v4), (5, .int v5)], [], hp I F) := by
  intro n
  induction n with
  | zero =>
    intro v2 v3 v4 v5 I F
    exact OK_no
  | succ n ih =>
    intro v2 v3 v4 v5 I F
    have := kf_X7_extend_b (n + 1) (f_X7_extend_n n) ih v2 v3 v4 v5 I F
    rw [show n + 1 + 1 = n + 1 + 1 by omega]
    exact this
def f_X7_extend : Int32 → Int32 → Int32 → Int32 → AI → AF → AQ := f_X7_extend_n 8
theorem kf_X7_extend (v2 : Int32) (v3 : Int32) (v4 : Int32) (v5 : Int32) (I : AI) (F : AF) : OK 9 mX7_extend true (f_X7_extend v2 v3 v4 v5 I F) (0, [(0, .ref 43), (1, .ref 16), (2, .int v2), (3, .int v3), (4, .int v4), (5, .int v5)], [], hp I F) := kf_X7_extend_n 8 v2 v3 v4 v5 I F

def f_X7_search_2 (ko : Int32 → AI → AF → AQ) : Nat → Int32 → AI → AF → AQ
  | 0, _, _, _ => none
  | n + 1, v2, I, F =>
    if (4 : Int32) < v2 then
      ko v2 I F
    else
      ab_lt (va_up I 20 v2) (fun I809 =>
        ab_bd (f_X7_extend (0 : Int32) (0 : Int32) (1 : Int32) (1 : Int32) I809 F) (fun r840 I841 F842 =>
          if r840 = 0 then
            f_X7_search_2 ko n (v2 + (1 : Int32)) I841 F842
          else
            some (0, I841, F842)))
set_option maxRecDepth 20000 in
set_option maxHeartbeats 4000000 in
theorem kf_X7_search_2 (ko : Int32 → AI → AF → AQ) (hko : ∀ v2 I F, OK 10 mX7_search false (ko v2 I F) (31, [(0, .ref 43), (1, .ref 16), (2, .int v2)], [], hp I F)) : ∀ n v2 I F, OK 10 mX7_search false (f_X7_search_2 ko n v2 I F) (2, [(0, .ref 43), (1, .ref 16), (2, .int v2)], [], hp I F) := by
  intro n
  induction n with
  | zero =>
    intro v2 I F
    exact OK_no
  | succ n ih =>
    intro v2 I F
    rw [f_X7_search_2]
    refine OK_st 3 okX7_search (S' := ((if (4 : Int32) < v2 then 31 else 7), [(0, .ref 43), (1, .ref 16), (2, .int v2)], [], hp I F)) rfl ⟨trivial, trivial, trivial, trivial⟩ ?_
    refine OK_if (fun h808 => ?_) (fun h808 => ?_)
    · exact hko v2 I F
    · refine OK_st 9 okX7_search (S' := (18, [(0, .ref 43), (1, .ref 16), (2, .int v2)], [.int (1 : Int32), .int (1 : Int32), .int (0 : Int32), .int (0 : Int32), .ref 16, .ref 43], hp (va_up I 20 v2) F)) rfl ⟨trivial, trivial, trivial, trivial, trivial, trivial, trivial, trivial, trivial, trivial⟩ ?_
      refine OK_lt (fun I809 => (18, [(0, .ref 43), (1, .ref 16), (2, .int v2)], [.int (1 : Int32), .int (1 : Int32), .int (0 : Int32), .int (0 : Int32), .ref 16, .ref 43], hp I809 F)) (fun I809 => ?_)
      refine OK_cv [.ref 16, .int (0 : Int32), .int (0 : Int32), .int (1 : Int32), .int (1 : Int32)] [] okX7_search okX7_extend rfl rfl cl_RX7_19 rfl rfl (Nat.le_of_ble_eq_true rfl) (by decide) (Nat.le_of_ble_eq_true rfl) (kf_X7_extend (0 : Int32) (0 : Int32) (1 : Int32) (1 : Int32) I809 F) (fun r840 I841 F842 => ?_)
      refine OK_st 1 okX7_search (S' := ((if r840 = 0 then 25 else 24), [(0, .ref 43), (1, .ref 16), (2, .int v2)], [], hp I841 F842)) rfl ⟨trivial, trivial⟩ ?_
      refine OK_if (fun h843 => ?_) (fun h843 => ?_)
      · refine OK_st 2 okX7_search (S' := (2, [(2, .int (v2 + (1 : Int32))), (0, .ref 43), (1, .ref 16)], [], hp I841 F842)) rfl ⟨(by decide), trivial, trivial⟩ ?_
        refine OK_pk [1, 2, 0] rfl ?_
        exact ih (v2 + (1 : Int32)) I841 F842
      · exact OK_rv okX7_search rfl rfl rfl

def f_X7_search (I : AI) (F : AF) : AQ :=
  f_X7_search_2 (fun v2_844 I845 F846 =>
    some (0, (va_up I845 20 (0 : Int32)), F846)) ab_fu (2 : Int32) I F
set_option maxRecDepth 20000 in
set_option maxHeartbeats 4000000 in
theorem kf_X7_search (I : AI) (F : AF) : OK 10 mX7_search false (f_X7_search I F) (0, [(0, .ref 43), (1, .ref 16)], [], hp I F) := by
  rw [f_X7_search]
  refine OK_st 2 okX7_search (S' := (2, [(2, .int (2 : Int32)), (0, .ref 43), (1, .ref 16)], [], hp I F)) rfl ⟨trivial, (by decide), trivial⟩ ?_
  refine OK_pk [1, 2, 0] rfl ?_
  refine kf_X7_search_2 _ (fun v2_844 I845 F846 => ?_) ab_fu (2 : Int32) I F
  refine OK_st 3 okX7_search (S' := (36, [(0, .ref 43), (1, .ref 16), (2, .int v2_844)], [], hp (va_up I845 20 (0 : Int32)) F846)) rfl ⟨trivial, trivial, trivial, trivial⟩ ?_
  exact OK_rv okX7_search rfl rfl rfl

def f_X9_ring (v1 : Int32) (I : AI) (F : AF) : AQ :=
  ab_bd (f_X7_search I F) (fun r847 I848 F849 =>
    if ¬ (I848 20) = 0 then
      if ¬ v1 = (-1 : Int32) then
        if v1 < 0 then
          some ((-1 : Int32), I848, F849)
        else
          if v1 < (I848 20) then
            bif ab_vin v1 4 then
              some (((F849 34) v1.toNatClampNeg), I848, F849)
            else none
          else
            some ((-1 : Int32), I848, F849)
      else
        some ((I848 20), I848, F849)
    else
      some ((-1 : Int32), I848, F849))
set_option maxRecDepth 20000 in
set_option maxHeartbeats 4000000 in
theorem kf_X9_ring (v1 : Int32) (I : AI) (F : AF) : OK 11 mX9_ring true (f_X9_ring v1 I F) (0, [(0, .ref 0), (1, .int v1)], [], hp I F) := by
  rw [f_X9_ring]
  refine OK_st 4 okX9_ring (S' := (8, [(0, .ref 0), (1, .int v1)], [.ref 16, .ref 43], hp I F)) rfl ⟨trivial, trivial, trivial, trivial, trivial⟩ ?_
  refine OK_cv [.ref 16] [] okX9_ring okX7_search rfl rfl cl_RX9_259 rfl rfl (Nat.le_of_ble_eq_true rfl) (by decide) (Nat.le_of_ble_eq_true rfl) (kf_X7_search I F) (fun r847 I848 F849 => ?_)
  refine OK_st 4 okX9_ring (S' := ((if ¬ (I848 20) = 0 then 23 else 21), [(0, .ref 0), (1, .int v1)], [], hp I848 F849)) rfl ⟨trivial, trivial, trivial, trivial, trivial⟩ ?_
  refine OK_if (fun h850 => ?_) (fun h850 => ?_)
  · refine OK_st 3 okX9_ring (S' := ((if ¬ v1 = (-1 : Int32) then 36 else 28), [(0, .ref 0), (1, .int v1)], [], hp I848 F849)) rfl ⟨trivial, trivial, trivial, trivial⟩ ?_
    refine OK_if (fun h851 => ?_) (fun h851 => ?_)
    · refine OK_st 2 okX9_ring (S' := ((if v1 < 0 then 51 else 40), [(0, .ref 0), (1, .int v1)], [], hp I848 F849)) rfl ⟨trivial, trivial, trivial⟩ ?_
      refine OK_if (fun h852 => ?_) (fun h852 => ?_)
      · refine OK_st 2 okX9_ring (S' := (64, [(0, .ref 0), (1, .int v1)], [.int (-1 : Int32)], hp I848 F849)) rfl ⟨trivial, trivial, trivial⟩ ?_
        exact OK_ri okX9_ring rfl rfl (Or.inl rfl)
      · refine OK_st 5 okX9_ring (S' := ((if v1 < (I848 20) then 55 else 51), [(0, .ref 0), (1, .int v1)], [], hp I848 F849)) rfl ⟨trivial, trivial, trivial, trivial, trivial, trivial⟩ ?_
        refine OK_if (fun h853 => ?_) (fun h853 => ?_)
        · refine OK_gd (fun g854 => ?_)
          refine OK_st 5 okX9_ring (S' := (64, [(0, .ref 0), (1, .int v1)], [.int ((F849 34) v1.toNatClampNeg)], hp I848 F849)) rfl ⟨trivial, trivial, trivial, trivial, (ab_vo g854), trivial⟩ ?_
          exact OK_ri okX9_ring rfl rfl (Or.inl rfl)
        · refine OK_st 2 okX9_ring (S' := (64, [(0, .ref 0), (1, .int v1)], [.int (-1 : Int32)], hp I848 F849)) rfl ⟨trivial, trivial, trivial⟩ ?_
          exact OK_ri okX9_ring rfl rfl (Or.inl rfl)
    · refine OK_st 3 okX9_ring (S' := (35, [(0, .ref 0), (1, .int v1)], [.int (I848 20)], hp I848 F849)) rfl ⟨trivial, trivial, trivial, trivial⟩ ?_
      exact OK_ri okX9_ring rfl rfl (Or.inl rfl)
  · refine OK_st 1 okX9_ring (S' := (22, [(0, .ref 0), (1, .int v1)], [.int (-1 : Int32)], hp I848 F849)) rfl ⟨trivial, trivial⟩ ?_
    exact OK_ri okX9_ring rfl rfl (Or.inl rfl)

def f_X7_gainsWithLess_8 (v2 : Int32) (ko : Int32 → Int32 → Int32 → AI → AF → AQ) : Nat → Int32 → Int32 → Int32 → AI → AF → AQ
  | 0, _, _, _, _, _ => none
  | n + 1, v3, v4, v5, I, F =>
    if (I 20) ≤ v5 then
      ko v3 v4 v5 I F
    else
      bif ab_vin v5 4 then
        bif ab_vin ((F 34) v5.toNatClampNeg) 8 then
          ab_lt ((F 21) ((F 34) v5.toNatClampNeg).toNatClampNeg) (fun x863 =>
            bif ab_vin v5 4 then
              bif ab_vin ((F 34) v5.toNatClampNeg) 8 then
                ab_lt (v3 * ((F 20) ((F 34) v5.toNatClampNeg).toNatClampNeg)) (fun x866 =>
                  if ¬ v5 = v2 then
                    f_X7_gainsWithLess_8 v2 ko n x866 (v4 * x863) (v5 + (1 : Int32)) I F
                  else
                    ab_lt (v4 * (if (1 : Int32) < (x863 - (1 : Int32)) then (x863 - (1 : Int32)) else (1 : Int32))) (fun x868 =>
                      f_X7_gainsWithLess_8 v2 ko n x866 x868 (v5 + (1 : Int32)) I F))
              else none
            else none)
        else none
      else none
set_option maxRecDepth 20000 in
set_option maxHeartbeats 4000000 in
theorem kf_X7_gainsWithLess_8 (v2 : Int32) (ko : Int32 → Int32 → Int32 → AI → AF → AQ) (hko : ∀ v3 v4 v5 I F, OK 0 mX7_gainsWithLess true (ko v3 v4 v5 I F) (76, [(0, .ref 43), (1, .ref 16), (2, .int v2), (3, .int v3), (4, .int v4), (5, .int v5)], [], hp I F)) : ∀ n v3 v4 v5 I F, OK 0 mX7_gainsWithLess true (f_X7_gainsWithLess_8 v2 ko n v3 v4 v5 I F) (8, [(0, .ref 43), (1, .ref 16), (2, .int v2), (3, .int v3), (4, .int v4), (5, .int v5)], [], hp I F) := by
  intro n
  induction n with
  | zero =>
    intro v3 v4 v5 I F
    exact OK_no
  | succ n ih =>
    intro v3 v4 v5 I F
    rw [f_X7_gainsWithLess_8]
    refine OK_st 4 okX7_gainsWithLess (S' := ((if (I 20) ≤ v5 then 76 else 17), [(0, .ref 43), (1, .ref 16), (2, .int v2), (3, .int v3), (4, .int v4), (5, .int v5)], [], hp I F)) rfl ⟨trivial, trivial, trivial, trivial, trivial⟩ ?_
    refine OK_if (fun h860 => ?_) (fun h860 => ?_)
    · exact hko v3 v4 v5 I F
    · refine OK_gd (fun g861 => ?_)
      refine OK_gd (fun g862 => ?_)
      refine OK_st 8 okX7_gainsWithLess (S' := (31, [(6, .int ((F 21) ((F 34) v5.toNatClampNeg).toNatClampNeg)), (0, .ref 43), (1, .ref 16), (2, .int v2), (3, .int v3), (4, .int v4), (5, .int v5)], [], hp I F)) rfl ⟨trivial, trivial, trivial, trivial, trivial, (ab_vo g861), (ab_vo g862), (by decide), trivial⟩ ?_
      refine OK_lt (fun x863 => (31, [(6, .int x863), (0, .ref 43), (1, .ref 16), (2, .int v2), (3, .int v3), (4, .int v4), (5, .int v5)], [], hp I F)) (fun x863 => ?_)
      refine OK_gd (fun g864 => ?_)
      refine OK_gd (fun g865 => ?_)
      refine OK_st 10 okX7_gainsWithLess (S' := (46, [(3, .int (v3 * ((F 20) ((F 34) v5.toNatClampNeg).toNatClampNeg))), (6, .int x863), (0, .ref 43), (1, .ref 16), (2, .int v2), (4, .int v4), (5, .int v5)], [], hp I F)) rfl ⟨trivial, trivial, trivial, trivial, trivial, trivial, (ab_vo g864), (ab_vo g865), trivial, (by decide), trivial⟩ ?_
      refine OK_lt (fun x866 => (46, [(3, .int x866), (6, .int x863), (0, .ref 43), (1, .ref 16), (2, .int v2), (4, .int v4), (5, .int v5)], [], hp I F)) (fun x866 => ?_)
      refine OK_st 4 okX7_gainsWithLess (S' := ((if ¬ v5 = v2 then 65 else 54), [(3, .int x866), (6, .int x863), (0, .ref 43), (1, .ref 16), (2, .int v2), (4, .int v4), (5, .int v5)], [.int v4], hp I F)) rfl ⟨trivial, trivial, trivial, trivial, trivial⟩ ?_
      refine OK_if (fun h867 => ?_) (fun h867 => ?_)
      · refine OK_st 5 okX7_gainsWithLess (S' := (8, [(5, .int (v5 + (1 : Int32))), (4, .int (v4 * x863)), (3, .int x866), (6, .int x863), (0, .ref 43), (1, .ref 16), (2, .int v2)], [], hp I F)) rfl ⟨trivial, trivial, (by decide), (by decide), trivial, trivial⟩ ?_
        refine OK_pk [4, 5, 6, 2, 1, 0] rfl ?_
        exact ih x866 (v4 * x863) (v5 + (1 : Int32)) I F
      · refine OK_st 8 okX7_gainsWithLess (S' := (70, [(4, .int (v4 * (if (1 : Int32) < (x863 - (1 : Int32)) then (x863 - (1 : Int32)) else (1 : Int32)))), (3, .int x866), (6, .int x863), (0, .ref 43), (1, .ref 16), (2, .int v2), (5, .int v5)], [], hp I F)) rfl ⟨trivial, trivial, trivial, trivial, (Nat.le_of_ble_eq_true rfl), trivial, trivial, (by decide), trivial⟩ ?_
        refine OK_lt (fun x868 => (70, [(4, .int x868), (3, .int x866), (6, .int x863), (0, .ref 43), (1, .ref 16), (2, .int v2), (5, .int v5)], [], hp I F)) (fun x868 => ?_)
        refine OK_st 2 okX7_gainsWithLess (S' := (8, [(5, .int (v5 + (1 : Int32))), (4, .int x868), (3, .int x866), (6, .int x863), (0, .ref 43), (1, .ref 16), (2, .int v2)], [], hp I F)) rfl ⟨(by decide), trivial, trivial⟩ ?_
        refine OK_pk [4, 5, 6, 2, 1, 0] rfl ?_
        exact ih x866 x868 (v5 + (1 : Int32)) I F

def f_X7_gainsWithLess (v2 : Int32) (I : AI) (F : AF) : AQ :=
  f_X7_gainsWithLess_8 v2 (fun v3_869 v4_870 v5_871 I872 F873 =>
    if v4_870 ≤ v3_869 then
      some ((0 : Int32), I872, F873)
    else
      some ((1 : Int32), I872, F873)) ab_fu (1 : Int32) (1 : Int32) (0 : Int32) I F
set_option maxRecDepth 20000 in
set_option maxHeartbeats 4000000 in
theorem kf_X7_gainsWithLess (v2 : Int32) (I : AI) (F : AF) : OK 0 mX7_gainsWithLess true (f_X7_gainsWithLess v2 I F) (0, [(0, .ref 43), (1, .ref 16), (2, .int v2)], [], hp I F) := by
  rw [f_X7_gainsWithLess]
  refine OK_st 6 okX7_gainsWithLess (S' := (8, [(5, .int (0 : Int32)), (4, .int (1 : Int32)), (3, .int (1 : Int32)), (0, .ref 43), (1, .ref 16), (2, .int v2)], [], hp I F)) rfl ⟨trivial, (by decide), trivial, (by decide), trivial, (by decide), trivial⟩ ?_
  refine OK_pk [3, 4, 5, 2, 1, 0] rfl ?_
  refine kf_X7_gainsWithLess_8 v2 _ (fun v3_869 v4_870 v5_871 I872 F873 => ?_) ab_fu (1 : Int32) (1 : Int32) (0 : Int32) I F
  refine OK_st 3 okX7_gainsWithLess (S' := ((if v4_870 ≤ v3_869 then 86 else 82), [(0, .ref 43), (1, .ref 16), (2, .int v2), (3, .int v3_869), (4, .int v4_870), (5, .int v5_871)], [], hp I872 F873)) rfl ⟨trivial, trivial, trivial, trivial⟩ ?_
  refine OK_if (fun h874 => ?_) (fun h874 => ?_)
  · refine OK_st 1 okX7_gainsWithLess (S' := (87, [(0, .ref 43), (1, .ref 16), (2, .int v2), (3, .int v3_869), (4, .int v4_870), (5, .int v5_871)], [.int (0 : Int32)], hp I872 F873)) rfl ⟨trivial, trivial⟩ ?_
    exact OK_ri okX7_gainsWithLess rfl rfl (Or.inr ⟨rfl, Or.inl rfl⟩)
  · refine OK_st 2 okX7_gainsWithLess (S' := (87, [(0, .ref 43), (1, .ref 16), (2, .int v2), (3, .int v3_869), (4, .int v4_870), (5, .int v5_871)], [.int (1 : Int32)], hp I872 F873)) rfl ⟨trivial, trivial, trivial⟩ ?_
    exact OK_ri okX7_gainsWithLess rfl rfl (Or.inr ⟨rfl, Or.inr rfl⟩)

def f_X7_leastMending_4 (ko : Int32 → Int32 → AI → AF → AQ) : Nat → Int32 → Int32 → AI → AF → AQ
  | 0, _, _, _, _ => none
  | n + 1, v2, v3, I, F =>
    if (I 20) ≤ v3 then
      ko v2 v3 I F
    else
      if v2 = (-1 : Int32) then
        ab_bd (f_X7_gainsWithLess v3 I F) (fun r875 I876 F877 =>
          if ¬ r875 = 0 then
            f_X7_leastMending_4 ko n v2 (v3 + (1 : Int32)) I876 F877
          else
            bif ab_vin v3 4 then
              f_X7_leastMending_4 ko n ((F877 34) v3.toNatClampNeg) (v3 + (1 : Int32)) I876 F877
            else none)
      else
        bif ab_vin v3 4 then
          if v2 ≤ ((F 34) v3.toNatClampNeg) then
            f_X7_leastMending_4 ko n v2 (v3 + (1 : Int32)) I F
          else
            ab_bd (f_X7_gainsWithLess v3 I F) (fun r882 I883 F884 =>
              if ¬ r882 = 0 then
                f_X7_leastMending_4 ko n v2 (v3 + (1 : Int32)) I883 F884
              else
                bif ab_vin v3 4 then
                  f_X7_leastMending_4 ko n ((F884 34) v3.toNatClampNeg) (v3 + (1 : Int32)) I883 F884
                else none)
        else none
set_option maxRecDepth 20000 in
set_option maxHeartbeats 4000000 in
theorem kf_X7_leastMending_4 (ko : Int32 → Int32 → AI → AF → AQ) (hko : ∀ v2 v3 I F, OK 1 mX7_leastMending true (ko v2 v3 I F) (49, [(0, .ref 43), (1, .ref 16), (2, .int v2), (3, .int v3)], [], hp I F)) : ∀ n v2 v3 I F, OK 1 mX7_leastMending true (f_X7_leastMending_4 ko n v2 v3 I F) (4, [(0, .ref 43), (1, .ref 16), (2, .int v2), (3, .int v3)], [], hp I F) := by
  intro n
  induction n with
  | zero =>
    intro v2 v3 I F
    exact OK_no
  | succ n ih =>
    intro v2 v3 I F
    rw [f_X7_leastMending_4]
    refine OK_st 4 okX7_leastMending (S' := ((if (I 20) ≤ v3 then 49 else 12), [(0, .ref 43), (1, .ref 16), (2, .int v2), (3, .int v3)], [], hp I F)) rfl ⟨trivial, trivial, trivial, trivial, trivial⟩ ?_
    refine OK_if (fun h858 => ?_) (fun h858 => ?_)
    · exact hko v2 v3 I F
    · refine OK_st 3 okX7_leastMending (S' := ((if v2 = (-1 : Int32) then 27 else 17), [(0, .ref 43), (1, .ref 16), (2, .int v2), (3, .int v3)], [], hp I F)) rfl ⟨trivial, trivial, trivial, trivial⟩ ?_
      refine OK_if (fun h859 => ?_) (fun h859 => ?_)
      · refine OK_st 3 okX7_leastMending (S' := (30, [(0, .ref 43), (1, .ref 16), (2, .int v2), (3, .int v3)], [.int v3, .ref 16, .ref 43], hp I F)) rfl ⟨trivial, trivial, trivial, trivial⟩ ?_
        refine OK_cv [.ref 16, .int v3] [] okX7_leastMending okX7_gainsWithLess rfl rfl cl_RX7_40 rfl rfl (Nat.le_of_ble_eq_true rfl) (by decide) (Nat.le_of_ble_eq_true rfl) (kf_X7_gainsWithLess v3 I F) (fun r875 I876 F877 => ?_)
        refine OK_st 1 okX7_leastMending (S' := ((if ¬ r875 = 0 then 43 else 36), [(0, .ref 43), (1, .ref 16), (2, .int v2), (3, .int v3)], [], hp I876 F877)) rfl ⟨trivial, trivial⟩ ?_
        refine OK_if (fun h878 => ?_) (fun h878 => ?_)
        · refine OK_st 2 okX7_leastMending (S' := (4, [(3, .int (v3 + (1 : Int32))), (0, .ref 43), (1, .ref 16), (2, .int v2)], [], hp I876 F877)) rfl ⟨(by decide), trivial, trivial⟩ ?_
          refine OK_pk [1, 2, 3, 0] rfl ?_
          exact ih v2 (v3 + (1 : Int32)) I876 F877
        · refine OK_gd (fun g879 => ?_)
          refine OK_st 7 okX7_leastMending (S' := (4, [(3, .int (v3 + (1 : Int32))), (2, .int ((F877 34) v3.toNatClampNeg)), (0, .ref 43), (1, .ref 16)], [], hp I876 F877)) rfl ⟨trivial, trivial, trivial, (ab_vo g879), (by decide), (by decide), trivial, trivial⟩ ?_
          refine OK_pk [2, 3, 1, 0] rfl ?_
          exact ih ((F877 34) v3.toNatClampNeg) (v3 + (1 : Int32)) I876 F877
      · refine OK_gd (fun g880 => ?_)
        refine OK_st 6 okX7_leastMending (S' := ((if v2 ≤ ((F 34) v3.toNatClampNeg) then 43 else 27), [(0, .ref 43), (1, .ref 16), (2, .int v2), (3, .int v3)], [], hp I F)) rfl ⟨trivial, trivial, trivial, (ab_vo g880), trivial, trivial, trivial⟩ ?_
        refine OK_if (fun h881 => ?_) (fun h881 => ?_)
        · refine OK_st 2 okX7_leastMending (S' := (4, [(3, .int (v3 + (1 : Int32))), (0, .ref 43), (1, .ref 16), (2, .int v2)], [], hp I F)) rfl ⟨(by decide), trivial, trivial⟩ ?_
          refine OK_pk [1, 2, 3, 0] rfl ?_
          exact ih v2 (v3 + (1 : Int32)) I F
        · refine OK_st 3 okX7_leastMending (S' := (30, [(0, .ref 43), (1, .ref 16), (2, .int v2), (3, .int v3)], [.int v3, .ref 16, .ref 43], hp I F)) rfl ⟨trivial, trivial, trivial, trivial⟩ ?_
          refine OK_cv [.ref 16, .int v3] [] okX7_leastMending okX7_gainsWithLess rfl rfl cl_RX7_40 rfl rfl (Nat.le_of_ble_eq_true rfl) (by decide) (Nat.le_of_ble_eq_true rfl) (kf_X7_gainsWithLess v3 I F) (fun r882 I883 F884 => ?_)
          refine OK_st 1 okX7_leastMending (S' := ((if ¬ r882 = 0 then 43 else 36), [(0, .ref 43), (1, .ref 16), (2, .int v2), (3, .int v3)], [], hp I883 F884)) rfl ⟨trivial, trivial⟩ ?_
          refine OK_if (fun h885 => ?_) (fun h885 => ?_)
          · refine OK_st 2 okX7_leastMending (S' := (4, [(3, .int (v3 + (1 : Int32))), (0, .ref 43), (1, .ref 16), (2, .int v2)], [], hp I883 F884)) rfl ⟨(by decide), trivial, trivial⟩ ?_
            refine OK_pk [1, 2, 3, 0] rfl ?_
            exact ih v2 (v3 + (1 : Int32)) I883 F884
          · refine OK_gd (fun g886 => ?_)
            refine OK_st 7 okX7_leastMending (S' := (4, [(3, .int (v3 + (1 : Int32))), (2, .int ((F884 34) v3.toNatClampNeg)), (0, .ref 43), (1, .ref 16)], [], hp I883 F884)) rfl ⟨trivial, trivial, trivial, (ab_vo g886), (by decide), (by decide), trivial, trivial⟩ ?_
            refine OK_pk [2, 3, 1, 0] rfl ?_
            exact ih ((F884 34) v3.toNatClampNeg) (v3 + (1 : Int32)) I883 F884

def f_X7_leastMending (I : AI) (F : AF) : AQ :=
  f_X7_leastMending_4 (fun v2_887 v3_888 I889 F890 =>
    some (v2_887, I889, F890)) ab_fu (-1 : Int32) (0 : Int32) I F
set_option maxRecDepth 20000 in
set_option maxHeartbeats 4000000 in
theorem kf_X7_leastMending (I : AI) (F : AF) : OK 1 mX7_leastMending true (f_X7_leastMending I F) (0, [(0, .ref 43), (1, .ref 16)], [], hp I F) := by
  rw [f_X7_leastMending]
  refine OK_st 4 okX7_leastMending (S' := (4, [(3, .int (0 : Int32)), (2, .int (-1 : Int32)), (0, .ref 43), (1, .ref 16)], [], hp I F)) rfl ⟨trivial, (by decide), trivial, (by decide), trivial⟩ ?_
  refine OK_pk [2, 3, 1, 0] rfl ?_
  refine kf_X7_leastMending_4 _ (fun v2_887 v3_888 I889 F890 => ?_) ab_fu (-1 : Int32) (0 : Int32) I F
  refine OK_st 1 okX7_leastMending (S' := (50, [(0, .ref 43), (1, .ref 16), (2, .int v2_887), (3, .int v3_888)], [.int v2_887], hp I889 F890)) rfl ⟨trivial, trivial⟩ ?_
  exact OK_ri okX7_leastMending rfl rfl (Or.inl rfl)

def f_X9_mended (I : AI) (F : AF) : AQ :=
  ab_bd (f_X7_search I F) (fun r855 I856 F857 =>
    ab_bd (f_X7_leastMending I856 F857) (fun r891 I892 F893 =>
      some (r891, I892, F893)))
set_option maxRecDepth 20000 in
set_option maxHeartbeats 4000000 in
theorem kf_X9_mended (I : AI) (F : AF) : OK 11 mX9_mended true (f_X9_mended I F) (0, [(0, .ref 0)], [], hp I F) := by
  rw [f_X9_mended]
  refine OK_st 4 okX9_mended (S' := (8, [(0, .ref 0)], [.ref 16, .ref 43], hp I F)) rfl ⟨trivial, trivial, trivial, trivial, trivial⟩ ?_
  refine OK_cv [.ref 16] [] okX9_mended okX7_search rfl rfl cl_RX9_259 rfl rfl (Nat.le_of_ble_eq_true rfl) (by decide) (Nat.le_of_ble_eq_true rfl) (kf_X7_search I F) (fun r855 I856 F857 => ?_)
  refine OK_st 4 okX9_mended (S' := (19, [(0, .ref 0)], [.ref 16, .ref 43], hp I856 F857)) rfl ⟨trivial, trivial, trivial, trivial, trivial⟩ ?_
  refine OK_cv [.ref 16] [] okX9_mended okX7_leastMending rfl rfl cl_RX9_267 rfl rfl (Nat.le_of_ble_eq_true rfl) (by decide) (Nat.le_of_ble_eq_true rfl) (kf_X7_leastMending I856 F857) (fun r891 I892 F893 => ?_)
  exact OK_ri okX9_mended rfl rfl (Or.inl rfl)

def f_J6_bitCount_0f7a4 (v0 : Int32) (I : AI) (F : AF) : AQ :=
  ab_lt (v0 - (((v0.toUInt32 >>> ((1 : Int32).toUInt32 &&& Int32.toUInt32 31)).toInt32) &&& (1431655765 : Int32))) (fun x898 =>
    ab_lt ((x898 &&& (858993459 : Int32)) + (((x898.toUInt32 >>> ((2 : Int32).toUInt32 &&& Int32.toUInt32 31)).toInt32) &&& (858993459 : Int32))) (fun x899 =>
      ab_lt ((x899 + ((x899.toUInt32 >>> ((4 : Int32).toUInt32 &&& Int32.toUInt32 31)).toInt32)) &&& (252645135 : Int32)) (fun x900 =>
        ab_lt (x900 + ((x900.toUInt32 >>> ((8 : Int32).toUInt32 &&& Int32.toUInt32 31)).toInt32)) (fun x901 =>
          ab_lt (x901 + ((x901.toUInt32 >>> ((16 : Int32).toUInt32 &&& Int32.toUInt32 31)).toInt32)) (fun x902 =>
            some ((x902 &&& (63 : Int32)), I, F))))))
set_option maxRecDepth 20000 in
set_option maxHeartbeats 4000000 in
theorem kf_J6_bitCount_0f7a4 (v0 : Int32) (I : AI) (F : AF) : OK 0 mJ6_bitCount_0f7a4 true (f_J6_bitCount_0f7a4 v0 I F) (0, [(0, .int v0)], [], hp I F) := by
  rw [f_J6_bitCount_0f7a4]
  refine OK_st 8 okJ6_bitCount_0f7a4 (S' := (10, [(0, .int (v0 - (((v0.toUInt32 >>> ((1 : Int32).toUInt32 &&& Int32.toUInt32 31)).toInt32) &&& (1431655765 : Int32))))], [], hp I F)) rfl ⟨trivial, trivial, trivial, trivial, trivial, trivial, trivial, (by decide), trivial⟩ ?_
  refine OK_lt (fun x898 => (10, [(0, .int x898)], [], hp I F)) (fun x898 => ?_)
  refine OK_st 10 okJ6_bitCount_0f7a4 (S' := (24, [(0, .int ((x898 &&& (858993459 : Int32)) + (((x898.toUInt32 >>> ((2 : Int32).toUInt32 &&& Int32.toUInt32 31)).toInt32) &&& (858993459 : Int32))))], [], hp I F)) rfl ⟨trivial, trivial, trivial, trivial, trivial, trivial, trivial, trivial, trivial, (by decide), trivial⟩ ?_
  refine OK_lt (fun x899 => (24, [(0, .int x899)], [], hp I F)) (fun x899 => ?_)
  refine OK_st 8 okJ6_bitCount_0f7a4 (S' := (34, [(0, .int ((x899 + ((x899.toUInt32 >>> ((4 : Int32).toUInt32 &&& Int32.toUInt32 31)).toInt32)) &&& (252645135 : Int32)))], [], hp I F)) rfl ⟨trivial, trivial, trivial, trivial, trivial, trivial, trivial, (by decide), trivial⟩ ?_
  refine OK_lt (fun x900 => (34, [(0, .int x900)], [], hp I F)) (fun x900 => ?_)
  refine OK_st 6 okJ6_bitCount_0f7a4 (S' := (41, [(0, .int (x900 + ((x900.toUInt32 >>> ((8 : Int32).toUInt32 &&& Int32.toUInt32 31)).toInt32)))], [], hp I F)) rfl ⟨trivial, trivial, trivial, trivial, trivial, (by decide), trivial⟩ ?_
  refine OK_lt (fun x901 => (41, [(0, .int x901)], [], hp I F)) (fun x901 => ?_)
  refine OK_st 6 okJ6_bitCount_0f7a4 (S' := (48, [(0, .int (x901 + ((x901.toUInt32 >>> ((16 : Int32).toUInt32 &&& Int32.toUInt32 31)).toInt32)))], [], hp I F)) rfl ⟨trivial, trivial, trivial, trivial, trivial, (by decide), trivial⟩ ?_
  refine OK_lt (fun x902 => (48, [(0, .int x902)], [], hp I F)) (fun x902 => ?_)
  refine OK_st 3 okJ6_bitCount_0f7a4 (S' := (52, [(0, .int x902)], [.int (x902 &&& (63 : Int32))], hp I F)) rfl ⟨trivial, trivial, trivial, trivial⟩ ?_
  exact OK_ri okJ6_bitCount_0f7a4 rfl rfl (Or.inl rfl)

def f_X1_search_7 (ko : Int32 → AI → AF → AQ) : Nat → Int32 → AI → AF → AQ
  | 0, _, _, _ => none
  | n + 1, v2, I, F =>
    if (6 : Int32) ≤ v2 then
      ko v2 I F
    else
      bif ab_vin v2 6 then
        ab_lt (va_up F 36 (upd (F 36) v2.toNatClampNeg (-1 : Int32))) (fun F910 =>
          ab_bd (f_X8_lives v2 I F910) (fun r911 I912 F913 =>
            if r911 = 0 then
              f_X1_search_7 ko n (v2 + (1 : Int32)) I912 F913
            else
              bif ab_vin (I912 21) 6 then
                ab_lt (va_up I912 21 ((I912 21) + (1 : Int32))) (fun I916 =>
                  ab_lt (va_up F913 37 (upd (F913 37) (I912 21).toNatClampNeg v2)) (fun F917 =>
                    f_X1_search_7 ko n (v2 + (1 : Int32)) I916 F917))
              else none))
      else none
set_option maxRecDepth 20000 in
set_option maxHeartbeats 4000000 in
theorem kf_X1_search_7 (ko : Int32 → AI → AF → AQ) (hko : ∀ v2 I F, OK 3 mX1_search false (ko v2 I F) (54, [(0, .ref 45), (1, .ref 27), (2, .int v2)], [], hp I F)) : ∀ n v2 I F, OK 3 mX1_search false (f_X1_search_7 ko n v2 I F) (7, [(0, .ref 45), (1, .ref 27), (2, .int v2)], [], hp I F) := by
  intro n
  induction n with
  | zero =>
    intro v2 I F
    exact OK_no
  | succ n ih =>
    intro v2 I F
    rw [f_X1_search_7]
    refine OK_st 3 okX1_search (S' := ((if (6 : Int32) ≤ v2 then 54 else 13), [(0, .ref 45), (1, .ref 27), (2, .int v2)], [], hp I F)) rfl ⟨trivial, trivial, trivial, trivial⟩ ?_
    refine OK_if (fun h908 => ?_) (fun h908 => ?_)
    · exact hko v2 I F
    · refine OK_gd (fun g909 => ?_)
      refine OK_st 7 okX1_search (S' := (22, [(0, .ref 45), (1, .ref 27), (2, .int v2)], [.int v2, .ref 27], hp I (va_up F 36 (upd (F 36) v2.toNatClampNeg (-1 : Int32))))) rfl ⟨trivial, trivial, trivial, trivial, (ab_vo g909), trivial, trivial, trivial⟩ ?_
      refine OK_lt (fun F910 => (22, [(0, .ref 45), (1, .ref 27), (2, .int v2)], [.int v2, .ref 27], hp I F910)) (fun F910 => ?_)
      refine OK_cv [.int v2] [] okX1_search okX8_lives rfl rfl cl_RX1_25 rfl rfl (Nat.le_of_ble_eq_true rfl) (by decide) (Nat.le_of_ble_eq_true rfl) (kf_X8_lives v2 I F910) (fun r911 I912 F913 => ?_)
      refine OK_st 1 okX1_search (S' := ((if r911 = 0 then 48 else 28), [(0, .ref 45), (1, .ref 27), (2, .int v2)], [], hp I912 F913)) rfl ⟨trivial, trivial⟩ ?_
      refine OK_if (fun h914 => ?_) (fun h914 => ?_)
      · refine OK_st 2 okX1_search (S' := (7, [(2, .int (v2 + (1 : Int32))), (0, .ref 45), (1, .ref 27)], [], hp I912 F913)) rfl ⟨(by decide), trivial, trivial⟩ ?_
        refine OK_pk [1, 2, 0] rfl ?_
        exact ih (v2 + (1 : Int32)) I912 F913
      · refine OK_gd (fun g915 => ?_)
        refine OK_st 14 okX1_search (S' := (7, [(2, .int (v2 + (1 : Int32))), (0, .ref 45), (1, .ref 27)], [], hp (va_up I912 21 ((I912 21) + (1 : Int32))) (va_up F913 37 (upd (F913 37) (I912 21).toNatClampNeg v2)))) rfl ⟨trivial, trivial, trivial, trivial, trivial, (ab_vo g915), trivial, rfl, trivial, trivial, trivial, trivial, (by decide), trivial, trivial⟩ ?_
        refine OK_lt (fun I916 => (7, [(2, .int (v2 + (1 : Int32))), (0, .ref 45), (1, .ref 27)], [], hp I916 (va_up F913 37 (upd (F913 37) (I912 21).toNatClampNeg v2)))) (fun I916 => ?_)
        refine OK_lt (fun F917 => (7, [(2, .int (v2 + (1 : Int32))), (0, .ref 45), (1, .ref 27)], [], hp I916 F917)) (fun F917 => ?_)
        refine OK_pk [1, 2, 0] rfl ?_
        exact ih (v2 + (1 : Int32)) I916 F917

def f_X1_isFree (v1 : Int32) (v2 : Int32) (v3 : Int32) (I : AI) (F : AF) : AQ :=
  if v3 = v2 then
    some ((0 : Int32), I, F)
  else
    bif ab_vin v3 6 then
      if ¬ ((v1 >>> (((F 37) v3.toNatClampNeg) &&& 31)) &&& (1 : Int32)) = 0 then
        some ((0 : Int32), I, F)
      else
        some ((1 : Int32), I, F)
    else none
set_option maxRecDepth 20000 in
set_option maxHeartbeats 4000000 in
theorem kf_X1_isFree (v1 : Int32) (v2 : Int32) (v3 : Int32) (I : AI) (F : AF) : OK 0 mX1_isFree true (f_X1_isFree v1 v2 v3 I F) (0, [(0, .ref 45), (1, .int v1), (2, .int v2), (3, .int v3)], [], hp I F) := by
  rw [f_X1_isFree]
  refine OK_st 3 okX1_isFree (S' := ((if v3 = v2 then 22 else 5), [(0, .ref 45), (1, .int v1), (2, .int v2), (3, .int v3)], [], hp I F)) rfl ⟨trivial, trivial, trivial, trivial⟩ ?_
  refine OK_if (fun h931 => ?_) (fun h931 => ?_)
  · refine OK_st 1 okX1_isFree (S' := (23, [(0, .ref 45), (1, .int v1), (2, .int v2), (3, .int v3)], [.int (0 : Int32)], hp I F)) rfl ⟨trivial, trivial⟩ ?_
    exact OK_ri okX1_isFree rfl rfl (Or.inr ⟨rfl, Or.inl rfl⟩)
  · refine OK_gd (fun g932 => ?_)
    refine OK_st 9 okX1_isFree (S' := ((if ¬ ((v1 >>> (((F 37) v3.toNatClampNeg) &&& 31)) &&& (1 : Int32)) = 0 then 22 else 18), [(0, .ref 45), (1, .int v1), (2, .int v2), (3, .int v3)], [], hp I F)) rfl ⟨trivial, trivial, trivial, trivial, (ab_vo g932), trivial, trivial, trivial, trivial, trivial⟩ ?_
    refine OK_if (fun h933 => ?_) (fun h933 => ?_)
    · refine OK_st 1 okX1_isFree (S' := (23, [(0, .ref 45), (1, .int v1), (2, .int v2), (3, .int v3)], [.int (0 : Int32)], hp I F)) rfl ⟨trivial, trivial⟩ ?_
      exact OK_ri okX1_isFree rfl rfl (Or.inr ⟨rfl, Or.inl rfl⟩)
    · refine OK_st 2 okX1_isFree (S' := (23, [(0, .ref 45), (1, .int v1), (2, .int v2), (3, .int v3)], [.int (1 : Int32)], hp I F)) rfl ⟨trivial, trivial, trivial⟩ ?_
      exact OK_ri okX1_isFree rfl rfl (Or.inr ⟨rfl, Or.inr rfl⟩)

def f_X1_apartBy (v2 : Int32) (v3 : Int32) (v4 : Int32) (I : AI) (F : AF) : AQ :=
  bif ab_vin v3 6 then
    ab_bd (f_X8_lengthOf ((F 37) v3.toNatClampNeg) I F) (fun r939 I940 F941 =>
      bif ab_vin v4 6 then
        ab_bd (f_X8_lengthOf ((F941 37) v4.toNatClampNeg) I940 F941) (fun r943 I944 F945 =>
          ab_lt (if 0 ≤ (r939 - r943) then (r939 - r943) else 0 - (r939 - r943)) (fun x946 =>
            bif ab_vin v4 6 then
              bif ab_vin (v2 ||| ((1 : Int32) <<< (((F945 37) v4.toNatClampNeg) &&& 31))) 64 then
                some ((x946 + ((F945 35) (v2 ||| ((1 : Int32) <<< (((F945 37) v4.toNatClampNeg) &&& 31))).toNatClampNeg)), I944, F945)
              else none
            else none))
      else none)
  else none
set_option maxRecDepth 20000 in
set_option maxHeartbeats 4000000 in
theorem kf_X1_apartBy (v2 : Int32) (v3 : Int32) (v4 : Int32) (I : AI) (F : AF) : OK 1 mX1_apartBy true (f_X1_apartBy v2 v3 v4 I F) (0, [(0, .ref 45), (1, .ref 27), (2, .int v2), (3, .int v3), (4, .int v4)], [], hp I F) := by
  rw [f_X1_apartBy]
  refine OK_gd (fun g938 => ?_)
  refine OK_st 5 okX1_apartBy (S' := (7, [(0, .ref 45), (1, .ref 27), (2, .int v2), (3, .int v3), (4, .int v4)], [.int ((F 37) v3.toNatClampNeg), .ref 27], hp I F)) rfl ⟨trivial, trivial, trivial, trivial, (ab_vo g938), trivial⟩ ?_
  refine OK_cv [.int ((F 37) v3.toNatClampNeg)] [] okX1_apartBy okX8_lengthOf rfl rfl cl_RX1_64 rfl rfl (Nat.le_of_ble_eq_true rfl) (by decide) (Nat.le_of_ble_eq_true rfl) (kf_X8_lengthOf ((F 37) v3.toNatClampNeg) I F) (fun r939 I940 F941 => ?_)
  refine OK_gd (fun g942 => ?_)
  refine OK_st 5 okX1_apartBy (S' := (18, [(0, .ref 45), (1, .ref 27), (2, .int v2), (3, .int v3), (4, .int v4)], [.int ((F941 37) v4.toNatClampNeg), .ref 27, .int r939], hp I940 F941)) rfl ⟨trivial, trivial, trivial, trivial, (ab_vo g942), trivial⟩ ?_
  refine OK_cv [.int ((F941 37) v4.toNatClampNeg)] [.int r939] okX1_apartBy okX8_lengthOf rfl rfl cl_RX1_64 rfl rfl (Nat.le_of_ble_eq_true rfl) (by decide) (Nat.le_of_ble_eq_true rfl) (kf_X8_lengthOf ((F941 37) v4.toNatClampNeg) I940 F941) (fun r943 I944 F945 => ?_)
  refine OK_st 3 okX1_apartBy (S' := (27, [(5, .int (if 0 ≤ (r939 - r943) then (r939 - r943) else 0 - (r939 - r943))), (0, .ref 45), (1, .ref 27), (2, .int v2), (3, .int v3), (4, .int v4)], [], hp I944 F945)) rfl ⟨trivial, (Nat.le_of_ble_eq_true rfl), (by decide), trivial⟩ ?_
  refine OK_lt (fun x946 => (27, [(5, .int x946), (0, .ref 45), (1, .ref 27), (2, .int v2), (3, .int v3), (4, .int v4)], [], hp I944 F945)) (fun x946 => ?_)
  refine OK_gd (fun g947 => ?_)
  refine OK_gd (fun g948 => ?_)
  refine OK_st 13 okX1_apartBy (S' := (46, [(5, .int x946), (0, .ref 45), (1, .ref 27), (2, .int v2), (3, .int v3), (4, .int v4)], [.int (x946 + ((F945 35) (v2 ||| ((1 : Int32) <<< (((F945 37) v4.toNatClampNeg) &&& 31))).toNatClampNeg))], hp I944 F945)) rfl ⟨trivial, trivial, trivial, trivial, trivial, trivial, trivial, trivial, (ab_vo g947), trivial, trivial, (ab_vo g948), trivial, trivial⟩ ?_
  exact OK_ri okX1_apartBy rfl rfl (Or.inl rfl)

def f_X1_leastFrom_22 (v2 : Int32) (v3 : Int32) (ko : Int32 → Int32 → AI → AF → AQ) : Nat → Int32 → Int32 → AI → AF → AQ
  | 0, _, _, _, _ => none
  | n + 1, v4, v5, I, F =>
    if (I 21) ≤ v5 then
      ko v4 v5 I F
    else
      ab_bd (f_X1_isFree v2 v3 v5 I F) (fun r934 I935 F936 =>
        if r934 = 0 then
          f_X1_leastFrom_22 v2 v3 ko n v4 (v5 + (1 : Int32)) I935 F936
        else
          ab_bd (f_X1_apartBy v2 v3 v5 I935 F936) (fun r949 I950 F951 =>
            ab_lt (if r949 < v4 then r949 else v4) (fun x952 =>
              f_X1_leastFrom_22 v2 v3 ko n x952 (v5 + (1 : Int32)) I950 F951)))
set_option maxRecDepth 20000 in
set_option maxHeartbeats 4000000 in
theorem kf_X1_leastFrom_22 (v2 : Int32) (v3 : Int32) (ko : Int32 → Int32 → AI → AF → AQ) (hko : ∀ v4 v5 I F, OK 2 mX1_leastFrom true (ko v4 v5 I F) (64, [(0, .ref 45), (1, .ref 27), (2, .int v2), (3, .int v3), (4, .int v4), (5, .int v5)], [], hp I F)) : ∀ n v4 v5 I F, OK 2 mX1_leastFrom true (f_X1_leastFrom_22 v2 v3 ko n v4 v5 I F) (22, [(0, .ref 45), (1, .ref 27), (2, .int v2), (3, .int v3), (4, .int v4), (5, .int v5)], [], hp I F) := by
  intro n
  induction n with
  | zero =>
    intro v4 v5 I F
    exact OK_no
  | succ n ih =>
    intro v4 v5 I F
    rw [f_X1_leastFrom_22]
    refine OK_st 4 okX1_leastFrom (S' := ((if (I 21) ≤ v5 then 64 else 31), [(0, .ref 45), (1, .ref 27), (2, .int v2), (3, .int v3), (4, .int v4), (5, .int v5)], [], hp I F)) rfl ⟨trivial, trivial, trivial, trivial, trivial⟩ ?_
    refine OK_if (fun h930 => ?_) (fun h930 => ?_)
    · exact hko v4 v5 I F
    · refine OK_st 4 okX1_leastFrom (S' := (36, [(0, .ref 45), (1, .ref 27), (2, .int v2), (3, .int v3), (4, .int v4), (5, .int v5)], [.int v5, .int v3, .int v2, .ref 45], hp I F)) rfl ⟨trivial, trivial, trivial, trivial, trivial⟩ ?_
      refine OK_cv [.int v2, .int v3, .int v5] [] okX1_leastFrom okX1_isFree rfl rfl cl_RX1_50 rfl rfl (Nat.le_of_ble_eq_true rfl) (by decide) (Nat.le_of_ble_eq_true rfl) (kf_X1_isFree v2 v3 v5 I F) (fun r934 I935 F936 => ?_)
      refine OK_st 1 okX1_leastFrom (S' := ((if r934 = 0 then 58 else 42), [(0, .ref 45), (1, .ref 27), (2, .int v2), (3, .int v3), (4, .int v4), (5, .int v5)], [], hp I935 F936)) rfl ⟨trivial, trivial⟩ ?_
      refine OK_if (fun h937 => ?_) (fun h937 => ?_)
      · refine OK_st 2 okX1_leastFrom (S' := (22, [(5, .int (v5 + (1 : Int32))), (0, .ref 45), (1, .ref 27), (2, .int v2), (3, .int v3), (4, .int v4)], [], hp I935 F936)) rfl ⟨(by decide), trivial, trivial⟩ ?_
        refine OK_pk [1, 2, 3, 4, 5, 0] rfl ?_
        exact ih v4 (v5 + (1 : Int32)) I935 F936
      · refine OK_st 6 okX1_leastFrom (S' := (50, [(0, .ref 45), (1, .ref 27), (2, .int v2), (3, .int v3), (4, .int v4), (5, .int v5)], [.int v5, .int v3, .int v2, .ref 27, .ref 45, .int v4], hp I935 F936)) rfl ⟨trivial, trivial, trivial, trivial, trivial, trivial, trivial⟩ ?_
        refine OK_cv [.ref 27, .int v2, .int v3, .int v5] [.int v4] okX1_leastFrom okX1_apartBy rfl rfl cl_RX1_54 rfl rfl (Nat.le_of_ble_eq_true rfl) (by decide) (Nat.le_of_ble_eq_true rfl) (kf_X1_apartBy v2 v3 v5 I935 F936) (fun r949 I950 F951 => ?_)
        refine OK_st 2 okX1_leastFrom (S' := (58, [(4, .int (if r949 < v4 then r949 else v4)), (0, .ref 45), (1, .ref 27), (2, .int v2), (3, .int v3), (5, .int v5)], [], hp I950 F951)) rfl ⟨(Nat.le_of_ble_eq_true rfl), (by decide), trivial⟩ ?_
        refine OK_lt (fun x952 => (58, [(4, .int x952), (0, .ref 45), (1, .ref 27), (2, .int v2), (3, .int v3), (5, .int v5)], [], hp I950 F951)) (fun x952 => ?_)
        refine OK_st 2 okX1_leastFrom (S' := (22, [(5, .int (v5 + (1 : Int32))), (4, .int x952), (0, .ref 45), (1, .ref 27), (2, .int v2), (3, .int v3)], [], hp I950 F951)) rfl ⟨(by decide), trivial, trivial⟩ ?_
        refine OK_pk [2, 3, 4, 5, 1, 0] rfl ?_
        exact ih x952 (v5 + (1 : Int32)) I950 F951

def f_X1_leastFrom (v2 : Int32) (I : AI) (F : AF) : AQ :=
  ab_bd (f_J6_bitCount_0f7a4 v2 I F) (fun r926 I927 F928 =>
    if r926 < (I927 21) then
      f_X1_leastFrom_22 v2 r926 (fun v4_953 v5_954 I955 F956 =>
        some (v4_953, I955, F956)) ab_fu (1000000 : Int32) (0 : Int32) I927 F928
    else
      some ((0 : Int32), I927, F928))
set_option maxRecDepth 20000 in
set_option maxHeartbeats 4000000 in
theorem kf_X1_leastFrom (v2 : Int32) (I : AI) (F : AF) : OK 2 mX1_leastFrom true (f_X1_leastFrom v2 I F) (0, [(0, .ref 45), (1, .ref 27), (2, .int v2)], [], hp I F) := by
  rw [f_X1_leastFrom]
  refine OK_st 1 okX1_leastFrom (S' := (1, [(0, .ref 45), (1, .ref 27), (2, .int v2)], [.int v2], hp I F)) rfl ⟨trivial, trivial⟩ ?_
  refine OK_cs [.int v2] [] okX1_leastFrom okJ6_bitCount_0f7a4 rfl rfl cl_RX1_43 (Nat.le_of_ble_eq_true rfl) (by decide) (Nat.le_of_ble_eq_true rfl) (kf_J6_bitCount_0f7a4 v2 I F) (fun r926 I927 F928 => ?_)
  refine OK_st 5 okX1_leastFrom (S' := ((if r926 < (I927 21) then 15 else 13), [(3, .int r926), (0, .ref 45), (1, .ref 27), (2, .int v2)], [], hp I927 F928)) rfl ⟨(by decide), trivial, trivial, trivial, trivial, trivial⟩ ?_
  refine OK_if (fun h929 => ?_) (fun h929 => ?_)
  · refine OK_st 4 okX1_leastFrom (S' := (22, [(5, .int (0 : Int32)), (4, .int (1000000 : Int32)), (3, .int r926), (0, .ref 45), (1, .ref 27), (2, .int v2)], [], hp I927 F928)) rfl ⟨trivial, (by decide), trivial, (by decide), trivial⟩ ?_
    refine OK_pk [3, 4, 5, 2, 1, 0] rfl ?_
    refine kf_X1_leastFrom_22 v2 r926 _ (fun v4_953 v5_954 I955 F956 => ?_) ab_fu (1000000 : Int32) (0 : Int32) I927 F928
    refine OK_st 1 okX1_leastFrom (S' := (66, [(0, .ref 45), (1, .ref 27), (2, .int v2), (3, .int r926), (4, .int v4_953), (5, .int v5_954)], [.int v4_953], hp I955 F956)) rfl ⟨trivial, trivial⟩ ?_
    exact OK_ri okX1_leastFrom rfl rfl (Or.inl rfl)
  · refine OK_st 1 okX1_leastFrom (S' := (14, [(3, .int r926), (0, .ref 45), (1, .ref 27), (2, .int v2)], [.int (0 : Int32)], hp I927 F928)) rfl ⟨trivial, trivial⟩ ?_
    exact OK_ri okX1_leastFrom rfl rfl (Or.inl rfl)
