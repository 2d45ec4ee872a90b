/-! methods as functions (by program) -/
def f_X6_readClause (I : AI) (F : AF) : AQ :=
  ab_bd (f_X2_at (I 1) I F) (fun r38 I39 F40 =>
    ab_bd (f_X6_mayStart r38 I39 F40) (fun r46 I47 F48 =>
      if ¬ r46 = 0 then
        ab_bd (f_X6_isOneTooMany r38 I47 F48) (fun r56 I57 F58 =>
          if r56 = 0 then
            ab_lt (va_up I57 1 ((I57 1) + (1 : Int32))) (fun I60 =>
              if r38 = (99 : Int32) then
                ab_bd (f_X6_readContract I60 F58) (fun r157 I158 F159 =>
                  bif ab_bt r157 then some (r157, I158, F159) else none)
              else if r38 = (108 : Int32) then
                ab_bd (f_X6_readLimb I60 F58) (fun r195 I196 F197 =>
                  bif ab_bt r195 then some (r195, I196, F197) else none)
              else if r38 = (114 : Int32) then
                ab_bd (f_X6_readRate I60 F58) (fun r262 I263 F264 =>
                  bif ab_bt r262 then some (r262, I263, F264) else none)
              else 
                ab_bd (f_X6_readHeir I60 F58) (fun r317 I318 F319 =>
                  bif ab_bt r317 then some (r317, I318, F319) else none))
          else
            ab_bd (f_X6_fail (3 : Int32) (I57 1) I57 F58) (fun r321 I322 F323 =>
              bif ab_bt r321 then some (r321, I322, F323) else none))
      else
        ab_bd (f_X6_fail (1 : Int32) (I47 1) I47 F48) (fun r325 I326 F327 =>
          bif ab_bt r325 then some (r325, I326, F327) else none)))
set_option maxRecDepth 20000 in
set_option maxHeartbeats 4000000 in
theorem kf_X6_readClause (I : AI) (F : AF) : OK 4 mX6_readClause true (f_X6_readClause I F) (0, [(0, .ref 1)], [], hp I F) := by
  rw [f_X6_readClause]
  refine OK_st 4 okX6_readClause (S' := (8, [(0, .ref 1)], [.int (I 1), .ref 2], hp I F)) rfl ⟨trivial, trivial, trivial, trivial, trivial⟩ ?_
  refine OK_cv [.int (I 1)] [] okX6_readClause okX2_at rfl rfl cl_RX6_45 rfl rfl (Nat.le_of_ble_eq_true rfl) (by decide) (Nat.le_of_ble_eq_true rfl) (kf_X2_at (I 1) I F) (fun r38 I39 F40 => ?_)
  refine OK_st 3 okX6_readClause (S' := (14, [(1, .int r38), (0, .ref 1)], [.int r38, .ref 1], hp I39 F40)) rfl ⟨(by decide), trivial, trivial, trivial⟩ ?_
  refine OK_cv [.int r38] [] okX6_readClause okX6_mayStart rfl rfl cl_RX6_53 rfl rfl (Nat.le_of_ble_eq_true rfl) (by decide) (Nat.le_of_ble_eq_true rfl) (kf_X6_mayStart r38 I39 F40) (fun r46 I47 F48 => ?_)
  refine OK_st 1 okX6_readClause (S' := ((if ¬ r46 = 0 then 30 else 20), [(1, .int r38), (0, .ref 1)], [], hp I47 F48)) rfl ⟨trivial, trivial⟩ ?_
  refine OK_if (fun h49 => ?_) (fun h49 => ?_)
  · refine OK_st 2 okX6_readClause (S' := (32, [(1, .int r38), (0, .ref 1)], [.int r38, .ref 1], hp I47 F48)) rfl ⟨trivial, trivial, trivial⟩ ?_
    refine OK_cv [.int r38] [] okX6_readClause okX6_isOneTooMany rfl rfl cl_RX6_61 rfl rfl (Nat.le_of_ble_eq_true rfl) (by decide) (Nat.le_of_ble_eq_true rfl) (kf_X6_isOneTooMany r38 I47 F48) (fun r56 I57 F58 => ?_)
    refine OK_st 1 okX6_readClause (S' := ((if r56 = 0 then 48 else 38), [(1, .int r38), (0, .ref 1)], [], hp I57 F58)) rfl ⟨trivial, trivial⟩ ?_
    refine OK_if (fun h59 => ?_) (fun h59 => ?_)
    · refine OK_st 7 okX6_readClause (S' := (59, [(1, .int r38), (0, .ref 1)], [.int r38], hp (va_up I57 1 ((I57 1) + (1 : Int32))) F58)) rfl ⟨trivial, rfl, trivial, trivial, trivial, trivial, trivial, trivial⟩ ?_
      refine OK_lt (fun I60 => (59, [(1, .int r38), (0, .ref 1)], [.int r38], hp I60 F58)) (fun I60 => ?_)
      refine OK_ci (fun h61 => ?_) (fun h61 => ?_)
      · subst h61
        refine OK_st 1 okX6_readClause (S' := (97, [(1, .int (99 : Int32)), (0, .ref 1)], [], hp I60 F58)) rfl ⟨(by decide +kernel), trivial⟩ ?_
        refine OK_st 1 okX6_readClause (S' := (98, [(1, .int (99 : Int32)), (0, .ref 1)], [.ref 1], hp I60 F58)) rfl ⟨trivial, trivial⟩ ?_
        refine OK_cv [] [] okX6_readClause okX6_readContract rfl rfl cl_RX6_67 rfl rfl (Nat.le_of_ble_eq_true rfl) (by decide) (Nat.le_of_ble_eq_true rfl) (kf_X6_readContract I60 F58) (fun r157 I158 F159 => ?_)
        refine OK_gd (fun g160 => ?_)
        exact OK_ri okX6_readClause rfl rfl (Or.inr ⟨rfl, ab_bto g160⟩)
      · skip
        refine OK_ci (fun h161 => ?_) (fun h161 => ?_)
        · subst h161
          refine OK_st 1 okX6_readClause (S' := (92, [(1, .int (108 : Int32)), (0, .ref 1)], [], hp I60 F58)) rfl ⟨(by decide +kernel), trivial⟩ ?_
          refine OK_st 1 okX6_readClause (S' := (93, [(1, .int (108 : Int32)), (0, .ref 1)], [.ref 1], hp I60 F58)) rfl ⟨trivial, trivial⟩ ?_
          refine OK_cv [] [] okX6_readClause okX6_readLimb rfl rfl cl_RX6_64 rfl rfl (Nat.le_of_ble_eq_true rfl) (by decide) (Nat.le_of_ble_eq_true rfl) (kf_X6_readLimb I60 F58) (fun r195 I196 F197 => ?_)
          refine OK_gd (fun g198 => ?_)
          exact OK_ri okX6_readClause rfl rfl (Or.inr ⟨rfl, ab_bto g198⟩)
        · skip
          refine OK_ci (fun h199 => ?_) (fun h199 => ?_)
          · subst h199
            refine OK_st 1 okX6_readClause (S' := (102, [(1, .int (114 : Int32)), (0, .ref 1)], [], hp I60 F58)) rfl ⟨(by decide +kernel), trivial⟩ ?_
            refine OK_st 1 okX6_readClause (S' := (103, [(1, .int (114 : Int32)), (0, .ref 1)], [.ref 1], hp I60 F58)) rfl ⟨trivial, trivial⟩ ?_
            refine OK_cv [] [] okX6_readClause okX6_readRate rfl rfl cl_RX6_70 rfl rfl (Nat.le_of_ble_eq_true rfl) (by decide) (Nat.le_of_ble_eq_true rfl) (kf_X6_readRate I60 F58) (fun r262 I263 F264 => ?_)
            refine OK_gd (fun g265 => ?_)
            exact OK_ri okX6_readClause rfl rfl (Or.inr ⟨rfl, ab_bto g265⟩)
          · skip
            have hof : Op.lookupswitch.offset [(99, 38), (108, 33), (114, 43)] 48 r38.toInt = 48 := by rw [lv_osw (a := 99) h61 rfl, lv_osw (a := 108) h161 rfl, lv_osw (a := 114) h199 rfl]; rfl
            refine OK_st 1 okX6_readClause (S' := ((((59 : Nat) : Int) + Op.lookupswitch.offset [(99, 38), (108, 33), (114, 43)] 48 r38.toInt).toNat, [(1, .int r38), (0, .ref 1)], [], hp I60 F58)) rfl ⟨by show (0 : Int) ≤ ((59 : Nat) : Int) + Op.lookupswitch.offset [(99, 38), (108, 33), (114, 43)] 48 r38.toInt; rw [hof]; decide, trivial⟩ ?_
            refine OK_pc (pc' := 107) (by rw [hof]; rfl) ?_
            refine OK_st 1 okX6_readClause (S' := (108, [(1, .int r38), (0, .ref 1)], [.ref 1], hp I60 F58)) rfl ⟨trivial, trivial⟩ ?_
            refine OK_cv [] [] okX6_readClause okX6_readHeir rfl rfl cl_RX6_73 rfl rfl (Nat.le_of_ble_eq_true rfl) (by decide) (Nat.le_of_ble_eq_true rfl) (kf_X6_readHeir I60 F58) (fun r317 I318 F319 => ?_)
            refine OK_gd (fun g320 => ?_)
            exact OK_ri okX6_readClause rfl rfl (Or.inr ⟨rfl, ab_bto g320⟩)
    · refine OK_st 4 okX6_readClause (S' := (44, [(1, .int r38), (0, .ref 1)], [.int (I57 1), .int (3 : Int32), .ref 1], hp I57 F58)) rfl ⟨trivial, trivial, trivial, trivial, trivial⟩ ?_
      refine OK_cv [.int (3 : Int32), .int (I57 1)] [] okX6_readClause okX6_fail rfl rfl cl_RX6_57 rfl rfl (Nat.le_of_ble_eq_true rfl) (by decide) (Nat.le_of_ble_eq_true rfl) (kf_X6_fail (3 : Int32) (I57 1) I57 F58) (fun r321 I322 F323 => ?_)
      refine OK_gd (fun g324 => ?_)
      exact OK_ri okX6_readClause rfl rfl (Or.inr ⟨rfl, ab_bto g324⟩)
  · refine OK_st 4 okX6_readClause (S' := (26, [(1, .int r38), (0, .ref 1)], [.int (I47 1), .int (1 : Int32), .ref 1], hp I47 F48)) rfl ⟨trivial, trivial, trivial, trivial, trivial⟩ ?_
    refine OK_cv [.int (1 : Int32), .int (I47 1)] [] okX6_readClause okX6_fail rfl rfl cl_RX6_57 rfl rfl (Nat.le_of_ble_eq_true rfl) (by decide) (Nat.le_of_ble_eq_true rfl) (kf_X6_fail (1 : Int32) (I47 1) I47 F48) (fun r325 I326 F327 => ?_)
    refine OK_gd (fun g328 => ?_)
    exact OK_ri okX6_readClause rfl rfl (Or.inr ⟨rfl, ab_bto g328⟩)

def f_X6_readText_26 (ko : Int32 → Int32 → AI → AF → AQ) : Nat → Int32 → Int32 → AI → AF → AQ
  | 0, _, _, _, _ => none
  | n + 1, v1, v2, I, F =>
    if (250 : Int32) ≤ v2 then
      ko v1 v2 I F
    else
      if v1 = 0 then
        ko v1 v2 I F
      else
        ab_bd (f_X6_skipBlanks I F) (fun r31 I32 F33 =>
          ab_bd (f_X2_at (I32 1) I32 F33) (fun r34 I35 F36 =>
            if r34 = (-1 : Int32) then
              f_X6_readText_26 ko n (0 : Int32) (v2 + (1 : Int32)) I35 F36
            else
              ab_bd (f_X6_readClause I35 F36) (fun r329 I330 F331 =>
                if r329 = 0 then
                  f_X6_readText_26 ko n (0 : Int32) (v2 + (1 : Int32)) I330 F331
                else
                  f_X6_readText_26 ko n (1 : Int32) (v2 + (1 : Int32)) I330 F331)))
set_option maxRecDepth 20000 in
set_option maxHeartbeats 4000000 in
theorem kf_X6_readText_26 (ko : Int32 → Int32 → AI → AF → AQ) (hko : ∀ v1 v2 I F, OK 5 mX6_readText false (ko v1 v2 I F) (75, [(0, .ref 1), (1, .int v1), (2, .int v2)], [], hp I F)) : ∀ n v1 v2 I F, OK 5 mX6_readText false (f_X6_readText_26 ko n v1 v2 I F) (26, [(0, .ref 1), (1, .int v1), (2, .int v2)], [], hp I F) := by
  intro n
  induction n with
  | zero =>
    intro v1 v2 I F
    exact OK_no
  | succ n ih =>
    intro v1 v2 I F
    rw [f_X6_readText_26]
    refine OK_st 3 okX6_readText (S' := ((if (250 : Int32) ≤ v2 then 75 else 33), [(0, .ref 1), (1, .int v1), (2, .int v2)], [], hp I F)) rfl ⟨trivial, trivial, trivial, trivial⟩ ?_
    refine OK_if (fun h17 => ?_) (fun h17 => ?_)
    · exact hko v1 v2 I F
    · refine OK_st 2 okX6_readText (S' := ((if v1 = 0 then 75 else 37), [(0, .ref 1), (1, .int v1), (2, .int v2)], [], hp I F)) rfl ⟨trivial, trivial, trivial⟩ ?_
      refine OK_if (fun h18 => ?_) (fun h18 => ?_)
      · exact hko v1 v2 I F
      · refine OK_st 1 okX6_readText (S' := (38, [(0, .ref 1), (1, .int v1), (2, .int v2)], [.ref 1], hp I F)) rfl ⟨trivial, trivial⟩ ?_
        refine OK_cv [] [] okX6_readText okX6_skipBlanks rfl rfl cl_RX6_42 rfl rfl (Nat.le_of_ble_eq_true rfl) (by decide) (Nat.le_of_ble_eq_true rfl) (kf_X6_skipBlanks I F) (fun r31 I32 F33 => ?_)
        refine OK_st 4 okX6_readText (S' := (49, [(0, .ref 1), (1, .int v1), (2, .int v2)], [.int (I32 1), .ref 2], hp I32 F33)) rfl ⟨trivial, trivial, trivial, trivial, trivial⟩ ?_
        refine OK_cv [.int (I32 1)] [] okX6_readText okX2_at rfl rfl cl_RX6_45 rfl rfl (Nat.le_of_ble_eq_true rfl) (by decide) (Nat.le_of_ble_eq_true rfl) (kf_X2_at (I32 1) I32 F33) (fun r34 I35 F36 => ?_)
        refine OK_st 2 okX6_readText (S' := ((if r34 = (-1 : Int32) then 67 else 56), [(0, .ref 1), (1, .int v1), (2, .int v2)], [], hp I35 F36)) rfl ⟨trivial, trivial, trivial⟩ ?_
        refine OK_if (fun h37 => ?_) (fun h37 => ?_)
        · refine OK_st 4 okX6_readText (S' := (26, [(2, .int (v2 + (1 : Int32))), (1, .int (0 : Int32)), (0, .ref 1)], [], hp I35 F36)) rfl ⟨trivial, (by decide), (by decide), trivial, trivial⟩ ?_
          refine OK_pk [2, 1, 0] rfl ?_
          exact ih (0 : Int32) (v2 + (1 : Int32)) I35 F36
        · refine OK_st 1 okX6_readText (S' := (57, [(0, .ref 1), (1, .int v1), (2, .int v2)], [.ref 1], hp I35 F36)) rfl ⟨trivial, trivial⟩ ?_
          refine OK_cv [] [] okX6_readText okX6_readClause rfl rfl cl_RX6_49 rfl rfl (Nat.le_of_ble_eq_true rfl) (by decide) (Nat.le_of_ble_eq_true rfl) (kf_X6_readClause I35 F36) (fun r329 I330 F331 => ?_)
          refine OK_st 1 okX6_readText (S' := ((if r329 = 0 then 67 else 63), [(0, .ref 1), (1, .int v1), (2, .int v2)], [], hp I330 F331)) rfl ⟨trivial, trivial⟩ ?_
          refine OK_if (fun h332 => ?_) (fun h332 => ?_)
          · refine OK_st 4 okX6_readText (S' := (26, [(2, .int (v2 + (1 : Int32))), (1, .int (0 : Int32)), (0, .ref 1)], [], hp I330 F331)) rfl ⟨trivial, (by decide), (by decide), trivial, trivial⟩ ?_
            refine OK_pk [2, 1, 0] rfl ?_
            exact ih (0 : Int32) (v2 + (1 : Int32)) I330 F331
          · refine OK_st 5 okX6_readText (S' := (26, [(2, .int (v2 + (1 : Int32))), (1, .int (1 : Int32)), (0, .ref 1)], [], hp I330 F331)) rfl ⟨trivial, trivial, (by decide), (by decide), trivial, trivial⟩ ?_
            refine OK_pk [2, 1, 0] rfl ?_
            exact ih (1 : Int32) (v2 + (1 : Int32)) I330 F331

def f_X6_readText (I : AI) (F : AF) : AQ :=
  ab_lt (va_up (va_up (va_up I 1 (0 : Int32)) 3 (0 : Int32)) 4 (-1 : Int32)) (fun I13 =>
    ab_bd (f_X5_clearAll I13 F) (fun r14 I15 F16 =>
      f_X6_readText_26 (fun v1_333 v2_334 I335 F336 =>
        some (0, I335, F336)) ab_fu (1 : Int32) (0 : Int32) I15 F16))
set_option maxRecDepth 20000 in
set_option maxHeartbeats 4000000 in
theorem kf_X6_readText (I : AI) (F : AF) : OK 5 mX6_readText false (f_X6_readText I F) (0, [(0, .ref 1)], [], hp I F) := by
  rw [f_X6_readText]
  refine OK_st 11 okX6_readText (S' := (19, [(0, .ref 1)], [.ref 4], hp (va_up (va_up (va_up I 1 (0 : Int32)) 3 (0 : Int32)) 4 (-1 : Int32)) F)) rfl ⟨trivial, trivial, trivial, trivial, trivial, trivial, trivial, trivial, trivial, trivial, trivial, trivial⟩ ?_
  refine OK_lt (fun I13 => (19, [(0, .ref 1)], [.ref 4], hp I13 F)) (fun I13 => ?_)
  refine OK_cv [] [] okX6_readText okX5_clearAll rfl rfl cl_RX6_39 rfl rfl (Nat.le_of_ble_eq_true rfl) (by decide) (Nat.le_of_ble_eq_true rfl) (kf_X5_clearAll I13 F) (fun r14 I15 F16 => ?_)
  refine OK_st 4 okX6_readText (S' := (26, [(2, .int (0 : Int32)), (1, .int (1 : Int32)), (0, .ref 1)], [], hp I15 F16)) rfl ⟨trivial, (by decide), trivial, (by decide), trivial⟩ ?_
  refine OK_pk [2, 1, 0] rfl ?_
  refine kf_X6_readText_26 _ (fun v1_333 v2_334 I335 F336 => ?_) ab_fu (1 : Int32) (0 : Int32) I15 F16
  exact OK_rv okX6_readText rfl rfl rfl

def f_X2_empty (I : AI) (F : AF) : AQ :=
  some (0, (va_up I 5 (0 : Int32)), F)
set_option maxRecDepth 20000 in
set_option maxHeartbeats 4000000 in
theorem kf_X2_empty (I : AI) (F : AF) : OK 0 mX2_empty false (f_X2_empty I F) (0, [(0, .ref 2)], [], hp I F) := by
  rw [f_X2_empty]
  refine OK_st 3 okX2_empty (S' := (5, [(0, .ref 2)], [], hp (va_up I 5 (0 : Int32)) F)) rfl ⟨trivial, trivial, trivial, trivial⟩ ?_
  exact OK_rv okX2_empty rfl rfl rfl

def f_X5_takeOver (I : AI) (F : AF) : AQ :=
  some (0, (va_up (va_up (va_up I 9 (I 6)) 10 (I 7)) 11 (I 8)), (va_up (va_up (va_up (va_up (va_up (va_up (va_up (va_up (va_up (va_up F 12 (va_cpy (F 1) (F 12) 0 0 6)) 13 (va_cpy (F 2) (F 13) 0 0 24)) 14 (va_cpy (F 3) (F 14) 0 0 6)) 15 (va_cpy (F 4) (F 15) 0 0 6)) 16 (va_cpy (F 5) (F 16) 0 0 6)) 17 (va_cpy (F 6) (F 17) 0 0 6)) 18 (va_cpy (F 7) (F 18) 0 0 8)) 19 (va_cpy (F 8) (F 19) 0 0 8)) 20 (va_cpy (F 9) (F 20) 0 0 8)) 21 (va_cpy (F 10) (F 21) 0 0 8)))
set_option maxRecDepth 20000 in
set_option maxHeartbeats 4000000 in
theorem kf_X5_takeOver (I : AI) (F : AF) : OK 0 mX5_takeOver false (f_X5_takeOver I F) (0, [(0, .ref 16), (1, .ref 4)], [], hp I F) := by
  rw [f_X5_takeOver]
  refine OK_st 92 okX5_takeOver (S' := (174, [(0, .ref 16), (1, .ref 4)], [], hp (va_up (va_up (va_up I 9 (I 6)) 10 (I 7)) 11 (I 8)) (va_up (va_up (va_up (va_up (va_up (va_up (va_up (va_up (va_up (va_up F 12 (va_cpy (F 1) (F 12) 0 0 6)) 13 (va_cpy (F 2) (F 13) 0 0 24)) 14 (va_cpy (F 3) (F 14) 0 0 6)) 15 (va_cpy (F 4) (F 15) 0 0 6)) 16 (va_cpy (F 5) (F 16) 0 0 6)) 17 (va_cpy (F 6) (F 17) 0 0 6)) 18 (va_cpy (F 7) (F 18) 0 0 8)) 19 (va_cpy (F 8) (F 19) 0 0 8)) 20 (va_cpy (F 9) (F 20) 0 0 8)) 21 (va_cpy (F 10) (F 21) 0 0 8)))) rfl ⟨trivial, trivial, trivial, trivial, trivial, trivial, trivial, trivial, trivial, trivial, trivial, trivial, trivial, trivial, trivial, trivial, trivial, trivial, trivial, ⟨by decide, by decide, by decide, by decide, by decide, Nat.le_of_ble_eq_true rfl⟩, trivial, trivial, trivial, trivial, trivial, trivial, trivial, ⟨by decide, by decide, by decide, by decide, by decide, Nat.le_of_ble_eq_true rfl⟩, trivial, trivial, trivial, trivial, trivial, trivial, trivial, ⟨by decide, by decide, by decide, by decide, by decide, Nat.le_of_ble_eq_true rfl⟩, trivial, trivial, trivial, trivial, trivial, trivial, trivial, ⟨by decide, by decide, by decide, by decide, by decide, Nat.le_of_ble_eq_true rfl⟩, trivial, trivial, trivial, trivial, trivial, trivial, trivial, ⟨by decide, by decide, by decide, by decide, by decide, Nat.le_of_ble_eq_true rfl⟩, trivial, trivial, trivial, trivial, trivial, trivial, trivial, ⟨by decide, by decide, by decide, by decide, by decide, Nat.le_of_ble_eq_true rfl⟩, trivial, trivial, trivial, trivial, trivial, trivial, trivial, ⟨by decide, by decide, by decide, by decide, by decide, Nat.le_of_ble_eq_true rfl⟩, trivial, trivial, trivial, trivial, trivial, trivial, trivial, ⟨by decide, by decide, by decide, by decide, by decide, Nat.le_of_ble_eq_true rfl⟩, trivial, trivial, trivial, trivial, trivial, trivial, trivial, ⟨by decide, by decide, by decide, by decide, by decide, Nat.le_of_ble_eq_true rfl⟩, trivial, trivial, trivial, trivial, trivial, trivial, trivial, ⟨by decide, by decide, by decide, by decide, by decide, Nat.le_of_ble_eq_true rfl⟩, trivial⟩ ?_
  exact OK_rv okX5_takeOver rfl rfl rfl

def f_X8_begin_18 (ko : Int32 → AI → AF → AQ) : Nat → Int32 → AI → AF → AQ
  | 0, _, _, _ => none
  | n + 1, v2, I, F =>
    if (18 : Int32) ≤ v2 then
      ko v2 I F
    else
      bif ab_vin v2 21 then
        ab_lt (va_up F 22 (upd (F 22) v2.toNatClampNeg (-1 : Int32))) (fun F351 =>
          f_X8_begin_18 ko n (v2 + (1 : Int32)) I F351)
      else none
set_option maxRecDepth 20000 in
set_option maxHeartbeats 4000000 in
theorem kf_X8_begin_18 (ko : Int32 → AI → AF → AQ) (hko : ∀ v2 I F, OK 0 mX8_begin false (ko v2 I F) (37, [(0, .ref 27), (1, .ref 16), (2, .int v2)], [], hp I F)) : ∀ n v2 I F, OK 0 mX8_begin false (f_X8_begin_18 ko n v2 I F) (18, [(0, .ref 27), (1, .ref 16), (2, .int v2)], [], hp I F) := by
  intro n
  induction n with
  | zero =>
    intro v2 I F
    exact OK_no
  | succ n ih =>
    intro v2 I F
    rw [f_X8_begin_18]
    refine OK_st 3 okX8_begin (S' := ((if (18 : Int32) ≤ v2 then 37 else 24), [(0, .ref 27), (1, .ref 16), (2, .int v2)], [], hp I F)) rfl ⟨trivial, trivial, trivial, trivial⟩ ?_
    refine OK_if (fun h349 => ?_) (fun h349 => ?_)
    · exact hko v2 I F
    · refine OK_gd (fun g350 => ?_)
      refine OK_st 7 okX8_begin (S' := (18, [(2, .int (v2 + (1 : Int32))), (0, .ref 27), (1, .ref 16)], [], hp I (va_up F 22 (upd (F 22) v2.toNatClampNeg (-1 : Int32))))) rfl ⟨trivial, trivial, trivial, trivial, (ab_vo g350), (by decide), trivial, trivial⟩ ?_
      refine OK_lt (fun F351 => (18, [(2, .int (v2 + (1 : Int32))), (0, .ref 27), (1, .ref 16)], [], hp I F351)) (fun F351 => ?_)
      refine OK_pk [1, 2, 0] rfl ?_
      exact ih (v2 + (1 : Int32)) I F351

def f_X8_begin (I : AI) (F : AF) : AQ :=
  ab_lt (va_up F 22 (va_cpy (F 12) (F 22) 0 0 6)) (fun F348 =>
    f_X8_begin_18 (fun v2_352 I353 F354 =>
      some (0, I353, (va_up (va_up F354 22 (upd (F354 22) 18 (((1 : Int32) <<< ((I353 9) &&& 31)) - (1 : Int32)))) 22 (upd upd (F354 22) 18 (((1 : Int32) <<< ((I353 9) &&& 31)) - (1 : Int32)) 19 (0 : Int32))))) ab_fu (6 : Int32) I F348)
set_option maxRecDepth 20000 in
set_option maxHeartbeats 4000000 in
theorem kf_X8_begin (I : AI) (F : AF) : OK 0 mX8_begin false (f_X8_begin I F) (0, [(0, .ref 27), (1, .ref 16)], [], hp I F) := by
  rw [f_X8_begin]
  refine OK_st 10 okX8_begin (S' := (18, [(2, .int (6 : Int32)), (0, .ref 27), (1, .ref 16)], [], hp I (va_up F 22 (va_cpy (F 12) (F 22) 0 0 6)))) rfl ⟨trivial, trivial, trivial, trivial, trivial, trivial, trivial, ⟨by decide, by decide, by decide, by decide, by decide, Nat.le_of_ble_eq_true rfl⟩, trivial, (by decide), trivial⟩ ?_
  refine OK_lt (fun F348 => (18, [(2, .int (6 : Int32)), (0, .ref 27), (1, .ref 16)], [], hp I F348)) (fun F348 => ?_)
  refine OK_pk [1, 2, 0] rfl ?_
  refine kf_X8_begin_18 _ (fun v2_352 I353 F354 => ?_) ab_fu (6 : Int32) I F348
  refine OK_st 15 okX8_begin (S' := (60, [(0, .ref 27), (1, .ref 16), (2, .int v2_352)], [], hp I353 (va_up (va_up F354 22 (upd (F354 22) 18 (((1 : Int32) <<< ((I353 9) &&& 31)) - (1 : Int32)))) 22 (upd upd (F354 22) 18 (((1 : Int32) <<< ((I353 9) &&& 31)) - (1 : Int32)) 19 (0 : Int32))))) rfl ⟨trivial, trivial, trivial, trivial, trivial, trivial, trivial, trivial, trivial, (ab_vo (by decide)), trivial, trivial, trivial, trivial, (ab_vo (by decide)), trivial⟩ ?_
  exact OK_rv okX8_begin rfl rfl rfl

def f_X3_clearAll (I : AI) (F : AF) : AQ :=
  some (0, (va_up (va_up I 15 (0 : Int32)) 16 (0 : Int32)), F)
set_option maxRecDepth 20000 in
set_option maxHeartbeats 4000000 in
theorem kf_X3_clearAll (I : AI) (F : AF) : OK 0 mX3_clearAll false (f_X3_clearAll I F) (0, [(0, .ref 32)], [], hp I F) := by
  rw [f_X3_clearAll]
  refine OK_st 6 okX3_clearAll (S' := (10, [(0, .ref 32)], [], hp (va_up (va_up I 15 (0 : Int32)) 16 (0 : Int32)) F)) rfl ⟨trivial, trivial, trivial, trivial, trivial, trivial, trivial⟩ ?_
  exact OK_rv okX3_clearAll rfl rfl rfl

def f_X4_forgetUndone (I : AI) (F : AF) : AQ :=
  some (0, (va_up (va_up I 12 (0 : Int32)) 13 (0 : Int32)), F)
set_option maxRecDepth 20000 in
set_option maxHeartbeats 4000000 in
theorem kf_X4_forgetUndone (I : AI) (F : AF) : OK 0 mX4_forgetUndone false (f_X4_forgetUndone I F) (0, [(0, .ref 29)], [], hp I F) := by
  rw [f_X4_forgetUndone]
  refine OK_st 6 okX4_forgetUndone (S' := (10, [(0, .ref 29)], [], hp (va_up (va_up I 12 (0 : Int32)) 13 (0 : Int32)) F)) rfl ⟨trivial, trivial, trivial, trivial, trivial, trivial, trivial⟩ ?_
  exact OK_rv okX4_forgetUndone rfl rfl rfl

def f_X4_forgetImages (I : AI) (F : AF) : AQ :=
  some (0, (va_up I 14 (0 : Int32)), F)
set_option maxRecDepth 20000 in
set_option maxHeartbeats 4000000 in
theorem kf_X4_forgetImages (I : AI) (F : AF) : OK 0 mX4_forgetImages false (f_X4_forgetImages I F) (0, [(0, .ref 29)], [], hp I F) := by
  rw [f_X4_forgetImages]
  refine OK_st 3 okX4_forgetImages (S' := (5, [(0, .ref 29)], [], hp (va_up I 14 (0 : Int32)) F)) rfl ⟨trivial, trivial, trivial, trivial⟩ ?_
  exact OK_rv okX4_forgetImages rfl rfl rfl

def f_X9_port (I : AI) (F : AF) : AQ :=
  ab_bd (f_X6_readText I F) (fun r337 I338 F339 =>
    ab_bd (f_X2_empty I338 F339) (fun r340 I341 F342 =>
      ab_lt (va_up I341 0 (I341 4)) (fun I343 =>
        if (I341 3) = 0 then
          ab_bd (f_X5_takeOver I343 F342) (fun r345 I346 F347 =>
            ab_bd (f_X8_begin I346 F347) (fun r355 I356 F357 =>
              ab_bd (f_X3_clearAll I356 F357) (fun r358 I359 F360 =>
                ab_bd (f_X4_forgetUndone I359 F360) (fun r361 I362 F363 =>
                  ab_bd (f_X4_forgetImages I362 F363) (fun r364 I365 F366 =>
                    some ((I365 9), I365, F366))))))
        else
          some (((-10 : Int32) - (I343 3)), I343, F342))))
set_option maxRecDepth 20000 in
set_option maxHeartbeats 4000000 in
theorem kf_X9_port (I : AI) (F : AF) : OK 6 mX9_port true (f_X9_port I F) (0, [(0, .ref 0)], [], hp I F) := by
  rw [f_X9_port]
  refine OK_st 2 okX9_port (S' := (4, [(0, .ref 0)], [.ref 1], hp I F)) rfl ⟨trivial, trivial, trivial⟩ ?_
  refine OK_cv [] [] okX9_port okX6_readText rfl rfl cl_RX9_85 rfl rfl (Nat.le_of_ble_eq_true rfl) (by decide) (Nat.le_of_ble_eq_true rfl) (kf_X6_readText I F) (fun r337 I338 F339 => ?_)
  refine OK_st 3 okX9_port (S' := (14, [(0, .ref 0)], [.ref 2], hp I338 F339)) rfl ⟨trivial, trivial, trivial, trivial⟩ ?_
  refine OK_cv [] [] okX9_port okX2_empty rfl rfl cl_RX9_88 rfl rfl (Nat.le_of_ble_eq_true rfl) (by decide) (Nat.le_of_ble_eq_true rfl) (kf_X2_empty I338 F339) (fun r340 I341 F342 => ?_)
  refine OK_st 9 okX9_port (S' := ((if (I341 3) = 0 then 49 else 38), [(0, .ref 0)], [], hp (va_up I341 0 (I341 4)) F342)) rfl ⟨trivial, trivial, trivial, trivial, trivial, trivial, trivial, trivial, trivial, trivial⟩ ?_
  refine OK_lt (fun I343 => ((if (I341 3) = 0 then 49 else 38), [(0, .ref 0)], [], hp I343 F342)) (fun I343 => ?_)
  refine OK_if (fun h344 => ?_) (fun h344 => ?_)
  · refine OK_st 5 okX9_port (S' := (60, [(0, .ref 0)], [.ref 4, .ref 16], hp I343 F342)) rfl ⟨trivial, trivial, trivial, trivial, trivial, trivial⟩ ?_
    refine OK_cv [.ref 4] [] okX9_port okX5_takeOver rfl rfl cl_RX9_98 rfl rfl (Nat.le_of_ble_eq_true rfl) (by decide) (Nat.le_of_ble_eq_true rfl) (kf_X5_takeOver I343 F342) (fun r345 I346 F347 => ?_)
    refine OK_st 4 okX9_port (S' := (71, [(0, .ref 0)], [.ref 16, .ref 27], hp I346 F347)) rfl ⟨trivial, trivial, trivial, trivial, trivial⟩ ?_
    refine OK_cv [.ref 16] [] okX9_port okX8_begin rfl rfl cl_RX9_102 rfl rfl (Nat.le_of_ble_eq_true rfl) (by decide) (Nat.le_of_ble_eq_true rfl) (kf_X8_begin I346 F347) (fun r355 I356 F357 => ?_)
    refine OK_st 2 okX9_port (S' := (78, [(0, .ref 0)], [.ref 32], hp I356 F357)) rfl ⟨trivial, trivial, trivial⟩ ?_
    refine OK_cv [] [] okX9_port okX3_clearAll rfl rfl cl_RX9_105 rfl rfl (Nat.le_of_ble_eq_true rfl) (by decide) (Nat.le_of_ble_eq_true rfl) (kf_X3_clearAll I356 F357) (fun r358 I359 F360 => ?_)
    refine OK_st 2 okX9_port (S' := (85, [(0, .ref 0)], [.ref 29], hp I359 F360)) rfl ⟨trivial, trivial, trivial⟩ ?_
    refine OK_cv [] [] okX9_port okX4_forgetUndone rfl rfl cl_RX9_108 rfl rfl (Nat.le_of_ble_eq_true rfl) (by decide) (Nat.le_of_ble_eq_true rfl) (kf_X4_forgetUndone I359 F360) (fun r361 I362 F363 => ?_)
    refine OK_st 2 okX9_port (S' := (92, [(0, .ref 0)], [.ref 29], hp I362 F363)) rfl ⟨trivial, trivial, trivial⟩ ?_
    refine OK_cv [] [] okX9_port okX4_forgetImages rfl rfl cl_RX9_111 rfl rfl (Nat.le_of_ble_eq_true rfl) (by decide) (Nat.le_of_ble_eq_true rfl) (kf_X4_forgetImages I362 F363) (fun r364 I365 F366 => ?_)
    refine OK_st 3 okX9_port (S' := (102, [(0, .ref 0)], [.int (I365 9)], hp I365 F366)) rfl ⟨trivial, trivial, trivial, trivial⟩ ?_
    exact OK_ri okX9_port rfl rfl (Or.inl rfl)
  · refine OK_st 5 okX9_port (S' := (48, [(0, .ref 0)], [.int ((-10 : Int32) - (I343 3))], hp I343 F342)) rfl ⟨trivial, trivial, trivial, trivial, trivial, trivial⟩ ?_
    exact OK_ri okX9_port rfl rfl (Or.inl rfl)

def f_X9_fault (I : AI) (F : AF) : AQ :=
  some ((I 0), I, F)
set_option maxRecDepth 20000 in
set_option maxHeartbeats 4000000 in
theorem kf_X9_fault (I : AI) (F : AF) : OK 0 mX9_fault true (f_X9_fault I F) (0, [(0, .ref 0)], [], hp I F) := by
  rw [f_X9_fault]
  refine OK_st 2 okX9_fault (S' := (4, [(0, .ref 0)], [.int (I 0)], hp I F)) rfl ⟨trivial, trivial, trivial⟩ ?_
  exact OK_ri okX9_fault rfl rfl (Or.inl rfl)

def f_X8_seasons (I : AI) (F : AF) : AQ :=
  some (((F 22) 19), I, F)
set_option maxRecDepth 20000 in
set_option maxHeartbeats 4000000 in
theorem kf_X8_seasons (I : AI) (F : AF) : OK 0 mX8_seasons true (f_X8_seasons I F) (0, [(0, .ref 27)], [], hp I F) := by
  rw [f_X8_seasons]
  refine OK_st 4 okX8_seasons (S' := (7, [(0, .ref 27)], [.int ((F 22) 19)], hp I F)) rfl ⟨trivial, trivial, trivial, (ab_vo (by decide)), trivial⟩ ?_
  exact OK_ri okX8_seasons rfl rfl (Or.inl rfl)

def f_X8_living (I : AI) (F : AF) : AQ :=
  some (((F 22) 18), I, F)
set_option maxRecDepth 20000 in
set_option maxHeartbeats 4000000 in
theorem kf_X8_living (I : AI) (F : AF) : OK 0 mX8_living true (f_X8_living I F) (0, [(0, .ref 27)], [], hp I F) := by
  rw [f_X8_living]
  refine OK_st 4 okX8_living (S' := (7, [(0, .ref 27)], [.int ((F 22) 18)], hp I F)) rfl ⟨trivial, trivial, trivial, (ab_vo (by decide)), trivial⟩ ?_
  exact OK_ri okX8_living rfl rfl (Or.inl rfl)

def f_X8_copied_4 (ko : Int32 → Int32 → AI → AF → AQ) : Nat → Int32 → Int32 → AI → AF → AQ
  | 0, _, _, _, _ => none
  | n + 1, v1, v2, I, F =>
    if (6 : Int32) ≤ v2 then
      ko v1 v2 I F
    else
      bif ab_vin ((6 : Int32) + v2) 21 then
        if ((F 22) ((6 : Int32) + v2).toNatClampNeg) = (-1 : Int32) then
          f_X8_copied_4 ko n v1 (v2 + (1 : Int32)) I F
        else
          ab_lt (v1 ||| ((1 : Int32) <<< (v2 &&& 31))) (fun x383 =>
            f_X8_copied_4 ko n x383 (v2 + (1 : Int32)) I F)
      else none
set_option maxRecDepth 20000 in
set_option maxHeartbeats 4000000 in
theorem kf_X8_copied_4 (ko : Int32 → Int32 → AI → AF → AQ) (hko : ∀ v1 v2 I F, OK 0 mX8_copied true (ko v1 v2 I F) (35, [(0, .ref 27), (1, .int v1), (2, .int v2)], [], hp I F)) : ∀ n v1 v2 I F, OK 0 mX8_copied true (f_X8_copied_4 ko n v1 v2 I F) (4, [(0, .ref 27), (1, .int v1), (2, .int v2)], [], hp I F) := by
  intro n
  induction n with
  | zero =>
    intro v1 v2 I F
    exact OK_no
  | succ n ih =>
    intro v1 v2 I F
    rw [f_X8_copied_4]
    refine OK_st 3 okX8_copied (S' := ((if (6 : Int32) ≤ v2 then 35 else 10), [(0, .ref 27), (1, .int v1), (2, .int v2)], [], hp I F)) rfl ⟨trivial, trivial, trivial, trivial⟩ ?_
    refine OK_if (fun h380 => ?_) (fun h380 => ?_)
    · exact hko v1 v2 I F
    · refine OK_gd (fun g381 => ?_)
      refine OK_st 8 okX8_copied (S' := ((if ((F 22) ((6 : Int32) + v2).toNatClampNeg) = (-1 : Int32) then 29 else 23), [(0, .ref 27), (1, .int v1), (2, .int v2)], [], hp I F)) rfl ⟨trivial, trivial, trivial, trivial, trivial, (ab_vo g381), trivial, trivial, trivial⟩ ?_
      refine OK_if (fun h382 => ?_) (fun h382 => ?_)
      · refine OK_st 2 okX8_copied (S' := (4, [(2, .int (v2 + (1 : Int32))), (0, .ref 27), (1, .int v1)], [], hp I F)) rfl ⟨(by decide), trivial, trivial⟩ ?_
        refine OK_pk [1, 2, 0] rfl ?_
        exact ih v1 (v2 + (1 : Int32)) I F
      · refine OK_st 6 okX8_copied (S' := (29, [(1, .int (v1 ||| ((1 : Int32) <<< (v2 &&& 31)))), (0, .ref 27), (2, .int v2)], [], hp I F)) rfl ⟨trivial, trivial, trivial, trivial, trivial, (by decide), trivial⟩ ?_
        refine OK_lt (fun x383 => (29, [(1, .int x383), (0, .ref 27), (2, .int v2)], [], hp I F)) (fun x383 => ?_)
        refine OK_st 2 okX8_copied (S' := (4, [(2, .int (v2 + (1 : Int32))), (1, .int x383), (0, .ref 27)], [], hp I F)) rfl ⟨(by decide), trivial, trivial⟩ ?_
        refine OK_pk [2, 1, 0] rfl ?_
        exact ih x383 (v2 + (1 : Int32)) I F

def f_X8_copied (I : AI) (F : AF) : AQ :=
  f_X8_copied_4 (fun v1_384 v2_385 I386 F387 =>
    some (v1_384, I386, F387)) ab_fu (0 : Int32) (0 : Int32) I F
set_option maxRecDepth 20000 in
set_option maxHeartbeats 4000000 in
theorem kf_X8_copied (I : AI) (F : AF) : OK 0 mX8_copied true (f_X8_copied I F) (0, [(0, .ref 27)], [], hp I F) := by
  rw [f_X8_copied]
  refine OK_st 4 okX8_copied (S' := (4, [(2, .int (0 : Int32)), (1, .int (0 : Int32)), (0, .ref 27)], [], hp I F)) rfl ⟨trivial, (by decide), trivial, (by decide), trivial⟩ ?_
  refine OK_pk [2, 1, 0] rfl ?_
  refine kf_X8_copied_4 _ (fun v1_384 v2_385 I386 F387 => ?_) ab_fu (0 : Int32) (0 : Int32) I F
  refine OK_st 1 okX8_copied (S' := (36, [(0, .ref 27), (1, .int v1_384), (2, .int v2_385)], [.int v1_384], hp I386 F387)) rfl ⟨trivial, trivial⟩ ?_
  exact OK_ri okX8_copied rfl rfl (Or.inl rfl)

def f_X8_paidTogether_4 (ko : Int32 → Int32 → AI → AF → AQ) : Nat → Int32 → Int32 → AI → AF → AQ
  | 0, _, _, _, _ => none
  | n + 1, v1, v2, I, F =>
    if (6 : Int32) ≤ v2 then
      ko v1 v2 I F
    else
      bif ab_vin ((12 : Int32) + v2) 21 then
        ab_lt (v1 + (if (0 : Int32) < ((F 22) ((12 : Int32) + v2).toNatClampNeg) then ((F 22) ((12 : Int32) + v2).toNatClampNeg) else (0 : Int32))) (fun x394 =>
          f_X8_paidTogether_4 ko n x394 (v2 + (1 : Int32)) I F)
      else none
set_option maxRecDepth 20000 in
set_option maxHeartbeats 4000000 in
theorem kf_X8_paidTogether_4 (ko : Int32 → Int32 → AI → AF → AQ) (hko : ∀ v1 v2 I F, OK 0 mX8_paidTogether true (ko v1 v2 I F) (32, [(0, .ref 27), (1, .int v1), (2, .int v2)], [], hp I F)) : ∀ n v1 v2 I F, OK 0 mX8_paidTogether true (f_X8_paidTogether_4 ko n v1 v2 I F) (4, [(0, .ref 27), (1, .int v1), (2, .int v2)], [], hp I F) := by
  intro n
  induction n with
  | zero =>
    intro v1 v2 I F
    exact OK_no
  | succ n ih =>
    intro v1 v2 I F
    rw [f_X8_paidTogether_4]
    refine OK_st 3 okX8_paidTogether (S' := ((if (6 : Int32) ≤ v2 then 32 else 10), [(0, .ref 27), (1, .int v1), (2, .int v2)], [], hp I F)) rfl ⟨trivial, trivial, trivial, trivial⟩ ?_
    refine OK_if (fun h392 => ?_) (fun h392 => ?_)
    · exact hko v1 v2 I F
    · refine OK_gd (fun g393 => ?_)
      refine OK_st 11 okX8_paidTogether (S' := (26, [(1, .int (v1 + (if (0 : Int32) < ((F 22) ((12 : Int32) + v2).toNatClampNeg) then ((F 22) ((12 : Int32) + v2).toNatClampNeg) else (0 : Int32)))), (0, .ref 27), (2, .int v2)], [], hp I F)) rfl ⟨trivial, trivial, trivial, trivial, trivial, trivial, trivial, (ab_vo g393), (Nat.le_of_ble_eq_true rfl), trivial, (by decide), trivial⟩ ?_
      refine OK_lt (fun x394 => (26, [(1, .int x394), (0, .ref 27), (2, .int v2)], [], hp I F)) (fun x394 => ?_)
      refine OK_st 2 okX8_paidTogether (S' := (4, [(2, .int (v2 + (1 : Int32))), (1, .int x394), (0, .ref 27)], [], hp I F)) rfl ⟨(by decide), trivial, trivial⟩ ?_
      refine OK_pk [2, 1, 0] rfl ?_
      exact ih x394 (v2 + (1 : Int32)) I F

def f_X8_paidTogether (I : AI) (F : AF) : AQ :=
  f_X8_paidTogether_4 (fun v1_395 v2_396 I397 F398 =>
    some (v1_395, I397, F398)) ab_fu (0 : Int32) (0 : Int32) I F
set_option maxRecDepth 20000 in
set_option maxHeartbeats 4000000 in
theorem kf_X8_paidTogether (I : AI) (F : AF) : OK 0 mX8_paidTogether true (f_X8_paidTogether I F) (0, [(0, .ref 27)], [], hp I F) := by
  rw [f_X8_paidTogether]
  refine OK_st 4 okX8_paidTogether (S' := (4, [(2, .int (0 : Int32)), (1, .int (0 : Int32)), (0, .ref 27)], [], hp I F)) rfl ⟨trivial, (by decide), trivial, (by decide), trivial⟩ ?_
  refine OK_pk [2, 1, 0] rfl ?_
  refine kf_X8_paidTogether_4 _ (fun v1_395 v2_396 I397 F398 => ?_) ab_fu (0 : Int32) (0 : Int32) I F
  refine OK_st 1 okX8_paidTogether (S' := (33, [(0, .ref 27), (1, .int v1_395), (2, .int v2_396)], [.int v1_395], hp I397 F398)) rfl ⟨trivial, trivial⟩ ?_
  exact OK_ri okX8_paidTogether rfl rfl (Or.inl rfl)

def f_X8_noughts_4 (ko : Int32 → Int32 → AI → AF → AQ) : Nat → Int32 → Int32 → AI → AF → AQ
  | 0, _, _, _, _ => none
  | n + 1, v1, v2, I, F =>
    if (6 : Int32) ≤ v2 then
      ko v1 v2 I F
    else
      bif ab_vin ((12 : Int32) + v2) 21 then
        if ¬ ((F 22) ((12 : Int32) + v2).toNatClampNeg) = 0 then
          f_X8_noughts_4 ko n v1 (v2 + (1 : Int32)) I F
        else
          ab_lt (v1 ||| ((1 : Int32) <<< (v2 &&& 31))) (fun x406 =>
            f_X8_noughts_4 ko n x406 (v2 + (1 : Int32)) I F)
      else none
set_option maxRecDepth 20000 in
set_option maxHeartbeats 4000000 in
theorem kf_X8_noughts_4 (ko : Int32 → Int32 → AI → AF → AQ) (hko : ∀ v1 v2 I F, OK 0 mX8_noughts true (ko v1 v2 I F) (34, [(0, .ref 27), (1, .int v1), (2, .int v2)], [], hp I F)) : ∀ n v1 v2 I F, OK 0 mX8_noughts true (f_X8_noughts_4 ko n v1 v2 I F) (4, [(0, .ref 27), (1, .int v1), (2, .int v2)], [], hp I F) := by
  intro n
  induction n with
  | zero =>
    intro v1 v2 I F
    exact OK_no
  | succ n ih =>
    intro v1 v2 I F
    rw [f_X8_noughts_4]
    refine OK_st 3 okX8_noughts (S' := ((if (6 : Int32) ≤ v2 then 34 else 10), [(0, .ref 27), (1, .int v1), (2, .int v2)], [], hp I F)) rfl ⟨trivial, trivial, trivial, trivial⟩ ?_
    refine OK_if (fun h403 => ?_) (fun h403 => ?_)
    · exact hko v1 v2 I F
    · refine OK_gd (fun g404 => ?_)
      refine OK_st 7 okX8_noughts (S' := ((if ¬ ((F 22) ((12 : Int32) + v2).toNatClampNeg) = 0 then 28 else 22), [(0, .ref 27), (1, .int v1), (2, .int v2)], [], hp I F)) rfl ⟨trivial, trivial, trivial, trivial, trivial, (ab_vo g404), trivial, trivial⟩ ?_
      refine OK_if (fun h405 => ?_) (fun h405 => ?_)
      · refine OK_st 2 okX8_noughts (S' := (4, [(2, .int (v2 + (1 : Int32))), (0, .ref 27), (1, .int v1)], [], hp I F)) rfl ⟨(by decide), trivial, trivial⟩ ?_
        refine OK_pk [1, 2, 0] rfl ?_
        exact ih v1 (v2 + (1 : Int32)) I F
      · refine OK_st 6 okX8_noughts (S' := (28, [(1, .int (v1 ||| ((1 : Int32) <<< (v2 &&& 31)))), (0, .ref 27), (2, .int v2)], [], hp I F)) rfl ⟨trivial, trivial, trivial, trivial, trivial, (by decide), trivial⟩ ?_
        refine OK_lt (fun x406 => (28, [(1, .int x406), (0, .ref 27), (2, .int v2)], [], hp I F)) (fun x406 => ?_)
        refine OK_st 2 okX8_noughts (S' := (4, [(2, .int (v2 + (1 : Int32))), (1, .int x406), (0, .ref 27)], [], hp I F)) rfl ⟨(by decide), trivial, trivial⟩ ?_
        refine OK_pk [2, 1, 0] rfl ?_
        exact ih x406 (v2 + (1 : Int32)) I F

def f_X8_noughts (I : AI) (F : AF) : AQ :=
  f_X8_noughts_4 (fun v1_407 v2_408 I409 F410 =>
    some (v1_407, I409, F410)) ab_fu (0 : Int32) (0 : Int32) I F
set_option maxRecDepth 20000 in
set_option maxHeartbeats 4000000 in
theorem kf_X8_noughts (I : AI) (F : AF) : OK 0 mX8_noughts true (f_X8_noughts I F) (0, [(0, .ref 27)], [], hp I F) := by
  rw [f_X8_noughts]
  refine OK_st 4 okX8_noughts (S' := (4, [(2, .int (0 : Int32)), (1, .int (0 : Int32)), (0, .ref 27)], [], hp I F)) rfl ⟨trivial, (by decide), trivial, (by decide), trivial⟩ ?_
  refine OK_pk [2, 1, 0] rfl ?_
  refine kf_X8_noughts_4 _ (fun v1_407 v2_408 I409 F410 => ?_) ab_fu (0 : Int32) (0 : Int32) I F
  refine OK_st 1 okX8_noughts (S' := (35, [(0, .ref 27), (1, .int v1_407), (2, .int v2_408)], [.int v1_407], hp I409 F410)) rfl ⟨trivial, trivial⟩ ?_
  exact OK_ri okX8_noughts rfl rfl (Or.inl rfl)

def f_X9_told (v1 : Int32) (I : AI) (F : AF) : AQ :=
  if v1 = (0 : Int32) then
    some ((I 9), I, F)
  else if v1 = (1 : Int32) then
    some ((I 10), I, F)
  else if v1 = (2 : Int32) then
    some ((I 11), I, F)
  else if v1 = (3 : Int32) then
    some ((I 5), I, F)
  else if v1 = (4 : Int32) then
    ab_bd (f_X8_seasons I F) (fun r372 I373 F374 =>
      some (r372, I373, F374))
  else if v1 = (5 : Int32) then
    ab_bd (f_X8_living I F) (fun r376 I377 F378 =>
      some (r376, I377, F378))
  else if v1 = (6 : Int32) then
    ab_bd (f_X8_copied I F) (fun r388 I389 F390 =>
      some (r388, I389, F390))
  else if v1 = (7 : Int32) then
    ab_bd (f_X8_paidTogether I F) (fun r399 I400 F401 =>
      some (r399, I400, F401))
  else if v1 = (8 : Int32) then
    ab_bd (f_X8_noughts I F) (fun r411 I412 F413 =>
      some (r411, I412, F413))
  else if v1 = (9 : Int32) then
    some ((I 15), I, F)
  else if v1 = (10 : Int32) then
    some ((I 16), I, F)
  else if v1 = (11 : Int32) then
    some ((I 13), I, F)
  else 
    some ((-1000000002 : Int32), I, F)
set_option maxRecDepth 20000 in
set_option maxHeartbeats 4000000 in
theorem kf_X9_told (v1 : Int32) (I : AI) (F : AF) : OK 1 mX9_told true (f_X9_told v1 I F) (0, [(0, .ref 0), (1, .int v1)], [], hp I F) := by
  rw [f_X9_told]
  refine OK_st 1 okX9_told (S' := (1, [(0, .ref 0), (1, .int v1)], [.int v1], hp I F)) rfl ⟨trivial, trivial⟩ ?_
  refine OK_ci (fun h367 => ?_) (fun h367 => ?_)
  · subst h367
    refine OK_st 1 okX9_told (S' := (64, [(0, .ref 0), (1, .int (0 : Int32))], [], hp I F)) rfl ⟨trivial, trivial⟩ ?_
    refine OK_st 3 okX9_told (S' := (71, [(0, .ref 0), (1, .int (0 : Int32))], [.int (I 9)], hp I F)) rfl ⟨trivial, trivial, trivial, trivial⟩ ?_
    exact OK_ri okX9_told rfl rfl (Or.inl rfl)
  · skip
    refine OK_ci (fun h368 => ?_) (fun h368 => ?_)
    · subst h368
      refine OK_st 1 okX9_told (S' := (72, [(0, .ref 0), (1, .int (1 : Int32))], [], hp I F)) rfl ⟨trivial, trivial⟩ ?_
      refine OK_st 3 okX9_told (S' := (79, [(0, .ref 0), (1, .int (1 : Int32))], [.int (I 10)], hp I F)) rfl ⟨trivial, trivial, trivial, trivial⟩ ?_
      exact OK_ri okX9_told rfl rfl (Or.inl rfl)
    · skip
      refine OK_ci (fun h369 => ?_) (fun h369 => ?_)
      · subst h369
        refine OK_st 1 okX9_told (S' := (80, [(0, .ref 0), (1, .int (2 : Int32))], [], hp I F)) rfl ⟨trivial, trivial⟩ ?_
        refine OK_st 3 okX9_told (S' := (87, [(0, .ref 0), (1, .int (2 : Int32))], [.int (I 11)], hp I F)) rfl ⟨trivial, trivial, trivial, trivial⟩ ?_
        exact OK_ri okX9_told rfl rfl (Or.inl rfl)
      · skip
        refine OK_ci (fun h370 => ?_) (fun h370 => ?_)
        · subst h370
          refine OK_st 1 okX9_told (S' := (88, [(0, .ref 0), (1, .int (3 : Int32))], [], hp I F)) rfl ⟨trivial, trivial⟩ ?_
          refine OK_st 4 okX9_told (S' := (98, [(0, .ref 0), (1, .int (3 : Int32))], [.int (I 5)], hp I F)) rfl ⟨trivial, trivial, trivial, trivial, trivial⟩ ?_
          exact OK_ri okX9_told rfl rfl (Or.inl rfl)
        · skip
          refine OK_ci (fun h371 => ?_) (fun h371 => ?_)
          · subst h371
            refine OK_st 1 okX9_told (S' := (99, [(0, .ref 0), (1, .int (4 : Int32))], [], hp I F)) rfl ⟨trivial, trivial⟩ ?_
            refine OK_st 2 okX9_told (S' := (103, [(0, .ref 0), (1, .int (4 : Int32))], [.ref 27], hp I F)) rfl ⟨trivial, trivial, trivial⟩ ?_
            refine OK_cv [] [] okX9_told okX8_seasons rfl rfl cl_RX9_126 rfl rfl (Nat.le_of_ble_eq_true rfl) (by decide) (Nat.le_of_ble_eq_true rfl) (kf_X8_seasons I F) (fun r372 I373 F374 => ?_)
            exact OK_ri okX9_told rfl rfl (Or.inl rfl)
          · skip
            refine OK_ci (fun h375 => ?_) (fun h375 => ?_)
            · subst h375
              refine OK_st 1 okX9_told (S' := (107, [(0, .ref 0), (1, .int (5 : Int32))], [], hp I F)) rfl ⟨trivial, trivial⟩ ?_
              refine OK_st 2 okX9_told (S' := (111, [(0, .ref 0), (1, .int (5 : Int32))], [.ref 27], hp I F)) rfl ⟨trivial, trivial, trivial⟩ ?_
              refine OK_cv [] [] okX9_told okX8_living rfl rfl cl_RX9_130 rfl rfl (Nat.le_of_ble_eq_true rfl) (by decide) (Nat.le_of_ble_eq_true rfl) (kf_X8_living I F) (fun r376 I377 F378 => ?_)
              exact OK_ri okX9_told rfl rfl (Or.inl rfl)
            · skip
              refine OK_ci (fun h379 => ?_) (fun h379 => ?_)
              · subst h379
                refine OK_st 1 okX9_told (S' := (115, [(0, .ref 0), (1, .int (6 : Int32))], [], hp I F)) rfl ⟨trivial, trivial⟩ ?_
                refine OK_st 2 okX9_told (S' := (119, [(0, .ref 0), (1, .int (6 : Int32))], [.ref 27], hp I F)) rfl ⟨trivial, trivial, trivial⟩ ?_
                refine OK_cv [] [] okX9_told okX8_copied rfl rfl cl_RX9_133 rfl rfl (Nat.le_of_ble_eq_true rfl) (by decide) (Nat.le_of_ble_eq_true rfl) (kf_X8_copied I F) (fun r388 I389 F390 => ?_)
                exact OK_ri okX9_told rfl rfl (Or.inl rfl)
              · skip
                refine OK_ci (fun h391 => ?_) (fun h391 => ?_)
                · subst h391
                  refine OK_st 1 okX9_told (S' := (123, [(0, .ref 0), (1, .int (7 : Int32))], [], hp I F)) rfl ⟨trivial, trivial⟩ ?_
                  refine OK_st 2 okX9_told (S' := (127, [(0, .ref 0), (1, .int (7 : Int32))], [.ref 27], hp I F)) rfl ⟨trivial, trivial, trivial⟩ ?_
                  refine OK_cv [] [] okX9_told okX8_paidTogether rfl rfl cl_RX9_136 rfl rfl (Nat.le_of_ble_eq_true rfl) (by decide) (Nat.le_of_ble_eq_true rfl) (kf_X8_paidTogether I F) (fun r399 I400 F401 => ?_)
                  exact OK_ri okX9_told rfl rfl (Or.inl rfl)
                · skip
                  refine OK_ci (fun h402 => ?_) (fun h402 => ?_)
                  · subst h402
                    refine OK_st 1 okX9_told (S' := (131, [(0, .ref 0), (1, .int (8 : Int32))], [], hp I F)) rfl ⟨trivial, trivial⟩ ?_
                    refine OK_st 2 okX9_told (S' := (135, [(0, .ref 0), (1, .int (8 : Int32))], [.ref 27], hp I F)) rfl ⟨trivial, trivial, trivial⟩ ?_
                    refine OK_cv [] [] okX9_told okX8_noughts rfl rfl cl_RX9_139 rfl rfl (Nat.le_of_ble_eq_true rfl) (by decide) (Nat.le_of_ble_eq_true rfl) (kf_X8_noughts I F) (fun r411 I412 F413 => ?_)
                    exact OK_ri okX9_told rfl rfl (Or.inl rfl)
                  · skip
                    refine OK_ci (fun h414 => ?_) (fun h414 => ?_)
                    · subst h414
                      refine OK_st 1 okX9_told (S' := (139, [(0, .ref 0), (1, .int (9 : Int32))], [], hp I F)) rfl ⟨trivial, trivial⟩ ?_
                      refine OK_st 3 okX9_told (S' := (146, [(0, .ref 0), (1, .int (9 : Int32))], [.int (I 15)], hp I F)) rfl ⟨trivial, trivial, trivial, trivial⟩ ?_
                      exact OK_ri okX9_told rfl rfl (Or.inl rfl)
                    · skip
                      refine OK_ci (fun h415 => ?_) (fun h415 => ?_)
                      · subst h415
                        refine OK_st 1 okX9_told (S' := (147, [(0, .ref 0), (1, .int (10 : Int32))], [], hp I F)) rfl ⟨trivial, trivial⟩ ?_
                        refine OK_st 3 okX9_told (S' := (154, [(0, .ref 0), (1, .int (10 : Int32))], [.int (I 16)], hp I F)) rfl ⟨trivial, trivial, trivial, trivial⟩ ?_
                        exact OK_ri okX9_told rfl rfl (Or.inl rfl)
                      · skip
                        refine OK_ci (fun h416 => ?_) (fun h416 => ?_)
                        · subst h416
                          refine OK_st 1 okX9_told (S' := (155, [(0, .ref 0), (1, .int (11 : Int32))], [], hp I F)) rfl ⟨trivial, trivial⟩ ?_
                          refine OK_st 3 okX9_told (S' := (162, [(0, .ref 0), (1, .int (11 : Int32))], [.int (I 13)], hp I F)) rfl ⟨trivial, trivial, trivial, trivial⟩ ?_
                          exact OK_ri okX9_told rfl rfl (Or.inl rfl)
                        · skip
                          refine OK_st 1 okX9_told (S' := (ab_tsw 1 162 0 11 #[63, 71, 79, 87, 98, 106, 114, 122, 130, 138, 146, 154] v1, [(0, .ref 0), (1, .int v1)], [], hp I F)) rfl ⟨trivial, trivial⟩ ?_
                          refine OK_pc (pc' := 163) (if_pos (by
                            have qh367 := lv_neT h367 (show (0 : Int32).toInt = 0 from rfl)
                            have qh368 := lv_neT h368 (show (1 : Int32).toInt = 1 from rfl)
                            have qh369 := lv_neT h369 (show (2 : Int32).toInt = 2 from rfl)
                            have qh370 := lv_neT h370 (show (3 : Int32).toInt = 3 from rfl)
                            have qh371 := lv_neT h371 (show (4 : Int32).toInt = 4 from rfl)
                            have qh375 := lv_neT h375 (show (5 : Int32).toInt = 5 from rfl)
                            have qh379 := lv_neT h379 (show (6 : Int32).toInt = 6 from rfl)
                            have qh391 := lv_neT h391 (show (7 : Int32).toInt = 7 from rfl)
                            have qh402 := lv_neT h402 (show (8 : Int32).toInt = 8 from rfl)
                            have qh414 := lv_neT h414 (show (9 : Int32).toInt = 9 from rfl)
                            have qh415 := lv_neT h415 (show (10 : Int32).toInt = 10 from rfl)
                            have qh416 := lv_neT h416 (show (11 : Int32).toInt = 11 from rfl)
                            omega)) ?_
                          refine OK_st 1 okX9_told (S' := (165, [(0, .ref 0), (1, .int v1)], [.int (-1000000002 : Int32)], hp I F)) rfl ⟨trivial, trivial⟩ ?_
                          exact OK_ri okX9_told rfl rfl (Or.inl rfl)

def f_X5_hasLimb (v1 : Int32) (I : AI) (F : AF) : AQ :=
  if v1 < 0 then
    some ((0 : Int32), I, F)
  else
    if (I 9) ≤ v1 then
      some ((0 : Int32), I, F)
    else
      some ((1 : Int32), I, F)
set_option maxRecDepth 20000 in
set_option maxHeartbeats 4000000 in
theorem kf_X5_hasLimb (v1 : Int32) (I : AI) (F : AF) : OK 0 mX5_hasLimb true (f_X5_hasLimb v1 I F) (0, [(0, .ref 16), (1, .int v1)], [], hp I F) := by
  rw [f_X5_hasLimb]
  refine OK_st 2 okX5_hasLimb (S' := ((if v1 < 0 then 16 else 4), [(0, .ref 16), (1, .int v1)], [], hp I F)) rfl ⟨trivial, trivial, trivial⟩ ?_
  refine OK_if (fun h417 => ?_) (fun h417 => ?_)
  · refine OK_st 1 okX5_hasLimb (S' := (17, [(0, .ref 16), (1, .int v1)], [.int (0 : Int32)], hp I F)) rfl ⟨trivial, trivial⟩ ?_
    exact OK_ri okX5_hasLimb rfl rfl (Or.inr ⟨rfl, Or.inl rfl⟩)
  · refine OK_st 4 okX5_hasLimb (S' := ((if (I 9) ≤ v1 then 16 else 12), [(0, .ref 16), (1, .int v1)], [], hp I F)) rfl ⟨trivial, trivial, trivial, trivial, trivial⟩ ?_
    refine OK_if (fun h418 => ?_) (fun h418 => ?_)
    · refine OK_st 1 okX5_hasLimb (S' := (17, [(0, .ref 16), (1, .int v1)], [.int (0 : Int32)], hp I F)) rfl ⟨trivial, trivial⟩ ?_
      exact OK_ri okX5_hasLimb rfl rfl (Or.inr ⟨rfl, Or.inl rfl⟩)
    · refine OK_st 2 okX5_hasLimb (S' := (17, [(0, .ref 16), (1, .int v1)], [.int (1 : Int32)], hp I F)) rfl ⟨trivial, trivial, trivial⟩ ?_
      exact OK_ri okX5_hasLimb rfl rfl (Or.inr ⟨rfl, Or.inr rfl⟩)

def f_X8_lengthOf (v1 : Int32) (I : AI) (F : AF) : AQ :=
  bif ab_vin ((0 : Int32) + v1) 21 then
    some (((F 22) ((0 : Int32) + v1).toNatClampNeg), I, F)
  else none
set_option maxRecDepth 20000 in
set_option maxHeartbeats 4000000 in
theorem kf_X8_lengthOf (v1 : Int32) (I : AI) (F : AF) : OK 0 mX8_lengthOf true (f_X8_lengthOf v1 I F) (0, [(0, .ref 27), (1, .int v1)], [], hp I F) := by
  rw [f_X8_lengthOf]
  refine OK_gd (fun g424 => ?_)
  refine OK_st 6 okX8_lengthOf (S' := (8, [(0, .ref 27), (1, .int v1)], [.int ((F 22) ((0 : Int32) + v1).toNatClampNeg)], hp I F)) rfl ⟨trivial, trivial, trivial, trivial, trivial, (ab_vo g424), trivial⟩ ?_
  exact OK_ri okX8_lengthOf rfl rfl (Or.inl rfl)

def f_X8_lives (v1 : Int32) (I : AI) (F : AF) : AQ :=
  if ((((F 22) 18) >>> (v1 &&& 31)) &&& (1 : Int32)) = 0 then
    some ((0 : Int32), I, F)
  else
    some ((1 : Int32), I, F)
set_option maxRecDepth 20000 in
set_option maxHeartbeats 4000000 in
theorem kf_X8_lives (v1 : Int32) (I : AI) (F : AF) : OK 0 mX8_lives true (f_X8_lives v1 I F) (0, [(0, .ref 27), (1, .int v1)], [], hp I F) := by
  rw [f_X8_lives]
  refine OK_st 9 okX8_lives (S' := ((if ((((F 22) 18) >>> (v1 &&& 31)) &&& (1 : Int32)) = 0 then 18 else 14), [(0, .ref 27), (1, .int v1)], [], hp I F)) rfl ⟨trivial, trivial, trivial, (ab_vo (by decide)), trivial, trivial, trivial, trivial, trivial, trivial⟩ ?_
  refine OK_if (fun h433 => ?_) (fun h433 => ?_)
  · refine OK_st 1 okX8_lives (S' := (19, [(0, .ref 27), (1, .int v1)], [.int (0 : Int32)], hp I F)) rfl ⟨trivial, trivial⟩ ?_
    exact OK_ri okX8_lives rfl rfl (Or.inr ⟨rfl, Or.inl rfl⟩)
  · refine OK_st 2 okX8_lives (S' := (19, [(0, .ref 27), (1, .int v1)], [.int (1 : Int32)], hp I F)) rfl ⟨trivial, trivial, trivial⟩ ?_
    exact OK_ri okX8_lives rfl rfl (Or.inr ⟨rfl, Or.inr rfl⟩)

def f_X5_addedIn (v1 : Int32) (v2 : Int32) (I : AI) (F : AF) : AQ :=
  bif ab_vin ((v1 * (4 : Int32)) + (v2 - v2 / (4 : Int32) * (4 : Int32))) 24 then
    some ((((F 13) ((v1 * (4 : Int32)) + (v2 - v2 / (4 : Int32) * (4 : Int32))).toNatClampNeg) - (9 : Int32)), I, F)
  else none
set_option maxRecDepth 20000 in
set_option maxHeartbeats 4000000 in
theorem kf_X5_addedIn (v1 : Int32) (v2 : Int32) (I : AI) (F : AF) : OK 0 mX5_addedIn true (f_X5_addedIn v1 v2 I F) (0, [(0, .ref 16), (1, .int v1), (2, .int v2)], [], hp I F) := by
  rw [f_X5_addedIn]
  refine OK_gd (fun g440 => ?_)
  refine OK_st 12 okX5_addedIn (S' := (15, [(0, .ref 16), (1, .int v1), (2, .int v2)], [.int (((F 13) ((v1 * (4 : Int32)) + (v2 - v2 / (4 : Int32) * (4 : Int32))).toNatClampNeg) - (9 : Int32))], hp I F)) rfl ⟨trivial, trivial, trivial, trivial, trivial, trivial, trivial, (by decide), trivial, (ab_vo g440), trivial, trivial, trivial⟩ ?_
  exact OK_ri okX5_addedIn rfl rfl (Or.inl rfl)

def f_X8_ownMeasure (v2 : Int32) (v3 : Int32) (I : AI) (F : AF) : AQ :=
  bif ab_vin ((0 : Int32) + v2) 21 then
    ab_bd (f_X5_addedIn v2 v3 I F) (fun r441 I442 F443 =>
      some ((if (0 : Int32) < (((F 22) ((0 : Int32) + v2).toNatClampNeg) + r441) then (((F 22) ((0 : Int32) + v2).toNatClampNeg) + r441) else (0 : Int32)), I442, F443))
  else none
set_option maxRecDepth 20000 in
set_option maxHeartbeats 4000000 in
theorem kf_X8_ownMeasure (v2 : Int32) (v3 : Int32) (I : AI) (F : AF) : OK 1 mX8_ownMeasure true (f_X8_ownMeasure v2 v3 I F) (0, [(0, .ref 27), (1, .ref 16), (2, .int v2), (3, .int v3)], [], hp I F) := by
  rw [f_X8_ownMeasure]
  refine OK_gd (fun g439 => ?_)
  refine OK_st 10 okX8_ownMeasure (S' := (12, [(0, .ref 27), (1, .ref 16), (2, .int v2), (3, .int v3)], [.int v3, .int v2, .ref 16, .int ((F 22) ((0 : Int32) + v2).toNatClampNeg), .int (0 : Int32)], hp I F)) rfl ⟨trivial, trivial, trivial, trivial, trivial, trivial, (ab_vo g439), trivial, trivial, trivial, trivial⟩ ?_
  refine OK_cv [.int v2, .int v3] [.int ((F 22) ((0 : Int32) + v2).toNatClampNeg), .int (0 : Int32)] okX8_ownMeasure okX5_addedIn rfl rfl cl_RX8_36 rfl rfl (Nat.le_of_ble_eq_true rfl) (by decide) (Nat.le_of_ble_eq_true rfl) (kf_X5_addedIn v2 v3 I F) (fun r441 I442 F443 => ?_)
  refine OK_st 2 okX8_ownMeasure (S' := (19, [(0, .ref 27), (1, .ref 16), (2, .int v2), (3, .int v3)], [.int (if (0 : Int32) < (((F 22) ((0 : Int32) + v2).toNatClampNeg) + r441) then (((F 22) ((0 : Int32) + v2).toNatClampNeg) + r441) else (0 : Int32))], hp I442 F443)) rfl ⟨trivial, (Nat.le_of_ble_eq_true rfl), trivial⟩ ?_
  exact OK_ri okX8_ownMeasure rfl rfl (Or.inl rfl)

def f_X8_measure_6 (v3 : Int32) (ko : Int32 → Int32 → AI → AF → AQ) : Nat → Int32 → Int32 → AI → AF → AQ
  | 0, _, _, _, _ => none
  | n + 1, v4, v5, I, F =>
    if (6 : Int32) < v5 then
      ko v4 v5 I F
    else
      if v4 = (-1 : Int32) then
        ko v4 v5 I F
      else
        bif ab_vin ((6 : Int32) + v4) 21 then
          if ((F 22) ((6 : Int32) + v4).toNatClampNeg) = (-1 : Int32) then
            ab_bd (f_X8_lives v4 I F) (fun r434 I435 F436 =>
              if r434 = 0 then
                bif ab_vin v4 6 then
                  f_X8_measure_6 v3 ko n ((F436 14) v4.toNatClampNeg) (v5 + (1 : Int32)) I435 F436
                else none
              else
                ab_bd (f_X8_ownMeasure v4 v3 I435 F436) (fun r444 I445 F446 =>
                  some (r444, I445, F446)))
          else
            bif ab_vin ((6 : Int32) + v4) 21 then
              some (((F 22) ((6 : Int32) + v4).toNatClampNeg), I, F)
            else none
        else none
set_option maxRecDepth 20000 in
set_option maxHeartbeats 4000000 in
theorem kf_X8_measure_6 (v3 : Int32) (ko : Int32 → Int32 → AI → AF → AQ) (hko : ∀ v4 v5 I F, OK 2 mX8_measure true (ko v4 v5 I F) (77, [(0, .ref 27), (1, .ref 16), (3, .int v3), (4, .int v4), (5, .int v5)], [], hp I F)) : ∀ n v4 v5 I F, OK 2 mX8_measure true (f_X8_measure_6 v3 ko n v4 v5 I F) (6, [(0, .ref 27), (1, .ref 16), (3, .int v3), (4, .int v4), (5, .int v5)], [], hp I F) := by
  intro n
  induction n with
  | zero =>
    intro v4 v5 I F
    exact OK_no
  | succ n ih =>
    intro v4 v5 I F
    rw [f_X8_measure_6]
    refine OK_st 3 okX8_measure (S' := ((if (6 : Int32) < v5 then 77 else 13), [(0, .ref 27), (1, .ref 16), (3, .int v3), (4, .int v4), (5, .int v5)], [], hp I F)) rfl ⟨trivial, trivial, trivial, trivial⟩ ?_
    refine OK_if (fun h429 => ?_) (fun h429 => ?_)
    · exact hko v4 v5 I F
    · refine OK_st 3 okX8_measure (S' := ((if v4 = (-1 : Int32) then 77 else 19), [(0, .ref 27), (1, .ref 16), (3, .int v3), (4, .int v4), (5, .int v5)], [], hp I F)) rfl ⟨trivial, trivial, trivial, trivial⟩ ?_
      refine OK_if (fun h430 => ?_) (fun h430 => ?_)
      · exact hko v4 v5 I F
      · refine OK_gd (fun g431 => ?_)
        refine OK_st 8 okX8_measure (S' := ((if ((F 22) ((6 : Int32) + v4).toNatClampNeg) = (-1 : Int32) then 44 else 33), [(0, .ref 27), (1, .ref 16), (3, .int v3), (4, .int v4), (5, .int v5)], [], hp I F)) rfl ⟨trivial, trivial, trivial, trivial, trivial, (ab_vo g431), trivial, trivial, trivial⟩ ?_
        refine OK_if (fun h432 => ?_) (fun h432 => ?_)
        · refine OK_st 2 okX8_measure (S' := (47, [(0, .ref 27), (1, .ref 16), (3, .int v3), (4, .int v4), (5, .int v5)], [.int v4, .ref 27], hp I F)) rfl ⟨trivial, trivial, trivial⟩ ?_
          refine OK_cv [.int v4] [] okX8_measure okX8_lives rfl rfl cl_RX8_39 rfl rfl (Nat.le_of_ble_eq_true rfl) (by decide) (Nat.le_of_ble_eq_true rfl) (kf_X8_lives v4 I F) (fun r434 I435 F436 => ?_)
          refine OK_st 1 okX8_measure (S' := ((if r434 = 0 then 62 else 53), [(0, .ref 27), (1, .ref 16), (3, .int v3), (4, .int v4), (5, .int v5)], [], hp I435 F436)) rfl ⟨trivial, trivial⟩ ?_
          refine OK_if (fun h437 => ?_) (fun h437 => ?_)
          · refine OK_gd (fun g438 => ?_)
            refine OK_st 7 okX8_measure (S' := (6, [(5, .int (v5 + (1 : Int32))), (4, .int ((F436 14) v4.toNatClampNeg)), (0, .ref 27), (1, .ref 16), (3, .int v3)], [], hp I435 F436)) rfl ⟨trivial, trivial, trivial, (ab_vo g438), (by decide), (by decide), trivial, trivial⟩ ?_
            refine OK_pk [2, 3, 4, 1, 0] rfl ?_
            exact ih ((F436 14) v4.toNatClampNeg) (v5 + (1 : Int32)) I435 F436
          · refine OK_st 4 okX8_measure (S' := (58, [(0, .ref 27), (1, .ref 16), (3, .int v3), (4, .int v4), (5, .int v5)], [.int v3, .int v4, .ref 16, .ref 27], hp I435 F436)) rfl ⟨trivial, trivial, trivial, trivial, trivial⟩ ?_
            refine OK_cv [.ref 16, .int v4, .int v3] [] okX8_measure okX8_ownMeasure rfl rfl cl_RX8_43 rfl rfl (Nat.le_of_ble_eq_true rfl) (by decide) (Nat.le_of_ble_eq_true rfl) (kf_X8_ownMeasure v4 v3 I435 F436) (fun r444 I445 F446 => ?_)
            exact OK_ri okX8_measure rfl rfl (Or.inl rfl)
        · refine OK_gd (fun g447 => ?_)
          refine OK_st 6 okX8_measure (S' := (43, [(0, .ref 27), (1, .ref 16), (3, .int v3), (4, .int v4), (5, .int v5)], [.int ((F 22) ((6 : Int32) + v4).toNatClampNeg)], hp I F)) rfl ⟨trivial, trivial, trivial, trivial, trivial, (ab_vo g447), trivial⟩ ?_
          exact OK_ri okX8_measure rfl rfl (Or.inl rfl)

def f_X8_measure (v2 : Int32) (v3 : Int32) (I : AI) (F : AF) : AQ :=
  f_X8_measure_6 v3 (fun v4_448 v5_449 I450 F451 =>
    some ((0 : Int32), I450, F451)) ab_fu v2 (0 : Int32) I F
set_option maxRecDepth 20000 in
set_option maxHeartbeats 4000000 in
theorem kf_X8_measure (v2 : Int32) (v3 : Int32) (I : AI) (F : AF) : OK 2 mX8_measure true (f_X8_measure v2 v3 I F) (0, [(0, .ref 27), (1, .ref 16), (2, .int v2), (3, .int v3)], [], hp I F) := by
  rw [f_X8_measure]
  refine OK_st 4 okX8_measure (S' := (6, [(5, .int (0 : Int32)), (4, .int v2), (0, .ref 27), (1, .ref 16), (2, .int v2), (3, .int v3)], [], hp I F)) rfl ⟨trivial, (by decide), trivial, (by decide), trivial⟩ ?_
  refine OK_pk [2, 3, 5, 1, 0] rfl ?_
  refine kf_X8_measure_6 v3 _ (fun v4_448 v5_449 I450 F451 => ?_) ab_fu v2 (0 : Int32) I F
  refine OK_st 1 okX8_measure (S' := (78, [(0, .ref 27), (1, .ref 16), (3, .int v3), (4, .int v4_448), (5, .int v5_449)], [.int (0 : Int32)], hp I450 F451)) rfl ⟨trivial, trivial⟩ ?_
  exact OK_ri okX8_measure rfl rfl (Or.inl rfl)

def f_X8_measureNow (v2 : Int32) (I : AI) (F : AF) : AQ :=
  ab_bd (f_X8_measure v2 ((F 22) 19) I F) (fun r452 I453 F454 =>
    some (r452, I453, F454))
set_option maxRecDepth 20000 in
set_option maxHeartbeats 4000000 in
theorem kf_X8_measureNow (v2 : Int32) (I : AI) (F : AF) : OK 3 mX8_measureNow true (f_X8_measureNow v2 I F) (0, [(0, .ref 27), (1, .ref 16), (2, .int v2)], [], hp I F) := by
  rw [f_X8_measureNow]
  refine OK_st 7 okX8_measureNow (S' := (10, [(0, .ref 27), (1, .ref 16), (2, .int v2)], [.int ((F 22) 19), .int v2, .ref 16, .ref 27], hp I F)) rfl ⟨trivial, trivial, trivial, trivial, trivial, trivial, (ab_vo (by decide)), trivial⟩ ?_
  refine OK_cv [.ref 16, .int v2, .int ((F 22) 19)] [] okX8_measureNow okX8_measure rfl rfl cl_RX8_50 rfl rfl (Nat.le_of_ble_eq_true rfl) (by decide) (Nat.le_of_ble_eq_true rfl) (kf_X8_measure v2 ((F 22) 19) I F) (fun r452 I453 F454 => ?_)
  exact OK_ri okX8_measureNow rfl rfl (Or.inl rfl)

def f_X8_copyOf (v1 : Int32) (I : AI) (F : AF) : AQ :=
  bif ab_vin ((6 : Int32) + v1) 21 then
    some (((F 22) ((6 : Int32) + v1).toNatClampNeg), I, F)
  else none
set_option maxRecDepth 20000 in
set_option maxHeartbeats 4000000 in
theorem kf_X8_copyOf (v1 : Int32) (I : AI) (F : AF) : OK 0 mX8_copyOf true (f_X8_copyOf v1 I F) (0, [(0, .ref 27), (1, .int v1)], [], hp I F) := by
  rw [f_X8_copyOf]
  refine OK_gd (fun g466 => ?_)
  refine OK_st 6 okX8_copyOf (S' := (9, [(0, .ref 27), (1, .int v1)], [.int ((F 22) ((6 : Int32) + v1).toNatClampNeg)], hp I F)) rfl ⟨trivial, trivial, trivial, trivial, trivial, (ab_vo g466), trivial⟩ ?_
  exact OK_ri okX8_copyOf rfl rfl (Or.inl rfl)

def f_X5_addedAsTold (v1 : Int32) (v2 : Int32) (I : AI) (F : AF) : AQ :=
  bif ab_vin ((v1 * (4 : Int32)) + v2) 24 then
    some (((F 13) ((v1 * (4 : Int32)) + v2).toNatClampNeg), I, F)
  else none
set_option maxRecDepth 20000 in
set_option maxHeartbeats 4000000 in
theorem kf_X5_addedAsTold (v1 : Int32) (v2 : Int32) (I : AI) (F : AF) : OK 0 mX5_addedAsTold true (f_X5_addedAsTold v1 v2 I F) (0, [(0, .ref 16), (1, .int v1), (2, .int v2)], [], hp I F) := by
  rw [f_X5_addedAsTold]
  refine OK_gd (fun g471 => ?_)
  refine OK_st 8 okX5_addedAsTold (S' := (10, [(0, .ref 16), (1, .int v1), (2, .int v2)], [.int ((F 13) ((v1 * (4 : Int32)) + v2).toNatClampNeg)], hp I F)) rfl ⟨trivial, trivial, trivial, trivial, trivial, trivial, trivial, (ab_vo g471), trivial⟩ ?_
  exact OK_ri okX5_addedAsTold rfl rfl (Or.inl rfl)

def f_X9_limb (v1 : Int32) (v2 : Int32) (I : AI) (F : AF) : AQ :=
  ab_bd (f_X5_hasLimb v1 I F) (fun r419 I420 F421 =>
    if ¬ r419 = 0 then
      if v2 = (0 : Int32) then
        ab_bd (f_X8_lengthOf v1 I420 F421) (fun r425 I426 F427 =>
          some (r425, I426, F427))
      else if v2 = (1 : Int32) then
        ab_bd (f_X8_measureNow v1 I420 F421) (fun r455 I456 F457 =>
          some (r455, I456, F457))
      else if v2 = (2 : Int32) then
        bif ab_vin v1 6 then
          some (((F421 14) v1.toNatClampNeg), I420, F421)
        else none
      else if v2 = (3 : Int32) then
        ab_bd (f_X8_lives v1 I420 F421) (fun r461 I462 F463 =>
          if r461 = 0 then
            some ((0 : Int32), I462, F463)
          else
            some ((1 : Int32), I462, F463))
      else if v2 = (4 : Int32) then
        ab_bd (f_X8_copyOf v1 I420 F421) (fun r467 I468 F469 =>
          some (r467, I468, F469))
      else if v2 = (5 : Int32) then
        ab_bd (f_X5_addedAsTold v1 (v2 - (5 : Int32)) I420 F421) (fun r472 I473 F474 =>
          some (r472, I473, F474))
      else if v2 = (6 : Int32) then
        ab_bd (f_X5_addedAsTold v1 (v2 - (5 : Int32)) I420 F421) (fun r476 I477 F478 =>
          some (r476, I477, F478))
      else if v2 = (7 : Int32) then
        ab_bd (f_X5_addedAsTold v1 (v2 - (5 : Int32)) I420 F421) (fun r480 I481 F482 =>
          some (r480, I481, F482))
      else if v2 = (8 : Int32) then
        ab_bd (f_X5_addedAsTold v1 (v2 - (5 : Int32)) I420 F421) (fun r484 I485 F486 =>
          some (r484, I485, F486))
      else 
        some ((-1000000002 : Int32), I420, F421)
    else
      some ((-1000000001 : Int32), I420, F421))
set_option maxRecDepth 20000 in
set_option maxHeartbeats 4000000 in
theorem kf_X9_limb (v1 : Int32) (v2 : Int32) (I : AI) (F : AF) : OK 4 mX9_limb true (f_X9_limb v1 v2 I F) (0, [(0, .ref 0), (1, .int v1), (2, .int v2)], [], hp I F) := by
  rw [f_X9_limb]
  refine OK_st 3 okX9_limb (S' := (5, [(0, .ref 0), (1, .int v1), (2, .int v2)], [.int v1, .ref 16], hp I F)) rfl ⟨trivial, trivial, trivial, trivial⟩ ?_
  refine OK_cv [.int v1] [] okX9_limb okX5_hasLimb rfl rfl cl_RX9_151 rfl rfl (Nat.le_of_ble_eq_true rfl) (by decide) (Nat.le_of_ble_eq_true rfl) (kf_X5_hasLimb v1 I F) (fun r419 I420 F421 => ?_)
  refine OK_st 1 okX9_limb (S' := ((if ¬ r419 = 0 then 14 else 11), [(0, .ref 0), (1, .int v1), (2, .int v2)], [], hp I420 F421)) rfl ⟨trivial, trivial⟩ ?_
  refine OK_if (fun h422 => ?_) (fun h422 => ?_)
  · refine OK_st 1 okX9_limb (S' := (15, [(0, .ref 0), (1, .int v1), (2, .int v2)], [.int v2], hp I420 F421)) rfl ⟨trivial, trivial⟩ ?_
    refine OK_ci (fun h423 => ?_) (fun h423 => ?_)
    · subst h423
      refine OK_st 1 okX9_limb (S' := (64, [(0, .ref 0), (1, .int v1), (2, .int (0 : Int32))], [], hp I420 F421)) rfl ⟨trivial, trivial⟩ ?_
      refine OK_st 3 okX9_limb (S' := (69, [(0, .ref 0), (1, .int v1), (2, .int (0 : Int32))], [.int v1, .ref 27], hp I420 F421)) rfl ⟨trivial, trivial, trivial, trivial⟩ ?_
      refine OK_cv [.int v1] [] okX9_limb okX8_lengthOf rfl rfl cl_RX9_156 rfl rfl (Nat.le_of_ble_eq_true rfl) (by decide) (Nat.le_of_ble_eq_true rfl) (kf_X8_lengthOf v1 I420 F421) (fun r425 I426 F427 => ?_)
      exact OK_ri okX9_limb rfl rfl (Or.inl rfl)
    · skip
      refine OK_ci (fun h428 => ?_) (fun h428 => ?_)
      · subst h428
        refine OK_st 1 okX9_limb (S' := (73, [(0, .ref 0), (1, .int v1), (2, .int (1 : Int32))], [], hp I420 F421)) rfl ⟨trivial, trivial⟩ ?_
        refine OK_st 5 okX9_limb (S' := (82, [(0, .ref 0), (1, .int v1), (2, .int (1 : Int32))], [.int v1, .ref 16, .ref 27], hp I420 F421)) rfl ⟨trivial, trivial, trivial, trivial, trivial, trivial⟩ ?_
        refine OK_cv [.ref 16, .int v1] [] okX9_limb okX8_measureNow rfl rfl cl_RX9_159 rfl rfl (Nat.le_of_ble_eq_true rfl) (by decide) (Nat.le_of_ble_eq_true rfl) (kf_X8_measureNow v1 I420 F421) (fun r455 I456 F457 => ?_)
        exact OK_ri okX9_limb rfl rfl (Or.inl rfl)
      · skip
        refine OK_ci (fun h458 => ?_) (fun h458 => ?_)
        · subst h458
          refine OK_st 1 okX9_limb (S' := (86, [(0, .ref 0), (1, .int v1), (2, .int (2 : Int32))], [], hp I420 F421)) rfl ⟨trivial, trivial⟩ ?_
          refine OK_gd (fun g459 => ?_)
          refine OK_st 5 okX9_limb (S' := (95, [(0, .ref 0), (1, .int v1), (2, .int (2 : Int32))], [.int ((F421 14) v1.toNatClampNeg)], hp I420 F421)) rfl ⟨trivial, trivial, trivial, trivial, (ab_vo g459), trivial⟩ ?_
          exact OK_ri okX9_limb rfl rfl (Or.inl rfl)
        · skip
          refine OK_ci (fun h460 => ?_) (fun h460 => ?_)
          · subst h460
            refine OK_st 1 okX9_limb (S' := (96, [(0, .ref 0), (1, .int v1), (2, .int (3 : Int32))], [], hp I420 F421)) rfl ⟨trivial, trivial⟩ ?_
            refine OK_st 3 okX9_limb (S' := (101, [(0, .ref 0), (1, .int v1), (2, .int (3 : Int32))], [.int v1, .ref 27], hp I420 F421)) rfl ⟨trivial, trivial, trivial, trivial⟩ ?_
            refine OK_cv [.int v1] [] okX9_limb okX8_lives rfl rfl cl_RX9_167 rfl rfl (Nat.le_of_ble_eq_true rfl) (by decide) (Nat.le_of_ble_eq_true rfl) (kf_X8_lives v1 I420 F421) (fun r461 I462 F463 => ?_)
            refine OK_st 1 okX9_limb (S' := ((if r461 = 0 then 111 else 107), [(0, .ref 0), (1, .int v1), (2, .int (3 : Int32))], [], hp I462 F463)) rfl ⟨trivial, trivial⟩ ?_
            refine OK_if (fun h464 => ?_) (fun h464 => ?_)
            · refine OK_st 1 okX9_limb (S' := (112, [(0, .ref 0), (1, .int v1), (2, .int (3 : Int32))], [.int (0 : Int32)], hp I462 F463)) rfl ⟨trivial, trivial⟩ ?_
              exact OK_ri okX9_limb rfl rfl (Or.inl rfl)
            · refine OK_st 2 okX9_limb (S' := (112, [(0, .ref 0), (1, .int v1), (2, .int (3 : Int32))], [.int (1 : Int32)], hp I462 F463)) rfl ⟨trivial, trivial, trivial⟩ ?_
              exact OK_ri okX9_limb rfl rfl (Or.inl rfl)
          · skip
            refine OK_ci (fun h465 => ?_) (fun h465 => ?_)
            · subst h465
              refine OK_st 1 okX9_limb (S' := (113, [(0, .ref 0), (1, .int v1), (2, .int (4 : Int32))], [], hp I420 F421)) rfl ⟨trivial, trivial⟩ ?_
              refine OK_st 3 okX9_limb (S' := (118, [(0, .ref 0), (1, .int v1), (2, .int (4 : Int32))], [.int v1, .ref 27], hp I420 F421)) rfl ⟨trivial, trivial, trivial, trivial⟩ ?_
              refine OK_cv [.int v1] [] okX9_limb okX8_copyOf rfl rfl cl_RX9_170 rfl rfl (Nat.le_of_ble_eq_true rfl) (by decide) (Nat.le_of_ble_eq_true rfl) (kf_X8_copyOf v1 I420 F421) (fun r467 I468 F469 => ?_)
              exact OK_ri okX9_limb rfl rfl (Or.inl rfl)
            · skip
              refine OK_ci (fun h470 => ?_) (fun h470 => ?_)
              · subst h470
                refine OK_st 1 okX9_limb (S' := (122, [(0, .ref 0), (1, .int v1), (2, .int (5 : Int32))], [], hp I420 F421)) rfl ⟨trivial, trivial⟩ ?_
                refine OK_st 6 okX9_limb (S' := (130, [(0, .ref 0), (1, .int v1), (2, .int (5 : Int32))], [.int ((5 : Int32) - (5 : Int32)), .int v1, .ref 16], hp I420 F421)) rfl ⟨trivial, trivial, trivial, trivial, trivial, trivial, trivial⟩ ?_
                refine OK_cv [.int v1, .int ((5 : Int32) - (5 : Int32))] [] okX9_limb okX5_addedAsTold rfl rfl cl_RX9_173 rfl rfl (Nat.le_of_ble_eq_true rfl) (by decide) (Nat.le_of_ble_eq_true rfl) (kf_X5_addedAsTold v1 ((5 : Int32) - (5 : Int32)) I420 F421) (fun r472 I473 F474 => ?_)
                exact OK_ri okX9_limb rfl rfl (Or.inl rfl)
              · skip
                refine OK_ci (fun h475 => ?_) (fun h475 => ?_)
                · subst h475
                  refine OK_st 1 okX9_limb (S' := (122, [(0, .ref 0), (1, .int v1), (2, .int (6 : Int32))], [], hp I420 F421)) rfl ⟨trivial, trivial⟩ ?_
                  refine OK_st 6 okX9_limb (S' := (130, [(0, .ref 0), (1, .int v1), (2, .int (6 : Int32))], [.int ((6 : Int32) - (5 : Int32)), .int v1, .ref 16], hp I420 F421)) rfl ⟨trivial, trivial, trivial, trivial, trivial, trivial, trivial⟩ ?_
                  refine OK_cv [.int v1, .int ((6 : Int32) - (5 : Int32))] [] okX9_limb okX5_addedAsTold rfl rfl cl_RX9_173 rfl rfl (Nat.le_of_ble_eq_true rfl) (by decide) (Nat.le_of_ble_eq_true rfl) (kf_X5_addedAsTold v1 ((6 : Int32) - (5 : Int32)) I420 F421) (fun r476 I477 F478 => ?_)
                  exact OK_ri okX9_limb rfl rfl (Or.inl rfl)
                · skip
                  refine OK_ci (fun h479 => ?_) (fun h479 => ?_)
                  · subst h479
                    refine OK_st 1 okX9_limb (S' := (122, [(0, .ref 0), (1, .int v1), (2, .int (7 : Int32))], [], hp I420 F421)) rfl ⟨trivial, trivial⟩ ?_
                    refine OK_st 6 okX9_limb (S' := (130, [(0, .ref 0), (1, .int v1), (2, .int (7 : Int32))], [.int ((7 : Int32) - (5 : Int32)), .int v1, .ref 16], hp I420 F421)) rfl ⟨trivial, trivial, trivial, trivial, trivial, trivial, trivial⟩ ?_
                    refine OK_cv [.int v1, .int ((7 : Int32) - (5 : Int32))] [] okX9_limb okX5_addedAsTold rfl rfl cl_RX9_173 rfl rfl (Nat.le_of_ble_eq_true rfl) (by decide) (Nat.le_of_ble_eq_true rfl) (kf_X5_addedAsTold v1 ((7 : Int32) - (5 : Int32)) I420 F421) (fun r480 I481 F482 => ?_)
                    exact OK_ri okX9_limb rfl rfl (Or.inl rfl)
                  · skip
                    refine OK_ci (fun h483 => ?_) (fun h483 => ?_)
                    · subst h483
                      refine OK_st 1 okX9_limb (S' := (122, [(0, .ref 0), (1, .int v1), (2, .int (8 : Int32))], [], hp I420 F421)) rfl ⟨trivial, trivial⟩ ?_
                      refine OK_st 6 okX9_limb (S' := (130, [(0, .ref 0), (1, .int v1), (2, .int (8 : Int32))], [.int ((8 : Int32) - (5 : Int32)), .int v1, .ref 16], hp I420 F421)) rfl ⟨trivial, trivial, trivial, trivial, trivial, trivial, trivial⟩ ?_
                      refine OK_cv [.int v1, .int ((8 : Int32) - (5 : Int32))] [] okX9_limb okX5_addedAsTold rfl rfl cl_RX9_173 rfl rfl (Nat.le_of_ble_eq_true rfl) (by decide) (Nat.le_of_ble_eq_true rfl) (kf_X5_addedAsTold v1 ((8 : Int32) - (5 : Int32)) I420 F421) (fun r484 I485 F486 => ?_)
                      exact OK_ri okX9_limb rfl rfl (Or.inl rfl)
                    · skip
                      refine OK_st 1 okX9_limb (S' := (ab_tsw 15 119 0 8 #[49, 58, 71, 81, 98, 107, 107, 107, 107] v2, [(0, .ref 0), (1, .int v1), (2, .int v2)], [], hp I420 F421)) rfl ⟨trivial, trivial⟩ ?_
                      refine OK_pc (pc' := 134) (if_pos (by
                        have qh423 := lv_neT h423 (show (0 : Int32).toInt = 0 from rfl)
                        have qh428 := lv_neT h428 (show (1 : Int32).toInt = 1 from rfl)
                        have qh458 := lv_neT h458 (show (2 : Int32).toInt = 2 from rfl)
                        have qh460 := lv_neT h460 (show (3 : Int32).toInt = 3 from rfl)
                        have qh465 := lv_neT h465 (show (4 : Int32).toInt = 4 from rfl)
                        have qh470 := lv_neT h470 (show (5 : Int32).toInt = 5 from rfl)
                        have qh475 := lv_neT h475 (show (6 : Int32).toInt = 6 from rfl)
                        have qh479 := lv_neT h479 (show (7 : Int32).toInt = 7 from rfl)
                        have qh483 := lv_neT h483 (show (8 : Int32).toInt = 8 from rfl)
                        omega)) ?_
                      refine OK_st 1 okX9_limb (S' := (136, [(0, .ref 0), (1, .int v1), (2, .int v2)], [.int (-1000000002 : Int32)], hp I420 F421)) rfl ⟨trivial, trivial⟩ ?_
                      exact OK_ri okX9_limb rfl rfl (Or.inl rfl)
  · refine OK_st 1 okX9_limb (S' := (13, [(0, .ref 0), (1, .int v1), (2, .int v2)], [.int (-1000000001 : Int32)], hp I420 F421)) rfl ⟨trivial, trivial⟩ ?_
    exact OK_ri okX9_limb rfl rfl (Or.inl rfl)

def f_X5_hasContract (v1 : Int32) (I : AI) (F : AF) : AQ :=
  if v1 < 0 then
    some ((0 : Int32), I, F)
  else
    if (I 10) ≤ v1 then
      some ((0 : Int32), I, F)
    else
      some ((1 : Int32), I, F)
set_option maxRecDepth 20000 in
set_option maxHeartbeats 4000000 in
theorem kf_X5_hasContract (v1 : Int32) (I : AI) (F : AF) : OK 0 mX5_hasContract true (f_X5_hasContract v1 I F) (0, [(0, .ref 16), (1, .int v1)], [], hp I F) := by
  rw [f_X5_hasContract]
  refine OK_st 2 okX5_hasContract (S' := ((if v1 < 0 then 16 else 4), [(0, .ref 16), (1, .int v1)], [], hp I F)) rfl ⟨trivial, trivial, trivial⟩ ?_
  refine OK_if (fun h487 => ?_) (fun h487 => ?_)
  · refine OK_st 1 okX5_hasContract (S' := (17, [(0, .ref 16), (1, .int v1)], [.int (0 : Int32)], hp I F)) rfl ⟨trivial, trivial⟩ ?_
    exact OK_ri okX5_hasContract rfl rfl (Or.inr ⟨rfl, Or.inl rfl⟩)
  · refine OK_st 4 okX5_hasContract (S' := ((if (I 10) ≤ v1 then 16 else 12), [(0, .ref 16), (1, .int v1)], [], hp I F)) rfl ⟨trivial, trivial, trivial, trivial, trivial⟩ ?_
    refine OK_if (fun h488 => ?_) (fun h488 => ?_)
    · refine OK_st 1 okX5_hasContract (S' := (17, [(0, .ref 16), (1, .int v1)], [.int (0 : Int32)], hp I F)) rfl ⟨trivial, trivial⟩ ?_
      exact OK_ri okX5_hasContract rfl rfl (Or.inr ⟨rfl, Or.inl rfl⟩)
    · refine OK_st 2 okX5_hasContract (S' := (17, [(0, .ref 16), (1, .int v1)], [.int (1 : Int32)], hp I F)) rfl ⟨trivial, trivial, trivial⟩ ?_
      exact OK_ri okX5_hasContract rfl rfl (Or.inr ⟨rfl, Or.inr rfl⟩)

def f_X8_paidOf (v1 : Int32) (I : AI) (F : AF) : AQ :=
  bif ab_vin ((12 : Int32) + v1) 21 then
    some (((F 22) ((12 : Int32) + v1).toNatClampNeg), I, F)
  else none
set_option maxRecDepth 20000 in
set_option maxHeartbeats 4000000 in
theorem kf_X8_paidOf (v1 : Int32) (I : AI) (F : AF) : OK 0 mX8_paidOf true (f_X8_paidOf v1 I F) (0, [(0, .ref 27), (1, .int v1)], [], hp I F) := by
  rw [f_X8_paidOf]
  refine OK_gd (fun g500 => ?_)
  refine OK_st 6 okX8_paidOf (S' := (9, [(0, .ref 27), (1, .int v1)], [.int ((F 22) ((12 : Int32) + v1).toNatClampNeg)], hp I F)) rfl ⟨trivial, trivial, trivial, trivial, trivial, (ab_vo g500), trivial⟩ ?_
  exact OK_ri okX8_paidOf rfl rfl (Or.inl rfl)
