/-! methods as functions (by program) -/
def f_X6_readClause (I : AI) (F : AF) : AQ :=
  ab_bd (f_X2_at (I 1) I F) (fun r39 I40 F41 =>
    ab_bd (f_X6_mayStart r39 I40 F41) (fun r47 I48 F49 =>
      if ¬ r47 = 0 then
        ab_bd (f_X6_isOneTooMany r39 I48 F49) (fun r57 I58 F59 =>
          if r57 = 0 then
            ab_lt (va_up I58 1 ((I58 1) + (1 : Int32))) (fun I61 =>
              if r39 = (nI 99) then
                ab_bd (f_X6_readContract I61 F59) (fun r159 I160 F161 =>
                  bif ab_bt r159 then some (r159, I160, F161) else none)
              else if r39 = (nI 108) then
                ab_bd (f_X6_readLimb I61 F59) (fun r198 I199 F200 =>
                  bif ab_bt r198 then some (r198, I199, F200) else none)
              else if r39 = (nI 114) then
                ab_bd (f_X6_readRate I61 F59) (fun r266 I267 F268 =>
                  bif ab_bt r266 then some (r266, I267, F268) else none)
              else 
                ab_bd (f_X6_readHeir I61 F59) (fun r321 I322 F323 =>
                  bif ab_bt r321 then some (r321, I322, F323) else none))
          else
            ab_bd (f_X6_fail (nI 3) (I58 1) I58 F59) (fun r325 I326 F327 =>
              bif ab_bt r325 then some (r325, I326, F327) else none))
      else
        ab_bd (f_X6_fail (1 : Int32) (I48 1) I48 F49) (fun r329 I330 F331 =>
          bif ab_bt r329 then some (r329, I330, F331) else none)))
set_option maxRecDepth 20000 in
set_option maxHeartbeats 4000000 in
theorem kf_X6_readClause (I : AI) (F : AF) : OK 4 mX6_readClause true (f_X6_readClause I F) (0, [(0, .ref 1)], [], hp I F) := by
  rw [f_X6_readClause]
  refine OK_st 4 okX6_readClause (S' := (8, [(0, .ref 1)], [.int (I 1), .ref 2], hp I F)) rfl ⟨trivial, trivial, trivial, trivial, trivial⟩ ?_
  refine OK_cv [.int (I 1)] [] okX6_readClause okX2_at rfl rfl cl_RX6_45 rfl rfl (Nat.le_of_ble_eq_true rfl) (by decide) (Nat.le_of_ble_eq_true rfl) (kf_X2_at (I 1) I F) (fun r39 I40 F41 => ?_)
  refine OK_st 3 okX6_readClause (S' := (14, [(1, .int r39), (0, .ref 1)], [.int r39, .ref 1], hp I40 F41)) rfl ⟨(by decide), trivial, trivial, trivial⟩ ?_
  refine OK_cv [.int r39] [] okX6_readClause okX6_mayStart rfl rfl cl_RX6_53 rfl rfl (Nat.le_of_ble_eq_true rfl) (by decide) (Nat.le_of_ble_eq_true rfl) (kf_X6_mayStart r39 I40 F41) (fun r47 I48 F49 => ?_)
  refine OK_st 1 okX6_readClause (S' := ((if ¬ r47 = 0 then 30 else 20), [(1, .int r39), (0, .ref 1)], [], hp I48 F49)) rfl ⟨trivial, trivial⟩ ?_
  refine OK_if (fun h50 => ?_) (fun h50 => ?_)
  · refine OK_st 2 okX6_readClause (S' := (32, [(1, .int r39), (0, .ref 1)], [.int r39, .ref 1], hp I48 F49)) rfl ⟨trivial, trivial, trivial⟩ ?_
    refine OK_cv [.int r39] [] okX6_readClause okX6_isOneTooMany rfl rfl cl_RX6_61 rfl rfl (Nat.le_of_ble_eq_true rfl) (by decide) (Nat.le_of_ble_eq_true rfl) (kf_X6_isOneTooMany r39 I48 F49) (fun r57 I58 F59 => ?_)
    refine OK_st 1 okX6_readClause (S' := ((if r57 = 0 then 48 else 38), [(1, .int r39), (0, .ref 1)], [], hp I58 F59)) rfl ⟨trivial, trivial⟩ ?_
    refine OK_if (fun h60 => ?_) (fun h60 => ?_)
    · refine OK_st 7 okX6_readClause (S' := (59, [(1, .int r39), (0, .ref 1)], [.int r39], hp (va_up I58 1 ((I58 1) + (1 : Int32))) F59)) rfl ⟨trivial, rfl, trivial, trivial, trivial, trivial, trivial, trivial⟩ ?_
      refine OK_lt (fun I61 => (59, [(1, .int r39), (0, .ref 1)], [.int r39], hp I61 F59)) (fun I61 => ?_)
      refine OK_ci (fun h62 => ?_) (fun h62 => ?_)
      · subst h62
        refine OK_st 1 okX6_readClause (S' := (97, [(1, .int (nI 99)), (0, .ref 1)], [], hp I61 F59)) rfl ⟨(by decide +kernel), trivial⟩ ?_
        refine OK_st 1 okX6_readClause (S' := (98, [(1, .int (nI 99)), (0, .ref 1)], [.ref 1], hp I61 F59)) rfl ⟨trivial, trivial⟩ ?_
        refine OK_cv [] [] okX6_readClause okX6_readContract rfl rfl cl_RX6_67 rfl rfl (Nat.le_of_ble_eq_true rfl) (by decide) (Nat.le_of_ble_eq_true rfl) (kf_X6_readContract I61 F59) (fun r159 I160 F161 => ?_)
        refine OK_gd (fun g162 => ?_)
        exact OK_ri okX6_readClause rfl rfl (Or.inr ⟨rfl, ab_bto g162⟩)
      · skip
        refine OK_ci (fun h163 => ?_) (fun h163 => ?_)
        · subst h163
          refine OK_st 1 okX6_readClause (S' := (92, [(1, .int (nI 108)), (0, .ref 1)], [], hp I61 F59)) rfl ⟨(by decide +kernel), trivial⟩ ?_
          refine OK_st 1 okX6_readClause (S' := (93, [(1, .int (nI 108)), (0, .ref 1)], [.ref 1], hp I61 F59)) rfl ⟨trivial, trivial⟩ ?_
          refine OK_cv [] [] okX6_readClause okX6_readLimb rfl rfl cl_RX6_64 rfl rfl (Nat.le_of_ble_eq_true rfl) (by decide) (Nat.le_of_ble_eq_true rfl) (kf_X6_readLimb I61 F59) (fun r198 I199 F200 => ?_)
          refine OK_gd (fun g201 => ?_)
          exact OK_ri okX6_readClause rfl rfl (Or.inr ⟨rfl, ab_bto g201⟩)
        · skip
          refine OK_ci (fun h202 => ?_) (fun h202 => ?_)
          · subst h202
            refine OK_st 1 okX6_readClause (S' := (102, [(1, .int (nI 114)), (0, .ref 1)], [], hp I61 F59)) rfl ⟨(by decide +kernel), trivial⟩ ?_
            refine OK_st 1 okX6_readClause (S' := (103, [(1, .int (nI 114)), (0, .ref 1)], [.ref 1], hp I61 F59)) rfl ⟨trivial, trivial⟩ ?_
            refine OK_cv [] [] okX6_readClause okX6_readRate rfl rfl cl_RX6_70 rfl rfl (Nat.le_of_ble_eq_true rfl) (by decide) (Nat.le_of_ble_eq_true rfl) (kf_X6_readRate I61 F59) (fun r266 I267 F268 => ?_)
            refine OK_gd (fun g269 => ?_)
            exact OK_ri okX6_readClause rfl rfl (Or.inr ⟨rfl, ab_bto g269⟩)
          · skip
            have hof : Op.lookupswitch.offset [(99, 38), (108, 33), (114, 43)] 48 r39.toInt = 48 := by rw [lv_osw (a := 99) h62 rfl, lv_osw (a := 108) h163 rfl, lv_osw (a := 114) h202 rfl]; rfl
            refine OK_st 1 okX6_readClause (S' := ((((59 : Nat) : Int) + Op.lookupswitch.offset [(99, 38), (108, 33), (114, 43)] 48 r39.toInt).toNat, [(1, .int r39), (0, .ref 1)], [], hp I61 F59)) rfl ⟨by show (0 : Int) ≤ ((59 : Nat) : Int) + Op.lookupswitch.offset [(99, 38), (108, 33), (114, 43)] 48 r39.toInt; rw [hof]; decide, trivial⟩ ?_
            refine OK_pc (pc' := 107) (by rw [hof]; rfl) ?_
            refine OK_st 1 okX6_readClause (S' := (108, [(1, .int r39), (0, .ref 1)], [.ref 1], hp I61 F59)) rfl ⟨trivial, trivial⟩ ?_
            refine OK_cv [] [] okX6_readClause okX6_readHeir rfl rfl cl_RX6_73 rfl rfl (Nat.le_of_ble_eq_true rfl) (by decide) (Nat.le_of_ble_eq_true rfl) (kf_X6_readHeir I61 F59) (fun r321 I322 F323 => ?_)
            refine OK_gd (fun g324 => ?_)
            exact OK_ri okX6_readClause rfl rfl (Or.inr ⟨rfl, ab_bto g324⟩)
    · refine OK_st 4 okX6_readClause (S' := (44, [(1, .int r39), (0, .ref 1)], [.int (I58 1), .int (nI 3), .ref 1], hp I58 F59)) rfl ⟨trivial, trivial, trivial, trivial, trivial⟩ ?_
      refine OK_cv [.int (nI 3), .int (I58 1)] [] okX6_readClause okX6_fail rfl rfl cl_RX6_57 rfl rfl (Nat.le_of_ble_eq_true rfl) (by decide) (Nat.le_of_ble_eq_true rfl) (kf_X6_fail (nI 3) (I58 1) I58 F59) (fun r325 I326 F327 => ?_)
      refine OK_gd (fun g328 => ?_)
      exact OK_ri okX6_readClause rfl rfl (Or.inr ⟨rfl, ab_bto g328⟩)
  · refine OK_st 4 okX6_readClause (S' := (26, [(1, .int r39), (0, .ref 1)], [.int (I48 1), .int (1 : Int32), .ref 1], hp I48 F49)) rfl ⟨trivial, trivial, trivial, trivial, trivial⟩ ?_
    refine OK_cv [.int (1 : Int32), .int (I48 1)] [] okX6_readClause okX6_fail rfl rfl cl_RX6_57 rfl rfl (Nat.le_of_ble_eq_true rfl) (by decide) (Nat.le_of_ble_eq_true rfl) (kf_X6_fail (1 : Int32) (I48 1) I48 F49) (fun r329 I330 F331 => ?_)
    refine OK_gd (fun g332 => ?_)
    exact OK_ri okX6_readClause rfl rfl (Or.inr ⟨rfl, ab_bto g332⟩)

def f_X6_readText_26 (ko : Int32 → Int32 → AI → AF → AQ) : Nat → Int32 → Int32 → AI → AF → AQ
  | 0, _, _, _, _ => none
  | n + 1, v1, v2, I, F =>
    if (nI 250) ≤ v2 then
      ko v1 v2 I F
    else
      if v1 = 0 then
        ko v1 v2 I F
      else
        ab_bd (f_X6_skipBlanks I F) (fun r32 I33 F34 =>
          ab_bd (f_X2_at (I33 1) I33 F34) (fun r35 I36 F37 =>
            if r35 = (-1 : Int32) then
              f_X6_readText_26 ko n (0 : Int32) (v2 + (1 : Int32)) I36 F37
            else
              ab_bd (f_X6_readClause I36 F37) (fun r333 I334 F335 =>
                if r333 = 0 then
                  f_X6_readText_26 ko n (0 : Int32) (v2 + (1 : Int32)) I334 F335
                else
                  f_X6_readText_26 ko n (1 : Int32) (v2 + (1 : Int32)) I334 F335)))
set_option maxRecDepth 20000 in
set_option maxHeartbeats 4000000 in
theorem kf_X6_readText_26 (ko : Int32 → Int32 → AI → AF → AQ) (hko : ∀ v1 v2 I F, OK 5 mX6_readText false (ko v1 v2 I F) (75, [(0, .ref 1), (1, .int v1), (2, .int v2)], [], hp I F)) : ∀ n v1 v2 I F, OK 5 mX6_readText false (f_X6_readText_26 ko n v1 v2 I F) (26, [(0, .ref 1), (1, .int v1), (2, .int v2)], [], hp I F) := by
  intro n
  induction n with
  | zero =>
    intro v1 v2 I F
    exact OK_no
  | succ n ih =>
    intro v1 v2 I F
    rw [f_X6_readText_26]
    refine OK_st 3 okX6_readText (S' := ((if (nI 250) ≤ v2 then 75 else 33), [(0, .ref 1), (1, .int v1), (2, .int v2)], [], hp I F)) rfl ⟨trivial, trivial, trivial, trivial⟩ ?_
    refine OK_if (fun h18 => ?_) (fun h18 => ?_)
    · exact hko v1 v2 I F
    · refine OK_st 2 okX6_readText (S' := ((if v1 = 0 then 75 else 37), [(0, .ref 1), (1, .int v1), (2, .int v2)], [], hp I F)) rfl ⟨trivial, trivial, trivial⟩ ?_
      refine OK_if (fun h19 => ?_) (fun h19 => ?_)
      · exact hko v1 v2 I F
      · refine OK_st 1 okX6_readText (S' := (38, [(0, .ref 1), (1, .int v1), (2, .int v2)], [.ref 1], hp I F)) rfl ⟨trivial, trivial⟩ ?_
        refine OK_cv [] [] okX6_readText okX6_skipBlanks rfl rfl cl_RX6_42 rfl rfl (Nat.le_of_ble_eq_true rfl) (by decide) (Nat.le_of_ble_eq_true rfl) (kf_X6_skipBlanks I F) (fun r32 I33 F34 => ?_)
        refine OK_st 4 okX6_readText (S' := (49, [(0, .ref 1), (1, .int v1), (2, .int v2)], [.int (I33 1), .ref 2], hp I33 F34)) rfl ⟨trivial, trivial, trivial, trivial, trivial⟩ ?_
        refine OK_cv [.int (I33 1)] [] okX6_readText okX2_at rfl rfl cl_RX6_45 rfl rfl (Nat.le_of_ble_eq_true rfl) (by decide) (Nat.le_of_ble_eq_true rfl) (kf_X2_at (I33 1) I33 F34) (fun r35 I36 F37 => ?_)
        refine OK_st 2 okX6_readText (S' := ((if r35 = (-1 : Int32) then 67 else 56), [(0, .ref 1), (1, .int v1), (2, .int v2)], [], hp I36 F37)) rfl ⟨trivial, trivial, trivial⟩ ?_
        refine OK_if (fun h38 => ?_) (fun h38 => ?_)
        · refine OK_st 4 okX6_readText (S' := (26, [(2, .int (v2 + (1 : Int32))), (1, .int (0 : Int32)), (0, .ref 1)], [], hp I36 F37)) rfl ⟨trivial, (by decide), (by decide), trivial, trivial⟩ ?_
          refine OK_pk [2, 1, 0] rfl ?_
          exact ih (0 : Int32) (v2 + (1 : Int32)) I36 F37
        · refine OK_st 1 okX6_readText (S' := (57, [(0, .ref 1), (1, .int v1), (2, .int v2)], [.ref 1], hp I36 F37)) rfl ⟨trivial, trivial⟩ ?_
          refine OK_cv [] [] okX6_readText okX6_readClause rfl rfl cl_RX6_49 rfl rfl (Nat.le_of_ble_eq_true rfl) (by decide) (Nat.le_of_ble_eq_true rfl) (kf_X6_readClause I36 F37) (fun r333 I334 F335 => ?_)
          refine OK_st 1 okX6_readText (S' := ((if r333 = 0 then 67 else 63), [(0, .ref 1), (1, .int v1), (2, .int v2)], [], hp I334 F335)) rfl ⟨trivial, trivial⟩ ?_
          refine OK_if (fun h336 => ?_) (fun h336 => ?_)
          · refine OK_st 4 okX6_readText (S' := (26, [(2, .int (v2 + (1 : Int32))), (1, .int (0 : Int32)), (0, .ref 1)], [], hp I334 F335)) rfl ⟨trivial, (by decide), (by decide), trivial, trivial⟩ ?_
            refine OK_pk [2, 1, 0] rfl ?_
            exact ih (0 : Int32) (v2 + (1 : Int32)) I334 F335
          · refine OK_st 5 okX6_readText (S' := (26, [(2, .int (v2 + (1 : Int32))), (1, .int (1 : Int32)), (0, .ref 1)], [], hp I334 F335)) rfl ⟨trivial, trivial, (by decide), (by decide), trivial, trivial⟩ ?_
            refine OK_pk [2, 1, 0] rfl ?_
            exact ih (1 : Int32) (v2 + (1 : Int32)) I334 F335

def f_X6_readText (I : AI) (F : AF) : AQ :=
  ab_lt (va_up (va_up (va_up I 1 (0 : Int32)) 3 (0 : Int32)) 4 (-1 : Int32)) (fun I13 =>
    ab_bd (f_X5_clearAll I13 F) (fun r15 I16 F17 =>
      f_X6_readText_26 (fun v1_337 v2_338 I339 F340 =>
        some (0, I339, F340)) ab_fu (1 : Int32) (0 : Int32) I16 F17))
set_option maxRecDepth 20000 in
set_option maxHeartbeats 4000000 in
theorem kf_X6_readText (I : AI) (F : AF) : OK 5 mX6_readText false (f_X6_readText I F) (0, [(0, .ref 1)], [], hp I F) := by
  rw [f_X6_readText]
  refine OK_st 9 okX6_readText (S' := (15, [(0, .ref 1)], [], hp (va_up (va_up (va_up I 1 (0 : Int32)) 3 (0 : Int32)) 4 (-1 : Int32)) F)) rfl ⟨trivial, trivial, trivial, trivial, trivial, trivial, trivial, trivial, trivial, trivial⟩ ?_
  refine OK_lt (fun I13 => (15, [(0, .ref 1)], [], hp I13 F)) (fun I13 => ?_)
  refine OK_st 2 okX6_readText (S' := (19, [(0, .ref 1)], [.ref 4], hp I13 F)) rfl ⟨trivial, trivial, trivial⟩ ?_
  refine OK_cv [] [] okX6_readText okX5_clearAll rfl rfl cl_RX6_39 rfl rfl (Nat.le_of_ble_eq_true rfl) (by decide) (Nat.le_of_ble_eq_true rfl) (kf_X5_clearAll I13 F) (fun r15 I16 F17 => ?_)
  refine OK_st 4 okX6_readText (S' := (26, [(2, .int (0 : Int32)), (1, .int (1 : Int32)), (0, .ref 1)], [], hp I16 F17)) rfl ⟨trivial, (by decide), trivial, (by decide), trivial⟩ ?_
  refine OK_pk [2, 1, 0] rfl ?_
  refine kf_X6_readText_26 _ (fun v1_337 v2_338 I339 F340 => ?_) ab_fu (1 : Int32) (0 : Int32) I16 F17
  exact OK_rv okX6_readText rfl rfl rfl

def f_X2_empty (I : AI) (F : AF) : AQ :=
  some (0, (va_up I 5 (0 : Int32)), F)
set_option maxRecDepth 20000 in
set_option maxHeartbeats 4000000 in
theorem kf_X2_empty (I : AI) (F : AF) : OK 0 mX2_empty false (f_X2_empty I F) (0, [(0, .ref 2)], [], hp I F) := by
  rw [f_X2_empty]
  refine OK_st 3 okX2_empty (S' := (5, [(0, .ref 2)], [], hp (va_up I 5 (0 : Int32)) F)) rfl ⟨trivial, trivial, trivial, trivial⟩ ?_
  exact OK_rv okX2_empty rfl rfl rfl

def f_X5_takeOver (I : AI) (F : AF) : AQ :=
  ab_lt (va_up (va_up (va_up I 9 (I 6)) 10 (I 7)) 11 (I 8)) (fun I349 =>
    ab_lt (va_up (va_up F 12 (va_cpy (F 1) (F 12) 0 0 6)) 13 (va_cpy (F 2) (F 13) 0 0 24)) (fun F350 =>
      ab_lt (va_up (va_up F350 14 (va_cpy (F350 3) (F350 14) 0 0 6)) 15 (va_cpy (F350 4) (F350 15) 0 0 6)) (fun F351 =>
        ab_lt (va_up (va_up F351 16 (va_cpy (F351 5) (F351 16) 0 0 6)) 17 (va_cpy (F351 6) (F351 17) 0 0 6)) (fun F352 =>
          ab_lt (va_up (va_up F352 18 (va_cpy (F352 7) (F352 18) 0 0 8)) 19 (va_cpy (F352 8) (F352 19) 0 0 8)) (fun F353 =>
            ab_lt (va_up (va_up F353 20 (va_cpy (F353 9) (F353 20) 0 0 8)) 21 (va_cpy (F353 10) (F353 21) 0 0 8)) (fun F354 =>
              some (0, I349, F354)))))))
set_option maxRecDepth 20000 in
set_option maxHeartbeats 4000000 in
theorem kf_X5_takeOver (I : AI) (F : AF) : OK 0 mX5_takeOver false (f_X5_takeOver I F) (0, [(0, .ref 16), (1, .ref 4)], [], hp I F) := by
  rw [f_X5_takeOver]
  refine OK_st 12 okX5_takeOver (S' := (24, [(0, .ref 16), (1, .ref 4)], [], hp (va_up (va_up (va_up I 9 (I 6)) 10 (I 7)) 11 (I 8)) F)) rfl ⟨trivial, trivial, trivial, trivial, trivial, trivial, trivial, trivial, trivial, trivial, trivial, trivial, trivial⟩ ?_
  refine OK_lt (fun I349 => (24, [(0, .ref 16), (1, .ref 4)], [], hp I349 F)) (fun I349 => ?_)
  refine OK_st 16 okX5_takeOver (S' := (54, [(0, .ref 16), (1, .ref 4)], [], hp I349 (va_up (va_up F 12 (va_cpy (F 1) (F 12) 0 0 6)) 13 (va_cpy (F 2) (F 13) 0 0 24)))) rfl ⟨trivial, trivial, trivial, trivial, trivial, trivial, trivial, ⟨by decide, by decide, by decide, by decide, by decide, Nat.le_of_ble_eq_true rfl⟩, trivial, trivial, trivial, trivial, trivial, trivial, trivial, ⟨by decide, by decide, by decide, by decide, by decide, Nat.le_of_ble_eq_true rfl⟩, trivial⟩ ?_
  refine OK_lt (fun F350 => (54, [(0, .ref 16), (1, .ref 4)], [], hp I349 F350)) (fun F350 => ?_)
  refine OK_st 16 okX5_takeOver (S' := (84, [(0, .ref 16), (1, .ref 4)], [], hp I349 (va_up (va_up F350 14 (va_cpy (F350 3) (F350 14) 0 0 6)) 15 (va_cpy (F350 4) (F350 15) 0 0 6)))) rfl ⟨trivial, trivial, trivial, trivial, trivial, trivial, trivial, ⟨by decide, by decide, by decide, by decide, by decide, Nat.le_of_ble_eq_true rfl⟩, trivial, trivial, trivial, trivial, trivial, trivial, trivial, ⟨by decide, by decide, by decide, by decide, by decide, Nat.le_of_ble_eq_true rfl⟩, trivial⟩ ?_
  refine OK_lt (fun F351 => (84, [(0, .ref 16), (1, .ref 4)], [], hp I349 F351)) (fun F351 => ?_)
  refine OK_st 16 okX5_takeOver (S' := (114, [(0, .ref 16), (1, .ref 4)], [], hp I349 (va_up (va_up F351 16 (va_cpy (F351 5) (F351 16) 0 0 6)) 17 (va_cpy (F351 6) (F351 17) 0 0 6)))) rfl ⟨trivial, trivial, trivial, trivial, trivial, trivial, trivial, ⟨by decide, by decide, by decide, by decide, by decide, Nat.le_of_ble_eq_true rfl⟩, trivial, trivial, trivial, trivial, trivial, trivial, trivial, ⟨by decide, by decide, by decide, by decide, by decide, Nat.le_of_ble_eq_true rfl⟩, trivial⟩ ?_
  refine OK_lt (fun F352 => (114, [(0, .ref 16), (1, .ref 4)], [], hp I349 F352)) (fun F352 => ?_)
  refine OK_st 16 okX5_takeOver (S' := (144, [(0, .ref 16), (1, .ref 4)], [], hp I349 (va_up (va_up F352 18 (va_cpy (F352 7) (F352 18) 0 0 8)) 19 (va_cpy (F352 8) (F352 19) 0 0 8)))) rfl ⟨trivial, trivial, trivial, trivial, trivial, trivial, trivial, ⟨by decide, by decide, by decide, by decide, by decide, Nat.le_of_ble_eq_true rfl⟩, trivial, trivial, trivial, trivial, trivial, trivial, trivial, ⟨by decide, by decide, by decide, by decide, by decide, Nat.le_of_ble_eq_true rfl⟩, trivial⟩ ?_
  refine OK_lt (fun F353 => (144, [(0, .ref 16), (1, .ref 4)], [], hp I349 F353)) (fun F353 => ?_)
  refine OK_st 16 okX5_takeOver (S' := (174, [(0, .ref 16), (1, .ref 4)], [], hp I349 (va_up (va_up F353 20 (va_cpy (F353 9) (F353 20) 0 0 8)) 21 (va_cpy (F353 10) (F353 21) 0 0 8)))) rfl ⟨trivial, trivial, trivial, trivial, trivial, trivial, trivial, ⟨by decide, by decide, by decide, by decide, by decide, Nat.le_of_ble_eq_true rfl⟩, trivial, trivial, trivial, trivial, trivial, trivial, trivial, ⟨by decide, by decide, by decide, by decide, by decide, Nat.le_of_ble_eq_true rfl⟩, trivial⟩ ?_
  refine OK_lt (fun F354 => (174, [(0, .ref 16), (1, .ref 4)], [], hp I349 F354)) (fun F354 => ?_)
  exact OK_rv okX5_takeOver rfl rfl rfl

def f_X8_begin_18 (ko : Int32 → AI → AF → AQ) : Nat → Int32 → AI → AF → AQ
  | 0, _, _, _ => none
  | n + 1, v2, I, F =>
    if (nI 18) ≤ v2 then
      ko v2 I F
    else
      bif ab_vin v2 21 then
        ab_lt (va_up F 22 (upd (F 22) v2.toNatClampNeg (-1 : Int32))) (fun F361 =>
          f_X8_begin_18 ko n (v2 + (1 : Int32)) I F361)
      else none
set_option maxRecDepth 20000 in
set_option maxHeartbeats 4000000 in
theorem kf_X8_begin_18 (ko : Int32 → AI → AF → AQ) (hko : ∀ v2 I F, OK 0 mX8_begin false (ko v2 I F) (37, [(0, .ref 27), (1, .ref 16), (2, .int v2)], [], hp I F)) : ∀ n v2 I F, OK 0 mX8_begin false (f_X8_begin_18 ko n v2 I F) (18, [(0, .ref 27), (1, .ref 16), (2, .int v2)], [], hp I F) := by
  intro n
  induction n with
  | zero =>
    intro v2 I F
    exact OK_no
  | succ n ih =>
    intro v2 I F
    rw [f_X8_begin_18]
    refine OK_st 3 okX8_begin (S' := ((if (nI 18) ≤ v2 then 37 else 24), [(0, .ref 27), (1, .ref 16), (2, .int v2)], [], hp I F)) rfl ⟨trivial, trivial, trivial, trivial⟩ ?_
    refine OK_if (fun h359 => ?_) (fun h359 => ?_)
    · exact hko v2 I F
    · refine OK_gd (fun g360 => ?_)
      refine OK_st 7 okX8_begin (S' := (18, [(2, .int (v2 + (1 : Int32))), (0, .ref 27), (1, .ref 16)], [], hp I (va_up F 22 (upd (F 22) v2.toNatClampNeg (-1 : Int32))))) rfl ⟨trivial, trivial, trivial, trivial, (ab_vo g360), (by decide), trivial, trivial⟩ ?_
      refine OK_lt (fun F361 => (18, [(2, .int (v2 + (1 : Int32))), (0, .ref 27), (1, .ref 16)], [], hp I F361)) (fun F361 => ?_)
      refine OK_pk [1, 2, 0] rfl ?_
      exact ih (v2 + (1 : Int32)) I F361

def f_X8_begin (I : AI) (F : AF) : AQ :=
  ab_lt (va_up F 22 (va_cpy (F 12) (F 22) 0 0 6)) (fun F358 =>
    f_X8_begin_18 (fun v2_362 I363 F364 =>
      some (0, I363, (va_up F364 22 (upd (upd (F364 22) 18 (((1 : Int32) <<< ((I363 9) &&& 31)) - (1 : Int32))) 19 (0 : Int32))))) ab_fu (nI 6) I F358)
set_option maxRecDepth 20000 in
set_option maxHeartbeats 4000000 in
theorem kf_X8_begin (I : AI) (F : AF) : OK 0 mX8_begin false (f_X8_begin I F) (0, [(0, .ref 27), (1, .ref 16)], [], hp I F) := by
  rw [f_X8_begin]
  refine OK_st 10 okX8_begin (S' := (18, [(2, .int (nI 6)), (0, .ref 27), (1, .ref 16)], [], hp I (va_up F 22 (va_cpy (F 12) (F 22) 0 0 6)))) rfl ⟨trivial, trivial, trivial, trivial, trivial, trivial, trivial, ⟨by decide, by decide, by decide, by decide, by decide, Nat.le_of_ble_eq_true rfl⟩, trivial, (by decide), trivial⟩ ?_
  refine OK_lt (fun F358 => (18, [(2, .int (nI 6)), (0, .ref 27), (1, .ref 16)], [], hp I F358)) (fun F358 => ?_)
  refine OK_pk [1, 2, 0] rfl ?_
  refine kf_X8_begin_18 _ (fun v2_362 I363 F364 => ?_) ab_fu (nI 6) I F358
  refine OK_st 15 okX8_begin (S' := (60, [(0, .ref 27), (1, .ref 16), (2, .int v2_362)], [], hp I363 (va_up F364 22 (upd (upd (F364 22) 18 (((1 : Int32) <<< ((I363 9) &&& 31)) - (1 : Int32))) 19 (0 : Int32))))) rfl ⟨trivial, trivial, trivial, trivial, trivial, trivial, trivial, trivial, trivial, (ab_vo (by decide)), trivial, trivial, trivial, trivial, (ab_vo (by decide)), trivial⟩ ?_
  exact OK_rv okX8_begin rfl rfl rfl

def f_X3_clearAll (I : AI) (F : AF) : AQ :=
  some (0, (va_up (va_up I 15 (0 : Int32)) 16 (0 : Int32)), F)
set_option maxRecDepth 20000 in
set_option maxHeartbeats 4000000 in
theorem kf_X3_clearAll (I : AI) (F : AF) : OK 0 mX3_clearAll false (f_X3_clearAll I F) (0, [(0, .ref 32)], [], hp I F) := by
  rw [f_X3_clearAll]
  refine OK_st 6 okX3_clearAll (S' := (10, [(0, .ref 32)], [], hp (va_up (va_up I 15 (0 : Int32)) 16 (0 : Int32)) F)) rfl ⟨trivial, trivial, trivial, trivial, trivial, trivial, trivial⟩ ?_
  exact OK_rv okX3_clearAll rfl rfl rfl

def f_X4_forgetUndone (I : AI) (F : AF) : AQ :=
  some (0, (va_up (va_up I 12 (0 : Int32)) 13 (0 : Int32)), F)
set_option maxRecDepth 20000 in
set_option maxHeartbeats 4000000 in
theorem kf_X4_forgetUndone (I : AI) (F : AF) : OK 0 mX4_forgetUndone false (f_X4_forgetUndone I F) (0, [(0, .ref 29)], [], hp I F) := by
  rw [f_X4_forgetUndone]
  refine OK_st 6 okX4_forgetUndone (S' := (10, [(0, .ref 29)], [], hp (va_up (va_up I 12 (0 : Int32)) 13 (0 : Int32)) F)) rfl ⟨trivial, trivial, trivial, trivial, trivial, trivial, trivial⟩ ?_
  exact OK_rv okX4_forgetUndone rfl rfl rfl

def f_X4_forgetImages (I : AI) (F : AF) : AQ :=
  some (0, (va_up I 14 (0 : Int32)), F)
set_option maxRecDepth 20000 in
set_option maxHeartbeats 4000000 in
theorem kf_X4_forgetImages (I : AI) (F : AF) : OK 0 mX4_forgetImages false (f_X4_forgetImages I F) (0, [(0, .ref 29)], [], hp I F) := by
  rw [f_X4_forgetImages]
  refine OK_st 3 okX4_forgetImages (S' := (5, [(0, .ref 29)], [], hp (va_up I 14 (0 : Int32)) F)) rfl ⟨trivial, trivial, trivial, trivial⟩ ?_
  exact OK_rv okX4_forgetImages rfl rfl rfl

def f_X9_port (I : AI) (F : AF) : AQ :=
  ab_bd (f_X6_readText I F) (fun r341 I342 F343 =>
    ab_bd (f_X2_empty I342 F343) (fun r344 I345 F346 =>
      ab_lt (va_up I345 0 (I345 4)) (fun I347 =>
        if (I345 3) = 0 then
          ab_bd (f_X5_takeOver I347 F346) (fun r355 I356 F357 =>
            ab_bd (f_X8_begin I356 F357) (fun r365 I366 F367 =>
              ab_bd (f_X3_clearAll I366 F367) (fun r368 I369 F370 =>
                ab_bd (f_X4_forgetUndone I369 F370) (fun r371 I372 F373 =>
                  ab_bd (f_X4_forgetImages I372 F373) (fun r374 I375 F376 =>
                    some ((I375 9), I375, F376))))))
        else
          some (((-10 : Int32) - (I347 3)), I347, F346))))
set_option maxRecDepth 20000 in
set_option maxHeartbeats 4000000 in
theorem kf_X9_port (I : AI) (F : AF) : OK 6 mX9_port true (f_X9_port I F) (0, [(0, .ref 0)], [], hp I F) := by
  rw [f_X9_port]
  refine OK_st 2 okX9_port (S' := (4, [(0, .ref 0)], [.ref 1], hp I F)) rfl ⟨trivial, trivial, trivial⟩ ?_
  refine OK_cv [] [] okX9_port okX6_readText rfl rfl cl_RX9_85 rfl rfl (Nat.le_of_ble_eq_true rfl) (by decide) (Nat.le_of_ble_eq_true rfl) (kf_X6_readText I F) (fun r341 I342 F343 => ?_)
  refine OK_st 3 okX9_port (S' := (14, [(0, .ref 0)], [.ref 2], hp I342 F343)) rfl ⟨trivial, trivial, trivial, trivial⟩ ?_
  refine OK_cv [] [] okX9_port okX2_empty rfl rfl cl_RX9_88 rfl rfl (Nat.le_of_ble_eq_true rfl) (by decide) (Nat.le_of_ble_eq_true rfl) (kf_X2_empty I342 F343) (fun r344 I345 F346 => ?_)
  refine OK_st 9 okX9_port (S' := ((if (I345 3) = 0 then 49 else 38), [(0, .ref 0)], [], hp (va_up I345 0 (I345 4)) F346)) rfl ⟨trivial, trivial, trivial, trivial, trivial, trivial, trivial, trivial, trivial, trivial⟩ ?_
  refine OK_lt (fun I347 => ((if (I345 3) = 0 then 49 else 38), [(0, .ref 0)], [], hp I347 F346)) (fun I347 => ?_)
  refine OK_if (fun h348 => ?_) (fun h348 => ?_)
  · refine OK_st 5 okX9_port (S' := (60, [(0, .ref 0)], [.ref 4, .ref 16], hp I347 F346)) rfl ⟨trivial, trivial, trivial, trivial, trivial, trivial⟩ ?_
    refine OK_cv [.ref 4] [] okX9_port okX5_takeOver rfl rfl cl_RX9_98 rfl rfl (Nat.le_of_ble_eq_true rfl) (by decide) (Nat.le_of_ble_eq_true rfl) (kf_X5_takeOver I347 F346) (fun r355 I356 F357 => ?_)
    refine OK_st 4 okX9_port (S' := (71, [(0, .ref 0)], [.ref 16, .ref 27], hp I356 F357)) rfl ⟨trivial, trivial, trivial, trivial, trivial⟩ ?_
    refine OK_cv [.ref 16] [] okX9_port okX8_begin rfl rfl cl_RX9_102 rfl rfl (Nat.le_of_ble_eq_true rfl) (by decide) (Nat.le_of_ble_eq_true rfl) (kf_X8_begin I356 F357) (fun r365 I366 F367 => ?_)
    refine OK_st 2 okX9_port (S' := (78, [(0, .ref 0)], [.ref 32], hp I366 F367)) rfl ⟨trivial, trivial, trivial⟩ ?_
    refine OK_cv [] [] okX9_port okX3_clearAll rfl rfl cl_RX9_105 rfl rfl (Nat.le_of_ble_eq_true rfl) (by decide) (Nat.le_of_ble_eq_true rfl) (kf_X3_clearAll I366 F367) (fun r368 I369 F370 => ?_)
    refine OK_st 2 okX9_port (S' := (85, [(0, .ref 0)], [.ref 29], hp I369 F370)) rfl ⟨trivial, trivial, trivial⟩ ?_
    refine OK_cv [] [] okX9_port okX4_forgetUndone rfl rfl cl_RX9_108 rfl rfl (Nat.le_of_ble_eq_true rfl) (by decide) (Nat.le_of_ble_eq_true rfl) (kf_X4_forgetUndone I369 F370) (fun r371 I372 F373 => ?_)
    refine OK_st 2 okX9_port (S' := (92, [(0, .ref 0)], [.ref 29], hp I372 F373)) rfl ⟨trivial, trivial, trivial⟩ ?_
    refine OK_cv [] [] okX9_port okX4_forgetImages rfl rfl cl_RX9_111 rfl rfl (Nat.le_of_ble_eq_true rfl) (by decide) (Nat.le_of_ble_eq_true rfl) (kf_X4_forgetImages I372 F373) (fun r374 I375 F376 => ?_)
    refine OK_st 3 okX9_port (S' := (102, [(0, .ref 0)], [.int (I375 9)], hp I375 F376)) rfl ⟨trivial, trivial, trivial, trivial⟩ ?_
    exact OK_ri okX9_port rfl rfl (Or.inl rfl)
  · refine OK_st 5 okX9_port (S' := (48, [(0, .ref 0)], [.int ((-10 : Int32) - (I347 3))], hp I347 F346)) rfl ⟨trivial, trivial, trivial, trivial, trivial, trivial⟩ ?_
    exact OK_ri okX9_port rfl rfl (Or.inl rfl)

def f_X9_fault (I : AI) (F : AF) : AQ :=
  some ((I 0), I, F)
set_option maxRecDepth 20000 in
set_option maxHeartbeats 4000000 in
theorem kf_X9_fault (I : AI) (F : AF) : OK 0 mX9_fault true (f_X9_fault I F) (0, [(0, .ref 0)], [], hp I F) := by
  rw [f_X9_fault]
  refine OK_st 2 okX9_fault (S' := (4, [(0, .ref 0)], [.int (I 0)], hp I F)) rfl ⟨trivial, trivial, trivial⟩ ?_
  exact OK_ri okX9_fault rfl rfl (Or.inl rfl)

def f_X8_seasons (I : AI) (F : AF) : AQ :=
  some (((F 22) 19), I, F)
set_option maxRecDepth 20000 in
set_option maxHeartbeats 4000000 in
theorem kf_X8_seasons (I : AI) (F : AF) : OK 0 mX8_seasons true (f_X8_seasons I F) (0, [(0, .ref 27)], [], hp I F) := by
  rw [f_X8_seasons]
  refine OK_st 4 okX8_seasons (S' := (7, [(0, .ref 27)], [.int ((F 22) 19)], hp I F)) rfl ⟨trivial, trivial, trivial, (ab_vo (by decide)), trivial⟩ ?_
  exact OK_ri okX8_seasons rfl rfl (Or.inl rfl)

def f_X8_living (I : AI) (F : AF) : AQ :=
  some (((F 22) 18), I, F)
set_option maxRecDepth 20000 in
set_option maxHeartbeats 4000000 in
theorem kf_X8_living (I : AI) (F : AF) : OK 0 mX8_living true (f_X8_living I F) (0, [(0, .ref 27)], [], hp I F) := by
  rw [f_X8_living]
  refine OK_st 4 okX8_living (S' := (7, [(0, .ref 27)], [.int ((F 22) 18)], hp I F)) rfl ⟨trivial, trivial, trivial, (ab_vo (by decide)), trivial⟩ ?_
  exact OK_ri okX8_living rfl rfl (Or.inl rfl)

def f_X8_copied_4 (ko : Int32 → Int32 → AI → AF → AQ) : Nat → Int32 → Int32 → AI → AF → AQ
  | 0, _, _, _, _ => none
  | n + 1, v1, v2, I, F =>
    if (nI 6) ≤ v2 then
      ko v1 v2 I F
    else
      bif ab_vin ((nI 6) + v2) 21 then
        if ((F 22) ((nI 6) + v2).toNatClampNeg) = (-1 : Int32) then
          f_X8_copied_4 ko n v1 (v2 + (1 : Int32)) I F
        else
          ab_lt (v1 ||| ((1 : Int32) <<< (v2 &&& 31))) (fun x393 =>
            f_X8_copied_4 ko n x393 (v2 + (1 : Int32)) I F)
      else none
set_option maxRecDepth 20000 in
set_option maxHeartbeats 4000000 in
theorem kf_X8_copied_4 (ko : Int32 → Int32 → AI → AF → AQ) (hko : ∀ v1 v2 I F, OK 0 mX8_copied true (ko v1 v2 I F) (35, [(0, .ref 27), (1, .int v1), (2, .int v2)], [], hp I F)) : ∀ n v1 v2 I F, OK 0 mX8_copied true (f_X8_copied_4 ko n v1 v2 I F) (4, [(0, .ref 27), (1, .int v1), (2, .int v2)], [], hp I F) := by
  intro n
  induction n with
  | zero =>
    intro v1 v2 I F
    exact OK_no
  | succ n ih =>
    intro v1 v2 I F
    rw [f_X8_copied_4]
    refine OK_st 3 okX8_copied (S' := ((if (nI 6) ≤ v2 then 35 else 10), [(0, .ref 27), (1, .int v1), (2, .int v2)], [], hp I F)) rfl ⟨trivial, trivial, trivial, trivial⟩ ?_
    refine OK_if (fun h390 => ?_) (fun h390 => ?_)
    · exact hko v1 v2 I F
    · refine OK_gd (fun g391 => ?_)
      refine OK_st 8 okX8_copied (S' := ((if ((F 22) ((nI 6) + v2).toNatClampNeg) = (-1 : Int32) then 29 else 23), [(0, .ref 27), (1, .int v1), (2, .int v2)], [], hp I F)) rfl ⟨trivial, trivial, trivial, trivial, trivial, (ab_vo g391), trivial, trivial, trivial⟩ ?_
      refine OK_if (fun h392 => ?_) (fun h392 => ?_)
      · refine OK_st 2 okX8_copied (S' := (4, [(2, .int (v2 + (1 : Int32))), (0, .ref 27), (1, .int v1)], [], hp I F)) rfl ⟨(by decide), trivial, trivial⟩ ?_
        refine OK_pk [1, 2, 0] rfl ?_
        exact ih v1 (v2 + (1 : Int32)) I F
      · refine OK_st 6 okX8_copied (S' := (29, [(1, .int (v1 ||| ((1 : Int32) <<< (v2 &&& 31)))), (0, .ref 27), (2, .int v2)], [], hp I F)) rfl ⟨trivial, trivial, trivial, trivial, trivial, (by decide), trivial⟩ ?_
        refine OK_lt (fun x393 => (29, [(1, .int x393), (0, .ref 27), (2, .int v2)], [], hp I F)) (fun x393 => ?_)
        refine OK_st 2 okX8_copied (S' := (4, [(2, .int (v2 + (1 : Int32))), (1, .int x393), (0, .ref 27)], [], hp I F)) rfl ⟨(by decide), trivial, trivial⟩ ?_
        refine OK_pk [2, 1, 0] rfl ?_
        exact ih x393 (v2 + (1 : Int32)) I F

def f_X8_copied (I : AI) (F : AF) : AQ :=
  f_X8_copied_4 (fun v1_394 v2_395 I396 F397 =>
    some (v1_394, I396, F397)) ab_fu (0 : Int32) (0 : Int32) I F
set_option maxRecDepth 20000 in
set_option maxHeartbeats 4000000 in
theorem kf_X8_copied (I : AI) (F : AF) : OK 0 mX8_copied true (f_X8_copied I F) (0, [(0, .ref 27)], [], hp I F) := by
  rw [f_X8_copied]
  refine OK_st 4 okX8_copied (S' := (4, [(2, .int (0 : Int32)), (1, .int (0 : Int32)), (0, .ref 27)], [], hp I F)) rfl ⟨trivial, (by decide), trivial, (by decide), trivial⟩ ?_
  refine OK_pk [2, 1, 0] rfl ?_
  refine kf_X8_copied_4 _ (fun v1_394 v2_395 I396 F397 => ?_) ab_fu (0 : Int32) (0 : Int32) I F
  refine OK_st 1 okX8_copied (S' := (36, [(0, .ref 27), (1, .int v1_394), (2, .int v2_395)], [.int v1_394], hp I396 F397)) rfl ⟨trivial, trivial⟩ ?_
  exact OK_ri okX8_copied rfl rfl (Or.inl rfl)

def f_X8_paidTogether_4 (ko : Int32 → Int32 → AI → AF → AQ) : Nat → Int32 → Int32 → AI → AF → AQ
  | 0, _, _, _, _ => none
  | n + 1, v1, v2, I, F =>
    if (nI 6) ≤ v2 then
      ko v1 v2 I F
    else
      bif ab_vin ((nI 12) + v2) 21 then
        ab_lt (v1 + (if (0 : Int32) < ((F 22) ((nI 12) + v2).toNatClampNeg) then ((F 22) ((nI 12) + v2).toNatClampNeg) else (0 : Int32))) (fun x404 =>
          f_X8_paidTogether_4 ko n x404 (v2 + (1 : Int32)) I F)
      else none
set_option maxRecDepth 20000 in
set_option maxHeartbeats 4000000 in
theorem kf_X8_paidTogether_4 (ko : Int32 → Int32 → AI → AF → AQ) (hko : ∀ v1 v2 I F, OK 0 mX8_paidTogether true (ko v1 v2 I F) (32, [(0, .ref 27), (1, .int v1), (2, .int v2)], [], hp I F)) : ∀ n v1 v2 I F, OK 0 mX8_paidTogether true (f_X8_paidTogether_4 ko n v1 v2 I F) (4, [(0, .ref 27), (1, .int v1), (2, .int v2)], [], hp I F) := by
  intro n
  induction n with
  | zero =>
    intro v1 v2 I F
    exact OK_no
  | succ n ih =>
    intro v1 v2 I F
    rw [f_X8_paidTogether_4]
    refine OK_st 3 okX8_paidTogether (S' := ((if (nI 6) ≤ v2 then 32 else 10), [(0, .ref 27), (1, .int v1), (2, .int v2)], [], hp I F)) rfl ⟨trivial, trivial, trivial, trivial⟩ ?_
    refine OK_if (fun h402 => ?_) (fun h402 => ?_)
    · exact hko v1 v2 I F
    · refine OK_gd (fun g403 => ?_)
      refine OK_st 11 okX8_paidTogether (S' := (26, [(1, .int (v1 + (if (0 : Int32) < ((F 22) ((nI 12) + v2).toNatClampNeg) then ((F 22) ((nI 12) + v2).toNatClampNeg) else (0 : Int32)))), (0, .ref 27), (2, .int v2)], [], hp I F)) rfl ⟨trivial, trivial, trivial, trivial, trivial, trivial, trivial, (ab_vo g403), (Nat.le_of_ble_eq_true rfl), trivial, (by decide), trivial⟩ ?_
      refine OK_lt (fun x404 => (26, [(1, .int x404), (0, .ref 27), (2, .int v2)], [], hp I F)) (fun x404 => ?_)
      refine OK_st 2 okX8_paidTogether (S' := (4, [(2, .int (v2 + (1 : Int32))), (1, .int x404), (0, .ref 27)], [], hp I F)) rfl ⟨(by decide), trivial, trivial⟩ ?_
      refine OK_pk [2, 1, 0] rfl ?_
      exact ih x404 (v2 + (1 : Int32)) I F

def f_X8_paidTogether (I : AI) (F : AF) : AQ :=
  f_X8_paidTogether_4 (fun v1_405 v2_406 I407 F408 =>
    some (v1_405, I407, F408)) ab_fu (0 : Int32) (0 : Int32) I F
set_option maxRecDepth 20000 in
set_option maxHeartbeats 4000000 in
theorem kf_X8_paidTogether (I : AI) (F : AF) : OK 0 mX8_paidTogether true (f_X8_paidTogether I F) (0, [(0, .ref 27)], [], hp I F) := by
  rw [f_X8_paidTogether]
  refine OK_st 4 okX8_paidTogether (S' := (4, [(2, .int (0 : Int32)), (1, .int (0 : Int32)), (0, .ref 27)], [], hp I F)) rfl ⟨trivial, (by decide), trivial, (by decide), trivial⟩ ?_
  refine OK_pk [2, 1, 0] rfl ?_
  refine kf_X8_paidTogether_4 _ (fun v1_405 v2_406 I407 F408 => ?_) ab_fu (0 : Int32) (0 : Int32) I F
  refine OK_st 1 okX8_paidTogether (S' := (33, [(0, .ref 27), (1, .int v1_405), (2, .int v2_406)], [.int v1_405], hp I407 F408)) rfl ⟨trivial, trivial⟩ ?_
  exact OK_ri okX8_paidTogether rfl rfl (Or.inl rfl)

def f_X8_noughts_4 (ko : Int32 → Int32 → AI → AF → AQ) : Nat → Int32 → Int32 → AI → AF → AQ
  | 0, _, _, _, _ => none
  | n + 1, v1, v2, I, F =>
    if (nI 6) ≤ v2 then
      ko v1 v2 I F
    else
      bif ab_vin ((nI 12) + v2) 21 then
        if ¬ ((F 22) ((nI 12) + v2).toNatClampNeg) = 0 then
          f_X8_noughts_4 ko n v1 (v2 + (1 : Int32)) I F
        else
          ab_lt (v1 ||| ((1 : Int32) <<< (v2 &&& 31))) (fun x416 =>
            f_X8_noughts_4 ko n x416 (v2 + (1 : Int32)) I F)
      else none
set_option maxRecDepth 20000 in
set_option maxHeartbeats 4000000 in
theorem kf_X8_noughts_4 (ko : Int32 → Int32 → AI → AF → AQ) (hko : ∀ v1 v2 I F, OK 0 mX8_noughts true (ko v1 v2 I F) (34, [(0, .ref 27), (1, .int v1), (2, .int v2)], [], hp I F)) : ∀ n v1 v2 I F, OK 0 mX8_noughts true (f_X8_noughts_4 ko n v1 v2 I F) (4, [(0, .ref 27), (1, .int v1), (2, .int v2)], [], hp I F) := by
  intro n
  induction n with
  | zero =>
    intro v1 v2 I F
    exact OK_no
  | succ n ih =>
    intro v1 v2 I F
    rw [f_X8_noughts_4]
    refine OK_st 3 okX8_noughts (S' := ((if (nI 6) ≤ v2 then 34 else 10), [(0, .ref 27), (1, .int v1), (2, .int v2)], [], hp I F)) rfl ⟨trivial, trivial, trivial, trivial⟩ ?_
    refine OK_if (fun h413 => ?_) (fun h413 => ?_)
    · exact hko v1 v2 I F
    · refine OK_gd (fun g414 => ?_)
      refine OK_st 7 okX8_noughts (S' := ((if ¬ ((F 22) ((nI 12) + v2).toNatClampNeg) = 0 then 28 else 22), [(0, .ref 27), (1, .int v1), (2, .int v2)], [], hp I F)) rfl ⟨trivial, trivial, trivial, trivial, trivial, (ab_vo g414), trivial, trivial⟩ ?_
      refine OK_if (fun h415 => ?_) (fun h415 => ?_)
      · refine OK_st 2 okX8_noughts (S' := (4, [(2, .int (v2 + (1 : Int32))), (0, .ref 27), (1, .int v1)], [], hp I F)) rfl ⟨(by decide), trivial, trivial⟩ ?_
        refine OK_pk [1, 2, 0] rfl ?_
        exact ih v1 (v2 + (1 : Int32)) I F
      · refine OK_st 6 okX8_noughts (S' := (28, [(1, .int (v1 ||| ((1 : Int32) <<< (v2 &&& 31)))), (0, .ref 27), (2, .int v2)], [], hp I F)) rfl ⟨trivial, trivial, trivial, trivial, trivial, (by decide), trivial⟩ ?_
        refine OK_lt (fun x416 => (28, [(1, .int x416), (0, .ref 27), (2, .int v2)], [], hp I F)) (fun x416 => ?_)
        refine OK_st 2 okX8_noughts (S' := (4, [(2, .int (v2 + (1 : Int32))), (1, .int x416), (0, .ref 27)], [], hp I F)) rfl ⟨(by decide), trivial, trivial⟩ ?_
        refine OK_pk [2, 1, 0] rfl ?_
        exact ih x416 (v2 + (1 : Int32)) I F

def f_X8_noughts (I : AI) (F : AF) : AQ :=
  f_X8_noughts_4 (fun v1_417 v2_418 I419 F420 =>
    some (v1_417, I419, F420)) ab_fu (0 : Int32) (0 : Int32) I F
set_option maxRecDepth 20000 in
set_option maxHeartbeats 4000000 in
theorem kf_X8_noughts (I : AI) (F : AF) : OK 0 mX8_noughts true (f_X8_noughts I F) (0, [(0, .ref 27)], [], hp I F) := by
  rw [f_X8_noughts]
  refine OK_st 4 okX8_noughts (S' := (4, [(2, .int (0 : Int32)), (1, .int (0 : Int32)), (0, .ref 27)], [], hp I F)) rfl ⟨trivial, (by decide), trivial, (by decide), trivial⟩ ?_
  refine OK_pk [2, 1, 0] rfl ?_
  refine kf_X8_noughts_4 _ (fun v1_417 v2_418 I419 F420 => ?_) ab_fu (0 : Int32) (0 : Int32) I F
  refine OK_st 1 okX8_noughts (S' := (35, [(0, .ref 27), (1, .int v1_417), (2, .int v2_418)], [.int v1_417], hp I419 F420)) rfl ⟨trivial, trivial⟩ ?_
  exact OK_ri okX8_noughts rfl rfl (Or.inl rfl)

def f_X9_told (v1 : Int32) (I : AI) (F : AF) : AQ :=
  if v1 = (0 : Int32) then
    some ((I 9), I, F)
  else if v1 = (1 : Int32) then
    some ((I 10), I, F)
  else if v1 = (nI 2) then
    some ((I 11), I, F)
  else if v1 = (nI 3) then
    some ((I 5), I, F)
  else if v1 = (nI 4) then
    ab_bd (f_X8_seasons I F) (fun r382 I383 F384 =>
      some (r382, I383, F384))
  else if v1 = (nI 5) then
    ab_bd (f_X8_living I F) (fun r386 I387 F388 =>
      some (r386, I387, F388))
  else if v1 = (nI 6) then
    ab_bd (f_X8_copied I F) (fun r398 I399 F400 =>
      some (r398, I399, F400))
  else if v1 = (nI 7) then
    ab_bd (f_X8_paidTogether I F) (fun r409 I410 F411 =>
      some (r409, I410, F411))
  else if v1 = (nI 8) then
    ab_bd (f_X8_noughts I F) (fun r421 I422 F423 =>
      some (r421, I422, F423))
  else if v1 = (nI 9) then
    some ((I 15), I, F)
  else if v1 = (nI 10) then
    some ((I 16), I, F)
  else if v1 = (nI 11) then
    some ((I 13), I, F)
  else 
    some ((-1000000002 : Int32), I, F)
set_option maxRecDepth 20000 in
set_option maxHeartbeats 4000000 in
theorem kf_X9_told (v1 : Int32) (I : AI) (F : AF) : OK 1 mX9_told true (f_X9_told v1 I F) (0, [(0, .ref 0), (1, .int v1)], [], hp I F) := by
  rw [f_X9_told]
  refine OK_st 1 okX9_told (S' := (1, [(0, .ref 0), (1, .int v1)], [.int v1], hp I F)) rfl ⟨trivial, trivial⟩ ?_
  refine OK_ci (fun h377 => ?_) (fun h377 => ?_)
  · subst h377
    refine OK_st 1 okX9_told (S' := (64, [(0, .ref 0), (1, .int (0 : Int32))], [], hp I F)) rfl ⟨trivial, trivial⟩ ?_
    refine OK_st 3 okX9_told (S' := (71, [(0, .ref 0), (1, .int (0 : Int32))], [.int (I 9)], hp I F)) rfl ⟨trivial, trivial, trivial, trivial⟩ ?_
    exact OK_ri okX9_told rfl rfl (Or.inl rfl)
  · skip
    refine OK_ci (fun h378 => ?_) (fun h378 => ?_)
    · subst h378
      refine OK_st 1 okX9_told (S' := (72, [(0, .ref 0), (1, .int (1 : Int32))], [], hp I F)) rfl ⟨trivial, trivial⟩ ?_
      refine OK_st 3 okX9_told (S' := (79, [(0, .ref 0), (1, .int (1 : Int32))], [.int (I 10)], hp I F)) rfl ⟨trivial, trivial, trivial, trivial⟩ ?_
      exact OK_ri okX9_told rfl rfl (Or.inl rfl)
    · skip
      refine OK_ci (fun h379 => ?_) (fun h379 => ?_)
      · subst h379
        refine OK_st 1 okX9_told (S' := (80, [(0, .ref 0), (1, .int (nI 2))], [], hp I F)) rfl ⟨trivial, trivial⟩ ?_
        refine OK_st 3 okX9_told (S' := (87, [(0, .ref 0), (1, .int (nI 2))], [.int (I 11)], hp I F)) rfl ⟨trivial, trivial, trivial, trivial⟩ ?_
        exact OK_ri okX9_told rfl rfl (Or.inl rfl)
      · skip
        refine OK_ci (fun h380 => ?_) (fun h380 => ?_)
        · subst h380
          refine OK_st 1 okX9_told (S' := (88, [(0, .ref 0), (1, .int (nI 3))], [], hp I F)) rfl ⟨trivial, trivial⟩ ?_
          refine OK_st 4 okX9_told (S' := (98, [(0, .ref 0), (1, .int (nI 3))], [.int (I 5)], hp I F)) rfl ⟨trivial, trivial, trivial, trivial, trivial⟩ ?_
          exact OK_ri okX9_told rfl rfl (Or.inl rfl)
        · skip
          refine OK_ci (fun h381 => ?_) (fun h381 => ?_)
          · subst h381
            refine OK_st 1 okX9_told (S' := (99, [(0, .ref 0), (1, .int (nI 4))], [], hp I F)) rfl ⟨trivial, trivial⟩ ?_
            refine OK_st 2 okX9_told (S' := (103, [(0, .ref 0), (1, .int (nI 4))], [.ref 27], hp I F)) rfl ⟨trivial, trivial, trivial⟩ ?_
            refine OK_cv [] [] okX9_told okX8_seasons rfl rfl cl_RX9_126 rfl rfl (Nat.le_of_ble_eq_true rfl) (by decide) (Nat.le_of_ble_eq_true rfl) (kf_X8_seasons I F) (fun r382 I383 F384 => ?_)
            exact OK_ri okX9_told rfl rfl (Or.inl rfl)
          · skip
            refine OK_ci (fun h385 => ?_) (fun h385 => ?_)
            · subst h385
              refine OK_st 1 okX9_told (S' := (107, [(0, .ref 0), (1, .int (nI 5))], [], hp I F)) rfl ⟨trivial, trivial⟩ ?_
              refine OK_st 2 okX9_told (S' := (111, [(0, .ref 0), (1, .int (nI 5))], [.ref 27], hp I F)) rfl ⟨trivial, trivial, trivial⟩ ?_
              refine OK_cv [] [] okX9_told okX8_living rfl rfl cl_RX9_130 rfl rfl (Nat.le_of_ble_eq_true rfl) (by decide) (Nat.le_of_ble_eq_true rfl) (kf_X8_living I F) (fun r386 I387 F388 => ?_)
              exact OK_ri okX9_told rfl rfl (Or.inl rfl)
            · skip
              refine OK_ci (fun h389 => ?_) (fun h389 => ?_)
              · subst h389
                refine OK_st 1 okX9_told (S' := (115, [(0, .ref 0), (1, .int (nI 6))], [], hp I F)) rfl ⟨trivial, trivial⟩ ?_
                refine OK_st 2 okX9_told (S' := (119, [(0, .ref 0), (1, .int (nI 6))], [.ref 27], hp I F)) rfl ⟨trivial, trivial, trivial⟩ ?_
                refine OK_cv [] [] okX9_told okX8_copied rfl rfl cl_RX9_133 rfl rfl (Nat.le_of_ble_eq_true rfl) (by decide) (Nat.le_of_ble_eq_true rfl) (kf_X8_copied I F) (fun r398 I399 F400 => ?_)
                exact OK_ri okX9_told rfl rfl (Or.inl rfl)
              · skip
                refine OK_ci (fun h401 => ?_) (fun h401 => ?_)
                · subst h401
                  refine OK_st 1 okX9_told (S' := (123, [(0, .ref 0), (1, .int (nI 7))], [], hp I F)) rfl ⟨trivial, trivial⟩ ?_
                  refine OK_st 2 okX9_told (S' := (127, [(0, .ref 0), (1, .int (nI 7))], [.ref 27], hp I F)) rfl ⟨trivial, trivial, trivial⟩ ?_
                  refine OK_cv [] [] okX9_told okX8_paidTogether rfl rfl cl_RX9_136 rfl rfl (Nat.le_of_ble_eq_true rfl) (by decide) (Nat.le_of_ble_eq_true rfl) (kf_X8_paidTogether I F) (fun r409 I410 F411 => ?_)
                  exact OK_ri okX9_told rfl rfl (Or.inl rfl)
                · skip
                  refine OK_ci (fun h412 => ?_) (fun h412 => ?_)
                  · subst h412
                    refine OK_st 1 okX9_told (S' := (131, [(0, .ref 0), (1, .int (nI 8))], [], hp I F)) rfl ⟨trivial, trivial⟩ ?_
                    refine OK_st 2 okX9_told (S' := (135, [(0, .ref 0), (1, .int (nI 8))], [.ref 27], hp I F)) rfl ⟨trivial, trivial, trivial⟩ ?_
                    refine OK_cv [] [] okX9_told okX8_noughts rfl rfl cl_RX9_139 rfl rfl (Nat.le_of_ble_eq_true rfl) (by decide) (Nat.le_of_ble_eq_true rfl) (kf_X8_noughts I F) (fun r421 I422 F423 => ?_)
                    exact OK_ri okX9_told rfl rfl (Or.inl rfl)
                  · skip
                    refine OK_ci (fun h424 => ?_) (fun h424 => ?_)
                    · subst h424
                      refine OK_st 1 okX9_told (S' := (139, [(0, .ref 0), (1, .int (nI 9))], [], hp I F)) rfl ⟨trivial, trivial⟩ ?_
                      refine OK_st 3 okX9_told (S' := (146, [(0, .ref 0), (1, .int (nI 9))], [.int (I 15)], hp I F)) rfl ⟨trivial, trivial, trivial, trivial⟩ ?_
                      exact OK_ri okX9_told rfl rfl (Or.inl rfl)
                    · skip
                      refine OK_ci (fun h425 => ?_) (fun h425 => ?_)
                      · subst h425
                        refine OK_st 1 okX9_told (S' := (147, [(0, .ref 0), (1, .int (nI 10))], [], hp I F)) rfl ⟨trivial, trivial⟩ ?_
                        refine OK_st 3 okX9_told (S' := (154, [(0, .ref 0), (1, .int (nI 10))], [.int (I 16)], hp I F)) rfl ⟨trivial, trivial, trivial, trivial⟩ ?_
                        exact OK_ri okX9_told rfl rfl (Or.inl rfl)
                      · skip
                        refine OK_ci (fun h426 => ?_) (fun h426 => ?_)
                        · subst h426
                          refine OK_st 1 okX9_told (S' := (155, [(0, .ref 0), (1, .int (nI 11))], [], hp I F)) rfl ⟨trivial, trivial⟩ ?_
                          refine OK_st 3 okX9_told (S' := (162, [(0, .ref 0), (1, .int (nI 11))], [.int (I 13)], hp I F)) rfl ⟨trivial, trivial, trivial, trivial⟩ ?_
                          exact OK_ri okX9_told rfl rfl (Or.inl rfl)
                        · skip
                          refine OK_st 1 okX9_told (S' := (ab_tsw 1 162 0 11 #[63, 71, 79, 87, 98, 106, 114, 122, 130, 138, 146, 154] v1, [(0, .ref 0), (1, .int v1)], [], hp I F)) rfl ⟨trivial, trivial⟩ ?_
                          refine OK_pc (pc' := 163) (if_pos (by
                            have qh377 := lv_neT h377 (show (0 : Int32).toInt = 0 from rfl)
                            have qh378 := lv_neT h378 (show (1 : Int32).toInt = 1 from rfl)
                            have qh379 := lv_neT h379 (show (2 : Int32).toInt = 2 from rfl)
                            have qh380 := lv_neT h380 (show (3 : Int32).toInt = 3 from rfl)
                            have qh381 := lv_neT h381 (show (4 : Int32).toInt = 4 from rfl)
                            have qh385 := lv_neT h385 (show (5 : Int32).toInt = 5 from rfl)
                            have qh389 := lv_neT h389 (show (6 : Int32).toInt = 6 from rfl)
                            have qh401 := lv_neT h401 (show (7 : Int32).toInt = 7 from rfl)
                            have qh412 := lv_neT h412 (show (8 : Int32).toInt = 8 from rfl)
                            have qh424 := lv_neT h424 (show (9 : Int32).toInt = 9 from rfl)
                            have qh425 := lv_neT h425 (show (10 : Int32).toInt = 10 from rfl)
                            have qh426 := lv_neT h426 (show (11 : Int32).toInt = 11 from rfl)
                            omega)) ?_
                          refine OK_st 1 okX9_told (S' := (165, [(0, .ref 0), (1, .int v1)], [.int (-1000000002 : Int32)], hp I F)) rfl ⟨trivial, trivial⟩ ?_
                          exact OK_ri okX9_told rfl rfl (Or.inl rfl)

def f_X5_hasLimb (v1 : Int32) (I : AI) (F : AF) : AQ :=
  if v1 < 0 then
    some ((0 : Int32), I, F)
  else
    if (I 9) ≤ v1 then
      some ((0 : Int32), I, F)
    else
      some ((1 : Int32), I, F)
set_option maxRecDepth 20000 in
set_option maxHeartbeats 4000000 in
theorem kf_X5_hasLimb (v1 : Int32) (I : AI) (F : AF) : OK 0 mX5_hasLimb true (f_X5_hasLimb v1 I F) (0, [(0, .ref 16), (1, .int v1)], [], hp I F) := by
  rw [f_X5_hasLimb]
  refine OK_st 2 okX5_hasLimb (S' := ((if v1 < 0 then 16 else 4), [(0, .ref 16), (1, .int v1)], [], hp I F)) rfl ⟨trivial, trivial, trivial⟩ ?_
  refine OK_if (fun h427 => ?_) (fun h427 => ?_)
  · refine OK_st 1 okX5_hasLimb (S' := (17, [(0, .ref 16), (1, .int v1)], [.int (0 : Int32)], hp I F)) rfl ⟨trivial, trivial⟩ ?_
    exact OK_ri okX5_hasLimb rfl rfl (Or.inr ⟨rfl, Or.inl rfl⟩)
  · refine OK_st 4 okX5_hasLimb (S' := ((if (I 9) ≤ v1 then 16 else 12), [(0, .ref 16), (1, .int v1)], [], hp I F)) rfl ⟨trivial, trivial, trivial, trivial, trivial⟩ ?_
    refine OK_if (fun h428 => ?_) (fun h428 => ?_)
    · refine OK_st 1 okX5_hasLimb (S' := (17, [(0, .ref 16), (1, .int v1)], [.int (0 : Int32)], hp I F)) rfl ⟨trivial, trivial⟩ ?_
      exact OK_ri okX5_hasLimb rfl rfl (Or.inr ⟨rfl, Or.inl rfl⟩)
    · refine OK_st 2 okX5_hasLimb (S' := (17, [(0, .ref 16), (1, .int v1)], [.int (1 : Int32)], hp I F)) rfl ⟨trivial, trivial, trivial⟩ ?_
      exact OK_ri okX5_hasLimb rfl rfl (Or.inr ⟨rfl, Or.inr rfl⟩)

def f_X8_lengthOf (v1 : Int32) (I : AI) (F : AF) : AQ :=
  bif ab_vin ((0 : Int32) + v1) 21 then
    some (((F 22) ((0 : Int32) + v1).toNatClampNeg), I, F)
  else none
set_option maxRecDepth 20000 in
set_option maxHeartbeats 4000000 in
theorem kf_X8_lengthOf (v1 : Int32) (I : AI) (F : AF) : OK 0 mX8_lengthOf true (f_X8_lengthOf v1 I F) (0, [(0, .ref 27), (1, .int v1)], [], hp I F) := by
  rw [f_X8_lengthOf]
  refine OK_gd (fun g434 => ?_)
  refine OK_st 6 okX8_lengthOf (S' := (8, [(0, .ref 27), (1, .int v1)], [.int ((F 22) ((0 : Int32) + v1).toNatClampNeg)], hp I F)) rfl ⟨trivial, trivial, trivial, trivial, trivial, (ab_vo g434), trivial⟩ ?_
  exact OK_ri okX8_lengthOf rfl rfl (Or.inl rfl)

def f_X8_lives (v1 : Int32) (I : AI) (F : AF) : AQ :=
  if ((((F 22) 18) >>> (v1 &&& 31)) &&& (1 : Int32)) = 0 then
    some ((0 : Int32), I, F)
  else
    some ((1 : Int32), I, F)
set_option maxRecDepth 20000 in
set_option maxHeartbeats 4000000 in
theorem kf_X8_lives (v1 : Int32) (I : AI) (F : AF) : OK 0 mX8_lives true (f_X8_lives v1 I F) (0, [(0, .ref 27), (1, .int v1)], [], hp I F) := by
  rw [f_X8_lives]
  refine OK_st 9 okX8_lives (S' := ((if ((((F 22) 18) >>> (v1 &&& 31)) &&& (1 : Int32)) = 0 then 18 else 14), [(0, .ref 27), (1, .int v1)], [], hp I F)) rfl ⟨trivial, trivial, trivial, (ab_vo (by decide)), trivial, trivial, trivial, trivial, trivial, trivial⟩ ?_
  refine OK_if (fun h443 => ?_) (fun h443 => ?_)
  · refine OK_st 1 okX8_lives (S' := (19, [(0, .ref 27), (1, .int v1)], [.int (0 : Int32)], hp I F)) rfl ⟨trivial, trivial⟩ ?_
    exact OK_ri okX8_lives rfl rfl (Or.inr ⟨rfl, Or.inl rfl⟩)
  · refine OK_st 2 okX8_lives (S' := (19, [(0, .ref 27), (1, .int v1)], [.int (1 : Int32)], hp I F)) rfl ⟨trivial, trivial, trivial⟩ ?_
    exact OK_ri okX8_lives rfl rfl (Or.inr ⟨rfl, Or.inr rfl⟩)

def f_X5_addedIn (v1 : Int32) (v2 : Int32) (I : AI) (F : AF) : AQ :=
  bif ab_vin ((v1 * (nI 4)) + (v2 - v2 / (nI 4) * (nI 4))) 24 then
    some ((((F 13) ((v1 * (nI 4)) + (v2 - v2 / (nI 4) * (nI 4))).toNatClampNeg) - (nI 9)), I, F)
  else none
set_option maxRecDepth 20000 in
set_option maxHeartbeats 4000000 in
theorem kf_X5_addedIn (v1 : Int32) (v2 : Int32) (I : AI) (F : AF) : OK 0 mX5_addedIn true (f_X5_addedIn v1 v2 I F) (0, [(0, .ref 16), (1, .int v1), (2, .int v2)], [], hp I F) := by
  rw [f_X5_addedIn]
  refine OK_gd (fun g450 => ?_)
  refine OK_st 12 okX5_addedIn (S' := (15, [(0, .ref 16), (1, .int v1), (2, .int v2)], [.int (((F 13) ((v1 * (nI 4)) + (v2 - v2 / (nI 4) * (nI 4))).toNatClampNeg) - (nI 9))], hp I F)) rfl ⟨trivial, trivial, trivial, trivial, trivial, trivial, trivial, (by decide), trivial, (ab_vo g450), trivial, trivial, trivial⟩ ?_
  exact OK_ri okX5_addedIn rfl rfl (Or.inl rfl)

def f_X8_ownMeasure (v2 : Int32) (v3 : Int32) (I : AI) (F : AF) : AQ :=
  bif ab_vin ((0 : Int32) + v2) 21 then
    ab_bd (f_X5_addedIn v2 v3 I F) (fun r451 I452 F453 =>
      some ((if (0 : Int32) < (((F 22) ((0 : Int32) + v2).toNatClampNeg) + r451) then (((F 22) ((0 : Int32) + v2).toNatClampNeg) + r451) else (0 : Int32)), I452, F453))
  else none
set_option maxRecDepth 20000 in
set_option maxHeartbeats 4000000 in
theorem kf_X8_ownMeasure (v2 : Int32) (v3 : Int32) (I : AI) (F : AF) : OK 1 mX8_ownMeasure true (f_X8_ownMeasure v2 v3 I F) (0, [(0, .ref 27), (1, .ref 16), (2, .int v2), (3, .int v3)], [], hp I F) := by
  rw [f_X8_ownMeasure]
  refine OK_gd (fun g449 => ?_)
  refine OK_st 10 okX8_ownMeasure (S' := (12, [(0, .ref 27), (1, .ref 16), (2, .int v2), (3, .int v3)], [.int v3, .int v2, .ref 16, .int ((F 22) ((0 : Int32) + v2).toNatClampNeg), .int (0 : Int32)], hp I F)) rfl ⟨trivial, trivial, trivial, trivial, trivial, trivial, (ab_vo g449), trivial, trivial, trivial, trivial⟩ ?_
  refine OK_cv [.int v2, .int v3] [.int ((F 22) ((0 : Int32) + v2).toNatClampNeg), .int (0 : Int32)] okX8_ownMeasure okX5_addedIn rfl rfl cl_RX8_36 rfl rfl (Nat.le_of_ble_eq_true rfl) (by decide) (Nat.le_of_ble_eq_true rfl) (kf_X5_addedIn v2 v3 I F) (fun r451 I452 F453 => ?_)
  refine OK_st 2 okX8_ownMeasure (S' := (19, [(0, .ref 27), (1, .ref 16), (2, .int v2), (3, .int v3)], [.int (if (0 : Int32) < (((F 22) ((0 : Int32) + v2).toNatClampNeg) + r451) then (((F 22) ((0 : Int32) + v2).toNatClampNeg) + r451) else (0 : Int32))], hp I452 F453)) rfl ⟨trivial, (Nat.le_of_ble_eq_true rfl), trivial⟩ ?_
  exact OK_ri okX8_ownMeasure rfl rfl (Or.inl rfl)

def f_X8_measure_6 (v3 : Int32) (ko : Int32 → Int32 → AI → AF → AQ) : Nat → Int32 → Int32 → AI → AF → AQ
  | 0, _, _, _, _ => none
  | n + 1, v4, v5, I, F =>
    if (nI 6) < v5 then
      ko v4 v5 I F
    else
      if v4 = (-1 : Int32) then
        ko v4 v5 I F
      else
        bif ab_vin ((nI 6) + v4) 21 then
          if ((F 22) ((nI 6) + v4).toNatClampNeg) = (-1 : Int32) then
            ab_bd (f_X8_lives v4 I F) (fun r444 I445 F446 =>
              if r444 = 0 then
                bif ab_vin v4 6 then
                  f_X8_measure_6 v3 ko n ((F446 14) v4.toNatClampNeg) (v5 + (1 : Int32)) I445 F446
                else none
              else
                ab_bd (f_X8_ownMeasure v4 v3 I445 F446) (fun r454 I455 F456 =>
                  some (r454, I455, F456)))
          else
            bif ab_vin ((nI 6) + v4) 21 then
              some (((F 22) ((nI 6) + v4).toNatClampNeg), I, F)
            else none
        else none
set_option maxRecDepth 20000 in
set_option maxHeartbeats 4000000 in
theorem kf_X8_measure_6 (v3 : Int32) (ko : Int32 → Int32 → AI → AF → AQ) (hko : ∀ v4 v5 I F, OK 2 mX8_measure true (ko v4 v5 I F) (77, [(0, .ref 27), (1, .ref 16), (3, .int v3), (4, .int v4), (5, .int v5)], [], hp I F)) : ∀ n v4 v5 I F, OK 2 mX8_measure true (f_X8_measure_6 v3 ko n v4 v5 I F) (6, [(0, .ref 27), (1, .ref 16), (3, .int v3), (4, .int v4), (5, .int v5)], [], hp I F) := by
  intro n
  induction n with
  | zero =>
    intro v4 v5 I F
    exact OK_no
  | succ n ih =>
    intro v4 v5 I F
    rw [f_X8_measure_6]
    refine OK_st 3 okX8_measure (S' := ((if (nI 6) < v5 then 77 else 13), [(0, .ref 27), (1, .ref 16), (3, .int v3), (4, .int v4), (5, .int v5)], [], hp I F)) rfl ⟨trivial, trivial, trivial, trivial⟩ ?_
    refine OK_if (fun h439 => ?_) (fun h439 => ?_)
    · exact hko v4 v5 I F
    · refine OK_st 3 okX8_measure (S' := ((if v4 = (-1 : Int32) then 77 else 19), [(0, .ref 27), (1, .ref 16), (3, .int v3), (4, .int v4), (5, .int v5)], [], hp I F)) rfl ⟨trivial, trivial, trivial, trivial⟩ ?_
      refine OK_if (fun h440 => ?_) (fun h440 => ?_)
      · exact hko v4 v5 I F
      · refine OK_gd (fun g441 => ?_)
        refine OK_st 8 okX8_measure (S' := ((if ((F 22) ((nI 6) + v4).toNatClampNeg) = (-1 : Int32) then 44 else 33), [(0, .ref 27), (1, .ref 16), (3, .int v3), (4, .int v4), (5, .int v5)], [], hp I F)) rfl ⟨trivial, trivial, trivial, trivial, trivial, (ab_vo g441), trivial, trivial, trivial⟩ ?_
        refine OK_if (fun h442 => ?_) (fun h442 => ?_)
        · refine OK_st 2 okX8_measure (S' := (47, [(0, .ref 27), (1, .ref 16), (3, .int v3), (4, .int v4), (5, .int v5)], [.int v4, .ref 27], hp I F)) rfl ⟨trivial, trivial, trivial⟩ ?_
          refine OK_cv [.int v4] [] okX8_measure okX8_lives rfl rfl cl_RX8_39 rfl rfl (Nat.le_of_ble_eq_true rfl) (by decide) (Nat.le_of_ble_eq_true rfl) (kf_X8_lives v4 I F) (fun r444 I445 F446 => ?_)
          refine OK_st 1 okX8_measure (S' := ((if r444 = 0 then 62 else 53), [(0, .ref 27), (1, .ref 16), (3, .int v3), (4, .int v4), (5, .int v5)], [], hp I445 F446)) rfl ⟨trivial, trivial⟩ ?_
          refine OK_if (fun h447 => ?_) (fun h447 => ?_)
          · refine OK_gd (fun g448 => ?_)
            refine OK_st 7 okX8_measure (S' := (6, [(5, .int (v5 + (1 : Int32))), (4, .int ((F446 14) v4.toNatClampNeg)), (0, .ref 27), (1, .ref 16), (3, .int v3)], [], hp I445 F446)) rfl ⟨trivial, trivial, trivial, (ab_vo g448), (by decide), (by decide), trivial, trivial⟩ ?_
            refine OK_pk [2, 3, 4, 1, 0] rfl ?_
            exact ih ((F446 14) v4.toNatClampNeg) (v5 + (1 : Int32)) I445 F446
          · refine OK_st 4 okX8_measure (S' := (58, [(0, .ref 27), (1, .ref 16), (3, .int v3), (4, .int v4), (5, .int v5)], [.int v3, .int v4, .ref 16, .ref 27], hp I445 F446)) rfl ⟨trivial, trivial, trivial, trivial, trivial⟩ ?_
            refine OK_cv [.ref 16, .int v4, .int v3] [] okX8_measure okX8_ownMeasure rfl rfl cl_RX8_43 rfl rfl (Nat.le_of_ble_eq_true rfl) (by decide) (Nat.le_of_ble_eq_true rfl) (kf_X8_ownMeasure v4 v3 I445 F446) (fun r454 I455 F456 => ?_)
            exact OK_ri okX8_measure rfl rfl (Or.inl rfl)
        · refine OK_gd (fun g457 => ?_)
          refine OK_st 6 okX8_measure (S' := (43, [(0, .ref 27), (1, .ref 16), (3, .int v3), (4, .int v4), (5, .int v5)], [.int ((F 22) ((nI 6) + v4).toNatClampNeg)], hp I F)) rfl ⟨trivial, trivial, trivial, trivial, trivial, (ab_vo g457), trivial⟩ ?_
          exact OK_ri okX8_measure rfl rfl (Or.inl rfl)

def f_X8_measure (v2 : Int32) (v3 : Int32) (I : AI) (F : AF) : AQ :=
  f_X8_measure_6 v3 (fun v4_458 v5_459 I460 F461 =>
    some ((0 : Int32), I460, F461)) ab_fu v2 (0 : Int32) I F
set_option maxRecDepth 20000 in
set_option maxHeartbeats 4000000 in
theorem kf_X8_measure (v2 : Int32) (v3 : Int32) (I : AI) (F : AF) : OK 2 mX8_measure true (f_X8_measure v2 v3 I F) (0, [(0, .ref 27), (1, .ref 16), (2, .int v2), (3, .int v3)], [], hp I F) := by
  rw [f_X8_measure]
  refine OK_st 4 okX8_measure (S' := (6, [(5, .int (0 : Int32)), (4, .int v2), (0, .ref 27), (1, .ref 16), (2, .int v2), (3, .int v3)], [], hp I F)) rfl ⟨trivial, (by decide), trivial, (by decide), trivial⟩ ?_
  refine OK_pk [2, 3, 5, 1, 0] rfl ?_
  refine kf_X8_measure_6 v3 _ (fun v4_458 v5_459 I460 F461 => ?_) ab_fu v2 (0 : Int32) I F
  refine OK_st 1 okX8_measure (S' := (78, [(0, .ref 27), (1, .ref 16), (3, .int v3), (4, .int v4_458), (5, .int v5_459)], [.int (0 : Int32)], hp I460 F461)) rfl ⟨trivial, trivial⟩ ?_
  exact OK_ri okX8_measure rfl rfl (Or.inl rfl)

def f_X8_measureNow (v2 : Int32) (I : AI) (F : AF) : AQ :=
  ab_bd (f_X8_measure v2 ((F 22) 19) I F) (fun r462 I463 F464 =>
    some (r462, I463, F464))
set_option maxRecDepth 20000 in
set_option maxHeartbeats 4000000 in
theorem kf_X8_measureNow (v2 : Int32) (I : AI) (F : AF) : OK 3 mX8_measureNow true (f_X8_measureNow v2 I F) (0, [(0, .ref 27), (1, .ref 16), (2, .int v2)], [], hp I F) := by
  rw [f_X8_measureNow]
  refine OK_st 7 okX8_measureNow (S' := (10, [(0, .ref 27), (1, .ref 16), (2, .int v2)], [.int ((F 22) 19), .int v2, .ref 16, .ref 27], hp I F)) rfl ⟨trivial, trivial, trivial, trivial, trivial, trivial, (ab_vo (by decide)), trivial⟩ ?_
  refine OK_cv [.ref 16, .int v2, .int ((F 22) 19)] [] okX8_measureNow okX8_measure rfl rfl cl_RX8_50 rfl rfl (Nat.le_of_ble_eq_true rfl) (by decide) (Nat.le_of_ble_eq_true rfl) (kf_X8_measure v2 ((F 22) 19) I F) (fun r462 I463 F464 => ?_)
  exact OK_ri okX8_measureNow rfl rfl (Or.inl rfl)

def f_X8_copyOf (v1 : Int32) (I : AI) (F : AF) : AQ :=
  bif ab_vin ((nI 6) + v1) 21 then
    some (((F 22) ((nI 6) + v1).toNatClampNeg), I, F)
  else none
set_option maxRecDepth 20000 in
set_option maxHeartbeats 4000000 in
theorem kf_X8_copyOf (v1 : Int32) (I : AI) (F : AF) : OK 0 mX8_copyOf true (f_X8_copyOf v1 I F) (0, [(0, .ref 27), (1, .int v1)], [], hp I F) := by
  rw [f_X8_copyOf]
  refine OK_gd (fun g476 => ?_)
  refine OK_st 6 okX8_copyOf (S' := (9, [(0, .ref 27), (1, .int v1)], [.int ((F 22) ((nI 6) + v1).toNatClampNeg)], hp I F)) rfl ⟨trivial, trivial, trivial, trivial, trivial, (ab_vo g476), trivial⟩ ?_
  exact OK_ri okX8_copyOf rfl rfl (Or.inl rfl)

def f_X5_addedAsTold (v1 : Int32) (v2 : Int32) (I : AI) (F : AF) : AQ :=
  bif ab_vin ((v1 * (nI 4)) + v2) 24 then
    some (((F 13) ((v1 * (nI 4)) + v2).toNatClampNeg), I, F)
  else none
set_option maxRecDepth 20000 in
set_option maxHeartbeats 4000000 in
theorem kf_X5_addedAsTold (v1 : Int32) (v2 : Int32) (I : AI) (F : AF) : OK 0 mX5_addedAsTold true (f_X5_addedAsTold v1 v2 I F) (0, [(0, .ref 16), (1, .int v1), (2, .int v2)], [], hp I F) := by
  rw [f_X5_addedAsTold]
  refine OK_gd (fun g481 => ?_)
  refine OK_st 8 okX5_addedAsTold (S' := (10, [(0, .ref 16), (1, .int v1), (2, .int v2)], [.int ((F 13) ((v1 * (nI 4)) + v2).toNatClampNeg)], hp I F)) rfl ⟨trivial, trivial, trivial, trivial, trivial, trivial, trivial, (ab_vo g481), trivial⟩ ?_
  exact OK_ri okX5_addedAsTold rfl rfl (Or.inl rfl)

def f_X9_limb (v1 : Int32) (v2 : Int32) (I : AI) (F : AF) : AQ :=
  ab_bd (f_X5_hasLimb v1 I F) (fun r429 I430 F431 =>
    if ¬ r429 = 0 then
      if v2 = (0 : Int32) then
        ab_bd (f_X8_lengthOf v1 I430 F431) (fun r435 I436 F437 =>
          some (r435, I436, F437))
      else if v2 = (1 : Int32) then
        ab_bd (f_X8_measureNow v1 I430 F431) (fun r465 I466 F467 =>
          some (r465, I466, F467))
      else if v2 = (nI 2) then
        bif ab_vin v1 6 then
          some (((F431 14) v1.toNatClampNeg), I430, F431)
        else none
      else if v2 = (nI 3) then
        ab_bd (f_X8_lives v1 I430 F431) (fun r471 I472 F473 =>
          if r471 = 0 then
            some ((0 : Int32), I472, F473)
          else
            some ((1 : Int32), I472, F473))
      else if v2 = (nI 4) then
        ab_bd (f_X8_copyOf v1 I430 F431) (fun r477 I478 F479 =>
          some (r477, I478, F479))
      else if v2 = (nI 5) then
        ab_bd (f_X5_addedAsTold v1 (v2 - (nI 5)) I430 F431) (fun r482 I483 F484 =>
          some (r482, I483, F484))
      else if v2 = (nI 6) then
        ab_bd (f_X5_addedAsTold v1 (v2 - (nI 5)) I430 F431) (fun r486 I487 F488 =>
          some (r486, I487, F488))
      else if v2 = (nI 7) then
        ab_bd (f_X5_addedAsTold v1 (v2 - (nI 5)) I430 F431) (fun r490 I491 F492 =>
          some (r490, I491, F492))
      else if v2 = (nI 8) then
        ab_bd (f_X5_addedAsTold v1 (v2 - (nI 5)) I430 F431) (fun r494 I495 F496 =>
          some (r494, I495, F496))
      else 
        some ((-1000000002 : Int32), I430, F431)
    else
      some ((-1000000001 : Int32), I430, F431))
set_option maxRecDepth 20000 in
set_option maxHeartbeats 4000000 in
theorem kf_X9_limb (v1 : Int32) (v2 : Int32) (I : AI) (F : AF) : OK 4 mX9_limb true (f_X9_limb v1 v2 I F) (0, [(0, .ref 0), (1, .int v1), (2, .int v2)], [], hp I F) := by
  rw [f_X9_limb]
  refine OK_st 3 okX9_limb (S' := (5, [(0, .ref 0), (1, .int v1), (2, .int v2)], [.int v1, .ref 16], hp I F)) rfl ⟨trivial, trivial, trivial, trivial⟩ ?_
  refine OK_cv [.int v1] [] okX9_limb okX5_hasLimb rfl rfl cl_RX9_151 rfl rfl (Nat.le_of_ble_eq_true rfl) (by decide) (Nat.le_of_ble_eq_true rfl) (kf_X5_hasLimb v1 I F) (fun r429 I430 F431 => ?_)
  refine OK_st 1 okX9_limb (S' := ((if ¬ r429 = 0 then 14 else 11), [(0, .ref 0), (1, .int v1), (2, .int v2)], [], hp I430 F431)) rfl ⟨trivial, trivial⟩ ?_
  refine OK_if (fun h432 => ?_) (fun h432 => ?_)
  · refine OK_st 1 okX9_limb (S' := (15, [(0, .ref 0), (1, .int v1), (2, .int v2)], [.int v2], hp I430 F431)) rfl ⟨trivial, trivial⟩ ?_
    refine OK_ci (fun h433 => ?_) (fun h433 => ?_)
    · subst h433
      refine OK_st 1 okX9_limb (S' := (64, [(0, .ref 0), (1, .int v1), (2, .int (0 : Int32))], [], hp I430 F431)) rfl ⟨trivial, trivial⟩ ?_
      refine OK_st 3 okX9_limb (S' := (69, [(0, .ref 0), (1, .int v1), (2, .int (0 : Int32))], [.int v1, .ref 27], hp I430 F431)) rfl ⟨trivial, trivial, trivial, trivial⟩ ?_
      refine OK_cv [.int v1] [] okX9_limb okX8_lengthOf rfl rfl cl_RX9_156 rfl rfl (Nat.le_of_ble_eq_true rfl) (by decide) (Nat.le_of_ble_eq_true rfl) (kf_X8_lengthOf v1 I430 F431) (fun r435 I436 F437 => ?_)
      exact OK_ri okX9_limb rfl rfl (Or.inl rfl)
    · skip
      refine OK_ci (fun h438 => ?_) (fun h438 => ?_)
      · subst h438
        refine OK_st 1 okX9_limb (S' := (73, [(0, .ref 0), (1, .int v1), (2, .int (1 : Int32))], [], hp I430 F431)) rfl ⟨trivial, trivial⟩ ?_
        refine OK_st 5 okX9_limb (S' := (82, [(0, .ref 0), (1, .int v1), (2, .int (1 : Int32))], [.int v1, .ref 16, .ref 27], hp I430 F431)) rfl ⟨trivial, trivial, trivial, trivial, trivial, trivial⟩ ?_
        refine OK_cv [.ref 16, .int v1] [] okX9_limb okX8_measureNow rfl rfl cl_RX9_159 rfl rfl (Nat.le_of_ble_eq_true rfl) (by decide) (Nat.le_of_ble_eq_true rfl) (kf_X8_measureNow v1 I430 F431) (fun r465 I466 F467 => ?_)
        exact OK_ri okX9_limb rfl rfl (Or.inl rfl)
      · skip
        refine OK_ci (fun h468 => ?_) (fun h468 => ?_)
        · subst h468
          refine OK_st 1 okX9_limb (S' := (86, [(0, .ref 0), (1, .int v1), (2, .int (nI 2))], [], hp I430 F431)) rfl ⟨trivial, trivial⟩ ?_
          refine OK_gd (fun g469 => ?_)
          refine OK_st 5 okX9_limb (S' := (95, [(0, .ref 0), (1, .int v1), (2, .int (nI 2))], [.int ((F431 14) v1.toNatClampNeg)], hp I430 F431)) rfl ⟨trivial, trivial, trivial, trivial, (ab_vo g469), trivial⟩ ?_
          exact OK_ri okX9_limb rfl rfl (Or.inl rfl)
        · skip
          refine OK_ci (fun h470 => ?_) (fun h470 => ?_)
          · subst h470
            refine OK_st 1 okX9_limb (S' := (96, [(0, .ref 0), (1, .int v1), (2, .int (nI 3))], [], hp I430 F431)) rfl ⟨trivial, trivial⟩ ?_
            refine OK_st 3 okX9_limb (S' := (101, [(0, .ref 0), (1, .int v1), (2, .int (nI 3))], [.int v1, .ref 27], hp I430 F431)) rfl ⟨trivial, trivial, trivial, trivial⟩ ?_
            refine OK_cv [.int v1] [] okX9_limb okX8_lives rfl rfl cl_RX9_167 rfl rfl (Nat.le_of_ble_eq_true rfl) (by decide) (Nat.le_of_ble_eq_true rfl) (kf_X8_lives v1 I430 F431) (fun r471 I472 F473 => ?_)
            refine OK_st 1 okX9_limb (S' := ((if r471 = 0 then 111 else 107), [(0, .ref 0), (1, .int v1), (2, .int (nI 3))], [], hp I472 F473)) rfl ⟨trivial, trivial⟩ ?_
            refine OK_if (fun h474 => ?_) (fun h474 => ?_)
            · refine OK_st 1 okX9_limb (S' := (112, [(0, .ref 0), (1, .int v1), (2, .int (nI 3))], [.int (0 : Int32)], hp I472 F473)) rfl ⟨trivial, trivial⟩ ?_
              exact OK_ri okX9_limb rfl rfl (Or.inl rfl)
            · refine OK_st 2 okX9_limb (S' := (112, [(0, .ref 0), (1, .int v1), (2, .int (nI 3))], [.int (1 : Int32)], hp I472 F473)) rfl ⟨trivial, trivial, trivial⟩ ?_
              exact OK_ri okX9_limb rfl rfl (Or.inl rfl)
          · skip
            refine OK_ci (fun h475 => ?_) (fun h475 => ?_)
            · subst h475
              refine OK_st 1 okX9_limb (S' := (113, [(0, .ref 0), (1, .int v1), (2, .int (nI 4))], [], hp I430 F431)) rfl ⟨trivial, trivial⟩ ?_
              refine OK_st 3 okX9_limb (S' := (118, [(0, .ref 0), (1, .int v1), (2, .int (nI 4))], [.int v1, .ref 27], hp I430 F431)) rfl ⟨trivial, trivial, trivial, trivial⟩ ?_
              refine OK_cv [.int v1] [] okX9_limb okX8_copyOf rfl rfl cl_RX9_170 rfl rfl (Nat.le_of_ble_eq_true rfl) (by decide) (Nat.le_of_ble_eq_true rfl) (kf_X8_copyOf v1 I430 F431) (fun r477 I478 F479 => ?_)
              exact OK_ri okX9_limb rfl rfl (Or.inl rfl)
            · skip
              refine OK_ci (fun h480 => ?_) (fun h480 => ?_)
              · subst h480
                refine OK_st 1 okX9_limb (S' := (122, [(0, .ref 0), (1, .int v1), (2, .int (nI 5))], [], hp I430 F431)) rfl ⟨trivial, trivial⟩ ?_
                refine OK_st 6 okX9_limb (S' := (130, [(0, .ref 0), (1, .int v1), (2, .int (nI 5))], [.int ((nI 5) - (nI 5)), .int v1, .ref 16], hp I430 F431)) rfl ⟨trivial, trivial, trivial, trivial, trivial, trivial, trivial⟩ ?_
                refine OK_cv [.int v1, .int ((nI 5) - (nI 5))] [] okX9_limb okX5_addedAsTold rfl rfl cl_RX9_173 rfl rfl (Nat.le_of_ble_eq_true rfl) (by decide) (Nat.le_of_ble_eq_true rfl) (kf_X5_addedAsTold v1 ((nI 5) - (nI 5)) I430 F431) (fun r482 I483 F484 => ?_)
                exact OK_ri okX9_limb rfl rfl (Or.inl rfl)
              · skip
                refine OK_ci (fun h485 => ?_) (fun h485 => ?_)
                · subst h485
                  refine OK_st 1 okX9_limb (S' := (122, [(0, .ref 0), (1, .int v1), (2, .int (nI 6))], [], hp I430 F431)) rfl ⟨trivial, trivial⟩ ?_
                  refine OK_st 6 okX9_limb (S' := (130, [(0, .ref 0), (1, .int v1), (2, .int (nI 6))], [.int ((nI 6) - (nI 5)), .int v1, .ref 16], hp I430 F431)) rfl ⟨trivial, trivial, trivial, trivial, trivial, trivial, trivial⟩ ?_
                  refine OK_cv [.int v1, .int ((nI 6) - (nI 5))] [] okX9_limb okX5_addedAsTold rfl rfl cl_RX9_173 rfl rfl (Nat.le_of_ble_eq_true rfl) (by decide) (Nat.le_of_ble_eq_true rfl) (kf_X5_addedAsTold v1 ((nI 6) - (nI 5)) I430 F431) (fun r486 I487 F488 => ?_)
                  exact OK_ri okX9_limb rfl rfl (Or.inl rfl)
                · skip
                  refine OK_ci (fun h489 => ?_) (fun h489 => ?_)
                  · subst h489
                    refine OK_st 1 okX9_limb (S' := (122, [(0, .ref 0), (1, .int v1), (2, .int (nI 7))], [], hp I430 F431)) rfl ⟨trivial, trivial⟩ ?_
                    refine OK_st 6 okX9_limb (S' := (130, [(0, .ref 0), (1, .int v1), (2, .int (nI 7))], [.int ((nI 7) - (nI 5)), .int v1, .ref 16], hp I430 F431)) rfl ⟨trivial, trivial, trivial, trivial, trivial, trivial, trivial⟩ ?_
                    refine OK_cv [.int v1, .int ((nI 7) - (nI 5))] [] okX9_limb okX5_addedAsTold rfl rfl cl_RX9_173 rfl rfl (Nat.le_of_ble_eq_true rfl) (by decide) (Nat.le_of_ble_eq_true rfl) (kf_X5_addedAsTold v1 ((nI 7) - (nI 5)) I430 F431) (fun r490 I491 F492 => ?_)
                    exact OK_ri okX9_limb rfl rfl (Or.inl rfl)
                  · skip
                    refine OK_ci (fun h493 => ?_) (fun h493 => ?_)
                    · subst h493
                      refine OK_st 1 okX9_limb (S' := (122, [(0, .ref 0), (1, .int v1), (2, .int (nI 8))], [], hp I430 F431)) rfl ⟨trivial, trivial⟩ ?_
                      refine OK_st 6 okX9_limb (S' := (130, [(0, .ref 0), (1, .int v1), (2, .int (nI 8))], [.int ((nI 8) - (nI 5)), .int v1, .ref 16], hp I430 F431)) rfl ⟨trivial, trivial, trivial, trivial, trivial, trivial, trivial⟩ ?_
                      refine OK_cv [.int v1, .int ((nI 8) - (nI 5))] [] okX9_limb okX5_addedAsTold rfl rfl cl_RX9_173 rfl rfl (Nat.le_of_ble_eq_true rfl) (by decide) (Nat.le_of_ble_eq_true rfl) (kf_X5_addedAsTold v1 ((nI 8) - (nI 5)) I430 F431) (fun r494 I495 F496 => ?_)
                      exact OK_ri okX9_limb rfl rfl (Or.inl rfl)
                    · skip
                      refine OK_st 1 okX9_limb (S' := (ab_tsw 15 119 0 8 #[49, 58, 71, 81, 98, 107, 107, 107, 107] v2, [(0, .ref 0), (1, .int v1), (2, .int v2)], [], hp I430 F431)) rfl ⟨trivial, trivial⟩ ?_
                      refine OK_pc (pc' := 134) (if_pos (by
                        have qh433 := lv_neT h433 (show (0 : Int32).toInt = 0 from rfl)
                        have qh438 := lv_neT h438 (show (1 : Int32).toInt = 1 from rfl)
                        have qh468 := lv_neT h468 (show (2 : Int32).toInt = 2 from rfl)
                        have qh470 := lv_neT h470 (show (3 : Int32).toInt = 3 from rfl)
                        have qh475 := lv_neT h475 (show (4 : Int32).toInt = 4 from rfl)
                        have qh480 := lv_neT h480 (show (5 : Int32).toInt = 5 from rfl)
                        have qh485 := lv_neT h485 (show (6 : Int32).toInt = 6 from rfl)
                        have qh489 := lv_neT h489 (show (7 : Int32).toInt = 7 from rfl)
                        have qh493 := lv_neT h493 (show (8 : Int32).toInt = 8 from rfl)
                        omega)) ?_
                      refine OK_st 1 okX9_limb (S' := (136, [(0, .ref 0), (1, .int v1), (2, .int v2)], [.int (-1000000002 : Int32)], hp I430 F431)) rfl ⟨trivial, trivial⟩ ?_
                      exact OK_ri okX9_limb rfl rfl (Or.inl rfl)
  · refine OK_st 1 okX9_limb (S' := (13, [(0, .ref 0), (1, .int v1), (2, .int v2)], [.int (-1000000001 : Int32)], hp I430 F431)) rfl ⟨trivial, trivial⟩ ?_
    exact OK_ri okX9_limb rfl rfl (Or.inl rfl)

def f_X5_hasContract (v1 : Int32) (I : AI) (F : AF) : AQ :=
  if v1 < 0 then
    some ((0 : Int32), I, F)
  else
    if (I 10) ≤ v1 then
      some ((0 : Int32), I, F)
    else
      some ((1 : Int32), I, F)
set_option maxRecDepth 20000 in
set_option maxHeartbeats 4000000 in
theorem kf_X5_hasContract (v1 : Int32) (I : AI) (F : AF) : OK 0 mX5_hasContract true (f_X5_hasContract v1 I F) (0, [(0, .ref 16), (1, .int v1)], [], hp I F) := by
  rw [f_X5_hasContract]
  refine OK_st 2 okX5_hasContract (S' := ((if v1 < 0 then 16 else 4), [(0, .ref 16), (1, .int v1)], [], hp I F)) rfl ⟨trivial, trivial, trivial⟩ ?_
  refine OK_if (fun h497 => ?_) (fun h497 => ?_)
  · refine OK_st 1 okX5_hasContract (S' := (17, [(0, .ref 16), (1, .int v1)], [.int (0 : Int32)], hp I F)) rfl ⟨trivial, trivial⟩ ?_
    exact OK_ri okX5_hasContract rfl rfl (Or.inr ⟨rfl, Or.inl rfl⟩)
  · refine OK_st 4 okX5_hasContract (S' := ((if (I 10) ≤ v1 then 16 else 12), [(0, .ref 16), (1, .int v1)], [], hp I F)) rfl ⟨trivial, trivial, trivial, trivial, trivial⟩ ?_
    refine OK_if (fun h498 => ?_) (fun h498 => ?_)
    · refine OK_st 1 okX5_hasContract (S' := (17, [(0, .ref 16), (1, .int v1)], [.int (0 : Int32)], hp I F)) rfl ⟨trivial, trivial⟩ ?_
      exact OK_ri okX5_hasContract rfl rfl (Or.inr ⟨rfl, Or.inl rfl⟩)
    · refine OK_st 2 okX5_hasContract (S' := (17, [(0, .ref 16), (1, .int v1)], [.int (1 : Int32)], hp I F)) rfl ⟨trivial, trivial, trivial⟩ ?_
      exact OK_ri okX5_hasContract rfl rfl (Or.inr ⟨rfl, Or.inr rfl⟩)
