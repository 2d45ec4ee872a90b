/-! methods as functions (by program) -/
def f_X10_takeRead_74 (ko : Int32 → AI → AF → AQ) : Nat → Int32 → AI → AF → AQ
  | 0, _, _, _ => none
  | n + 1, v1, I, F =>
    if (nI 6) ≤ v1 then
      ko v1 I F
    else
      if (I 22) ≤ v1 then
        bif ab_vin v1 6 then
          bif ab_vin ((nI 12) + v1) 22 then
            ab_lt (va_up (va_up F 39 (upd (F 39) v1.toNatClampNeg (-1 : Int32))) 47 (upd (F 47) ((nI 12) + v1).toNatClampNeg (-1 : Int32))) (fun F1510 =>
              f_X10_takeRead_74 ko n (v1 + (1 : Int32)) I F1510)
          else none
        else none
      else
        bif ab_vin v1 6 then
          bif ab_vin v1 6 then
            bif ab_vin ((nI 12) + v1) 22 then
              ab_lt (va_up (va_up F 39 (upd (F 39) v1.toNatClampNeg ((F 51) v1.toNatClampNeg))) 47 (upd (F 47) ((nI 12) + v1).toNatClampNeg (-1 : Int32))) (fun F1514 =>
                f_X10_takeRead_74 ko n (v1 + (1 : Int32)) I F1514)
            else none
          else none
        else none
set_option maxRecDepth 20000 in
set_option maxHeartbeats 4000000 in
theorem kf_X10_takeRead_74 (ko : Int32 → AI → AF → AQ) (hko : ∀ v1 I F, OK 0 mX10_takeRead false (ko v1 I F) (120, [(0, .ref 49), (1, .int v1)], [], hp I F)) : ∀ n v1 I F, OK 0 mX10_takeRead false (f_X10_takeRead_74 ko n v1 I F) (74, [(0, .ref 49), (1, .int v1)], [], hp I F) := by
  intro n
  induction n with
  | zero =>
    intro v1 I F
    exact OK_no
  | succ n ih =>
    intro v1 I F
    rw [f_X10_takeRead_74]
    refine OK_st 3 okX10_takeRead (S' := ((if (nI 6) ≤ v1 then 120 else 80), [(0, .ref 49), (1, .int v1)], [], hp I F)) rfl ⟨trivial, trivial, trivial, trivial⟩ ?_
    refine OK_if (fun h1506 => ?_) (fun h1506 => ?_)
    · exact hko v1 I F
    · refine OK_st 7 okX10_takeRead (S' := ((if (I 22) ≤ v1 then 102 else 93), [(0, .ref 49), (1, .int v1)], [.int v1, .ref 51], hp I F)) rfl ⟨trivial, trivial, trivial, trivial, trivial, trivial, trivial, trivial⟩ ?_
      refine OK_if (fun h1507 => ?_) (fun h1507 => ?_)
      · refine OK_gd (fun g1508 => ?_)
        refine OK_gd (fun g1509 => ?_)
        refine OK_st 11 okX10_takeRead (S' := (74, [(1, .int (v1 + (1 : Int32))), (0, .ref 49)], [], hp I (va_up (va_up F 39 (upd (F 39) v1.toNatClampNeg (-1 : Int32))) 47 (upd (F 47) ((nI 12) + v1).toNatClampNeg (-1 : Int32))))) rfl ⟨trivial, (ab_vo g1508), trivial, trivial, trivial, trivial, trivial, trivial, (ab_vo g1509), (by decide), trivial, trivial⟩ ?_
        refine OK_lt (fun F1510 => (74, [(1, .int (v1 + (1 : Int32))), (0, .ref 49)], [], hp I F1510)) (fun F1510 => ?_)
        refine OK_pk [1, 0] rfl ?_
        exact ih (v1 + (1 : Int32)) I F1510
      · refine OK_gd (fun g1511 => ?_)
        refine OK_gd (fun g1512 => ?_)
        refine OK_gd (fun g1513 => ?_)
        refine OK_st 15 okX10_takeRead (S' := (74, [(1, .int (v1 + (1 : Int32))), (0, .ref 49)], [], hp I (va_up (va_up F 39 (upd (F 39) v1.toNatClampNeg ((F 51) v1.toNatClampNeg))) 47 (upd (F 47) ((nI 12) + v1).toNatClampNeg (-1 : Int32))))) rfl ⟨trivial, trivial, trivial, (ab_vo g1511), trivial, (ab_vo g1512), trivial, trivial, trivial, trivial, trivial, trivial, (ab_vo g1513), (by decide), trivial, trivial⟩ ?_
        refine OK_lt (fun F1514 => (74, [(1, .int (v1 + (1 : Int32))), (0, .ref 49)], [], hp I F1514)) (fun F1514 => ?_)
        refine OK_pk [1, 0] rfl ?_
        exact ih (v1 + (1 : Int32)) I F1514

def f_X10_takeRead_122 (ko : Int32 → AI → AF → AQ) : Nat → Int32 → AI → AF → AQ
  | 0, _, _, _ => none
  | n + 1, v1, I, F =>
    if ((nI 4) * (I 22)) ≤ v1 then
      ko v1 I F
    else
      bif ab_vin v1 24 then
        bif ab_vin v1 24 then
          ab_lt (va_up F 38 (upd (F 38) v1.toNatClampNeg (((F 50) v1.toNatClampNeg) - (nI 9)))) (fun F1521 =>
            f_X10_takeRead_122 ko n (v1 + (1 : Int32)) I F1521)
        else none
      else none
set_option maxRecDepth 20000 in
set_option maxHeartbeats 4000000 in
theorem kf_X10_takeRead_122 (ko : Int32 → AI → AF → AQ) (hko : ∀ v1 I F, OK 0 mX10_takeRead false (ko v1 I F) (153, [(0, .ref 49), (1, .int v1)], [], hp I F)) : ∀ n v1 I F, OK 0 mX10_takeRead false (f_X10_takeRead_122 ko n v1 I F) (122, [(0, .ref 49), (1, .int v1)], [], hp I F) := by
  intro n
  induction n with
  | zero =>
    intro v1 I F
    exact OK_no
  | succ n ih =>
    intro v1 I F
    rw [f_X10_takeRead_122]
    refine OK_st 6 okX10_takeRead (S' := ((if ((nI 4) * (I 22)) ≤ v1 then 153 else 132), [(0, .ref 49), (1, .int v1)], [], hp I F)) rfl ⟨trivial, trivial, trivial, trivial, trivial, trivial, trivial⟩ ?_
    refine OK_if (fun h1518 => ?_) (fun h1518 => ?_)
    · exact hko v1 I F
    · refine OK_gd (fun g1519 => ?_)
      refine OK_gd (fun g1520 => ?_)
      refine OK_st 12 okX10_takeRead (S' := (122, [(1, .int (v1 + (1 : Int32))), (0, .ref 49)], [], hp I (va_up F 38 (upd (F 38) v1.toNatClampNeg (((F 50) v1.toNatClampNeg) - (nI 9)))))) rfl ⟨trivial, trivial, trivial, trivial, trivial, trivial, (ab_vo g1519), trivial, trivial, (ab_vo g1520), (by decide), trivial, trivial⟩ ?_
      refine OK_lt (fun F1521 => (122, [(1, .int (v1 + (1 : Int32))), (0, .ref 49)], [], hp I F1521)) (fun F1521 => ?_)
      refine OK_pk [1, 0] rfl ?_
      exact ih (v1 + (1 : Int32)) I F1521

def f_X10_takeRead_194 (ko : Int32 → AI → AF → AQ) : Nat → Int32 → AI → AF → AQ
  | 0, _, _, _ => none
  | n + 1, v1, I, F =>
    if (I 23) ≤ v1 then
      ko v1 I F
    else
      bif ab_vin v1 6 then
        bif ab_vin v1 6 then
          bif ab_vin v1 6 then
            bif ab_vin v1 6 then
              bif ab_vin v1 6 then
                bif ab_vin v1 6 then
                  ab_lt (va_up (va_up (va_up F 40 (upd (F 40) v1.toNatClampNeg ((F 52) v1.toNatClampNeg))) 41 (upd (F 41) v1.toNatClampNeg ((F 53) v1.toNatClampNeg))) 42 (upd (F 42) v1.toNatClampNeg ((F 54) v1.toNatClampNeg))) (fun F1534 =>
                    f_X10_takeRead_194 ko n (v1 + (1 : Int32)) I F1534)
                else none
              else none
            else none
          else none
        else none
      else none
set_option maxRecDepth 20000 in
set_option maxHeartbeats 4000000 in
theorem kf_X10_takeRead_194 (ko : Int32 → AI → AF → AQ) (hko : ∀ v1 I F, OK 0 mX10_takeRead false (ko v1 I F) (244, [(0, .ref 49), (1, .int v1)], [], hp I F)) : ∀ n v1 I F, OK 0 mX10_takeRead false (f_X10_takeRead_194 ko n v1 I F) (194, [(0, .ref 49), (1, .int v1)], [], hp I F) := by
  intro n
  induction n with
  | zero =>
    intro v1 I F
    exact OK_no
  | succ n ih =>
    intro v1 I F
    rw [f_X10_takeRead_194]
    refine OK_st 4 okX10_takeRead (S' := ((if (I 23) ≤ v1 then 244 else 202), [(0, .ref 49), (1, .int v1)], [], hp I F)) rfl ⟨trivial, trivial, trivial, trivial, trivial⟩ ?_
    refine OK_if (fun h1527 => ?_) (fun h1527 => ?_)
    · exact hko v1 I F
    · refine OK_gd (fun g1528 => ?_)
      refine OK_gd (fun g1529 => ?_)
      refine OK_gd (fun g1530 => ?_)
      refine OK_gd (fun g1531 => ?_)
      refine OK_gd (fun g1532 => ?_)
      refine OK_gd (fun g1533 => ?_)
      refine OK_st 24 okX10_takeRead (S' := (238, [(0, .ref 49), (1, .int v1)], [], hp I (va_up (va_up (va_up F 40 (upd (F 40) v1.toNatClampNeg ((F 52) v1.toNatClampNeg))) 41 (upd (F 41) v1.toNatClampNeg ((F 53) v1.toNatClampNeg))) 42 (upd (F 42) v1.toNatClampNeg ((F 54) v1.toNatClampNeg))))) rfl ⟨trivial, trivial, trivial, trivial, trivial, trivial, (ab_vo g1528), (ab_vo g1529), trivial, trivial, trivial, trivial, trivial, trivial, (ab_vo g1530), (ab_vo g1531), trivial, trivial, trivial, trivial, trivial, trivial, (ab_vo g1532), (ab_vo g1533), trivial⟩ ?_
      refine OK_lt (fun F1534 => (238, [(0, .ref 49), (1, .int v1)], [], hp I F1534)) (fun F1534 => ?_)
      refine OK_st 2 okX10_takeRead (S' := (194, [(1, .int (v1 + (1 : Int32))), (0, .ref 49)], [], hp I F1534)) rfl ⟨(by decide), trivial, trivial⟩ ?_
      refine OK_pk [1, 0] rfl ?_
      exact ih (v1 + (1 : Int32)) I F1534

def f_X10_takeRead_246 (ko : Int32 → AI → AF → AQ) : Nat → Int32 → AI → AF → AQ
  | 0, _, _, _ => none
  | n + 1, v1, I, F =>
    if (I 24) ≤ v1 then
      ko v1 I F
    else
      bif ab_vin v1 8 then
        bif ab_vin v1 8 then
          bif ab_vin v1 8 then
            bif ab_vin v1 8 then
              bif ab_vin v1 8 then
                bif ab_vin v1 8 then
                  ab_lt (va_up (va_up (va_up F 43 (upd (F 43) v1.toNatClampNeg ((F 55) v1.toNatClampNeg))) 44 (upd (F 44) v1.toNatClampNeg ((F 56) v1.toNatClampNeg))) 45 (upd (F 45) v1.toNatClampNeg ((F 57) v1.toNatClampNeg))) (fun F1545 =>
                    bif ab_vin v1 8 then
                      bif ab_vin v1 8 then
                        ab_lt (va_up F1545 46 (upd (F1545 46) v1.toNatClampNeg ((F1545 58) v1.toNatClampNeg))) (fun F1548 =>
                          f_X10_takeRead_246 ko n (v1 + (1 : Int32)) I F1548)
                      else none
                    else none)
                else none
              else none
            else none
          else none
        else none
      else none
set_option maxRecDepth 20000 in
set_option maxHeartbeats 4000000 in
theorem kf_X10_takeRead_246 (ko : Int32 → AI → AF → AQ) (hko : ∀ v1 I F, OK 0 mX10_takeRead false (ko v1 I F) (308, [(0, .ref 49), (1, .int v1)], [], hp I F)) : ∀ n v1 I F, OK 0 mX10_takeRead false (f_X10_takeRead_246 ko n v1 I F) (246, [(0, .ref 49), (1, .int v1)], [], hp I F) := by
  intro n
  induction n with
  | zero =>
    intro v1 I F
    exact OK_no
  | succ n ih =>
    intro v1 I F
    rw [f_X10_takeRead_246]
    refine OK_st 4 okX10_takeRead (S' := ((if (I 24) ≤ v1 then 308 else 254), [(0, .ref 49), (1, .int v1)], [], hp I F)) rfl ⟨trivial, trivial, trivial, trivial, trivial⟩ ?_
    refine OK_if (fun h1538 => ?_) (fun h1538 => ?_)
    · exact hko v1 I F
    · refine OK_gd (fun g1539 => ?_)
      refine OK_gd (fun g1540 => ?_)
      refine OK_gd (fun g1541 => ?_)
      refine OK_gd (fun g1542 => ?_)
      refine OK_gd (fun g1543 => ?_)
      refine OK_gd (fun g1544 => ?_)
      refine OK_st 24 okX10_takeRead (S' := (290, [(0, .ref 49), (1, .int v1)], [], hp I (va_up (va_up (va_up F 43 (upd (F 43) v1.toNatClampNeg ((F 55) v1.toNatClampNeg))) 44 (upd (F 44) v1.toNatClampNeg ((F 56) v1.toNatClampNeg))) 45 (upd (F 45) v1.toNatClampNeg ((F 57) v1.toNatClampNeg))))) rfl ⟨trivial, trivial, trivial, trivial, trivial, trivial, (ab_vo g1539), (ab_vo g1540), trivial, trivial, trivial, trivial, trivial, trivial, (ab_vo g1541), (ab_vo g1542), trivial, trivial, trivial, trivial, trivial, trivial, (ab_vo g1543), (ab_vo g1544), trivial⟩ ?_
      refine OK_lt (fun F1545 => (290, [(0, .ref 49), (1, .int v1)], [], hp I F1545)) (fun F1545 => ?_)
      refine OK_gd (fun g1546 => ?_)
      refine OK_gd (fun g1547 => ?_)
      refine OK_st 10 okX10_takeRead (S' := (246, [(1, .int (v1 + (1 : Int32))), (0, .ref 49)], [], hp I (va_up F1545 46 (upd (F1545 46) v1.toNatClampNeg ((F1545 58) v1.toNatClampNeg))))) rfl ⟨trivial, trivial, trivial, trivial, trivial, trivial, (ab_vo g1546), (ab_vo g1547), (by decide), trivial, trivial⟩ ?_
      refine OK_lt (fun F1548 => (246, [(1, .int (v1 + (1 : Int32))), (0, .ref 49)], [], hp I F1548)) (fun F1548 => ?_)
      refine OK_pk [1, 0] rfl ?_
      exact ih (v1 + (1 : Int32)) I F1548

def f_X10_takeRead (I : AI) (F : AF) : AQ :=
  ab_lt (va_up (va_up (va_up I 22 (I 31)) 23 (I 32)) 24 (I 33)) (fun I1492 =>
    f_X10_takeRead_26 (fun v1_1503 I1504 F1505 =>
      f_X10_takeRead_74 (fun v1_1515 I1516 F1517 =>
        f_X10_takeRead_122 (fun v1_1522 I1523 F1524 =>
          ab_lt (va_up F1524 47 (upd (upd (upd (F1524 47) 18 (((1 : Int32) <<< ((I1523 22) &&& 31)) - (1 : Int32))) 19 (0 : Int32)) 20 (0 : Int32))) (fun F1525 =>
            ab_lt (va_up F1525 47 (upd (F1525 47) 21 (0 : Int32))) (fun F1526 =>
              f_X10_takeRead_194 (fun v1_1535 I1536 F1537 =>
                f_X10_takeRead_246 (fun v1_1549 I1550 F1551 =>
                  some (0, I1550, F1551)) ab_fu (0 : Int32) I1536 F1537) ab_fu (0 : Int32) I1523 F1526))) ab_fu (0 : Int32) I1516 F1517) ab_fu (0 : Int32) I1504 F1505) ab_fu (0 : Int32) I1492 F)
set_option maxRecDepth 20000 in
set_option maxHeartbeats 4000000 in
theorem kf_X10_takeRead (I : AI) (F : AF) : OK 0 mX10_takeRead false (f_X10_takeRead I F) (0, [(0, .ref 49)], [], hp I F) := by
  rw [f_X10_takeRead]
  refine OK_st 12 okX10_takeRead (S' := (24, [(0, .ref 49)], [], hp (va_up (va_up (va_up I 22 (I 31)) 23 (I 32)) 24 (I 33)) F)) rfl ⟨trivial, trivial, trivial, trivial, trivial, trivial, trivial, trivial, trivial, trivial, trivial, trivial, trivial⟩ ?_
  refine OK_lt (fun I1492 => (24, [(0, .ref 49)], [], hp I1492 F)) (fun I1492 => ?_)
  refine OK_st 2 okX10_takeRead (S' := (26, [(1, .int (0 : Int32)), (0, .ref 49)], [], hp I1492 F)) rfl ⟨trivial, (by decide), trivial⟩ ?_
  refine OK_pk [1, 0] rfl ?_
  refine kf_X10_takeRead_26 _ (fun v1_1503 I1504 F1505 => ?_) ab_fu (0 : Int32) I1492 F
  refine OK_st 2 okX10_takeRead (S' := (74, [(1, .int (0 : Int32)), (0, .ref 49)], [], hp I1504 F1505)) rfl ⟨trivial, (by decide), trivial⟩ ?_
  refine OK_pk [1, 0] rfl ?_
  refine kf_X10_takeRead_74 _ (fun v1_1515 I1516 F1517 => ?_) ab_fu (0 : Int32) I1504 F1505
  refine OK_st 2 okX10_takeRead (S' := (122, [(1, .int (0 : Int32)), (0, .ref 49)], [], hp I1516 F1517)) rfl ⟨trivial, (by decide), trivial⟩ ?_
  refine OK_pk [1, 0] rfl ?_
  refine kf_X10_takeRead_122 _ (fun v1_1522 I1523 F1524 => ?_) ab_fu (0 : Int32) I1516 F1517
  refine OK_st 20 okX10_takeRead (S' := (184, [(0, .ref 49), (1, .int v1_1522)], [], hp I1523 (va_up F1524 47 (upd (upd (upd (F1524 47) 18 (((1 : Int32) <<< ((I1523 22) &&& 31)) - (1 : Int32))) 19 (0 : Int32)) 20 (0 : Int32))))) rfl ⟨trivial, trivial, trivial, trivial, trivial, trivial, trivial, trivial, trivial, (ab_vo (by decide)), trivial, trivial, trivial, trivial, (ab_vo (by decide)), trivial, trivial, trivial, trivial, (ab_vo (by decide)), trivial⟩ ?_
  refine OK_lt (fun F1525 => (184, [(0, .ref 49), (1, .int v1_1522)], [], hp I1523 F1525)) (fun F1525 => ?_)
  refine OK_st 7 okX10_takeRead (S' := (194, [(1, .int (0 : Int32)), (0, .ref 49)], [], hp I1523 (va_up F1525 47 (upd (F1525 47) 21 (0 : Int32))))) rfl ⟨trivial, trivial, trivial, trivial, (ab_vo (by decide)), trivial, (by decide), trivial⟩ ?_
  refine OK_lt (fun F1526 => (194, [(1, .int (0 : Int32)), (0, .ref 49)], [], hp I1523 F1526)) (fun F1526 => ?_)
  refine OK_pk [1, 0] rfl ?_
  refine kf_X10_takeRead_194 _ (fun v1_1535 I1536 F1537 => ?_) ab_fu (0 : Int32) I1523 F1526
  refine OK_st 2 okX10_takeRead (S' := (246, [(1, .int (0 : Int32)), (0, .ref 49)], [], hp I1536 F1537)) rfl ⟨trivial, (by decide), trivial⟩ ?_
  refine OK_pk [1, 0] rfl ?_
  refine kf_X10_takeRead_246 _ (fun v1_1549 I1550 F1551 => ?_) ab_fu (0 : Int32) I1536 F1537
  exact OK_rv okX10_takeRead rfl rfl rfl

def f_X10_port_j46 (v1 : Int32) (I : AI) (F : AF) : AQ :=
  ab_lt (va_up I 26 (0 : Int32)) (fun I1490 =>
    if v1 ≤ 0 then
      ab_bd (f_X10_takeRead I1490 F) (fun r1552 I1553 F1554 =>
        ab_lt (va_up (va_up (va_up I1553 37 (0 : Int32)) 38 (0 : Int32)) 34 (0 : Int32)) (fun I1555 =>
          some ((I1555 22), I1555, (va_up F1554 65 (upd (upd (F1554 65) 0 (0 : Int32)) 1 (0 : Int32))))))
    else
      some (((-10 : Int32) - v1), I1490, F))
set_option maxRecDepth 20000 in
set_option maxHeartbeats 4000000 in
theorem kf_X10_port_j46 (v1 : Int32) (I : AI) (F : AF) : OK 5 mX10_port true (f_X10_port_j46 v1 I F) (46, [(0, .ref 49), (1, .int v1)], [], hp I F) := by
  rw [f_X10_port_j46]
  refine OK_st 5 okX10_port (S' := ((if v1 ≤ 0 then 60 else 55), [(0, .ref 49), (1, .int v1)], [], hp (va_up I 26 (0 : Int32)) F)) rfl ⟨trivial, trivial, trivial, trivial, trivial, trivial⟩ ?_
  refine OK_lt (fun I1490 => ((if v1 ≤ 0 then 60 else 55), [(0, .ref 49), (1, .int v1)], [], hp I1490 F)) (fun I1490 => ?_)
  refine OK_if (fun h1491 => ?_) (fun h1491 => ?_)
  · refine OK_st 1 okX10_port (S' := (61, [(0, .ref 49), (1, .int v1)], [.ref 49], hp I1490 F)) rfl ⟨trivial, trivial⟩ ?_
    refine OK_cv [] [] okX10_port okX10_takeRead rfl rfl cl_RX10_175 rfl rfl (Nat.le_of_ble_eq_true rfl) (by decide) (Nat.le_of_ble_eq_true rfl) (kf_X10_takeRead I1490 F) (fun r1552 I1553 F1554 => ?_)
    refine OK_st 9 okX10_port (S' := (79, [(0, .ref 49), (1, .int v1)], [], hp (va_up (va_up (va_up I1553 37 (0 : Int32)) 38 (0 : Int32)) 34 (0 : Int32)) F1554)) rfl ⟨trivial, trivial, trivial, trivial, trivial, trivial, trivial, trivial, trivial, trivial⟩ ?_
    refine OK_lt (fun I1555 => (79, [(0, .ref 49), (1, .int v1)], [], hp I1555 F1554)) (fun I1555 => ?_)
    refine OK_st 12 okX10_port (S' := (97, [(0, .ref 49), (1, .int v1)], [.int (I1555 22)], hp I1555 (va_up F1554 65 (upd (upd (F1554 65) 0 (0 : Int32)) 1 (0 : Int32))))) rfl ⟨trivial, trivial, trivial, trivial, ⟨(ab_vo (by decide)), Or.inl rfl⟩, trivial, trivial, trivial, trivial, ⟨(ab_vo (by decide)), Or.inl rfl⟩, trivial, trivial, trivial⟩ ?_
    exact OK_ri okX10_port rfl rfl (Or.inl rfl)
  · refine OK_st 3 okX10_port (S' := (59, [(0, .ref 49), (1, .int v1)], [.int ((-10 : Int32) - v1)], hp I1490 F)) rfl ⟨trivial, trivial, trivial, trivial⟩ ?_
    exact OK_ri okX10_port rfl rfl (Or.inl rfl)

def f_X10_port (I : AI) (F : AF) : AQ :=
  ab_lt (va_up (va_up (va_up I 27 (-1 : Int32)) 28 (0 : Int32)) 31 (0 : Int32)) (fun I1269 =>
    ab_lt (va_up (va_up I1269 32 (0 : Int32)) 33 (0 : Int32)) (fun I1270 =>
      f_X10_port_27 (fun v1_1487 I1488 F1489 =>
        f_X10_port_j46 v1_1487 I1488 F1489) ab_fu (0 : Int32) I1270 F))
set_option maxRecDepth 20000 in
set_option maxHeartbeats 4000000 in
theorem kf_X10_port (I : AI) (F : AF) : OK 5 mX10_port true (f_X10_port I F) (0, [(0, .ref 49)], [], hp I F) := by
  rw [f_X10_port]
  refine OK_st 9 okX10_port (S' := (15, [(0, .ref 49)], [], hp (va_up (va_up (va_up I 27 (-1 : Int32)) 28 (0 : Int32)) 31 (0 : Int32)) F)) rfl ⟨trivial, trivial, trivial, trivial, trivial, trivial, trivial, trivial, trivial, trivial⟩ ?_
  refine OK_lt (fun I1269 => (15, [(0, .ref 49)], [], hp I1269 F)) (fun I1269 => ?_)
  refine OK_st 8 okX10_port (S' := (27, [(1, .int (0 : Int32)), (0, .ref 49)], [], hp (va_up (va_up I1269 32 (0 : Int32)) 33 (0 : Int32)) F)) rfl ⟨trivial, trivial, trivial, trivial, trivial, trivial, trivial, (by decide), trivial⟩ ?_
  refine OK_lt (fun I1270 => (27, [(1, .int (0 : Int32)), (0, .ref 49)], [], hp I1270 F)) (fun I1270 => ?_)
  refine OK_pk [1, 0] rfl ?_
  refine kf_X10_port_27 _ (fun v1_1487 I1488 F1489 => ?_) ab_fu (0 : Int32) I1270 F
  exact kf_X10_port_j46 v1_1487 I1488 F1489

def f_X10_fault (I : AI) (F : AF) : AQ :=
  some ((I 27), I, F)
set_option maxRecDepth 20000 in
set_option maxHeartbeats 4000000 in
theorem kf_X10_fault (I : AI) (F : AF) : OK 0 mX10_fault true (f_X10_fault I F) (0, [(0, .ref 49)], [], hp I F) := by
  rw [f_X10_fault]
  refine OK_st 2 okX10_fault (S' := (4, [(0, .ref 49)], [.int (I 27)], hp I F)) rfl ⟨trivial, trivial, trivial⟩ ?_
  exact OK_ri okX10_fault rfl rfl (Or.inl rfl)

def f_X10_copied_4 (ko : Int32 → Int32 → AI → AF → AQ) : Nat → Int32 → Int32 → AI → AF → AQ
  | 0, _, _, _, _ => none
  | n + 1, v1, v2, I, F =>
    if (I 22) ≤ v2 then
      ko v1 v2 I F
    else
      bif ab_vin ((nI 6) + v2) 22 then
        if ((F 47) ((nI 6) + v2).toNatClampNeg) < 0 then
          f_X10_copied_4 ko n (v1 ||| (0 : Int32)) (v2 + (1 : Int32)) I F
        else
          ab_lt (v1 ||| ((1 : Int32) <<< (v2 &&& 31))) (fun x1566 =>
            f_X10_copied_4 ko n x1566 (v2 + (1 : Int32)) I F)
      else none
set_option maxRecDepth 20000 in
set_option maxHeartbeats 4000000 in
theorem kf_X10_copied_4 (ko : Int32 → Int32 → AI → AF → AQ) (hko : ∀ v1 v2 I F, OK 0 mX10_copied true (ko v1 v2 I F) (40, [(0, .ref 49), (1, .int v1), (2, .int v2)], [], hp I F)) : ∀ n v1 v2 I F, OK 0 mX10_copied true (f_X10_copied_4 ko n v1 v2 I F) (4, [(0, .ref 49), (1, .int v1), (2, .int v2)], [], hp I F) := by
  intro n
  induction n with
  | zero =>
    intro v1 v2 I F
    exact OK_no
  | succ n ih =>
    intro v1 v2 I F
    rw [f_X10_copied_4]
    refine OK_st 4 okX10_copied (S' := ((if (I 22) ≤ v2 then 40 else 12), [(0, .ref 49), (1, .int v1), (2, .int v2)], [], hp I F)) rfl ⟨trivial, trivial, trivial, trivial, trivial⟩ ?_
    refine OK_if (fun h1563 => ?_) (fun h1563 => ?_)
    · exact hko v1 v2 I F
    · refine OK_gd (fun g1564 => ?_)
      refine OK_st 8 okX10_copied (S' := ((if ((F 47) ((nI 6) + v2).toNatClampNeg) < 0 then 31 else 25), [(0, .ref 49), (1, .int v1), (2, .int v2)], [.int v1], hp I F)) rfl ⟨trivial, trivial, trivial, trivial, trivial, trivial, (ab_vo g1564), trivial, trivial⟩ ?_
      refine OK_if (fun h1565 => ?_) (fun h1565 => ?_)
      · refine OK_st 5 okX10_copied (S' := (4, [(2, .int (v2 + (1 : Int32))), (1, .int (v1 ||| (0 : Int32))), (0, .ref 49)], [], hp I F)) rfl ⟨trivial, trivial, (by decide), (by decide), trivial, trivial⟩ ?_
        refine OK_pk [2, 1, 0] rfl ?_
        exact ih (v1 ||| (0 : Int32)) (v2 + (1 : Int32)) I F
      · refine OK_st 6 okX10_copied (S' := (34, [(1, .int (v1 ||| ((1 : Int32) <<< (v2 &&& 31)))), (0, .ref 49), (2, .int v2)], [], hp I F)) rfl ⟨trivial, trivial, trivial, trivial, trivial, (by decide), trivial⟩ ?_
        refine OK_lt (fun x1566 => (34, [(1, .int x1566), (0, .ref 49), (2, .int v2)], [], hp I F)) (fun x1566 => ?_)
        refine OK_st 2 okX10_copied (S' := (4, [(2, .int (v2 + (1 : Int32))), (1, .int x1566), (0, .ref 49)], [], hp I F)) rfl ⟨(by decide), trivial, trivial⟩ ?_
        refine OK_pk [2, 1, 0] rfl ?_
        exact ih x1566 (v2 + (1 : Int32)) I F

def f_X10_copied (I : AI) (F : AF) : AQ :=
  f_X10_copied_4 (fun v1_1567 v2_1568 I1569 F1570 =>
    some (v1_1567, I1569, F1570)) ab_fu (0 : Int32) (0 : Int32) I F
set_option maxRecDepth 20000 in
set_option maxHeartbeats 4000000 in
theorem kf_X10_copied (I : AI) (F : AF) : OK 0 mX10_copied true (f_X10_copied I F) (0, [(0, .ref 49)], [], hp I F) := by
  rw [f_X10_copied]
  refine OK_st 4 okX10_copied (S' := (4, [(2, .int (0 : Int32)), (1, .int (0 : Int32)), (0, .ref 49)], [], hp I F)) rfl ⟨trivial, (by decide), trivial, (by decide), trivial⟩ ?_
  refine OK_pk [2, 1, 0] rfl ?_
  refine kf_X10_copied_4 _ (fun v1_1567 v2_1568 I1569 F1570 => ?_) ab_fu (0 : Int32) (0 : Int32) I F
  refine OK_st 1 okX10_copied (S' := (41, [(0, .ref 49), (1, .int v1_1567), (2, .int v2_1568)], [.int v1_1567], hp I1569 F1570)) rfl ⟨trivial, trivial⟩ ?_
  exact OK_ri okX10_copied rfl rfl (Or.inl rfl)

def f_X10_told (v1 : Int32) (I : AI) (F : AF) : AQ :=
  if v1 = (0 : Int32) then
    some ((I 22), I, F)
  else if v1 = (1 : Int32) then
    some ((I 23), I, F)
  else if v1 = (nI 2) then
    some ((I 24), I, F)
  else if v1 = (nI 3) then
    some ((I 26), I, F)
  else if v1 = (nI 4) then
    some (((F 47) 19), I, F)
  else if v1 = (nI 5) then
    some (((F 47) 18), I, F)
  else if v1 = (nI 6) then
    ab_bd (f_X10_copied I F) (fun r1571 I1572 F1573 =>
      some (r1571, I1572, F1573))
  else if v1 = (nI 7) then
    some (((F 47) 20), I, F)
  else if v1 = (nI 8) then
    some (((F 47) 21), I, F)
  else if v1 = (nI 9) then
    some ((I 37), I, F)
  else if v1 = (nI 10) then
    some ((I 38), I, F)
  else if v1 = (nI 11) then
    some ((I 34), I, F)
  else 
    some ((-1000000002 : Int32), I, F)
set_option maxRecDepth 20000 in
set_option maxHeartbeats 4000000 in
theorem kf_X10_told (v1 : Int32) (I : AI) (F : AF) : OK 1 mX10_told true (f_X10_told v1 I F) (0, [(0, .ref 49), (1, .int v1)], [], hp I F) := by
  rw [f_X10_told]
  refine OK_st 1 okX10_told (S' := (1, [(0, .ref 49), (1, .int v1)], [.int v1], hp I F)) rfl ⟨trivial, trivial⟩ ?_
  refine OK_ci (fun h1556 => ?_) (fun h1556 => ?_)
  · subst h1556
    refine OK_st 1 okX10_told (S' := (64, [(0, .ref 49), (1, .int (0 : Int32))], [], hp I F)) rfl ⟨trivial, trivial⟩ ?_
    refine OK_st 2 okX10_told (S' := (68, [(0, .ref 49), (1, .int (0 : Int32))], [.int (I 22)], hp I F)) rfl ⟨trivial, trivial, trivial⟩ ?_
    exact OK_ri okX10_told rfl rfl (Or.inl rfl)
  · skip
    refine OK_ci (fun h1557 => ?_) (fun h1557 => ?_)
    · subst h1557
      refine OK_st 1 okX10_told (S' := (69, [(0, .ref 49), (1, .int (1 : Int32))], [], hp I F)) rfl ⟨trivial, trivial⟩ ?_
      refine OK_st 2 okX10_told (S' := (73, [(0, .ref 49), (1, .int (1 : Int32))], [.int (I 23)], hp I F)) rfl ⟨trivial, trivial, trivial⟩ ?_
      exact OK_ri okX10_told rfl rfl (Or.inl rfl)
    · skip
      refine OK_ci (fun h1558 => ?_) (fun h1558 => ?_)
      · subst h1558
        refine OK_st 1 okX10_told (S' := (74, [(0, .ref 49), (1, .int (nI 2))], [], hp I F)) rfl ⟨trivial, trivial⟩ ?_
        refine OK_st 2 okX10_told (S' := (78, [(0, .ref 49), (1, .int (nI 2))], [.int (I 24)], hp I F)) rfl ⟨trivial, trivial, trivial⟩ ?_
        exact OK_ri okX10_told rfl rfl (Or.inl rfl)
      · skip
        refine OK_ci (fun h1559 => ?_) (fun h1559 => ?_)
        · subst h1559
          refine OK_st 1 okX10_told (S' := (79, [(0, .ref 49), (1, .int (nI 3))], [], hp I F)) rfl ⟨trivial, trivial⟩ ?_
          refine OK_st 2 okX10_told (S' := (83, [(0, .ref 49), (1, .int (nI 3))], [.int (I 26)], hp I F)) rfl ⟨trivial, trivial, trivial⟩ ?_
          exact OK_ri okX10_told rfl rfl (Or.inl rfl)
        · skip
          refine OK_ci (fun h1560 => ?_) (fun h1560 => ?_)
          · subst h1560
            refine OK_st 1 okX10_told (S' := (84, [(0, .ref 49), (1, .int (nI 4))], [], hp I F)) rfl ⟨trivial, trivial⟩ ?_
            refine OK_st 4 okX10_told (S' := (91, [(0, .ref 49), (1, .int (nI 4))], [.int ((F 47) 19)], hp I F)) rfl ⟨trivial, trivial, trivial, (ab_vo (by decide)), trivial⟩ ?_
            exact OK_ri okX10_told rfl rfl (Or.inl rfl)
          · skip
            refine OK_ci (fun h1561 => ?_) (fun h1561 => ?_)
            · subst h1561
              refine OK_st 1 okX10_told (S' := (92, [(0, .ref 49), (1, .int (nI 5))], [], hp I F)) rfl ⟨trivial, trivial⟩ ?_
              refine OK_st 4 okX10_told (S' := (99, [(0, .ref 49), (1, .int (nI 5))], [.int ((F 47) 18)], hp I F)) rfl ⟨trivial, trivial, trivial, (ab_vo (by decide)), trivial⟩ ?_
              exact OK_ri okX10_told rfl rfl (Or.inl rfl)
            · skip
              refine OK_ci (fun h1562 => ?_) (fun h1562 => ?_)
              · subst h1562
                refine OK_st 1 okX10_told (S' := (100, [(0, .ref 49), (1, .int (nI 6))], [], hp I F)) rfl ⟨trivial, trivial⟩ ?_
                refine OK_st 1 okX10_told (S' := (101, [(0, .ref 49), (1, .int (nI 6))], [.ref 49], hp I F)) rfl ⟨trivial, trivial⟩ ?_
                refine OK_cv [] [] okX10_told okX10_copied rfl rfl cl_RX10_187 rfl rfl (Nat.le_of_ble_eq_true rfl) (by decide) (Nat.le_of_ble_eq_true rfl) (kf_X10_copied I F) (fun r1571 I1572 F1573 => ?_)
                exact OK_ri okX10_told rfl rfl (Or.inl rfl)
              · skip
                refine OK_ci (fun h1574 => ?_) (fun h1574 => ?_)
                · subst h1574
                  refine OK_st 1 okX10_told (S' := (105, [(0, .ref 49), (1, .int (nI 7))], [], hp I F)) rfl ⟨trivial, trivial⟩ ?_
                  refine OK_st 4 okX10_told (S' := (112, [(0, .ref 49), (1, .int (nI 7))], [.int ((F 47) 20)], hp I F)) rfl ⟨trivial, trivial, trivial, (ab_vo (by decide)), trivial⟩ ?_
                  exact OK_ri okX10_told rfl rfl (Or.inl rfl)
                · skip
                  refine OK_ci (fun h1575 => ?_) (fun h1575 => ?_)
                  · subst h1575
                    refine OK_st 1 okX10_told (S' := (113, [(0, .ref 49), (1, .int (nI 8))], [], hp I F)) rfl ⟨trivial, trivial⟩ ?_
                    refine OK_st 4 okX10_told (S' := (120, [(0, .ref 49), (1, .int (nI 8))], [.int ((F 47) 21)], hp I F)) rfl ⟨trivial, trivial, trivial, (ab_vo (by decide)), trivial⟩ ?_
                    exact OK_ri okX10_told rfl rfl (Or.inl rfl)
                  · skip
                    refine OK_ci (fun h1576 => ?_) (fun h1576 => ?_)
                    · subst h1576
                      refine OK_st 1 okX10_told (S' := (121, [(0, .ref 49), (1, .int (nI 9))], [], hp I F)) rfl ⟨trivial, trivial⟩ ?_
                      refine OK_st 2 okX10_told (S' := (125, [(0, .ref 49), (1, .int (nI 9))], [.int (I 37)], hp I F)) rfl ⟨trivial, trivial, trivial⟩ ?_
                      exact OK_ri okX10_told rfl rfl (Or.inl rfl)
                    · skip
                      refine OK_ci (fun h1577 => ?_) (fun h1577 => ?_)
                      · subst h1577
                        refine OK_st 1 okX10_told (S' := (126, [(0, .ref 49), (1, .int (nI 10))], [], hp I F)) rfl ⟨trivial, trivial⟩ ?_
                        refine OK_st 2 okX10_told (S' := (130, [(0, .ref 49), (1, .int (nI 10))], [.int (I 38)], hp I F)) rfl ⟨trivial, trivial, trivial⟩ ?_
                        exact OK_ri okX10_told rfl rfl (Or.inl rfl)
                      · skip
                        refine OK_ci (fun h1578 => ?_) (fun h1578 => ?_)
                        · subst h1578
                          refine OK_st 1 okX10_told (S' := (131, [(0, .ref 49), (1, .int (nI 11))], [], hp I F)) rfl ⟨trivial, trivial⟩ ?_
                          refine OK_st 2 okX10_told (S' := (135, [(0, .ref 49), (1, .int (nI 11))], [.int (I 34)], hp I F)) rfl ⟨trivial, trivial, trivial⟩ ?_
                          exact OK_ri okX10_told rfl rfl (Or.inl rfl)
                        · skip
                          refine OK_st 1 okX10_told (S' := (ab_tsw 1 135 0 11 #[63, 68, 73, 78, 83, 91, 99, 104, 112, 120, 125, 130] v1, [(0, .ref 49), (1, .int v1)], [], hp I F)) rfl ⟨trivial, trivial⟩ ?_
                          refine OK_pc (pc' := 136) (if_pos (by
                            have qh1556 := lv_neT h1556 (show (0 : Int32).toInt = 0 from rfl)
                            have qh1557 := lv_neT h1557 (show (1 : Int32).toInt = 1 from rfl)
                            have qh1558 := lv_neT h1558 (show (2 : Int32).toInt = 2 from rfl)
                            have qh1559 := lv_neT h1559 (show (3 : Int32).toInt = 3 from rfl)
                            have qh1560 := lv_neT h1560 (show (4 : Int32).toInt = 4 from rfl)
                            have qh1561 := lv_neT h1561 (show (5 : Int32).toInt = 5 from rfl)
                            have qh1562 := lv_neT h1562 (show (6 : Int32).toInt = 6 from rfl)
                            have qh1574 := lv_neT h1574 (show (7 : Int32).toInt = 7 from rfl)
                            have qh1575 := lv_neT h1575 (show (8 : Int32).toInt = 8 from rfl)
                            have qh1576 := lv_neT h1576 (show (9 : Int32).toInt = 9 from rfl)
                            have qh1577 := lv_neT h1577 (show (10 : Int32).toInt = 10 from rfl)
                            have qh1578 := lv_neT h1578 (show (11 : Int32).toInt = 11 from rfl)
                            omega)) ?_
                          refine OK_st 1 okX10_told (S' := (138, [(0, .ref 49), (1, .int v1)], [.int (-1000000002 : Int32)], hp I F)) rfl ⟨trivial, trivial⟩ ?_
                          exact OK_ri okX10_told rfl rfl (Or.inl rfl)

def f_X10_isLimb (v1 : Int32) (I : AI) (F : AF) : AQ :=
  ab_bd (f_X10_in v1.toInt64 (0 : Int64) (((I 22) - (1 : Int32)).toInt64) I F) (fun r1579 I1580 F1581 =>
    bif ab_bt r1579 then some (r1579, I1580, F1581) else none)
set_option maxRecDepth 20000 in
set_option maxHeartbeats 4000000 in
theorem kf_X10_isLimb (v1 : Int32) (I : AI) (F : AF) : OK 1 mX10_isLimb true (f_X10_isLimb v1 I F) (0, [(0, .ref 49), (1, .int v1)], [], hp I F) := by
  rw [f_X10_isLimb]
  refine OK_st 8 okX10_isLimb (S' := (10, [(0, .ref 49), (1, .int v1)], [.long ((I 22) - (1 : Int32)).toInt64, .long (0 : Int64), .long v1.toInt64], hp I F)) rfl ⟨trivial, trivial, trivial, trivial, trivial, trivial, trivial, trivial, trivial⟩ ?_
  refine OK_cs [.long v1.toInt64, .long (0 : Int64), .long ((I 22) - (1 : Int32)).toInt64] [] okX10_isLimb okX10_in rfl rfl cl_RX10_102 (Nat.le_of_ble_eq_true rfl) (by decide) (Nat.le_of_ble_eq_true rfl) (kf_X10_in v1.toInt64 (0 : Int64) (((I 22) - (1 : Int32)).toInt64) I F) (fun r1579 I1580 F1581 => ?_)
  refine OK_gd (fun g1582 => ?_)
  exact OK_ri okX10_isLimb rfl rfl (Or.inr ⟨rfl, ab_bto g1582⟩)

def f_X10_has (v0 : Int32) (v1 : Int32) (I : AI) (F : AF) : AQ :=
  if ¬ ((v0 >>> (v1 &&& 31)) &&& (1 : Int32)) = (1 : Int32) then
    some ((0 : Int32), I, F)
  else
    some ((1 : Int32), I, F)
set_option maxRecDepth 20000 in
set_option maxHeartbeats 4000000 in
theorem kf_X10_has (v0 : Int32) (v1 : Int32) (I : AI) (F : AF) : OK 0 mX10_has true (f_X10_has v0 v1 I F) (0, [(0, .int v0), (1, .int v1)], [], hp I F) := by
  rw [f_X10_has]
  refine OK_st 7 okX10_has (S' := ((if ¬ ((v0 >>> (v1 &&& 31)) &&& (1 : Int32)) = (1 : Int32) then 13 else 9), [(0, .int v0), (1, .int v1)], [], hp I F)) rfl ⟨trivial, trivial, trivial, trivial, trivial, trivial, trivial, trivial⟩ ?_
  refine OK_if (fun h1594 => ?_) (fun h1594 => ?_)
  · refine OK_st 1 okX10_has (S' := (14, [(0, .int v0), (1, .int v1)], [.int (0 : Int32)], hp I F)) rfl ⟨trivial, trivial⟩ ?_
    exact OK_ri okX10_has rfl rfl (Or.inr ⟨rfl, Or.inl rfl⟩)
  · refine OK_st 2 okX10_has (S' := (14, [(0, .int v0), (1, .int v1)], [.int (1 : Int32)], hp I F)) rfl ⟨trivial, trivial, trivial⟩ ?_
    exact OK_ri okX10_has rfl rfl (Or.inr ⟨rfl, Or.inr rfl⟩)

def f_X10_lives (v1 : Int32) (I : AI) (F : AF) : AQ :=
  ab_bd (f_X10_has ((F 47) 18) v1 I F) (fun r1595 I1596 F1597 =>
    bif ab_bt r1595 then some (r1595, I1596, F1597) else none)
set_option maxRecDepth 20000 in
set_option maxHeartbeats 4000000 in
theorem kf_X10_lives (v1 : Int32) (I : AI) (F : AF) : OK 1 mX10_lives true (f_X10_lives v1 I F) (0, [(0, .ref 49), (1, .int v1)], [], hp I F) := by
  rw [f_X10_lives]
  refine OK_st 5 okX10_lives (S' := (8, [(0, .ref 49), (1, .int v1)], [.int v1, .int ((F 47) 18)], hp I F)) rfl ⟨trivial, trivial, trivial, (ab_vo (by decide)), trivial, trivial⟩ ?_
  refine OK_cs [.int ((F 47) 18), .int v1] [] okX10_lives okX10_has rfl rfl cl_RX10_106 (Nat.le_of_ble_eq_true rfl) (by decide) (Nat.le_of_ble_eq_true rfl) (kf_X10_has ((F 47) 18) v1 I F) (fun r1595 I1596 F1597 => ?_)
  refine OK_gd (fun g1598 => ?_)
  exact OK_ri okX10_lives rfl rfl (Or.inr ⟨rfl, ab_bto g1598⟩)

def f_X10_grown (v1 : Int32) (v2 : Int32) (I : AI) (F : AF) : AQ :=
  bif ab_vin v1 22 then
    bif ab_vin (((nI 4) * v1) + (v2 - v2 / (nI 4) * (nI 4))) 24 then
      ab_lt (((F 47) v1.toNatClampNeg) + ((F 38) (((nI 4) * v1) + (v2 - v2 / (nI 4) * (nI 4))).toNatClampNeg)) (fun x1607 =>
        if x1607 ≤ 0 then
          some ((0 : Int32), I, F)
        else
          some (x1607, I, F))
    else none
  else none
set_option maxRecDepth 20000 in
set_option maxHeartbeats 4000000 in
theorem kf_X10_grown (v1 : Int32) (v2 : Int32) (I : AI) (F : AF) : OK 0 mX10_grown true (f_X10_grown v1 v2 I F) (0, [(0, .ref 49), (1, .int v1), (2, .int v2)], [], hp I F) := by
  rw [f_X10_grown]
  refine OK_gd (fun g1605 => ?_)
  refine OK_gd (fun g1606 => ?_)
  refine OK_st 16 okX10_grown (S' := (20, [(3, .int (((F 47) v1.toNatClampNeg) + ((F 38) (((nI 4) * v1) + (v2 - v2 / (nI 4) * (nI 4))).toNatClampNeg))), (0, .ref 49), (1, .int v1), (2, .int v2)], [], hp I F)) rfl ⟨trivial, trivial, trivial, (ab_vo g1605), trivial, trivial, trivial, trivial, trivial, trivial, trivial, (by decide), trivial, (ab_vo g1606), trivial, (by decide), trivial⟩ ?_
  refine OK_lt (fun x1607 => (20, [(3, .int x1607), (0, .ref 49), (1, .int v1), (2, .int v2)], [], hp I F)) (fun x1607 => ?_)
  refine OK_st 2 okX10_grown (S' := ((if x1607 ≤ 0 then 28 else 24), [(3, .int x1607), (0, .ref 49), (1, .int v1), (2, .int v2)], [], hp I F)) rfl ⟨trivial, trivial, trivial⟩ ?_
  refine OK_if (fun h1608 => ?_) (fun h1608 => ?_)
  · refine OK_st 1 okX10_grown (S' := (29, [(3, .int x1607), (0, .ref 49), (1, .int v1), (2, .int v2)], [.int (0 : Int32)], hp I F)) rfl ⟨trivial, trivial⟩ ?_
    exact OK_ri okX10_grown rfl rfl (Or.inl rfl)
  · refine OK_st 2 okX10_grown (S' := (29, [(3, .int x1607), (0, .ref 49), (1, .int v1), (2, .int v2)], [.int x1607], hp I F)) rfl ⟨trivial, trivial, trivial⟩ ?_
    exact OK_ri okX10_grown rfl rfl (Or.inl rfl)

def f_X10_measure_5 (v2 : Int32) (ko : Int32 → Int32 → AI → AF → AQ) : Nat → Int32 → Int32 → AI → AF → AQ
  | 0, _, _, _, _ => none
  | n + 1, v3, v4, I, F =>
    if (nI 6) < v4 then
      ko v3 v4 I F
    else
      if v3 < 0 then
        ko v3 v4 I F
      else
        bif ab_vin ((nI 6) + v3) 22 then
          if ((F 47) ((nI 6) + v3).toNatClampNeg) < 0 then
            ab_bd (f_X10_lives v3 I F) (fun r1599 I1600 F1601 =>
              if r1599 = 0 then
                bif ab_vin v3 6 then
                  ab_lt ((F1601 39) v3.toNatClampNeg) (fun x1604 =>
                    f_X10_measure_5 v2 ko n x1604 (v4 + (1 : Int32)) I1600 F1601)
                else none
              else
                ab_bd (f_X10_grown v3 v2 I1600 F1601) (fun r1609 I1610 F1611 =>
                  some (r1609, I1610, F1611)))
          else
            bif ab_vin ((nI 6) + v3) 22 then
              some (((F 47) ((nI 6) + v3).toNatClampNeg), I, F)
            else none
        else none
set_option maxRecDepth 20000 in
set_option maxHeartbeats 4000000 in
theorem kf_X10_measure_5 (v2 : Int32) (ko : Int32 → Int32 → AI → AF → AQ) (hko : ∀ v3 v4 I F, OK 2 mX10_measure true (ko v3 v4 I F) (66, [(0, .ref 49), (2, .int v2), (3, .int v3), (4, .int v4)], [], hp I F)) : ∀ n v3 v4 I F, OK 2 mX10_measure true (f_X10_measure_5 v2 ko n v3 v4 I F) (5, [(0, .ref 49), (2, .int v2), (3, .int v3), (4, .int v4)], [], hp I F) := by
  intro n
  induction n with
  | zero =>
    intro v3 v4 I F
    exact OK_no
  | succ n ih =>
    intro v3 v4 I F
    rw [f_X10_measure_5]
    refine OK_st 3 okX10_measure (S' := ((if (nI 6) < v4 then 66 else 12), [(0, .ref 49), (2, .int v2), (3, .int v3), (4, .int v4)], [], hp I F)) rfl ⟨trivial, trivial, trivial, trivial⟩ ?_
    refine OK_if (fun h1590 => ?_) (fun h1590 => ?_)
    · exact hko v3 v4 I F
    · refine OK_st 2 okX10_measure (S' := ((if v3 < 0 then 66 else 16), [(0, .ref 49), (2, .int v2), (3, .int v3), (4, .int v4)], [], hp I F)) rfl ⟨trivial, trivial, trivial⟩ ?_
      refine OK_if (fun h1591 => ?_) (fun h1591 => ?_)
      · exact hko v3 v4 I F
      · refine OK_gd (fun g1592 => ?_)
        refine OK_st 7 okX10_measure (S' := ((if ((F 47) ((nI 6) + v3).toNatClampNeg) < 0 then 38 else 28), [(0, .ref 49), (2, .int v2), (3, .int v3), (4, .int v4)], [], hp I F)) rfl ⟨trivial, trivial, trivial, trivial, trivial, (ab_vo g1592), trivial, trivial⟩ ?_
        refine OK_if (fun h1593 => ?_) (fun h1593 => ?_)
        · refine OK_st 2 okX10_measure (S' := (40, [(0, .ref 49), (2, .int v2), (3, .int v3), (4, .int v4)], [.int v3, .ref 49], hp I F)) rfl ⟨trivial, trivial, trivial⟩ ?_
          refine OK_cv [.int v3] [] okX10_measure okX10_lives rfl rfl cl_RX10_190 rfl rfl (Nat.le_of_ble_eq_true rfl) (by decide) (Nat.le_of_ble_eq_true rfl) (kf_X10_lives v3 I F) (fun r1599 I1600 F1601 => ?_)
          refine OK_st 1 okX10_measure (S' := ((if r1599 = 0 then 53 else 46), [(0, .ref 49), (2, .int v2), (3, .int v3), (4, .int v4)], [], hp I1600 F1601)) rfl ⟨trivial, trivial⟩ ?_
          refine OK_if (fun h1602 => ?_) (fun h1602 => ?_)
          · refine OK_gd (fun g1603 => ?_)
            refine OK_st 5 okX10_measure (S' := (60, [(3, .int ((F1601 39) v3.toNatClampNeg)), (0, .ref 49), (2, .int v2), (4, .int v4)], [], hp I1600 F1601)) rfl ⟨trivial, trivial, trivial, (ab_vo g1603), (by decide), trivial⟩ ?_
            refine OK_lt (fun x1604 => (60, [(3, .int x1604), (0, .ref 49), (2, .int v2), (4, .int v4)], [], hp I1600 F1601)) (fun x1604 => ?_)
            refine OK_st 2 okX10_measure (S' := (5, [(4, .int (v4 + (1 : Int32))), (3, .int x1604), (0, .ref 49), (2, .int v2)], [], hp I1600 F1601)) rfl ⟨(by decide), trivial, trivial⟩ ?_
            refine OK_pk [2, 3, 1, 0] rfl ?_
            exact ih x1604 (v4 + (1 : Int32)) I1600 F1601
          · refine OK_st 3 okX10_measure (S' := (49, [(0, .ref 49), (2, .int v2), (3, .int v3), (4, .int v4)], [.int v2, .int v3, .ref 49], hp I1600 F1601)) rfl ⟨trivial, trivial, trivial, trivial⟩ ?_
            refine OK_cv [.int v3, .int v2] [] okX10_measure okX10_grown rfl rfl cl_RX10_194 rfl rfl (Nat.le_of_ble_eq_true rfl) (by decide) (Nat.le_of_ble_eq_true rfl) (kf_X10_grown v3 v2 I1600 F1601) (fun r1609 I1610 F1611 => ?_)
            exact OK_ri okX10_measure rfl rfl (Or.inl rfl)
        · refine OK_gd (fun g1612 => ?_)
          refine OK_st 6 okX10_measure (S' := (37, [(0, .ref 49), (2, .int v2), (3, .int v3), (4, .int v4)], [.int ((F 47) ((nI 6) + v3).toNatClampNeg)], hp I F)) rfl ⟨trivial, trivial, trivial, trivial, trivial, (ab_vo g1612), trivial⟩ ?_
          exact OK_ri okX10_measure rfl rfl (Or.inl rfl)

def f_X10_measure (v1 : Int32) (v2 : Int32) (I : AI) (F : AF) : AQ :=
  f_X10_measure_5 v2 (fun v3_1613 v4_1614 I1615 F1616 =>
    some ((0 : Int32), I1615, F1616)) ab_fu v1 (0 : Int32) I F
set_option maxRecDepth 20000 in
set_option maxHeartbeats 4000000 in
theorem kf_X10_measure (v1 : Int32) (v2 : Int32) (I : AI) (F : AF) : OK 2 mX10_measure true (f_X10_measure v1 v2 I F) (0, [(0, .ref 49), (1, .int v1), (2, .int v2)], [], hp I F) := by
  rw [f_X10_measure]
  refine OK_st 4 okX10_measure (S' := (5, [(4, .int (0 : Int32)), (3, .int v1), (0, .ref 49), (1, .int v1), (2, .int v2)], [], hp I F)) rfl ⟨trivial, (by decide), trivial, (by decide), trivial⟩ ?_
  refine OK_pk [2, 4, 1, 0] rfl ?_
  refine kf_X10_measure_5 v2 _ (fun v3_1613 v4_1614 I1615 F1616 => ?_) ab_fu v1 (0 : Int32) I F
  refine OK_st 1 okX10_measure (S' := (67, [(0, .ref 49), (2, .int v2), (3, .int v3_1613), (4, .int v4_1614)], [.int (0 : Int32)], hp I1615 F1616)) rfl ⟨trivial, trivial⟩ ?_
  exact OK_ri okX10_measure rfl rfl (Or.inl rfl)

def f_X10_measureNow (v1 : Int32) (I : AI) (F : AF) : AQ :=
  ab_bd (f_X10_measure v1 ((F 47) 19) I F) (fun r1617 I1618 F1619 =>
    some (r1617, I1618, F1619))
set_option maxRecDepth 20000 in
set_option maxHeartbeats 4000000 in
theorem kf_X10_measureNow (v1 : Int32) (I : AI) (F : AF) : OK 3 mX10_measureNow true (f_X10_measureNow v1 I F) (0, [(0, .ref 49), (1, .int v1)], [], hp I F) := by
  rw [f_X10_measureNow]
  refine OK_st 6 okX10_measureNow (S' := (9, [(0, .ref 49), (1, .int v1)], [.int ((F 47) 19), .int v1, .ref 49], hp I F)) rfl ⟨trivial, trivial, trivial, trivial, trivial, (ab_vo (by decide)), trivial⟩ ?_
  refine OK_cv [.int v1, .int ((F 47) 19)] [] okX10_measureNow okX10_measure rfl rfl cl_RX10_197 rfl rfl (Nat.le_of_ble_eq_true rfl) (by decide) (Nat.le_of_ble_eq_true rfl) (kf_X10_measure v1 ((F 47) 19) I F) (fun r1617 I1618 F1619 => ?_)
  exact OK_ri okX10_measureNow rfl rfl (Or.inl rfl)

def f_X10_limb (v1 : Int32) (v2 : Int32) (I : AI) (F : AF) : AQ :=
  ab_bd (f_X10_isLimb v1 I F) (fun r1583 I1584 F1585 =>
    if ¬ r1583 = 0 then
      if v2 = (0 : Int32) then
        bif ab_vin v1 22 then
          some (((F1585 47) v1.toNatClampNeg), I1584, F1585)
        else none
      else if v2 = (1 : Int32) then
        ab_bd (f_X10_measureNow v1 I1584 F1585) (fun r1620 I1621 F1622 =>
          some (r1620, I1621, F1622))
      else if v2 = (nI 2) then
        bif ab_vin v1 6 then
          some (((F1585 39) v1.toNatClampNeg), I1584, F1585)
        else none
      else if v2 = (nI 3) then
        ab_bd (f_X10_lives v1 I1584 F1585) (fun r1626 I1627 F1628 =>
          if r1626 = 0 then
            some ((0 : Int32), I1627, F1628)
          else
            some ((1 : Int32), I1627, F1628))
      else if v2 = (nI 4) then
        bif ab_vin ((nI 6) + v1) 22 then
          some (((F1585 47) ((nI 6) + v1).toNatClampNeg), I1584, F1585)
        else none
      else 
        ab_bd (f_X10_in v2.toInt64 (5 : Int64) (8 : Int64) I1584 F1585) (fun r1632 I1633 F1634 =>
          if r1632 = 0 then
            some ((-1000000002 : Int32), I1633, F1634)
          else
            bif ab_vin ((((nI 4) * v1) + v2) - (nI 5)) 24 then
              some ((((F1634 38) ((((nI 4) * v1) + v2) - (nI 5)).toNatClampNeg) + (nI 9)), I1633, F1634)
            else none)
    else
      some ((-1000000001 : Int32), I1584, F1585))
set_option maxRecDepth 20000 in
set_option maxHeartbeats 4000000 in
theorem kf_X10_limb (v1 : Int32) (v2 : Int32) (I : AI) (F : AF) : OK 4 mX10_limb true (f_X10_limb v1 v2 I F) (0, [(0, .ref 49), (1, .int v1), (2, .int v2)], [], hp I F) := by
  rw [f_X10_limb]
  refine OK_st 2 okX10_limb (S' := (2, [(0, .ref 49), (1, .int v1), (2, .int v2)], [.int v1, .ref 49], hp I F)) rfl ⟨trivial, trivial, trivial⟩ ?_
  refine OK_cv [.int v1] [] okX10_limb okX10_isLimb rfl rfl cl_RX10_200 rfl rfl (Nat.le_of_ble_eq_true rfl) (by decide) (Nat.le_of_ble_eq_true rfl) (kf_X10_isLimb v1 I F) (fun r1583 I1584 F1585 => ?_)
  refine OK_st 1 okX10_limb (S' := ((if ¬ r1583 = 0 then 11 else 8), [(0, .ref 49), (1, .int v1), (2, .int v2)], [], hp I1584 F1585)) rfl ⟨trivial, trivial⟩ ?_
  refine OK_if (fun h1586 => ?_) (fun h1586 => ?_)
  · refine OK_st 1 okX10_limb (S' := (12, [(0, .ref 49), (1, .int v1), (2, .int v2)], [.int v2], hp I1584 F1585)) rfl ⟨trivial, trivial⟩ ?_
    refine OK_ci (fun h1587 => ?_) (fun h1587 => ?_)
    · subst h1587
      refine OK_st 1 okX10_limb (S' := (48, [(0, .ref 49), (1, .int v1), (2, .int (0 : Int32))], [], hp I1584 F1585)) rfl ⟨trivial, trivial⟩ ?_
      refine OK_gd (fun g1588 => ?_)
      refine OK_st 4 okX10_limb (S' := (54, [(0, .ref 49), (1, .int v1), (2, .int (0 : Int32))], [.int ((F1585 47) v1.toNatClampNeg)], hp I1584 F1585)) rfl ⟨trivial, trivial, trivial, (ab_vo g1588), trivial⟩ ?_
      exact OK_ri okX10_limb rfl rfl (Or.inl rfl)
    · skip
      refine OK_ci (fun h1589 => ?_) (fun h1589 => ?_)
      · subst h1589
        refine OK_st 1 okX10_limb (S' := (55, [(0, .ref 49), (1, .int v1), (2, .int (1 : Int32))], [], hp I1584 F1585)) rfl ⟨trivial, trivial⟩ ?_
        refine OK_st 2 okX10_limb (S' := (57, [(0, .ref 49), (1, .int v1), (2, .int (1 : Int32))], [.int v1, .ref 49], hp I1584 F1585)) rfl ⟨trivial, trivial, trivial⟩ ?_
        refine OK_cv [.int v1] [] okX10_limb okX10_measureNow rfl rfl cl_RX10_204 rfl rfl (Nat.le_of_ble_eq_true rfl) (by decide) (Nat.le_of_ble_eq_true rfl) (kf_X10_measureNow v1 I1584 F1585) (fun r1620 I1621 F1622 => ?_)
        exact OK_ri okX10_limb rfl rfl (Or.inl rfl)
      · skip
        refine OK_ci (fun h1623 => ?_) (fun h1623 => ?_)
        · subst h1623
          refine OK_st 1 okX10_limb (S' := (61, [(0, .ref 49), (1, .int v1), (2, .int (nI 2))], [], hp I1584 F1585)) rfl ⟨trivial, trivial⟩ ?_
          refine OK_gd (fun g1624 => ?_)
          refine OK_st 4 okX10_limb (S' := (67, [(0, .ref 49), (1, .int v1), (2, .int (nI 2))], [.int ((F1585 39) v1.toNatClampNeg)], hp I1584 F1585)) rfl ⟨trivial, trivial, trivial, (ab_vo g1624), trivial⟩ ?_
          exact OK_ri okX10_limb rfl rfl (Or.inl rfl)
        · skip
          refine OK_ci (fun h1625 => ?_) (fun h1625 => ?_)
          · subst h1625
            refine OK_st 1 okX10_limb (S' := (68, [(0, .ref 49), (1, .int v1), (2, .int (nI 3))], [], hp I1584 F1585)) rfl ⟨trivial, trivial⟩ ?_
            refine OK_st 2 okX10_limb (S' := (70, [(0, .ref 49), (1, .int v1), (2, .int (nI 3))], [.int v1, .ref 49], hp I1584 F1585)) rfl ⟨trivial, trivial, trivial⟩ ?_
            refine OK_cv [.int v1] [] okX10_limb okX10_lives rfl rfl cl_RX10_190 rfl rfl (Nat.le_of_ble_eq_true rfl) (by decide) (Nat.le_of_ble_eq_true rfl) (kf_X10_lives v1 I1584 F1585) (fun r1626 I1627 F1628 => ?_)
            refine OK_st 1 okX10_limb (S' := ((if r1626 = 0 then 80 else 76), [(0, .ref 49), (1, .int v1), (2, .int (nI 3))], [], hp I1627 F1628)) rfl ⟨trivial, trivial⟩ ?_
            refine OK_if (fun h1629 => ?_) (fun h1629 => ?_)
            · refine OK_st 1 okX10_limb (S' := (81, [(0, .ref 49), (1, .int v1), (2, .int (nI 3))], [.int (0 : Int32)], hp I1627 F1628)) rfl ⟨trivial, trivial⟩ ?_
              exact OK_ri okX10_limb rfl rfl (Or.inl rfl)
            · refine OK_st 2 okX10_limb (S' := (81, [(0, .ref 49), (1, .int v1), (2, .int (nI 3))], [.int (1 : Int32)], hp I1627 F1628)) rfl ⟨trivial, trivial, trivial⟩ ?_
              exact OK_ri okX10_limb rfl rfl (Or.inl rfl)
          · skip
            refine OK_ci (fun h1630 => ?_) (fun h1630 => ?_)
            · subst h1630
              refine OK_st 1 okX10_limb (S' := (82, [(0, .ref 49), (1, .int v1), (2, .int (nI 4))], [], hp I1584 F1585)) rfl ⟨trivial, trivial⟩ ?_
              refine OK_gd (fun g1631 => ?_)
              refine OK_st 6 okX10_limb (S' := (91, [(0, .ref 49), (1, .int v1), (2, .int (nI 4))], [.int ((F1585 47) ((nI 6) + v1).toNatClampNeg)], hp I1584 F1585)) rfl ⟨trivial, trivial, trivial, trivial, trivial, (ab_vo g1631), trivial⟩ ?_
              exact OK_ri okX10_limb rfl rfl (Or.inl rfl)
            · skip
              refine OK_st 1 okX10_limb (S' := (ab_tsw 12 80 0 4 #[36, 43, 49, 56, 70] v2, [(0, .ref 49), (1, .int v1), (2, .int v2)], [], hp I1584 F1585)) rfl ⟨trivial, trivial⟩ ?_
              refine OK_pc (pc' := 92) (if_pos (by
                have qh1587 := lv_neT h1587 (show (0 : Int32).toInt = 0 from rfl)
                have qh1589 := lv_neT h1589 (show (1 : Int32).toInt = 1 from rfl)
                have qh1623 := lv_neT h1623 (show (2 : Int32).toInt = 2 from rfl)
                have qh1625 := lv_neT h1625 (show (3 : Int32).toInt = 3 from rfl)
                have qh1630 := lv_neT h1630 (show (4 : Int32).toInt = 4 from rfl)
                omega)) ?_
              refine OK_st 4 okX10_limb (S' := (100, [(0, .ref 49), (1, .int v1), (2, .int v2)], [.long (8 : Int64), .long (5 : Int64), .long v2.toInt64], hp I1584 F1585)) rfl ⟨trivial, trivial, trivial, trivial, trivial⟩ ?_
              refine OK_cs [.long v2.toInt64, .long (5 : Int64), .long (8 : Int64)] [] okX10_limb okX10_in rfl rfl cl_RX10_102 (Nat.le_of_ble_eq_true rfl) (by decide) (Nat.le_of_ble_eq_true rfl) (kf_X10_in v2.toInt64 (5 : Int64) (8 : Int64) I1584 F1585) (fun r1632 I1633 F1634 => ?_)
              refine OK_st 1 okX10_limb (S' := ((if r1632 = 0 then 124 else 106), [(0, .ref 49), (1, .int v1), (2, .int v2)], [], hp I1633 F1634)) rfl ⟨trivial, trivial⟩ ?_
              refine OK_if (fun h1635 => ?_) (fun h1635 => ?_)
              · refine OK_st 1 okX10_limb (S' := (126, [(0, .ref 49), (1, .int v1), (2, .int v2)], [.int (-1000000002 : Int32)], hp I1633 F1634)) rfl ⟨trivial, trivial⟩ ?_
                exact OK_ri okX10_limb rfl rfl (Or.inl rfl)
              · refine OK_gd (fun g1636 => ?_)
                refine OK_st 13 okX10_limb (S' := (126, [(0, .ref 49), (1, .int v1), (2, .int v2)], [.int (((F1634 38) ((((nI 4) * v1) + v2) - (nI 5)).toNatClampNeg) + (nI 9))], hp I1633 F1634)) rfl ⟨trivial, trivial, trivial, trivial, trivial, trivial, trivial, trivial, trivial, (ab_vo g1636), trivial, trivial, trivial, trivial⟩ ?_
                exact OK_ri okX10_limb rfl rfl (Or.inl rfl)
  · refine OK_st 1 okX10_limb (S' := (10, [(0, .ref 49), (1, .int v1), (2, .int v2)], [.int (-1000000001 : Int32)], hp I1584 F1585)) rfl ⟨trivial, trivial⟩ ?_
    exact OK_ri okX10_limb rfl rfl (Or.inl rfl)

def f_X10_contract (v1 : Int32) (v2 : Int32) (I : AI) (F : AF) : AQ :=
  ab_bd (f_X10_in v1.toInt64 (0 : Int64) (((I 23) - (1 : Int32)).toInt64) I F) (fun r1637 I1638 F1639 =>
    if ¬ r1637 = 0 then
      if v2 = (0 : Int32) then
        bif ab_vin v1 6 then
          some (((F1639 40) v1.toNatClampNeg), I1638, F1639)
        else none
      else if v2 = (1 : Int32) then
        bif ab_vin v1 6 then
          some (((F1639 41) v1.toNatClampNeg), I1638, F1639)
        else none
      else if v2 = (nI 2) then
        bif ab_vin v1 6 then
          some (((F1639 42) v1.toNatClampNeg), I1638, F1639)
        else none
      else if v2 = (nI 3) then
        bif ab_vin ((nI 12) + v1) 22 then
          some (((F1639 47) ((nI 12) + v1).toNatClampNeg), I1638, F1639)
        else none
      else 
        some ((-1000000002 : Int32), I1638, F1639)
    else
      some ((-1000000001 : Int32), I1638, F1639))
set_option maxRecDepth 20000 in
set_option maxHeartbeats 4000000 in
theorem kf_X10_contract (v1 : Int32) (v2 : Int32) (I : AI) (F : AF) : OK 1 mX10_contract true (f_X10_contract v1 v2 I F) (0, [(0, .ref 49), (1, .int v1), (2, .int v2)], [], hp I F) := by
  rw [f_X10_contract]
  refine OK_st 8 okX10_contract (S' := (10, [(0, .ref 49), (1, .int v1), (2, .int v2)], [.long ((I 23) - (1 : Int32)).toInt64, .long (0 : Int64), .long v1.toInt64], hp I F)) rfl ⟨trivial, trivial, trivial, trivial, trivial, trivial, trivial, trivial, trivial⟩ ?_
  refine OK_cs [.long v1.toInt64, .long (0 : Int64), .long ((I 23) - (1 : Int32)).toInt64] [] okX10_contract okX10_in rfl rfl cl_RX10_102 (Nat.le_of_ble_eq_true rfl) (by decide) (Nat.le_of_ble_eq_true rfl) (kf_X10_in v1.toInt64 (0 : Int64) (((I 23) - (1 : Int32)).toInt64) I F) (fun r1637 I1638 F1639 => ?_)
  refine OK_st 1 okX10_contract (S' := ((if ¬ r1637 = 0 then 19 else 16), [(0, .ref 49), (1, .int v1), (2, .int v2)], [], hp I1638 F1639)) rfl ⟨trivial, trivial⟩ ?_
  refine OK_if (fun h1640 => ?_) (fun h1640 => ?_)
  · refine OK_st 1 okX10_contract (S' := (20, [(0, .ref 49), (1, .int v1), (2, .int v2)], [.int v2], hp I1638 F1639)) rfl ⟨trivial, trivial⟩ ?_
    refine OK_ci (fun h1641 => ?_) (fun h1641 => ?_)
    · subst h1641
      refine OK_st 1 okX10_contract (S' := (52, [(0, .ref 49), (1, .int v1), (2, .int (0 : Int32))], [], hp I1638 F1639)) rfl ⟨trivial, trivial⟩ ?_
      refine OK_gd (fun g1642 => ?_)
      refine OK_st 4 okX10_contract (S' := (58, [(0, .ref 49), (1, .int v1), (2, .int (0 : Int32))], [.int ((F1639 40) v1.toNatClampNeg)], hp I1638 F1639)) rfl ⟨trivial, trivial, trivial, (ab_vo g1642), trivial⟩ ?_
      exact OK_ri okX10_contract rfl rfl (Or.inl rfl)
    · skip
      refine OK_ci (fun h1643 => ?_) (fun h1643 => ?_)
      · subst h1643
        refine OK_st 1 okX10_contract (S' := (59, [(0, .ref 49), (1, .int v1), (2, .int (1 : Int32))], [], hp I1638 F1639)) rfl ⟨trivial, trivial⟩ ?_
        refine OK_gd (fun g1644 => ?_)
        refine OK_st 4 okX10_contract (S' := (65, [(0, .ref 49), (1, .int v1), (2, .int (1 : Int32))], [.int ((F1639 41) v1.toNatClampNeg)], hp I1638 F1639)) rfl ⟨trivial, trivial, trivial, (ab_vo g1644), trivial⟩ ?_
        exact OK_ri okX10_contract rfl rfl (Or.inl rfl)
      · skip
        refine OK_ci (fun h1645 => ?_) (fun h1645 => ?_)
        · subst h1645
          refine OK_st 1 okX10_contract (S' := (66, [(0, .ref 49), (1, .int v1), (2, .int (nI 2))], [], hp I1638 F1639)) rfl ⟨trivial, trivial⟩ ?_
          refine OK_gd (fun g1646 => ?_)
          refine OK_st 4 okX10_contract (S' := (72, [(0, .ref 49), (1, .int v1), (2, .int (nI 2))], [.int ((F1639 42) v1.toNatClampNeg)], hp I1638 F1639)) rfl ⟨trivial, trivial, trivial, (ab_vo g1646), trivial⟩ ?_
          exact OK_ri okX10_contract rfl rfl (Or.inl rfl)
        · skip
          refine OK_ci (fun h1647 => ?_) (fun h1647 => ?_)
          · subst h1647
            refine OK_st 1 okX10_contract (S' := (73, [(0, .ref 49), (1, .int v1), (2, .int (nI 3))], [], hp I1638 F1639)) rfl ⟨trivial, trivial⟩ ?_
            refine OK_gd (fun g1648 => ?_)
            refine OK_st 6 okX10_contract (S' := (82, [(0, .ref 49), (1, .int v1), (2, .int (nI 3))], [.int ((F1639 47) ((nI 12) + v1).toNatClampNeg)], hp I1638 F1639)) rfl ⟨trivial, trivial, trivial, trivial, trivial, (ab_vo g1648), trivial⟩ ?_
            exact OK_ri okX10_contract rfl rfl (Or.inl rfl)
          · skip
            refine OK_st 1 okX10_contract (S' := (ab_tsw 20 63 0 3 #[32, 39, 46, 53] v2, [(0, .ref 49), (1, .int v1), (2, .int v2)], [], hp I1638 F1639)) rfl ⟨trivial, trivial⟩ ?_
            refine OK_pc (pc' := 83) (if_pos (by
              have qh1641 := lv_neT h1641 (show (0 : Int32).toInt = 0 from rfl)
              have qh1643 := lv_neT h1643 (show (1 : Int32).toInt = 1 from rfl)
              have qh1645 := lv_neT h1645 (show (2 : Int32).toInt = 2 from rfl)
              have qh1647 := lv_neT h1647 (show (3 : Int32).toInt = 3 from rfl)
              omega)) ?_
            refine OK_st 1 okX10_contract (S' := (85, [(0, .ref 49), (1, .int v1), (2, .int v2)], [.int (-1000000002 : Int32)], hp I1638 F1639)) rfl ⟨trivial, trivial⟩ ?_
            exact OK_ri okX10_contract rfl rfl (Or.inl rfl)
  · refine OK_st 1 okX10_contract (S' := (18, [(0, .ref 49), (1, .int v1), (2, .int v2)], [.int (-1000000001 : Int32)], hp I1638 F1639)) rfl ⟨trivial, trivial⟩ ?_
    exact OK_ri okX10_contract rfl rfl (Or.inl rfl)

def f_X10_rate (v1 : Int32) (v2 : Int32) (I : AI) (F : AF) : AQ :=
  ab_bd (f_X10_in v1.toInt64 (0 : Int64) (((I 24) - (1 : Int32)).toInt64) I F) (fun r1649 I1650 F1651 =>
    if ¬ r1649 = 0 then
      if v2 = (0 : Int32) then
        bif ab_vin v1 8 then
          some (((F1651 43) v1.toNatClampNeg), I1650, F1651)
        else none
      else if v2 = (1 : Int32) then
        bif ab_vin v1 8 then
          some (((F1651 44) v1.toNatClampNeg), I1650, F1651)
        else none
      else if v2 = (nI 2) then
        bif ab_vin v1 8 then
          some (((F1651 45) v1.toNatClampNeg), I1650, F1651)
        else none
      else if v2 = (nI 3) then
        bif ab_vin v1 8 then
          some (((F1651 46) v1.toNatClampNeg), I1650, F1651)
        else none
      else 
        some ((-1000000002 : Int32), I1650, F1651)
    else
      some ((-1000000001 : Int32), I1650, F1651))
set_option maxRecDepth 20000 in
set_option maxHeartbeats 4000000 in
theorem kf_X10_rate (v1 : Int32) (v2 : Int32) (I : AI) (F : AF) : OK 1 mX10_rate true (f_X10_rate v1 v2 I F) (0, [(0, .ref 49), (1, .int v1), (2, .int v2)], [], hp I F) := by
  rw [f_X10_rate]
  refine OK_st 8 okX10_rate (S' := (10, [(0, .ref 49), (1, .int v1), (2, .int v2)], [.long ((I 24) - (1 : Int32)).toInt64, .long (0 : Int64), .long v1.toInt64], hp I F)) rfl ⟨trivial, trivial, trivial, trivial, trivial, trivial, trivial, trivial, trivial⟩ ?_
  refine OK_cs [.long v1.toInt64, .long (0 : Int64), .long ((I 24) - (1 : Int32)).toInt64] [] okX10_rate okX10_in rfl rfl cl_RX10_102 (Nat.le_of_ble_eq_true rfl) (by decide) (Nat.le_of_ble_eq_true rfl) (kf_X10_in v1.toInt64 (0 : Int64) (((I 24) - (1 : Int32)).toInt64) I F) (fun r1649 I1650 F1651 => ?_)
  refine OK_st 1 okX10_rate (S' := ((if ¬ r1649 = 0 then 19 else 16), [(0, .ref 49), (1, .int v1), (2, .int v2)], [], hp I1650 F1651)) rfl ⟨trivial, trivial⟩ ?_
  refine OK_if (fun h1652 => ?_) (fun h1652 => ?_)
  · refine OK_st 1 okX10_rate (S' := (20, [(0, .ref 49), (1, .int v1), (2, .int v2)], [.int v2], hp I1650 F1651)) rfl ⟨trivial, trivial⟩ ?_
    refine OK_ci (fun h1653 => ?_) (fun h1653 => ?_)
    · subst h1653
      refine OK_st 1 okX10_rate (S' := (52, [(0, .ref 49), (1, .int v1), (2, .int (0 : Int32))], [], hp I1650 F1651)) rfl ⟨trivial, trivial⟩ ?_
      refine OK_gd (fun g1654 => ?_)
      refine OK_st 4 okX10_rate (S' := (58, [(0, .ref 49), (1, .int v1), (2, .int (0 : Int32))], [.int ((F1651 43) v1.toNatClampNeg)], hp I1650 F1651)) rfl ⟨trivial, trivial, trivial, (ab_vo g1654), trivial⟩ ?_
      exact OK_ri okX10_rate rfl rfl (Or.inl rfl)
    · skip
      refine OK_ci (fun h1655 => ?_) (fun h1655 => ?_)
      · subst h1655
        refine OK_st 1 okX10_rate (S' := (59, [(0, .ref 49), (1, .int v1), (2, .int (1 : Int32))], [], hp I1650 F1651)) rfl ⟨trivial, trivial⟩ ?_
        refine OK_gd (fun g1656 => ?_)
        refine OK_st 4 okX10_rate (S' := (65, [(0, .ref 49), (1, .int v1), (2, .int (1 : Int32))], [.int ((F1651 44) v1.toNatClampNeg)], hp I1650 F1651)) rfl ⟨trivial, trivial, trivial, (ab_vo g1656), trivial⟩ ?_
        exact OK_ri okX10_rate rfl rfl (Or.inl rfl)
      · skip
        refine OK_ci (fun h1657 => ?_) (fun h1657 => ?_)
        · subst h1657
          refine OK_st 1 okX10_rate (S' := (66, [(0, .ref 49), (1, .int v1), (2, .int (nI 2))], [], hp I1650 F1651)) rfl ⟨trivial, trivial⟩ ?_
          refine OK_gd (fun g1658 => ?_)
          refine OK_st 4 okX10_rate (S' := (72, [(0, .ref 49), (1, .int v1), (2, .int (nI 2))], [.int ((F1651 45) v1.toNatClampNeg)], hp I1650 F1651)) rfl ⟨trivial, trivial, trivial, (ab_vo g1658), trivial⟩ ?_
          exact OK_ri okX10_rate rfl rfl (Or.inl rfl)
        · skip
          refine OK_ci (fun h1659 => ?_) (fun h1659 => ?_)
          · subst h1659
            refine OK_st 1 okX10_rate (S' := (73, [(0, .ref 49), (1, .int v1), (2, .int (nI 3))], [], hp I1650 F1651)) rfl ⟨trivial, trivial⟩ ?_
            refine OK_gd (fun g1660 => ?_)
            refine OK_st 4 okX10_rate (S' := (79, [(0, .ref 49), (1, .int v1), (2, .int (nI 3))], [.int ((F1651 46) v1.toNatClampNeg)], hp I1650 F1651)) rfl ⟨trivial, trivial, trivial, (ab_vo g1660), trivial⟩ ?_
            exact OK_ri okX10_rate rfl rfl (Or.inl rfl)
          · skip
            refine OK_st 1 okX10_rate (S' := (ab_tsw 20 60 0 3 #[32, 39, 46, 53] v2, [(0, .ref 49), (1, .int v1), (2, .int v2)], [], hp I1650 F1651)) rfl ⟨trivial, trivial⟩ ?_
            refine OK_pc (pc' := 80) (if_pos (by
              have qh1653 := lv_neT h1653 (show (0 : Int32).toInt = 0 from rfl)
              have qh1655 := lv_neT h1655 (show (1 : Int32).toInt = 1 from rfl)
              have qh1657 := lv_neT h1657 (show (2 : Int32).toInt = 2 from rfl)
              have qh1659 := lv_neT h1659 (show (3 : Int32).toInt = 3 from rfl)
              omega)) ?_
            refine OK_st 1 okX10_rate (S' := (82, [(0, .ref 49), (1, .int v1), (2, .int v2)], [.int (-1000000002 : Int32)], hp I1650 F1651)) rfl ⟨trivial, trivial⟩ ?_
            exact OK_ri okX10_rate rfl rfl (Or.inl rfl)
  · refine OK_st 1 okX10_rate (S' := (18, [(0, .ref 49), (1, .int v1), (2, .int v2)], [.int (-1000000001 : Int32)], hp I1650 F1651)) rfl ⟨trivial, trivial⟩ ?_
    exact OK_ri okX10_rate rfl rfl (Or.inl rfl)

def f_X10_seasonsRefused (v1 : Int32) (I : AI) (F : AF) : AQ :=
  ab_bd (f_X10_in v1.toInt64 (1 : Int64) (40 : Int64) I F) (fun r1661 I1662 F1663 =>
    if ¬ r1661 = 0 then
      if ¬ (I1662 22) = 0 then
        if ((F1663 47) 19) ≤ (nI 9000) then
          some ((0 : Int32), I1662, F1663)
        else
          some ((-1000000004 : Int32), I1662, F1663)
      else
        some ((-1000000003 : Int32), I1662, F1663)
    else
      some ((-1000000002 : Int32), I1662, F1663))
set_option maxRecDepth 20000 in
set_option maxHeartbeats 4000000 in
theorem kf_X10_seasonsRefused (v1 : Int32) (I : AI) (F : AF) : OK 1 mX10_seasonsRefused true (f_X10_seasonsRefused v1 I F) (0, [(0, .ref 49), (1, .int v1)], [], hp I F) := by
  rw [f_X10_seasonsRefused]
  refine OK_st 4 okX10_seasonsRefused (S' := (6, [(0, .ref 49), (1, .int v1)], [.long (40 : Int64), .long (1 : Int64), .long v1.toInt64], hp I F)) rfl ⟨trivial, trivial, trivial, trivial, trivial⟩ ?_
  refine OK_cs [.long v1.toInt64, .long (1 : Int64), .long (40 : Int64)] [] okX10_seasonsRefused okX10_in rfl rfl cl_RX10_102 (Nat.le_of_ble_eq_true rfl) (by decide) (Nat.le_of_ble_eq_true rfl) (kf_X10_in v1.toInt64 (1 : Int64) (40 : Int64) I F) (fun r1661 I1662 F1663 => ?_)
  refine OK_st 1 okX10_seasonsRefused (S' := ((if ¬ r1661 = 0 then 15 else 12), [(0, .ref 49), (1, .int v1)], [], hp I1662 F1663)) rfl ⟨trivial, trivial⟩ ?_
  refine OK_if (fun h1664 => ?_) (fun h1664 => ?_)
  · refine OK_st 3 okX10_seasonsRefused (S' := ((if ¬ (I1662 22) = 0 then 27 else 22), [(0, .ref 49), (1, .int v1)], [], hp I1662 F1663)) rfl ⟨trivial, trivial, trivial, trivial⟩ ?_
    refine OK_if (fun h1665 => ?_) (fun h1665 => ?_)
    · refine OK_st 6 okX10_seasonsRefused (S' := ((if ((F1663 47) 19) ≤ (nI 9000) then 45 else 40), [(0, .ref 49), (1, .int v1)], [], hp I1662 F1663)) rfl ⟨trivial, trivial, trivial, (ab_vo (by decide)), trivial, trivial, trivial⟩ ?_
      refine OK_if (fun h1666 => ?_) (fun h1666 => ?_)
      · refine OK_st 1 okX10_seasonsRefused (S' := (46, [(0, .ref 49), (1, .int v1)], [.int (0 : Int32)], hp I1662 F1663)) rfl ⟨trivial, trivial⟩ ?_
        exact OK_ri okX10_seasonsRefused rfl rfl (Or.inl rfl)
      · refine OK_st 2 okX10_seasonsRefused (S' := (46, [(0, .ref 49), (1, .int v1)], [.int (-1000000004 : Int32)], hp I1662 F1663)) rfl ⟨trivial, trivial, trivial⟩ ?_
        exact OK_ri okX10_seasonsRefused rfl rfl (Or.inl rfl)
    · refine OK_st 2 okX10_seasonsRefused (S' := (46, [(0, .ref 49), (1, .int v1)], [.int (-1000000003 : Int32)], hp I1662 F1663)) rfl ⟨trivial, trivial, trivial⟩ ?_
      exact OK_ri okX10_seasonsRefused rfl rfl (Or.inl rfl)
  · refine OK_st 1 okX10_seasonsRefused (S' := (14, [(0, .ref 49), (1, .int v1)], [.int (-1000000002 : Int32)], hp I1662 F1663)) rfl ⟨trivial, trivial⟩ ?_
    exact OK_ri okX10_seasonsRefused rfl rfl (Or.inl rfl)

def f_X10_remember_52 (ko : Int32 → AI → AF → AQ) : Nat → Int32 → AI → AF → AQ
  | 0, _, _, _ => none
  | n + 1, v1, I, F =>
    if (nI 22) ≤ v1 then
      ko v1 I F
    else
      bif ab_vin v1 22 then
        bif ab_vin (((nI 22) * (I 34)) + v1) 440 then
          ab_lt (va_up F 59 (upd (F 59) (((nI 22) * (I 34)) + v1).toNatClampNeg ((F 47) v1.toNatClampNeg))) (fun F1675 =>
            f_X10_remember_52 ko n (v1 + (1 : Int32)) I F1675)
        else none
      else none
set_option maxRecDepth 20000 in
set_option maxHeartbeats 4000000 in
theorem kf_X10_remember_52 (ko : Int32 → AI → AF → AQ) (hko : ∀ v1 I F, OK 0 mX10_remember false (ko v1 I F) (84, [(0, .ref 49), (1, .int v1)], [], hp I F)) : ∀ n v1 I F, OK 0 mX10_remember false (f_X10_remember_52 ko n v1 I F) (52, [(0, .ref 49), (1, .int v1)], [], hp I F) := by
  intro n
  induction n with
  | zero =>
    intro v1 I F
    exact OK_no
  | succ n ih =>
    intro v1 I F
    rw [f_X10_remember_52]
    refine OK_st 3 okX10_remember (S' := ((if (nI 22) ≤ v1 then 84 else 58), [(0, .ref 49), (1, .int v1)], [], hp I F)) rfl ⟨trivial, trivial, trivial, trivial⟩ ?_
    refine OK_if (fun h1672 => ?_) (fun h1672 => ?_)
    · exact hko v1 I F
    · refine OK_gd (fun g1673 => ?_)
      refine OK_gd (fun g1674 => ?_)
      refine OK_st 15 okX10_remember (S' := (52, [(1, .int (v1 + (1 : Int32))), (0, .ref 49)], [], hp I (va_up F 59 (upd (F 59) (((nI 22) * (I 34)) + v1).toNatClampNeg ((F 47) v1.toNatClampNeg))))) rfl ⟨trivial, trivial, trivial, trivial, trivial, trivial, trivial, trivial, trivial, trivial, trivial, (ab_vo g1673), (ab_vo g1674), (by decide), trivial, trivial⟩ ?_
      refine OK_lt (fun F1675 => (52, [(1, .int (v1 + (1 : Int32))), (0, .ref 49)], [], hp I F1675)) (fun F1675 => ?_)
      refine OK_pk [1, 0] rfl ?_
      exact ih (v1 + (1 : Int32)) I F1675

def f_X10_remember_12 (ko : Int32 → AI → AF → AQ) : Nat → Int32 → AI → AF → AQ
  | 0, _, _, _ => none
  | n + 1, v1, I, F =>
    if (nI 440) ≤ v1 then
      ko v1 I F
    else
      bif ab_vin v1 440 then
        bif ab_vin (v1 - (nI 22)) 440 then
          ab_lt (va_up F 59 (upd (F 59) (v1 - (nI 22)).toNatClampNeg ((F 59) v1.toNatClampNeg))) (fun F1682 =>
            f_X10_remember_12 ko n (v1 + (1 : Int32)) I F1682)
        else none
      else none
set_option maxRecDepth 20000 in
set_option maxHeartbeats 4000000 in
theorem kf_X10_remember_12 (ko : Int32 → AI → AF → AQ) (hko : ∀ v1 I F, OK 0 mX10_remember false (ko v1 I F) (40, [(0, .ref 49), (1, .int v1)], [], hp I F)) : ∀ n v1 I F, OK 0 mX10_remember false (f_X10_remember_12 ko n v1 I F) (12, [(0, .ref 49), (1, .int v1)], [], hp I F) := by
  intro n
  induction n with
  | zero =>
    intro v1 I F
    exact OK_no
  | succ n ih =>
    intro v1 I F
    rw [f_X10_remember_12]
    refine OK_st 3 okX10_remember (S' := ((if (nI 440) ≤ v1 then 40 else 19), [(0, .ref 49), (1, .int v1)], [], hp I F)) rfl ⟨trivial, trivial, trivial, trivial⟩ ?_
    refine OK_if (fun h1679 => ?_) (fun h1679 => ?_)
    · exact hko v1 I F
    · refine OK_gd (fun g1680 => ?_)
      refine OK_gd (fun g1681 => ?_)
      refine OK_st 12 okX10_remember (S' := (12, [(1, .int (v1 + (1 : Int32))), (0, .ref 49)], [], hp I (va_up F 59 (upd (F 59) (v1 - (nI 22)).toNatClampNeg ((F 59) v1.toNatClampNeg))))) rfl ⟨trivial, trivial, trivial, trivial, trivial, trivial, trivial, trivial, (ab_vo g1680), (ab_vo g1681), (by decide), trivial, trivial⟩ ?_
      refine OK_lt (fun F1682 => (12, [(1, .int (v1 + (1 : Int32))), (0, .ref 49)], [], hp I F1682)) (fun F1682 => ?_)
      refine OK_pk [1, 0] rfl ?_
      exact ih (v1 + (1 : Int32)) I F1682
