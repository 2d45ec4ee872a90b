/-! methods as functions (by program) -/
def f_X10_takeRead_74 (ko : Int32 → AI → AF → AQ) : Nat → Int32 → AI → AF → AQ
  | 0, _, _, _ => none
  | n + 1, v1, I, F =>
    if (6 : Int32) ≤ v1 then
      ko v1 I F
    else
      if (I 22) ≤ v1 then
        bif ab_vin v1 6 then
          bif ab_vin ((12 : Int32) + v1) 22 then
            ab_lt (va_up (va_up F 39 (upd (F 39) v1.toNatClampNeg (-1 : Int32))) 47 (upd (F 47) ((12 : Int32) + v1).toNatClampNeg (-1 : Int32))) (fun F1493 =>
              f_X10_takeRead_74 ko n (v1 + (1 : Int32)) I F1493)
          else none
        else none
      else
        bif ab_vin v1 6 then
          bif ab_vin v1 6 then
            bif ab_vin ((12 : Int32) + v1) 22 then
              ab_lt (va_up (va_up F 39 (upd (F 39) v1.toNatClampNeg ((F 51) v1.toNatClampNeg))) 47 (upd (F 47) ((12 : Int32) + v1).toNatClampNeg (-1 : Int32))) (fun F1497 =>
                f_X10_takeRead_74 ko n (v1 + (1 : Int32)) I F1497)
            else none
          else none
        else none
set_option maxRecDepth 20000 in
set_option maxHeartbeats 4000000 in
theorem kf_X10_takeRead_74 (ko : Int32 → AI → AF → AQ) (hko : ∀ v1 I F, OK 0 mX10_takeRead false (ko v1 I F) (120, [(0, .ref 49), (1, .int v1)], [], hp I F)) : ∀ n v1 I F, OK 0 mX10_takeRead false (f_X10_takeRead_74 ko n v1 I F) (74, [(0, .ref 49), (1, .int v1)], [], hp I F) := by
  intro n
  induction n with
  | zero =>
    intro v1 I F
    exact OK_no
  | succ n ih =>
    intro v1 I F
    rw [f_X10_takeRead_74]
    refine OK_st 3 okX10_takeRead (S' := ((if (6 : Int32) ≤ v1 then 120 else 80), [(0, .ref 49), (1, .int v1)], [], hp I F)) rfl ⟨trivial, trivial, trivial, trivial⟩ ?_
    refine OK_if (fun h1489 => ?_) (fun h1489 => ?_)
    · exact hko v1 I F
    · refine OK_st 7 okX10_takeRead (S' := ((if (I 22) ≤ v1 then 102 else 93), [(0, .ref 49), (1, .int v1)], [.int v1, .ref 51], hp I F)) rfl ⟨trivial, trivial, trivial, trivial, trivial, trivial, trivial, trivial⟩ ?_
      refine OK_if (fun h1490 => ?_) (fun h1490 => ?_)
      · refine OK_gd (fun g1491 => ?_)
        refine OK_gd (fun g1492 => ?_)
        refine OK_st 11 okX10_takeRead (S' := (74, [(1, .int (v1 + (1 : Int32))), (0, .ref 49)], [], hp I (va_up (va_up F 39 (upd (F 39) v1.toNatClampNeg (-1 : Int32))) 47 (upd (F 47) ((12 : Int32) + v1).toNatClampNeg (-1 : Int32))))) rfl ⟨trivial, (ab_vo g1491), trivial, trivial, trivial, trivial, trivial, trivial, (ab_vo g1492), (by decide), trivial, trivial⟩ ?_
        refine OK_lt (fun F1493 => (74, [(1, .int (v1 + (1 : Int32))), (0, .ref 49)], [], hp I F1493)) (fun F1493 => ?_)
        refine OK_pk [1, 0] rfl ?_
        exact ih (v1 + (1 : Int32)) I F1493
      · refine OK_gd (fun g1494 => ?_)
        refine OK_gd (fun g1495 => ?_)
        refine OK_gd (fun g1496 => ?_)
        refine OK_st 15 okX10_takeRead (S' := (74, [(1, .int (v1 + (1 : Int32))), (0, .ref 49)], [], hp I (va_up (va_up F 39 (upd (F 39) v1.toNatClampNeg ((F 51) v1.toNatClampNeg))) 47 (upd (F 47) ((12 : Int32) + v1).toNatClampNeg (-1 : Int32))))) rfl ⟨trivial, trivial, trivial, (ab_vo g1494), trivial, (ab_vo g1495), trivial, trivial, trivial, trivial, trivial, trivial, (ab_vo g1496), (by decide), trivial, trivial⟩ ?_
        refine OK_lt (fun F1497 => (74, [(1, .int (v1 + (1 : Int32))), (0, .ref 49)], [], hp I F1497)) (fun F1497 => ?_)
        refine OK_pk [1, 0] rfl ?_
        exact ih (v1 + (1 : Int32)) I F1497

def f_X10_takeRead_122 (ko : Int32 → AI → AF → AQ) : Nat → Int32 → AI → AF → AQ
  | 0, _, _, _ => none
  | n + 1, v1, I, F =>
    if ((4 : Int32) * (I 22)) ≤ v1 then
      ko v1 I F
    else
      bif ab_vin v1 24 then
        bif ab_vin v1 24 then
          ab_lt (va_up F 38 (upd (F 38) v1.toNatClampNeg (((F 50) v1.toNatClampNeg) - (9 : Int32)))) (fun F1504 =>
            f_X10_takeRead_122 ko n (v1 + (1 : Int32)) I F1504)
        else none
      else none
set_option maxRecDepth 20000 in
set_option maxHeartbeats 4000000 in
theorem kf_X10_takeRead_122 (ko : Int32 → AI → AF → AQ) (hko : ∀ v1 I F, OK 0 mX10_takeRead false (ko v1 I F) (153, [(0, .ref 49), (1, .int v1)], [], hp I F)) : ∀ n v1 I F, OK 0 mX10_takeRead false (f_X10_takeRead_122 ko n v1 I F) (122, [(0, .ref 49), (1, .int v1)], [], hp I F) := by
  intro n
  induction n with
  | zero =>
    intro v1 I F
    exact OK_no
  | succ n ih =>
    intro v1 I F
    rw [f_X10_takeRead_122]
    refine OK_st 6 okX10_takeRead (S' := ((if ((4 : Int32) * (I 22)) ≤ v1 then 153 else 132), [(0, .ref 49), (1, .int v1)], [], hp I F)) rfl ⟨trivial, trivial, trivial, trivial, trivial, trivial, trivial⟩ ?_
    refine OK_if (fun h1501 => ?_) (fun h1501 => ?_)
    · exact hko v1 I F
    · refine OK_gd (fun g1502 => ?_)
      refine OK_gd (fun g1503 => ?_)
      refine OK_st 12 okX10_takeRead (S' := (122, [(1, .int (v1 + (1 : Int32))), (0, .ref 49)], [], hp I (va_up F 38 (upd (F 38) v1.toNatClampNeg (((F 50) v1.toNatClampNeg) - (9 : Int32)))))) rfl ⟨trivial, trivial, trivial, trivial, trivial, trivial, (ab_vo g1502), trivial, trivial, (ab_vo g1503), (by decide), trivial, trivial⟩ ?_
      refine OK_lt (fun F1504 => (122, [(1, .int (v1 + (1 : Int32))), (0, .ref 49)], [], hp I F1504)) (fun F1504 => ?_)
      refine OK_pk [1, 0] rfl ?_
      exact ih (v1 + (1 : Int32)) I F1504

def f_X10_takeRead_194 (ko : Int32 → AI → AF → AQ) : Nat → Int32 → AI → AF → AQ
  | 0, _, _, _ => none
  | n + 1, v1, I, F =>
    if (I 23) ≤ v1 then
      ko v1 I F
    else
      bif ab_vin v1 6 then
        bif ab_vin v1 6 then
          bif ab_vin v1 6 then
            bif ab_vin v1 6 then
              bif ab_vin v1 6 then
                bif ab_vin v1 6 then
                  ab_lt (va_up (va_up (va_up F 40 (upd (F 40) v1.toNatClampNeg ((F 52) v1.toNatClampNeg))) 41 (upd (F 41) v1.toNatClampNeg ((F 53) v1.toNatClampNeg))) 42 (upd (F 42) v1.toNatClampNeg ((F 54) v1.toNatClampNeg))) (fun F1516 =>
                    f_X10_takeRead_194 ko n (v1 + (1 : Int32)) I F1516)
                else none
              else none
            else none
          else none
        else none
      else none
set_option maxRecDepth 20000 in
set_option maxHeartbeats 4000000 in
theorem kf_X10_takeRead_194 (ko : Int32 → AI → AF → AQ) (hko : ∀ v1 I F, OK 0 mX10_takeRead false (ko v1 I F) (244, [(0, .ref 49), (1, .int v1)], [], hp I F)) : ∀ n v1 I F, OK 0 mX10_takeRead false (f_X10_takeRead_194 ko n v1 I F) (194, [(0, .ref 49), (1, .int v1)], [], hp I F) := by
  intro n
  induction n with
  | zero =>
    intro v1 I F
    exact OK_no
  | succ n ih =>
    intro v1 I F
    rw [f_X10_takeRead_194]
    refine OK_st 4 okX10_takeRead (S' := ((if (I 23) ≤ v1 then 244 else 202), [(0, .ref 49), (1, .int v1)], [], hp I F)) rfl ⟨trivial, trivial, trivial, trivial, trivial⟩ ?_
    refine OK_if (fun h1509 => ?_) (fun h1509 => ?_)
    · exact hko v1 I F
    · refine OK_gd (fun g1510 => ?_)
      refine OK_gd (fun g1511 => ?_)
      refine OK_gd (fun g1512 => ?_)
      refine OK_gd (fun g1513 => ?_)
      refine OK_gd (fun g1514 => ?_)
      refine OK_gd (fun g1515 => ?_)
      refine OK_st 26 okX10_takeRead (S' := (194, [(1, .int (v1 + (1 : Int32))), (0, .ref 49)], [], hp I (va_up (va_up (va_up F 40 (upd (F 40) v1.toNatClampNeg ((F 52) v1.toNatClampNeg))) 41 (upd (F 41) v1.toNatClampNeg ((F 53) v1.toNatClampNeg))) 42 (upd (F 42) v1.toNatClampNeg ((F 54) v1.toNatClampNeg))))) rfl ⟨trivial, trivial, trivial, trivial, trivial, trivial, (ab_vo g1510), (ab_vo g1511), trivial, trivial, trivial, trivial, trivial, trivial, (ab_vo g1512), (ab_vo g1513), trivial, trivial, trivial, trivial, trivial, trivial, (ab_vo g1514), (ab_vo g1515), (by decide), trivial, trivial⟩ ?_
      refine OK_lt (fun F1516 => (194, [(1, .int (v1 + (1 : Int32))), (0, .ref 49)], [], hp I F1516)) (fun F1516 => ?_)
      refine OK_pk [1, 0] rfl ?_
      exact ih (v1 + (1 : Int32)) I F1516

def f_X10_takeRead_246 (ko : Int32 → AI → AF → AQ) : Nat → Int32 → AI → AF → AQ
  | 0, _, _, _ => none
  | n + 1, v1, I, F =>
    if (I 24) ≤ v1 then
      ko v1 I F
    else
      bif ab_vin v1 8 then
        bif ab_vin v1 8 then
          bif ab_vin v1 8 then
            bif ab_vin v1 8 then
              bif ab_vin v1 8 then
                bif ab_vin v1 8 then
                  bif ab_vin v1 8 then
                    bif ab_vin v1 8 then
                      ab_lt (va_up (va_up (va_up (va_up F 43 (upd (F 43) v1.toNatClampNeg ((F 55) v1.toNatClampNeg))) 44 (upd (F 44) v1.toNatClampNeg ((F 56) v1.toNatClampNeg))) 45 (upd (F 45) v1.toNatClampNeg ((F 57) v1.toNatClampNeg))) 46 (upd (F 46) v1.toNatClampNeg ((F 58) v1.toNatClampNeg))) (fun F1529 =>
                        f_X10_takeRead_246 ko n (v1 + (1 : Int32)) I F1529)
                    else none
                  else none
                else none
              else none
            else none
          else none
        else none
      else none
set_option maxRecDepth 20000 in
set_option maxHeartbeats 4000000 in
theorem kf_X10_takeRead_246 (ko : Int32 → AI → AF → AQ) (hko : ∀ v1 I F, OK 0 mX10_takeRead false (ko v1 I F) (308, [(0, .ref 49), (1, .int v1)], [], hp I F)) : ∀ n v1 I F, OK 0 mX10_takeRead false (f_X10_takeRead_246 ko n v1 I F) (246, [(0, .ref 49), (1, .int v1)], [], hp I F) := by
  intro n
  induction n with
  | zero =>
    intro v1 I F
    exact OK_no
  | succ n ih =>
    intro v1 I F
    rw [f_X10_takeRead_246]
    refine OK_st 4 okX10_takeRead (S' := ((if (I 24) ≤ v1 then 308 else 254), [(0, .ref 49), (1, .int v1)], [], hp I F)) rfl ⟨trivial, trivial, trivial, trivial, trivial⟩ ?_
    refine OK_if (fun h1520 => ?_) (fun h1520 => ?_)
    · exact hko v1 I F
    · refine OK_gd (fun g1521 => ?_)
      refine OK_gd (fun g1522 => ?_)
      refine OK_gd (fun g1523 => ?_)
      refine OK_gd (fun g1524 => ?_)
      refine OK_gd (fun g1525 => ?_)
      refine OK_gd (fun g1526 => ?_)
      refine OK_gd (fun g1527 => ?_)
      refine OK_gd (fun g1528 => ?_)
      refine OK_st 34 okX10_takeRead (S' := (246, [(1, .int (v1 + (1 : Int32))), (0, .ref 49)], [], hp I (va_up (va_up (va_up (va_up F 43 (upd (F 43) v1.toNatClampNeg ((F 55) v1.toNatClampNeg))) 44 (upd (F 44) v1.toNatClampNeg ((F 56) v1.toNatClampNeg))) 45 (upd (F 45) v1.toNatClampNeg ((F 57) v1.toNatClampNeg))) 46 (upd (F 46) v1.toNatClampNeg ((F 58) v1.toNatClampNeg))))) rfl ⟨trivial, trivial, trivial, trivial, trivial, trivial, (ab_vo g1521), (ab_vo g1522), trivial, trivial, trivial, trivial, trivial, trivial, (ab_vo g1523), (ab_vo g1524), trivial, trivial, trivial, trivial, trivial, trivial, (ab_vo g1525), (ab_vo g1526), trivial, trivial, trivial, trivial, trivial, trivial, (ab_vo g1527), (ab_vo g1528), (by decide), trivial, trivial⟩ ?_
      refine OK_lt (fun F1529 => (246, [(1, .int (v1 + (1 : Int32))), (0, .ref 49)], [], hp I F1529)) (fun F1529 => ?_)
      refine OK_pk [1, 0] rfl ?_
      exact ih (v1 + (1 : Int32)) I F1529

def f_X10_takeRead (I : AI) (F : AF) : AQ :=
  ab_lt (va_up (va_up (va_up I 22 (I 31)) 23 (I 32)) 24 (I 33)) (fun I1475 =>
    f_X10_takeRead_26 (fun v1_1486 I1487 F1488 =>
      f_X10_takeRead_74 (fun v1_1498 I1499 F1500 =>
        f_X10_takeRead_122 (fun v1_1505 I1506 F1507 =>
          ab_lt (va_up (va_up (va_up (va_up F1507 47 (upd (F1507 47) 18 (((1 : Int32) <<< ((I1506 22) &&& 31)) - (1 : Int32)))) 47 (upd upd (F1507 47) 18 (((1 : Int32) <<< ((I1506 22) &&& 31)) - (1 : Int32)) 19 (0 : Int32))) 47 (upd upd upd (F1507 47) 18 (((1 : Int32) <<< ((I1506 22) &&& 31)) - (1 : Int32)) 19 (0 : Int32) 20 (0 : Int32))) 47 (upd upd upd upd (F1507 47) 18 (((1 : Int32) <<< ((I1506 22) &&& 31)) - (1 : Int32)) 19 (0 : Int32) 20 (0 : Int32) 21 (0 : Int32))) (fun F1508 =>
            f_X10_takeRead_194 (fun v1_1517 I1518 F1519 =>
              f_X10_takeRead_246 (fun v1_1530 I1531 F1532 =>
                some (0, I1531, F1532)) ab_fu (0 : Int32) I1518 F1519) ab_fu (0 : Int32) I1506 F1508)) ab_fu (0 : Int32) I1499 F1500) ab_fu (0 : Int32) I1487 F1488) ab_fu (0 : Int32) I1475 F)
set_option maxRecDepth 20000 in
set_option maxHeartbeats 4000000 in
theorem kf_X10_takeRead (I : AI) (F : AF) : OK 0 mX10_takeRead false (f_X10_takeRead I F) (0, [(0, .ref 49)], [], hp I F) := by
  rw [f_X10_takeRead]
  refine OK_st 14 okX10_takeRead (S' := (26, [(1, .int (0 : Int32)), (0, .ref 49)], [], hp (va_up (va_up (va_up I 22 (I 31)) 23 (I 32)) 24 (I 33)) F)) rfl ⟨trivial, trivial, trivial, trivial, trivial, trivial, trivial, trivial, trivial, trivial, trivial, trivial, trivial, (by decide), trivial⟩ ?_
  refine OK_lt (fun I1475 => (26, [(1, .int (0 : Int32)), (0, .ref 49)], [], hp I1475 F)) (fun I1475 => ?_)
  refine OK_pk [1, 0] rfl ?_
  refine kf_X10_takeRead_26 _ (fun v1_1486 I1487 F1488 => ?_) ab_fu (0 : Int32) I1475 F
  refine OK_st 2 okX10_takeRead (S' := (74, [(1, .int (0 : Int32)), (0, .ref 49)], [], hp I1487 F1488)) rfl ⟨trivial, (by decide), trivial⟩ ?_
  refine OK_pk [1, 0] rfl ?_
  refine kf_X10_takeRead_74 _ (fun v1_1498 I1499 F1500 => ?_) ab_fu (0 : Int32) I1487 F1488
  refine OK_st 2 okX10_takeRead (S' := (122, [(1, .int (0 : Int32)), (0, .ref 49)], [], hp I1499 F1500)) rfl ⟨trivial, (by decide), trivial⟩ ?_
  refine OK_pk [1, 0] rfl ?_
  refine kf_X10_takeRead_122 _ (fun v1_1505 I1506 F1507 => ?_) ab_fu (0 : Int32) I1499 F1500
  refine OK_st 27 okX10_takeRead (S' := (194, [(1, .int (0 : Int32)), (0, .ref 49)], [], hp I1506 (va_up (va_up (va_up (va_up F1507 47 (upd (F1507 47) 18 (((1 : Int32) <<< ((I1506 22) &&& 31)) - (1 : Int32)))) 47 (upd upd (F1507 47) 18 (((1 : Int32) <<< ((I1506 22) &&& 31)) - (1 : Int32)) 19 (0 : Int32))) 47 (upd upd upd (F1507 47) 18 (((1 : Int32) <<< ((I1506 22) &&& 31)) - (1 : Int32)) 19 (0 : Int32) 20 (0 : Int32))) 47 (upd upd upd upd (F1507 47) 18 (((1 : Int32) <<< ((I1506 22) &&& 31)) - (1 : Int32)) 19 (0 : Int32) 20 (0 : Int32) 21 (0 : Int32))))) rfl ⟨trivial, trivial, trivial, trivial, trivial, trivial, trivial, trivial, trivial, (ab_vo (by decide)), trivial, trivial, trivial, trivial, (ab_vo (by decide)), trivial, trivial, trivial, trivial, (ab_vo (by decide)), trivial, trivial, trivial, trivial, (ab_vo (by decide)), trivial, (by decide), trivial⟩ ?_
  refine OK_lt (fun F1508 => (194, [(1, .int (0 : Int32)), (0, .ref 49)], [], hp I1506 F1508)) (fun F1508 => ?_)
  refine OK_pk [1, 0] rfl ?_
  refine kf_X10_takeRead_194 _ (fun v1_1517 I1518 F1519 => ?_) ab_fu (0 : Int32) I1506 F1508
  refine OK_st 2 okX10_takeRead (S' := (246, [(1, .int (0 : Int32)), (0, .ref 49)], [], hp I1518 F1519)) rfl ⟨trivial, (by decide), trivial⟩ ?_
  refine OK_pk [1, 0] rfl ?_
  refine kf_X10_takeRead_246 _ (fun v1_1530 I1531 F1532 => ?_) ab_fu (0 : Int32) I1518 F1519
  exact OK_rv okX10_takeRead rfl rfl rfl

def f_X10_port_j46 (v1 : Int32) (I : AI) (F : AF) : AQ :=
  ab_lt (va_up I 26 (0 : Int32)) (fun I1473 =>
    if v1 ≤ 0 then
      ab_bd (f_X10_takeRead I1473 F) (fun r1533 I1534 F1535 =>
        some ((I1534 22), (va_up (va_up (va_up I1534 37 (0 : Int32)) 38 (0 : Int32)) 34 (0 : Int32)), (va_up (va_up F1535 65 (upd (F1535 65) 0 (0 : Int32))) 65 (upd upd (F1535 65) 0 (0 : Int32) 1 (0 : Int32)))))
    else
      some (((-10 : Int32) - v1), I1473, F))
set_option maxRecDepth 20000 in
set_option maxHeartbeats 4000000 in
theorem kf_X10_port_j46 (v1 : Int32) (I : AI) (F : AF) : OK 5 mX10_port true (f_X10_port_j46 v1 I F) (46, [(0, .ref 49), (1, .int v1)], [], hp I F) := by
  rw [f_X10_port_j46]
  refine OK_st 5 okX10_port (S' := ((if v1 ≤ 0 then 60 else 55), [(0, .ref 49), (1, .int v1)], [], hp (va_up I 26 (0 : Int32)) F)) rfl ⟨trivial, trivial, trivial, trivial, trivial, trivial⟩ ?_
  refine OK_lt (fun I1473 => ((if v1 ≤ 0 then 60 else 55), [(0, .ref 49), (1, .int v1)], [], hp I1473 F)) (fun I1473 => ?_)
  refine OK_if (fun h1474 => ?_) (fun h1474 => ?_)
  · refine OK_st 1 okX10_port (S' := (61, [(0, .ref 49), (1, .int v1)], [.ref 49], hp I1473 F)) rfl ⟨trivial, trivial⟩ ?_
    refine OK_cv [] [] okX10_port okX10_takeRead rfl rfl cl_RX10_175 rfl rfl (Nat.le_of_ble_eq_true rfl) (by decide) (Nat.le_of_ble_eq_true rfl) (kf_X10_takeRead I1473 F) (fun r1533 I1534 F1535 => ?_)
    refine OK_st 21 okX10_port (S' := (97, [(0, .ref 49), (1, .int v1)], [.int (I1534 22)], hp (va_up (va_up (va_up I1534 37 (0 : Int32)) 38 (0 : Int32)) 34 (0 : Int32)) (va_up (va_up F1535 65 (upd (F1535 65) 0 (0 : Int32))) 65 (upd upd (F1535 65) 0 (0 : Int32) 1 (0 : Int32))))) rfl ⟨trivial, trivial, trivial, trivial, trivial, trivial, trivial, trivial, trivial, trivial, trivial, trivial, trivial, ⟨(ab_vo (by decide)), Or.inl rfl⟩, trivial, trivial, trivial, trivial, ⟨(ab_vo (by decide)), Or.inl rfl⟩, trivial, trivial, trivial⟩ ?_
    exact OK_ri okX10_port rfl rfl (Or.inl rfl)
  · refine OK_st 3 okX10_port (S' := (59, [(0, .ref 49), (1, .int v1)], [.int ((-10 : Int32) - v1)], hp I1473 F)) rfl ⟨trivial, trivial, trivial, trivial⟩ ?_
    exact OK_ri okX10_port rfl rfl (Or.inl rfl)

def f_X10_port (I : AI) (F : AF) : AQ :=
  ab_lt (va_up (va_up (va_up (va_up (va_up I 27 (-1 : Int32)) 28 (0 : Int32)) 31 (0 : Int32)) 32 (0 : Int32)) 33 (0 : Int32)) (fun I1253 =>
    f_X10_port_27 (fun v1_1470 I1471 F1472 =>
      f_X10_port_j46 v1_1470 I1471 F1472) ab_fu (0 : Int32) I1253 F)
set_option maxRecDepth 20000 in
set_option maxHeartbeats 4000000 in
theorem kf_X10_port (I : AI) (F : AF) : OK 5 mX10_port true (f_X10_port I F) (0, [(0, .ref 49)], [], hp I F) := by
  rw [f_X10_port]
  refine OK_st 17 okX10_port (S' := (27, [(1, .int (0 : Int32)), (0, .ref 49)], [], hp (va_up (va_up (va_up (va_up (va_up I 27 (-1 : Int32)) 28 (0 : Int32)) 31 (0 : Int32)) 32 (0 : Int32)) 33 (0 : Int32)) F)) rfl ⟨trivial, trivial, trivial, trivial, trivial, trivial, trivial, trivial, trivial, trivial, trivial, trivial, trivial, trivial, trivial, trivial, (by decide), trivial⟩ ?_
  refine OK_lt (fun I1253 => (27, [(1, .int (0 : Int32)), (0, .ref 49)], [], hp I1253 F)) (fun I1253 => ?_)
  refine OK_pk [1, 0] rfl ?_
  refine kf_X10_port_27 _ (fun v1_1470 I1471 F1472 => ?_) ab_fu (0 : Int32) I1253 F
  exact kf_X10_port_j46 v1_1470 I1471 F1472

def f_X10_fault (I : AI) (F : AF) : AQ :=
  some ((I 27), I, F)
set_option maxRecDepth 20000 in
set_option maxHeartbeats 4000000 in
theorem kf_X10_fault (I : AI) (F : AF) : OK 0 mX10_fault true (f_X10_fault I F) (0, [(0, .ref 49)], [], hp I F) := by
  rw [f_X10_fault]
  refine OK_st 2 okX10_fault (S' := (4, [(0, .ref 49)], [.int (I 27)], hp I F)) rfl ⟨trivial, trivial, trivial⟩ ?_
  exact OK_ri okX10_fault rfl rfl (Or.inl rfl)

def f_X10_copied_4 (ko : Int32 → Int32 → AI → AF → AQ) : Nat → Int32 → Int32 → AI → AF → AQ
  | 0, _, _, _, _ => none
  | n + 1, v1, v2, I, F =>
    if (I 22) ≤ v2 then
      ko v1 v2 I F
    else
      bif ab_vin ((6 : Int32) + v2) 22 then
        if ((F 47) ((6 : Int32) + v2).toNatClampNeg) < 0 then
          f_X10_copied_4 ko n (v1 ||| (0 : Int32)) (v2 + (1 : Int32)) I F
        else
          ab_lt (v1 ||| ((1 : Int32) <<< (v2 &&& 31))) (fun x1546 =>
            f_X10_copied_4 ko n x1546 (v2 + (1 : Int32)) I F)
      else none
set_option maxRecDepth 20000 in
set_option maxHeartbeats 4000000 in
theorem kf_X10_copied_4 (ko : Int32 → Int32 → AI → AF → AQ) (hko : ∀ v1 v2 I F, OK 0 mX10_copied true (ko v1 v2 I F) (40, [(0, .ref 49), (1, .int v1), (2, .int v2)], [], hp I F)) : ∀ n v1 v2 I F, OK 0 mX10_copied true (f_X10_copied_4 ko n v1 v2 I F) (4, [(0, .ref 49), (1, .int v1), (2, .int v2)], [], hp I F) := by
  intro n
  induction n with
  | zero =>
    intro v1 v2 I F
    exact OK_no
  | succ n ih =>
    intro v1 v2 I F
    rw [f_X10_copied_4]
    refine OK_st 4 okX10_copied (S' := ((if (I 22) ≤ v2 then 40 else 12), [(0, .ref 49), (1, .int v1), (2, .int v2)], [], hp I F)) rfl ⟨trivial, trivial, trivial, trivial, trivial⟩ ?_
    refine OK_if (fun h1543 => ?_) (fun h1543 => ?_)
    · exact hko v1 v2 I F
    · refine OK_gd (fun g1544 => ?_)
      refine OK_st 8 okX10_copied (S' := ((if ((F 47) ((6 : Int32) + v2).toNatClampNeg) < 0 then 31 else 25), [(0, .ref 49), (1, .int v1), (2, .int v2)], [.int v1], hp I F)) rfl ⟨trivial, trivial, trivial, trivial, trivial, trivial, (ab_vo g1544), trivial, trivial⟩ ?_
      refine OK_if (fun h1545 => ?_) (fun h1545 => ?_)
      · refine OK_st 5 okX10_copied (S' := (4, [(2, .int (v2 + (1 : Int32))), (1, .int (v1 ||| (0 : Int32))), (0, .ref 49)], [], hp I F)) rfl ⟨trivial, trivial, (by decide), (by decide), trivial, trivial⟩ ?_
        refine OK_pk [2, 1, 0] rfl ?_
        exact ih (v1 ||| (0 : Int32)) (v2 + (1 : Int32)) I F
      · refine OK_st 6 okX10_copied (S' := (34, [(1, .int (v1 ||| ((1 : Int32) <<< (v2 &&& 31)))), (0, .ref 49), (2, .int v2)], [], hp I F)) rfl ⟨trivial, trivial, trivial, trivial, trivial, (by decide), trivial⟩ ?_
        refine OK_lt (fun x1546 => (34, [(1, .int x1546), (0, .ref 49), (2, .int v2)], [], hp I F)) (fun x1546 => ?_)
        refine OK_st 2 okX10_copied (S' := (4, [(2, .int (v2 + (1 : Int32))), (1, .int x1546), (0, .ref 49)], [], hp I F)) rfl ⟨(by decide), trivial, trivial⟩ ?_
        refine OK_pk [2, 1, 0] rfl ?_
        exact ih x1546 (v2 + (1 : Int32)) I F

def f_X10_copied (I : AI) (F : AF) : AQ :=
  f_X10_copied_4 (fun v1_1547 v2_1548 I1549 F1550 =>
    some (v1_1547, I1549, F1550)) ab_fu (0 : Int32) (0 : Int32) I F
set_option maxRecDepth 20000 in
set_option maxHeartbeats 4000000 in
theorem kf_X10_copied (I : AI) (F : AF) : OK 0 mX10_copied true (f_X10_copied I F) (0, [(0, .ref 49)], [], hp I F) := by
  rw [f_X10_copied]
  refine OK_st 4 okX10_copied (S' := (4, [(2, .int (0 : Int32)), (1, .int (0 : Int32)), (0, .ref 49)], [], hp I F)) rfl ⟨trivial, (by decide), trivial, (by decide), trivial⟩ ?_
  refine OK_pk [2, 1, 0] rfl ?_
  refine kf_X10_copied_4 _ (fun v1_1547 v2_1548 I1549 F1550 => ?_) ab_fu (0 : Int32) (0 : Int32) I F
  refine OK_st 1 okX10_copied (S' := (41, [(0, .ref 49), (1, .int v1_1547), (2, .int v2_1548)], [.int v1_1547], hp I1549 F1550)) rfl ⟨trivial, trivial⟩ ?_
  exact OK_ri okX10_copied rfl rfl (Or.inl rfl)

def f_X10_told (v1 : Int32) (I : AI) (F : AF) : AQ :=
  if v1 = (0 : Int32) then
    some ((I 22), I, F)
  else if v1 = (1 : Int32) then
    some ((I 23), I, F)
  else if v1 = (2 : Int32) then
    some ((I 24), I, F)
  else if v1 = (3 : Int32) then
    some ((I 26), I, F)
  else if v1 = (4 : Int32) then
    some (((F 47) 19), I, F)
  else if v1 = (5 : Int32) then
    some (((F 47) 18), I, F)
  else if v1 = (6 : Int32) then
    ab_bd (f_X10_copied I F) (fun r1551 I1552 F1553 =>
      some (r1551, I1552, F1553))
  else if v1 = (7 : Int32) then
    some (((F 47) 20), I, F)
  else if v1 = (8 : Int32) then
    some (((F 47) 21), I, F)
  else if v1 = (9 : Int32) then
    some ((I 37), I, F)
  else if v1 = (10 : Int32) then
    some ((I 38), I, F)
  else if v1 = (11 : Int32) then
    some ((I 34), I, F)
  else 
    some ((-1000000002 : Int32), I, F)
set_option maxRecDepth 20000 in
set_option maxHeartbeats 4000000 in
theorem kf_X10_told (v1 : Int32) (I : AI) (F : AF) : OK 1 mX10_told true (f_X10_told v1 I F) (0, [(0, .ref 49), (1, .int v1)], [], hp I F) := by
  rw [f_X10_told]
  refine OK_st 1 okX10_told (S' := (1, [(0, .ref 49), (1, .int v1)], [.int v1], hp I F)) rfl ⟨trivial, trivial⟩ ?_
  refine OK_ci (fun h1536 => ?_) (fun h1536 => ?_)
  · subst h1536
    refine OK_st 1 okX10_told (S' := (64, [(0, .ref 49), (1, .int (0 : Int32))], [], hp I F)) rfl ⟨trivial, trivial⟩ ?_
    refine OK_st 2 okX10_told (S' := (68, [(0, .ref 49), (1, .int (0 : Int32))], [.int (I 22)], hp I F)) rfl ⟨trivial, trivial, trivial⟩ ?_
    exact OK_ri okX10_told rfl rfl (Or.inl rfl)
  · skip
    refine OK_ci (fun h1537 => ?_) (fun h1537 => ?_)
    · subst h1537
      refine OK_st 1 okX10_told (S' := (69, [(0, .ref 49), (1, .int (1 : Int32))], [], hp I F)) rfl ⟨trivial, trivial⟩ ?_
      refine OK_st 2 okX10_told (S' := (73, [(0, .ref 49), (1, .int (1 : Int32))], [.int (I 23)], hp I F)) rfl ⟨trivial, trivial, trivial⟩ ?_
      exact OK_ri okX10_told rfl rfl (Or.inl rfl)
    · skip
      refine OK_ci (fun h1538 => ?_) (fun h1538 => ?_)
      · subst h1538
        refine OK_st 1 okX10_told (S' := (74, [(0, .ref 49), (1, .int (2 : Int32))], [], hp I F)) rfl ⟨trivial, trivial⟩ ?_
        refine OK_st 2 okX10_told (S' := (78, [(0, .ref 49), (1, .int (2 : Int32))], [.int (I 24)], hp I F)) rfl ⟨trivial, trivial, trivial⟩ ?_
        exact OK_ri okX10_told rfl rfl (Or.inl rfl)
      · skip
        refine OK_ci (fun h1539 => ?_) (fun h1539 => ?_)
        · subst h1539
          refine OK_st 1 okX10_told (S' := (79, [(0, .ref 49), (1, .int (3 : Int32))], [], hp I F)) rfl ⟨trivial, trivial⟩ ?_
          refine OK_st 2 okX10_told (S' := (83, [(0, .ref 49), (1, .int (3 : Int32))], [.int (I 26)], hp I F)) rfl ⟨trivial, trivial, trivial⟩ ?_
          exact OK_ri okX10_told rfl rfl (Or.inl rfl)
        · skip
          refine OK_ci (fun h1540 => ?_) (fun h1540 => ?_)
          · subst h1540
            refine OK_st 1 okX10_told (S' := (84, [(0, .ref 49), (1, .int (4 : Int32))], [], hp I F)) rfl ⟨trivial, trivial⟩ ?_
            refine OK_st 4 okX10_told (S' := (91, [(0, .ref 49), (1, .int (4 : Int32))], [.int ((F 47) 19)], hp I F)) rfl ⟨trivial, trivial, trivial, (ab_vo (by decide)), trivial⟩ ?_
            exact OK_ri okX10_told rfl rfl (Or.inl rfl)
          · skip
            refine OK_ci (fun h1541 => ?_) (fun h1541 => ?_)
            · subst h1541
              refine OK_st 1 okX10_told (S' := (92, [(0, .ref 49), (1, .int (5 : Int32))], [], hp I F)) rfl ⟨trivial, trivial⟩ ?_
              refine OK_st 4 okX10_told (S' := (99, [(0, .ref 49), (1, .int (5 : Int32))], [.int ((F 47) 18)], hp I F)) rfl ⟨trivial, trivial, trivial, (ab_vo (by decide)), trivial⟩ ?_
              exact OK_ri okX10_told rfl rfl (Or.inl rfl)
            · skip
              refine OK_ci (fun h1542 => ?_) (fun h1542 => ?_)
              · subst h1542
                refine OK_st 1 okX10_told (S' := (100, [(0, .ref 49), (1, .int (6 : Int32))], [], hp I F)) rfl ⟨trivial, trivial⟩ ?_
                refine OK_st 1 okX10_told (S' := (101, [(0, .ref 49), (1, .int (6 : Int32))], [.ref 49], hp I F)) rfl ⟨trivial, trivial⟩ ?_
                refine OK_cv [] [] okX10_told okX10_copied rfl rfl cl_RX10_187 rfl rfl (Nat.le_of_ble_eq_true rfl) (by decide) (Nat.le_of_ble_eq_true rfl) (kf_X10_copied I F) (fun r1551 I1552 F1553 => ?_)
                exact OK_ri okX10_told rfl rfl (Or.inl rfl)
              · skip
                refine OK_ci (fun h1554 => ?_) (fun h1554 => ?_)
                · subst h1554
                  refine OK_st 1 okX10_told (S' := (105, [(0, .ref 49), (1, .int (7 : Int32))], [], hp I F)) rfl ⟨trivial, trivial⟩ ?_
                  refine OK_st 4 okX10_told (S' := (112, [(0, .ref 49), (1, .int (7 : Int32))], [.int ((F 47) 20)], hp I F)) rfl ⟨trivial, trivial, trivial, (ab_vo (by decide)), trivial⟩ ?_
                  exact OK_ri okX10_told rfl rfl (Or.inl rfl)
                · skip
                  refine OK_ci (fun h1555 => ?_) (fun h1555 => ?_)
                  · subst h1555
                    refine OK_st 1 okX10_told (S' := (113, [(0, .ref 49), (1, .int (8 : Int32))], [], hp I F)) rfl ⟨trivial, trivial⟩ ?_
                    refine OK_st 4 okX10_told (S' := (120, [(0, .ref 49), (1, .int (8 : Int32))], [.int ((F 47) 21)], hp I F)) rfl ⟨trivial, trivial, trivial, (ab_vo (by decide)), trivial⟩ ?_
                    exact OK_ri okX10_told rfl rfl (Or.inl rfl)
                  · skip
                    refine OK_ci (fun h1556 => ?_) (fun h1556 => ?_)
                    · subst h1556
                      refine OK_st 1 okX10_told (S' := (121, [(0, .ref 49), (1, .int (9 : Int32))], [], hp I F)) rfl ⟨trivial, trivial⟩ ?_
                      refine OK_st 2 okX10_told (S' := (125, [(0, .ref 49), (1, .int (9 : Int32))], [.int (I 37)], hp I F)) rfl ⟨trivial, trivial, trivial⟩ ?_
                      exact OK_ri okX10_told rfl rfl (Or.inl rfl)
                    · skip
                      refine OK_ci (fun h1557 => ?_) (fun h1557 => ?_)
                      · subst h1557
                        refine OK_st 1 okX10_told (S' := (126, [(0, .ref 49), (1, .int (10 : Int32))], [], hp I F)) rfl ⟨trivial, trivial⟩ ?_
                        refine OK_st 2 okX10_told (S' := (130, [(0, .ref 49), (1, .int (10 : Int32))], [.int (I 38)], hp I F)) rfl ⟨trivial, trivial, trivial⟩ ?_
                        exact OK_ri okX10_told rfl rfl (Or.inl rfl)
                      · skip
                        refine OK_ci (fun h1558 => ?_) (fun h1558 => ?_)
                        · subst h1558
                          refine OK_st 1 okX10_told (S' := (131, [(0, .ref 49), (1, .int (11 : Int32))], [], hp I F)) rfl ⟨trivial, trivial⟩ ?_
                          refine OK_st 2 okX10_told (S' := (135, [(0, .ref 49), (1, .int (11 : Int32))], [.int (I 34)], hp I F)) rfl ⟨trivial, trivial, trivial⟩ ?_
                          exact OK_ri okX10_told rfl rfl (Or.inl rfl)
                        · skip
                          refine OK_st 1 okX10_told (S' := (ab_tsw 1 135 0 11 #[63, 68, 73, 78, 83, 91, 99, 104, 112, 120, 125, 130] v1, [(0, .ref 49), (1, .int v1)], [], hp I F)) rfl ⟨trivial, trivial⟩ ?_
                          refine OK_pc (pc' := 136) (if_pos (by
                            have qh1536 := lv_neT h1536 (show (0 : Int32).toInt = 0 from rfl)
                            have qh1537 := lv_neT h1537 (show (1 : Int32).toInt = 1 from rfl)
                            have qh1538 := lv_neT h1538 (show (2 : Int32).toInt = 2 from rfl)
                            have qh1539 := lv_neT h1539 (show (3 : Int32).toInt = 3 from rfl)
                            have qh1540 := lv_neT h1540 (show (4 : Int32).toInt = 4 from rfl)
                            have qh1541 := lv_neT h1541 (show (5 : Int32).toInt = 5 from rfl)
                            have qh1542 := lv_neT h1542 (show (6 : Int32).toInt = 6 from rfl)
                            have qh1554 := lv_neT h1554 (show (7 : Int32).toInt = 7 from rfl)
                            have qh1555 := lv_neT h1555 (show (8 : Int32).toInt = 8 from rfl)
                            have qh1556 := lv_neT h1556 (show (9 : Int32).toInt = 9 from rfl)
                            have qh1557 := lv_neT h1557 (show (10 : Int32).toInt = 10 from rfl)
                            have qh1558 := lv_neT h1558 (show (11 : Int32).toInt = 11 from rfl)
                            omega)) ?_
                          refine OK_st 1 okX10_told (S' := (138, [(0, .ref 49), (1, .int v1)], [.int (-1000000002 : Int32)], hp I F)) rfl ⟨trivial, trivial⟩ ?_
                          exact OK_ri okX10_told rfl rfl (Or.inl rfl)

def f_X10_isLimb (v1 : Int32) (I : AI) (F : AF) : AQ :=
  ab_bd (f_X10_in v1.toInt64 (0 : Int64) (((I 22) - (1 : Int32)).toInt64) I F) (fun r1559 I1560 F1561 =>
    bif ab_bt r1559 then some (r1559, I1560, F1561) else none)
set_option maxRecDepth 20000 in
set_option maxHeartbeats 4000000 in
theorem kf_X10_isLimb (v1 : Int32) (I : AI) (F : AF) : OK 1 mX10_isLimb true (f_X10_isLimb v1 I F) (0, [(0, .ref 49), (1, .int v1)], [], hp I F) := by
  rw [f_X10_isLimb]
  refine OK_st 8 okX10_isLimb (S' := (10, [(0, .ref 49), (1, .int v1)], [.long ((I 22) - (1 : Int32)).toInt64, .long (0 : Int64), .long v1.toInt64], hp I F)) rfl ⟨trivial, trivial, trivial, trivial, trivial, trivial, trivial, trivial, trivial⟩ ?_
  refine OK_cs [.long v1.toInt64, .long (0 : Int64), .long ((I 22) - (1 : Int32)).toInt64] [] okX10_isLimb okX10_in rfl rfl cl_RX10_102 (Nat.le_of_ble_eq_true rfl) (by decide) (Nat.le_of_ble_eq_true rfl) (kf_X10_in v1.toInt64 (0 : Int64) (((I 22) - (1 : Int32)).toInt64) I F) (fun r1559 I1560 F1561 => ?_)
  refine OK_gd (fun g1562 => ?_)
  exact OK_ri okX10_isLimb rfl rfl (Or.inr ⟨rfl, ab_bto g1562⟩)

def f_X10_has (v0 : Int32) (v1 : Int32) (I : AI) (F : AF) : AQ :=
  if ¬ ((v0 >>> (v1 &&& 31)) &&& (1 : Int32)) = (1 : Int32) then
    some ((0 : Int32), I, F)
  else
    some ((1 : Int32), I, F)
set_option maxRecDepth 20000 in
set_option maxHeartbeats 4000000 in
theorem kf_X10_has (v0 : Int32) (v1 : Int32) (I : AI) (F : AF) : OK 0 mX10_has true (f_X10_has v0 v1 I F) (0, [(0, .int v0), (1, .int v1)], [], hp I F) := by
  rw [f_X10_has]
  refine OK_st 7 okX10_has (S' := ((if ¬ ((v0 >>> (v1 &&& 31)) &&& (1 : Int32)) = (1 : Int32) then 13 else 9), [(0, .int v0), (1, .int v1)], [], hp I F)) rfl ⟨trivial, trivial, trivial, trivial, trivial, trivial, trivial, trivial⟩ ?_
  refine OK_if (fun h1574 => ?_) (fun h1574 => ?_)
  · refine OK_st 1 okX10_has (S' := (14, [(0, .int v0), (1, .int v1)], [.int (0 : Int32)], hp I F)) rfl ⟨trivial, trivial⟩ ?_
    exact OK_ri okX10_has rfl rfl (Or.inr ⟨rfl, Or.inl rfl⟩)
  · refine OK_st 2 okX10_has (S' := (14, [(0, .int v0), (1, .int v1)], [.int (1 : Int32)], hp I F)) rfl ⟨trivial, trivial, trivial⟩ ?_
    exact OK_ri okX10_has rfl rfl (Or.inr ⟨rfl, Or.inr rfl⟩)

def f_X10_lives (v1 : Int32) (I : AI) (F : AF) : AQ :=
  ab_bd (f_X10_has ((F 47) 18) v1 I F) (fun r1575 I1576 F1577 =>
    bif ab_bt r1575 then some (r1575, I1576, F1577) else none)
set_option maxRecDepth 20000 in
set_option maxHeartbeats 4000000 in
theorem kf_X10_lives (v1 : Int32) (I : AI) (F : AF) : OK 1 mX10_lives true (f_X10_lives v1 I F) (0, [(0, .ref 49), (1, .int v1)], [], hp I F) := by
  rw [f_X10_lives]
  refine OK_st 5 okX10_lives (S' := (8, [(0, .ref 49), (1, .int v1)], [.int v1, .int ((F 47) 18)], hp I F)) rfl ⟨trivial, trivial, trivial, (ab_vo (by decide)), trivial, trivial⟩ ?_
  refine OK_cs [.int ((F 47) 18), .int v1] [] okX10_lives okX10_has rfl rfl cl_RX10_106 (Nat.le_of_ble_eq_true rfl) (by decide) (Nat.le_of_ble_eq_true rfl) (kf_X10_has ((F 47) 18) v1 I F) (fun r1575 I1576 F1577 => ?_)
  refine OK_gd (fun g1578 => ?_)
  exact OK_ri okX10_lives rfl rfl (Or.inr ⟨rfl, ab_bto g1578⟩)

def f_X10_grown (v1 : Int32) (v2 : Int32) (I : AI) (F : AF) : AQ :=
  bif ab_vin v1 22 then
    bif ab_vin (((4 : Int32) * v1) + (v2 - v2 / (4 : Int32) * (4 : Int32))) 24 then
      ab_lt (((F 47) v1.toNatClampNeg) + ((F 38) (((4 : Int32) * v1) + (v2 - v2 / (4 : Int32) * (4 : Int32))).toNatClampNeg)) (fun x1587 =>
        if x1587 ≤ 0 then
          some ((0 : Int32), I, F)
        else
          some (x1587, I, F))
    else none
  else none
set_option maxRecDepth 20000 in
set_option maxHeartbeats 4000000 in
theorem kf_X10_grown (v1 : Int32) (v2 : Int32) (I : AI) (F : AF) : OK 0 mX10_grown true (f_X10_grown v1 v2 I F) (0, [(0, .ref 49), (1, .int v1), (2, .int v2)], [], hp I F) := by
  rw [f_X10_grown]
  refine OK_gd (fun g1585 => ?_)
  refine OK_gd (fun g1586 => ?_)
  refine OK_st 16 okX10_grown (S' := (20, [(3, .int (((F 47) v1.toNatClampNeg) + ((F 38) (((4 : Int32) * v1) + (v2 - v2 / (4 : Int32) * (4 : Int32))).toNatClampNeg))), (0, .ref 49), (1, .int v1), (2, .int v2)], [], hp I F)) rfl ⟨trivial, trivial, trivial, (ab_vo g1585), trivial, trivial, trivial, trivial, trivial, trivial, trivial, (by decide), trivial, (ab_vo g1586), trivial, (by decide), trivial⟩ ?_
  refine OK_lt (fun x1587 => (20, [(3, .int x1587), (0, .ref 49), (1, .int v1), (2, .int v2)], [], hp I F)) (fun x1587 => ?_)
  refine OK_st 2 okX10_grown (S' := ((if x1587 ≤ 0 then 28 else 24), [(3, .int x1587), (0, .ref 49), (1, .int v1), (2, .int v2)], [], hp I F)) rfl ⟨trivial, trivial, trivial⟩ ?_
  refine OK_if (fun h1588 => ?_) (fun h1588 => ?_)
  · refine OK_st 1 okX10_grown (S' := (29, [(3, .int x1587), (0, .ref 49), (1, .int v1), (2, .int v2)], [.int (0 : Int32)], hp I F)) rfl ⟨trivial, trivial⟩ ?_
    exact OK_ri okX10_grown rfl rfl (Or.inl rfl)
  · refine OK_st 2 okX10_grown (S' := (29, [(3, .int x1587), (0, .ref 49), (1, .int v1), (2, .int v2)], [.int x1587], hp I F)) rfl ⟨trivial, trivial, trivial⟩ ?_
    exact OK_ri okX10_grown rfl rfl (Or.inl rfl)

def f_X10_measure_5 (v2 : Int32) (ko : Int32 → Int32 → AI → AF → AQ) : Nat → Int32 → Int32 → AI → AF → AQ
  | 0, _, _, _, _ => none
  | n + 1, v3, v4, I, F =>
    if (6 : Int32) < v4 then
      ko v3 v4 I F
    else
      if v3 < 0 then
        ko v3 v4 I F
      else
        bif ab_vin ((6 : Int32) + v3) 22 then
          if ((F 47) ((6 : Int32) + v3).toNatClampNeg) < 0 then
            ab_bd (f_X10_lives v3 I F) (fun r1579 I1580 F1581 =>
              if r1579 = 0 then
                bif ab_vin v3 6 then
                  ab_lt ((F1581 39) v3.toNatClampNeg) (fun x1584 =>
                    f_X10_measure_5 v2 ko n x1584 (v4 + (1 : Int32)) I1580 F1581)
                else none
              else
                ab_bd (f_X10_grown v3 v2 I1580 F1581) (fun r1589 I1590 F1591 =>
                  some (r1589, I1590, F1591)))
          else
            bif ab_vin ((6 : Int32) + v3) 22 then
              some (((F 47) ((6 : Int32) + v3).toNatClampNeg), I, F)
            else none
        else none
set_option maxRecDepth 20000 in
set_option maxHeartbeats 4000000 in
theorem kf_X10_measure_5 (v2 : Int32) (ko : Int32 → Int32 → AI → AF → AQ) (hko : ∀ v3 v4 I F, OK 2 mX10_measure true (ko v3 v4 I F) (66, [(0, .ref 49), (2, .int v2), (3, .int v3), (4, .int v4)], [], hp I F)) : ∀ n v3 v4 I F, OK 2 mX10_measure true (f_X10_measure_5 v2 ko n v3 v4 I F) (5, [(0, .ref 49), (2, .int v2), (3, .int v3), (4, .int v4)], [], hp I F) := by
  intro n
  induction n with
  | zero =>
    intro v3 v4 I F
    exact OK_no
  | succ n ih =>
    intro v3 v4 I F
    rw [f_X10_measure_5]
    refine OK_st 3 okX10_measure (S' := ((if (6 : Int32) < v4 then 66 else 12), [(0, .ref 49), (2, .int v2), (3, .int v3), (4, .int v4)], [], hp I F)) rfl ⟨trivial, trivial, trivial, trivial⟩ ?_
    refine OK_if (fun h1570 => ?_) (fun h1570 => ?_)
    · exact hko v3 v4 I F
    · refine OK_st 2 okX10_measure (S' := ((if v3 < 0 then 66 else 16), [(0, .ref 49), (2, .int v2), (3, .int v3), (4, .int v4)], [], hp I F)) rfl ⟨trivial, trivial, trivial⟩ ?_
      refine OK_if (fun h1571 => ?_) (fun h1571 => ?_)
      · exact hko v3 v4 I F
      · refine OK_gd (fun g1572 => ?_)
        refine OK_st 7 okX10_measure (S' := ((if ((F 47) ((6 : Int32) + v3).toNatClampNeg) < 0 then 38 else 28), [(0, .ref 49), (2, .int v2), (3, .int v3), (4, .int v4)], [], hp I F)) rfl ⟨trivial, trivial, trivial, trivial, trivial, (ab_vo g1572), trivial, trivial⟩ ?_
        refine OK_if (fun h1573 => ?_) (fun h1573 => ?_)
        · refine OK_st 2 okX10_measure (S' := (40, [(0, .ref 49), (2, .int v2), (3, .int v3), (4, .int v4)], [.int v3, .ref 49], hp I F)) rfl ⟨trivial, trivial, trivial⟩ ?_
          refine OK_cv [.int v3] [] okX10_measure okX10_lives rfl rfl cl_RX10_190 rfl rfl (Nat.le_of_ble_eq_true rfl) (by decide) (Nat.le_of_ble_eq_true rfl) (kf_X10_lives v3 I F) (fun r1579 I1580 F1581 => ?_)
          refine OK_st 1 okX10_measure (S' := ((if r1579 = 0 then 53 else 46), [(0, .ref 49), (2, .int v2), (3, .int v3), (4, .int v4)], [], hp I1580 F1581)) rfl ⟨trivial, trivial⟩ ?_
          refine OK_if (fun h1582 => ?_) (fun h1582 => ?_)
          · refine OK_gd (fun g1583 => ?_)
            refine OK_st 5 okX10_measure (S' := (60, [(3, .int ((F1581 39) v3.toNatClampNeg)), (0, .ref 49), (2, .int v2), (4, .int v4)], [], hp I1580 F1581)) rfl ⟨trivial, trivial, trivial, (ab_vo g1583), (by decide), trivial⟩ ?_
            refine OK_lt (fun x1584 => (60, [(3, .int x1584), (0, .ref 49), (2, .int v2), (4, .int v4)], [], hp I1580 F1581)) (fun x1584 => ?_)
            refine OK_st 2 okX10_measure (S' := (5, [(4, .int (v4 + (1 : Int32))), (3, .int x1584), (0, .ref 49), (2, .int v2)], [], hp I1580 F1581)) rfl ⟨(by decide), trivial, trivial⟩ ?_
            refine OK_pk [2, 3, 1, 0] rfl ?_
            exact ih x1584 (v4 + (1 : Int32)) I1580 F1581
          · refine OK_st 3 okX10_measure (S' := (49, [(0, .ref 49), (2, .int v2), (3, .int v3), (4, .int v4)], [.int v2, .int v3, .ref 49], hp I1580 F1581)) rfl ⟨trivial, trivial, trivial, trivial⟩ ?_
            refine OK_cv [.int v3, .int v2] [] okX10_measure okX10_grown rfl rfl cl_RX10_194 rfl rfl (Nat.le_of_ble_eq_true rfl) (by decide) (Nat.le_of_ble_eq_true rfl) (kf_X10_grown v3 v2 I1580 F1581) (fun r1589 I1590 F1591 => ?_)
            exact OK_ri okX10_measure rfl rfl (Or.inl rfl)
        · refine OK_gd (fun g1592 => ?_)
          refine OK_st 6 okX10_measure (S' := (37, [(0, .ref 49), (2, .int v2), (3, .int v3), (4, .int v4)], [.int ((F 47) ((6 : Int32) + v3).toNatClampNeg)], hp I F)) rfl ⟨trivial, trivial, trivial, trivial, trivial, (ab_vo g1592), trivial⟩ ?_
          exact OK_ri okX10_measure rfl rfl (Or.inl rfl)

def f_X10_measure (v1 : Int32) (v2 : Int32) (I : AI) (F : AF) : AQ :=
  f_X10_measure_5 v2 (fun v3_1593 v4_1594 I1595 F1596 =>
    some ((0 : Int32), I1595, F1596)) ab_fu v1 (0 : Int32) I F
set_option maxRecDepth 20000 in
set_option maxHeartbeats 4000000 in
theorem kf_X10_measure (v1 : Int32) (v2 : Int32) (I : AI) (F : AF) : OK 2 mX10_measure true (f_X10_measure v1 v2 I F) (0, [(0, .ref 49), (1, .int v1), (2, .int v2)], [], hp I F) := by
  rw [f_X10_measure]
  refine OK_st 4 okX10_measure (S' := (5, [(4, .int (0 : Int32)), (3, .int v1), (0, .ref 49), (1, .int v1), (2, .int v2)], [], hp I F)) rfl ⟨trivial, (by decide), trivial, (by decide), trivial⟩ ?_
  refine OK_pk [2, 4, 1, 0] rfl ?_
  refine kf_X10_measure_5 v2 _ (fun v3_1593 v4_1594 I1595 F1596 => ?_) ab_fu v1 (0 : Int32) I F
  refine OK_st 1 okX10_measure (S' := (67, [(0, .ref 49), (2, .int v2), (3, .int v3_1593), (4, .int v4_1594)], [.int (0 : Int32)], hp I1595 F1596)) rfl ⟨trivial, trivial⟩ ?_
  exact OK_ri okX10_measure rfl rfl (Or.inl rfl)

def f_X10_measureNow (v1 : Int32) (I : AI) (F : AF) : AQ :=
  ab_bd (f_X10_measure v1 ((F 47) 19) I F) (fun r1597 I1598 F1599 =>
    some (r1597, I1598, F1599))
set_option maxRecDepth 20000 in
set_option maxHeartbeats 4000000 in
theorem kf_X10_measureNow (v1 : Int32) (I : AI) (F : AF) : OK 3 mX10_measureNow true (f_X10_measureNow v1 I F) (0, [(0, .ref 49), (1, .int v1)], [], hp I F) := by
  rw [f_X10_measureNow]
  refine OK_st 6 okX10_measureNow (S' := (9, [(0, .ref 49), (1, .int v1)], [.int ((F 47) 19), .int v1, .ref 49], hp I F)) rfl ⟨trivial, trivial, trivial, trivial, trivial, (ab_vo (by decide)), trivial⟩ ?_
  refine OK_cv [.int v1, .int ((F 47) 19)] [] okX10_measureNow okX10_measure rfl rfl cl_RX10_197 rfl rfl (Nat.le_of_ble_eq_true rfl) (by decide) (Nat.le_of_ble_eq_true rfl) (kf_X10_measure v1 ((F 47) 19) I F) (fun r1597 I1598 F1599 => ?_)
  exact OK_ri okX10_measureNow rfl rfl (Or.inl rfl)

def f_X10_limb (v1 : Int32) (v2 : Int32) (I : AI) (F : AF) : AQ :=
  ab_bd (f_X10_isLimb v1 I F) (fun r1563 I1564 F1565 =>
    if ¬ r1563 = 0 then
      if v2 = (0 : Int32) then
        bif ab_vin v1 22 then
          some (((F1565 47) v1.toNatClampNeg), I1564, F1565)
        else none
      else if v2 = (1 : Int32) then
        ab_bd (f_X10_measureNow v1 I1564 F1565) (fun r1600 I1601 F1602 =>
          some (r1600, I1601, F1602))
      else if v2 = (2 : Int32) then
        bif ab_vin v1 6 then
          some (((F1565 39) v1.toNatClampNeg), I1564, F1565)
        else none
      else if v2 = (3 : Int32) then
        ab_bd (f_X10_lives v1 I1564 F1565) (fun r1606 I1607 F1608 =>
          if r1606 = 0 then
            some ((0 : Int32), I1607, F1608)
          else
            some ((1 : Int32), I1607, F1608))
      else if v2 = (4 : Int32) then
        bif ab_vin ((6 : Int32) + v1) 22 then
          some (((F1565 47) ((6 : Int32) + v1).toNatClampNeg), I1564, F1565)
        else none
      else 
        ab_bd (f_X10_in v2.toInt64 (5 : Int64) (8 : Int64) I1564 F1565) (fun r1612 I1613 F1614 =>
          if r1612 = 0 then
            some ((-1000000002 : Int32), I1613, F1614)
          else
            bif ab_vin ((((4 : Int32) * v1) + v2) - (5 : Int32)) 24 then
              some ((((F1614 38) ((((4 : Int32) * v1) + v2) - (5 : Int32)).toNatClampNeg) + (9 : Int32)), I1613, F1614)
            else none)
    else
      some ((-1000000001 : Int32), I1564, F1565))
set_option maxRecDepth 20000 in
set_option maxHeartbeats 4000000 in
theorem kf_X10_limb (v1 : Int32) (v2 : Int32) (I : AI) (F : AF) : OK 4 mX10_limb true (f_X10_limb v1 v2 I F) (0, [(0, .ref 49), (1, .int v1), (2, .int v2)], [], hp I F) := by
  rw [f_X10_limb]
  refine OK_st 2 okX10_limb (S' := (2, [(0, .ref 49), (1, .int v1), (2, .int v2)], [.int v1, .ref 49], hp I F)) rfl ⟨trivial, trivial, trivial⟩ ?_
  refine OK_cv [.int v1] [] okX10_limb okX10_isLimb rfl rfl cl_RX10_200 rfl rfl (Nat.le_of_ble_eq_true rfl) (by decide) (Nat.le_of_ble_eq_true rfl) (kf_X10_isLimb v1 I F) (fun r1563 I1564 F1565 => ?_)
  refine OK_st 1 okX10_limb (S' := ((if ¬ r1563 = 0 then 11 else 8), [(0, .ref 49), (1, .int v1), (2, .int v2)], [], hp I1564 F1565)) rfl ⟨trivial, trivial⟩ ?_
  refine OK_if (fun h1566 => ?_) (fun h1566 => ?_)
  · refine OK_st 1 okX10_limb (S' := (12, [(0, .ref 49), (1, .int v1), (2, .int v2)], [.int v2], hp I1564 F1565)) rfl ⟨trivial, trivial⟩ ?_
    refine OK_ci (fun h1567 => ?_) (fun h1567 => ?_)
    · subst h1567
      refine OK_st 1 okX10_limb (S' := (48, [(0, .ref 49), (1, .int v1), (2, .int (0 : Int32))], [], hp I1564 F1565)) rfl ⟨trivial, trivial⟩ ?_
      refine OK_gd (fun g1568 => ?_)
      refine OK_st 4 okX10_limb (S' := (54, [(0, .ref 49), (1, .int v1), (2, .int (0 : Int32))], [.int ((F1565 47) v1.toNatClampNeg)], hp I1564 F1565)) rfl ⟨trivial, trivial, trivial, (ab_vo g1568), trivial⟩ ?_
      exact OK_ri okX10_limb rfl rfl (Or.inl rfl)
    · skip
      refine OK_ci (fun h1569 => ?_) (fun h1569 => ?_)
      · subst h1569
        refine OK_st 1 okX10_limb (S' := (55, [(0, .ref 49), (1, .int v1), (2, .int (1 : Int32))], [], hp I1564 F1565)) rfl ⟨trivial, trivial⟩ ?_
        refine OK_st 2 okX10_limb (S' := (57, [(0, .ref 49), (1, .int v1), (2, .int (1 : Int32))], [.int v1, .ref 49], hp I1564 F1565)) rfl ⟨trivial, trivial, trivial⟩ ?_
        refine OK_cv [.int v1] [] okX10_limb okX10_measureNow rfl rfl cl_RX10_204 rfl rfl (Nat.le_of_ble_eq_true rfl) (by decide) (Nat.le_of_ble_eq_true rfl) (kf_X10_measureNow v1 I1564 F1565) (fun r1600 I1601 F1602 => ?_)
        exact OK_ri okX10_limb rfl rfl (Or.inl rfl)
      · skip
        refine OK_ci (fun h1603 => ?_) (fun h1603 => ?_)
        · subst h1603
          refine OK_st 1 okX10_limb (S' := (61, [(0, .ref 49), (1, .int v1), (2, .int (2 : Int32))], [], hp I1564 F1565)) rfl ⟨trivial, trivial⟩ ?_
          refine OK_gd (fun g1604 => ?_)
          refine OK_st 4 okX10_limb (S' := (67, [(0, .ref 49), (1, .int v1), (2, .int (2 : Int32))], [.int ((F1565 39) v1.toNatClampNeg)], hp I1564 F1565)) rfl ⟨trivial, trivial, trivial, (ab_vo g1604), trivial⟩ ?_
          exact OK_ri okX10_limb rfl rfl (Or.inl rfl)
        · skip
          refine OK_ci (fun h1605 => ?_) (fun h1605 => ?_)
          · subst h1605
            refine OK_st 1 okX10_limb (S' := (68, [(0, .ref 49), (1, .int v1), (2, .int (3 : Int32))], [], hp I1564 F1565)) rfl ⟨trivial, trivial⟩ ?_
            refine OK_st 2 okX10_limb (S' := (70, [(0, .ref 49), (1, .int v1), (2, .int (3 : Int32))], [.int v1, .ref 49], hp I1564 F1565)) rfl ⟨trivial, trivial, trivial⟩ ?_
            refine OK_cv [.int v1] [] okX10_limb okX10_lives rfl rfl cl_RX10_190 rfl rfl (Nat.le_of_ble_eq_true rfl) (by decide) (Nat.le_of_ble_eq_true rfl) (kf_X10_lives v1 I1564 F1565) (fun r1606 I1607 F1608 => ?_)
            refine OK_st 1 okX10_limb (S' := ((if r1606 = 0 then 80 else 76), [(0, .ref 49), (1, .int v1), (2, .int (3 : Int32))], [], hp I1607 F1608)) rfl ⟨trivial, trivial⟩ ?_
            refine OK_if (fun h1609 => ?_) (fun h1609 => ?_)
            · refine OK_st 1 okX10_limb (S' := (81, [(0, .ref 49), (1, .int v1), (2, .int (3 : Int32))], [.int (0 : Int32)], hp I1607 F1608)) rfl ⟨trivial, trivial⟩ ?_
              exact OK_ri okX10_limb rfl rfl (Or.inl rfl)
            · refine OK_st 2 okX10_limb (S' := (81, [(0, .ref 49), (1, .int v1), (2, .int (3 : Int32))], [.int (1 : Int32)], hp I1607 F1608)) rfl ⟨trivial, trivial, trivial⟩ ?_
              exact OK_ri okX10_limb rfl rfl (Or.inl rfl)
          · skip
            refine OK_ci (fun h1610 => ?_) (fun h1610 => ?_)
            · subst h1610
              refine OK_st 1 okX10_limb (S' := (82, [(0, .ref 49), (1, .int v1), (2, .int (4 : Int32))], [], hp I1564 F1565)) rfl ⟨trivial, trivial⟩ ?_
              refine OK_gd (fun g1611 => ?_)
              refine OK_st 6 okX10_limb (S' := (91, [(0, .ref 49), (1, .int v1), (2, .int (4 : Int32))], [.int ((F1565 47) ((6 : Int32) + v1).toNatClampNeg)], hp I1564 F1565)) rfl ⟨trivial, trivial, trivial, trivial, trivial, (ab_vo g1611), trivial⟩ ?_
              exact OK_ri okX10_limb rfl rfl (Or.inl rfl)
            · skip
              refine OK_st 1 okX10_limb (S' := (ab_tsw 12 80 0 4 #[36, 43, 49, 56, 70] v2, [(0, .ref 49), (1, .int v1), (2, .int v2)], [], hp I1564 F1565)) rfl ⟨trivial, trivial⟩ ?_
              refine OK_pc (pc' := 92) (if_pos (by
                have qh1567 := lv_neT h1567 (show (0 : Int32).toInt = 0 from rfl)
                have qh1569 := lv_neT h1569 (show (1 : Int32).toInt = 1 from rfl)
                have qh1603 := lv_neT h1603 (show (2 : Int32).toInt = 2 from rfl)
                have qh1605 := lv_neT h1605 (show (3 : Int32).toInt = 3 from rfl)
                have qh1610 := lv_neT h1610 (show (4 : Int32).toInt = 4 from rfl)
                omega)) ?_
              refine OK_st 4 okX10_limb (S' := (100, [(0, .ref 49), (1, .int v1), (2, .int v2)], [.long (8 : Int64), .long (5 : Int64), .long v2.toInt64], hp I1564 F1565)) rfl ⟨trivial, trivial, trivial, trivial, trivial⟩ ?_
              refine OK_cs [.long v2.toInt64, .long (5 : Int64), .long (8 : Int64)] [] okX10_limb okX10_in rfl rfl cl_RX10_102 (Nat.le_of_ble_eq_true rfl) (by decide) (Nat.le_of_ble_eq_true rfl) (kf_X10_in v2.toInt64 (5 : Int64) (8 : Int64) I1564 F1565) (fun r1612 I1613 F1614 => ?_)
              refine OK_st 1 okX10_limb (S' := ((if r1612 = 0 then 124 else 106), [(0, .ref 49), (1, .int v1), (2, .int v2)], [], hp I1613 F1614)) rfl ⟨trivial, trivial⟩ ?_
              refine OK_if (fun h1615 => ?_) (fun h1615 => ?_)
              · refine OK_st 1 okX10_limb (S' := (126, [(0, .ref 49), (1, .int v1), (2, .int v2)], [.int (-1000000002 : Int32)], hp I1613 F1614)) rfl ⟨trivial, trivial⟩ ?_
                exact OK_ri okX10_limb rfl rfl (Or.inl rfl)
              · refine OK_gd (fun g1616 => ?_)
                refine OK_st 13 okX10_limb (S' := (126, [(0, .ref 49), (1, .int v1), (2, .int v2)], [.int (((F1614 38) ((((4 : Int32) * v1) + v2) - (5 : Int32)).toNatClampNeg) + (9 : Int32))], hp I1613 F1614)) rfl ⟨trivial, trivial, trivial, trivial, trivial, trivial, trivial, trivial, trivial, (ab_vo g1616), trivial, trivial, trivial, trivial⟩ ?_
                exact OK_ri okX10_limb rfl rfl (Or.inl rfl)
  · refine OK_st 1 okX10_limb (S' := (10, [(0, .ref 49), (1, .int v1), (2, .int v2)], [.int (-1000000001 : Int32)], hp I1564 F1565)) rfl ⟨trivial, trivial⟩ ?_
    exact OK_ri okX10_limb rfl rfl (Or.inl rfl)

def f_X10_contract (v1 : Int32) (v2 : Int32) (I : AI) (F : AF) : AQ :=
  ab_bd (f_X10_in v1.toInt64 (0 : Int64) (((I 23) - (1 : Int32)).toInt64) I F) (fun r1617 I1618 F1619 =>
    if ¬ r1617 = 0 then
      if v2 = (0 : Int32) then
        bif ab_vin v1 6 then
          some (((F1619 40) v1.toNatClampNeg), I1618, F1619)
        else none
      else if v2 = (1 : Int32) then
        bif ab_vin v1 6 then
          some (((F1619 41) v1.toNatClampNeg), I1618, F1619)
        else none
      else if v2 = (2 : Int32) then
        bif ab_vin v1 6 then
          some (((F1619 42) v1.toNatClampNeg), I1618, F1619)
        else none
      else if v2 = (3 : Int32) then
        bif ab_vin ((12 : Int32) + v1) 22 then
          some (((F1619 47) ((12 : Int32) + v1).toNatClampNeg), I1618, F1619)
        else none
      else 
        some ((-1000000002 : Int32), I1618, F1619)
    else
      some ((-1000000001 : Int32), I1618, F1619))
set_option maxRecDepth 20000 in
set_option maxHeartbeats 4000000 in
theorem kf_X10_contract (v1 : Int32) (v2 : Int32) (I : AI) (F : AF) : OK 1 mX10_contract true (f_X10_contract v1 v2 I F) (0, [(0, .ref 49), (1, .int v1), (2, .int v2)], [], hp I F) := by
  rw [f_X10_contract]
  refine OK_st 8 okX10_contract (S' := (10, [(0, .ref 49), (1, .int v1), (2, .int v2)], [.long ((I 23) - (1 : Int32)).toInt64, .long (0 : Int64), .long v1.toInt64], hp I F)) rfl ⟨trivial, trivial, trivial, trivial, trivial, trivial, trivial, trivial, trivial⟩ ?_
  refine OK_cs [.long v1.toInt64, .long (0 : Int64), .long ((I 23) - (1 : Int32)).toInt64] [] okX10_contract okX10_in rfl rfl cl_RX10_102 (Nat.le_of_ble_eq_true rfl) (by decide) (Nat.le_of_ble_eq_true rfl) (kf_X10_in v1.toInt64 (0 : Int64) (((I 23) - (1 : Int32)).toInt64) I F) (fun r1617 I1618 F1619 => ?_)
  refine OK_st 1 okX10_contract (S' := ((if ¬ r1617 = 0 then 19 else 16), [(0, .ref 49), (1, .int v1), (2, .int v2)], [], hp I1618 F1619)) rfl ⟨trivial, trivial⟩ ?_
  refine OK_if (fun h1620 => ?_) (fun h1620 => ?_)
  · refine OK_st 1 okX10_contract (S' := (20, [(0, .ref 49), (1, .int v1), (2, .int v2)], [.int v2], hp I1618 F1619)) rfl ⟨trivial, trivial⟩ ?_
    refine OK_ci (fun h1621 => ?_) (fun h1621 => ?_)
    · subst h1621
      refine OK_st 1 okX10_contract (S' := (52, [(0, .ref 49), (1, .int v1), (2, .int (0 : Int32))], [], hp I1618 F1619)) rfl ⟨trivial, trivial⟩ ?_
      refine OK_gd (fun g1622 => ?_)
      refine OK_st 4 okX10_contract (S' := (58, [(0, .ref 49), (1, .int v1), (2, .int (0 : Int32))], [.int ((F1619 40) v1.toNatClampNeg)], hp I1618 F1619)) rfl ⟨trivial, trivial, trivial, (ab_vo g1622), trivial⟩ ?_
      exact OK_ri okX10_contract rfl rfl (Or.inl rfl)
    · skip
      refine OK_ci (fun h1623 => ?_) (fun h1623 => ?_)
      · subst h1623
        refine OK_st 1 okX10_contract (S' := (59, [(0, .ref 49), (1, .int v1), (2, .int (1 : Int32))], [], hp I1618 F1619)) rfl ⟨trivial, trivial⟩ ?_
        refine OK_gd (fun g1624 => ?_)
        refine OK_st 4 okX10_contract (S' := (65, [(0, .ref 49), (1, .int v1), (2, .int (1 : Int32))], [.int ((F1619 41) v1.toNatClampNeg)], hp I1618 F1619)) rfl ⟨trivial, trivial, trivial, (ab_vo g1624), trivial⟩ ?_
        exact OK_ri okX10_contract rfl rfl (Or.inl rfl)
      · skip
        refine OK_ci (fun h1625 => ?_) (fun h1625 => ?_)
        · subst h1625
          refine OK_st 1 okX10_contract (S' := (66, [(0, .ref 49), (1, .int v1), (2, .int (2 : Int32))], [], hp I1618 F1619)) rfl ⟨trivial, trivial⟩ ?_
          refine OK_gd (fun g1626 => ?_)
          refine OK_st 4 okX10_contract (S' := (72, [(0, .ref 49), (1, .int v1), (2, .int (2 : Int32))], [.int ((F1619 42) v1.toNatClampNeg)], hp I1618 F1619)) rfl ⟨trivial, trivial, trivial, (ab_vo g1626), trivial⟩ ?_
          exact OK_ri okX10_contract rfl rfl (Or.inl rfl)
        · skip
          refine OK_ci (fun h1627 => ?_) (fun h1627 => ?_)
          · subst h1627
            refine OK_st 1 okX10_contract (S' := (73, [(0, .ref 49), (1, .int v1), (2, .int (3 : Int32))], [], hp I1618 F1619)) rfl ⟨trivial, trivial⟩ ?_
            refine OK_gd (fun g1628 => ?_)
            refine OK_st 6 okX10_contract (S' := (82, [(0, .ref 49), (1, .int v1), (2, .int (3 : Int32))], [.int ((F1619 47) ((12 : Int32) + v1).toNatClampNeg)], hp I1618 F1619)) rfl ⟨trivial, trivial, trivial, trivial, trivial, (ab_vo g1628), trivial⟩ ?_
            exact OK_ri okX10_contract rfl rfl (Or.inl rfl)
          · skip
            refine OK_st 1 okX10_contract (S' := (ab_tsw 20 63 0 3 #[32, 39, 46, 53] v2, [(0, .ref 49), (1, .int v1), (2, .int v2)], [], hp I1618 F1619)) rfl ⟨trivial, trivial⟩ ?_
            refine OK_pc (pc' := 83) (if_pos (by
              have qh1621 := lv_neT h1621 (show (0 : Int32).toInt = 0 from rfl)
              have qh1623 := lv_neT h1623 (show (1 : Int32).toInt = 1 from rfl)
              have qh1625 := lv_neT h1625 (show (2 : Int32).toInt = 2 from rfl)
              have qh1627 := lv_neT h1627 (show (3 : Int32).toInt = 3 from rfl)
              omega)) ?_
            refine OK_st 1 okX10_contract (S' := (85, [(0, .ref 49), (1, .int v1), (2, .int v2)], [.int (-1000000002 : Int32)], hp I1618 F1619)) rfl ⟨trivial, trivial⟩ ?_
            exact OK_ri okX10_contract rfl rfl (Or.inl rfl)
  · refine OK_st 1 okX10_contract (S' := (18, [(0, .ref 49), (1, .int v1), (2, .int v2)], [.int (-1000000001 : Int32)], hp I1618 F1619)) rfl ⟨trivial, trivial⟩ ?_
    exact OK_ri okX10_contract rfl rfl (Or.inl rfl)

def f_X10_rate (v1 : Int32) (v2 : Int32) (I : AI) (F : AF) : AQ :=
  ab_bd (f_X10_in v1.toInt64 (0 : Int64) (((I 24) - (1 : Int32)).toInt64) I F) (fun r1629 I1630 F1631 =>
    if ¬ r1629 = 0 then
      if v2 = (0 : Int32) then
        bif ab_vin v1 8 then
          some (((F1631 43) v1.toNatClampNeg), I1630, F1631)
        else none
      else if v2 = (1 : Int32) then
        bif ab_vin v1 8 then
          some (((F1631 44) v1.toNatClampNeg), I1630, F1631)
        else none
      else if v2 = (2 : Int32) then
        bif ab_vin v1 8 then
          some (((F1631 45) v1.toNatClampNeg), I1630, F1631)
        else none
      else if v2 = (3 : Int32) then
        bif ab_vin v1 8 then
          some (((F1631 46) v1.toNatClampNeg), I1630, F1631)
        else none
      else 
        some ((-1000000002 : Int32), I1630, F1631)
    else
      some ((-1000000001 : Int32), I1630, F1631))
set_option maxRecDepth 20000 in
set_option maxHeartbeats 4000000 in
theorem kf_X10_rate (v1 : Int32) (v2 : Int32) (I : AI) (F : AF) : OK 1 mX10_rate true (f_X10_rate v1 v2 I F) (0, [(0, .ref 49), (1, .int v1), (2, .int v2)], [], hp I F) := by
  rw [f_X10_rate]
  refine OK_st 8 okX10_rate (S' := (10, [(0, .ref 49), (1, .int v1), (2, .int v2)], [.long ((I 24) - (1 : Int32)).toInt64, .long (0 : Int64), .long v1.toInt64], hp I F)) rfl ⟨trivial, trivial, trivial, trivial, trivial, trivial, trivial, trivial, trivial⟩ ?_
  refine OK_cs [.long v1.toInt64, .long (0 : Int64), .long ((I 24) - (1 : Int32)).toInt64] [] okX10_rate okX10_in rfl rfl cl_RX10_102 (Nat.le_of_ble_eq_true rfl) (by decide) (Nat.le_of_ble_eq_true rfl) (kf_X10_in v1.toInt64 (0 : Int64) (((I 24) - (1 : Int32)).toInt64) I F) (fun r1629 I1630 F1631 => ?_)
  refine OK_st 1 okX10_rate (S' := ((if ¬ r1629 = 0 then 19 else 16), [(0, .ref 49), (1, .int v1), (2, .int v2)], [], hp I1630 F1631)) rfl ⟨trivial, trivial⟩ ?_
  refine OK_if (fun h1632 => ?_) (fun h1632 => ?_)
  · refine OK_st 1 okX10_rate (S' := (20, [(0, .ref 49), (1, .int v1), (2, .int v2)], [.int v2], hp I1630 F1631)) rfl ⟨trivial, trivial⟩ ?_
    refine OK_ci (fun h1633 => ?_) (fun h1633 => ?_)
    · subst h1633
      refine OK_st 1 okX10_rate (S' := (52, [(0, .ref 49), (1, .int v1), (2, .int (0 : Int32))], [], hp I1630 F1631)) rfl ⟨trivial, trivial⟩ ?_
      refine OK_gd (fun g1634 => ?_)
      refine OK_st 4 okX10_rate (S' := (58, [(0, .ref 49), (1, .int v1), (2, .int (0 : Int32))], [.int ((F1631 43) v1.toNatClampNeg)], hp I1630 F1631)) rfl ⟨trivial, trivial, trivial, (ab_vo g1634), trivial⟩ ?_
      exact OK_ri okX10_rate rfl rfl (Or.inl rfl)
    · skip
      refine OK_ci (fun h1635 => ?_) (fun h1635 => ?_)
      · subst h1635
        refine OK_st 1 okX10_rate (S' := (59, [(0, .ref 49), (1, .int v1), (2, .int (1 : Int32))], [], hp I1630 F1631)) rfl ⟨trivial, trivial⟩ ?_
        refine OK_gd (fun g1636 => ?_)
        refine OK_st 4 okX10_rate (S' := (65, [(0, .ref 49), (1, .int v1), (2, .int (1 : Int32))], [.int ((F1631 44) v1.toNatClampNeg)], hp I1630 F1631)) rfl ⟨trivial, trivial, trivial, (ab_vo g1636), trivial⟩ ?_
        exact OK_ri okX10_rate rfl rfl (Or.inl rfl)
      · skip
        refine OK_ci (fun h1637 => ?_) (fun h1637 => ?_)
        · subst h1637
          refine OK_st 1 okX10_rate (S' := (66, [(0, .ref 49), (1, .int v1), (2, .int (2 : Int32))], [], hp I1630 F1631)) rfl ⟨trivial, trivial⟩ ?_
          refine OK_gd (fun g1638 => ?_)
          refine OK_st 4 okX10_rate (S' := (72, [(0, .ref 49), (1, .int v1), (2, .int (2 : Int32))], [.int ((F1631 45) v1.toNatClampNeg)], hp I1630 F1631)) rfl ⟨trivial, trivial, trivial, (ab_vo g1638), trivial⟩ ?_
          exact OK_ri okX10_rate rfl rfl (Or.inl rfl)
        · skip
          refine OK_ci (fun h1639 => ?_) (fun h1639 => ?_)
          · subst h1639
            refine OK_st 1 okX10_rate (S' := (73, [(0, .ref 49), (1, .int v1), (2, .int (3 : Int32))], [], hp I1630 F1631)) rfl ⟨trivial, trivial⟩ ?_
            refine OK_gd (fun g1640 => ?_)
            refine OK_st 4 okX10_rate (S' := (79, [(0, .ref 49), (1, .int v1), (2, .int (3 : Int32))], [.int ((F1631 46) v1.toNatClampNeg)], hp I1630 F1631)) rfl ⟨trivial, trivial, trivial, (ab_vo g1640), trivial⟩ ?_
            exact OK_ri okX10_rate rfl rfl (Or.inl rfl)
          · skip
            refine OK_st 1 okX10_rate (S' := (ab_tsw 20 60 0 3 #[32, 39, 46, 53] v2, [(0, .ref 49), (1, .int v1), (2, .int v2)], [], hp I1630 F1631)) rfl ⟨trivial, trivial⟩ ?_
            refine OK_pc (pc' := 80) (if_pos (by
              have qh1633 := lv_neT h1633 (show (0 : Int32).toInt = 0 from rfl)
              have qh1635 := lv_neT h1635 (show (1 : Int32).toInt = 1 from rfl)
              have qh1637 := lv_neT h1637 (show (2 : Int32).toInt = 2 from rfl)
              have qh1639 := lv_neT h1639 (show (3 : Int32).toInt = 3 from rfl)
              omega)) ?_
            refine OK_st 1 okX10_rate (S' := (82, [(0, .ref 49), (1, .int v1), (2, .int v2)], [.int (-1000000002 : Int32)], hp I1630 F1631)) rfl ⟨trivial, trivial⟩ ?_
            exact OK_ri okX10_rate rfl rfl (Or.inl rfl)
  · refine OK_st 1 okX10_rate (S' := (18, [(0, .ref 49), (1, .int v1), (2, .int v2)], [.int (-1000000001 : Int32)], hp I1630 F1631)) rfl ⟨trivial, trivial⟩ ?_
    exact OK_ri okX10_rate rfl rfl (Or.inl rfl)

def f_X10_seasonsRefused (v1 : Int32) (I : AI) (F : AF) : AQ :=
  ab_bd (f_X10_in v1.toInt64 (1 : Int64) (40 : Int64) I F) (fun r1641 I1642 F1643 =>
    if ¬ r1641 = 0 then
      if ¬ (I1642 22) = 0 then
        if ((F1643 47) 19) ≤ (9000 : Int32) then
          some ((0 : Int32), I1642, F1643)
        else
          some ((-1000000004 : Int32), I1642, F1643)
      else
        some ((-1000000003 : Int32), I1642, F1643)
    else
      some ((-1000000002 : Int32), I1642, F1643))
set_option maxRecDepth 20000 in
set_option maxHeartbeats 4000000 in
theorem kf_X10_seasonsRefused (v1 : Int32) (I : AI) (F : AF) : OK 1 mX10_seasonsRefused true (f_X10_seasonsRefused v1 I F) (0, [(0, .ref 49), (1, .int v1)], [], hp I F) := by
  rw [f_X10_seasonsRefused]
  refine OK_st 4 okX10_seasonsRefused (S' := (6, [(0, .ref 49), (1, .int v1)], [.long (40 : Int64), .long (1 : Int64), .long v1.toInt64], hp I F)) rfl ⟨trivial, trivial, trivial, trivial, trivial⟩ ?_
  refine OK_cs [.long v1.toInt64, .long (1 : Int64), .long (40 : Int64)] [] okX10_seasonsRefused okX10_in rfl rfl cl_RX10_102 (Nat.le_of_ble_eq_true rfl) (by decide) (Nat.le_of_ble_eq_true rfl) (kf_X10_in v1.toInt64 (1 : Int64) (40 : Int64) I F) (fun r1641 I1642 F1643 => ?_)
  refine OK_st 1 okX10_seasonsRefused (S' := ((if ¬ r1641 = 0 then 15 else 12), [(0, .ref 49), (1, .int v1)], [], hp I1642 F1643)) rfl ⟨trivial, trivial⟩ ?_
  refine OK_if (fun h1644 => ?_) (fun h1644 => ?_)
  · refine OK_st 3 okX10_seasonsRefused (S' := ((if ¬ (I1642 22) = 0 then 27 else 22), [(0, .ref 49), (1, .int v1)], [], hp I1642 F1643)) rfl ⟨trivial, trivial, trivial, trivial⟩ ?_
    refine OK_if (fun h1645 => ?_) (fun h1645 => ?_)
    · refine OK_st 6 okX10_seasonsRefused (S' := ((if ((F1643 47) 19) ≤ (9000 : Int32) then 45 else 40), [(0, .ref 49), (1, .int v1)], [], hp I1642 F1643)) rfl ⟨trivial, trivial, trivial, (ab_vo (by decide)), trivial, trivial, trivial⟩ ?_
      refine OK_if (fun h1646 => ?_) (fun h1646 => ?_)
      · refine OK_st 1 okX10_seasonsRefused (S' := (46, [(0, .ref 49), (1, .int v1)], [.int (0 : Int32)], hp I1642 F1643)) rfl ⟨trivial, trivial⟩ ?_
        exact OK_ri okX10_seasonsRefused rfl rfl (Or.inl rfl)
      · refine OK_st 2 okX10_seasonsRefused (S' := (46, [(0, .ref 49), (1, .int v1)], [.int (-1000000004 : Int32)], hp I1642 F1643)) rfl ⟨trivial, trivial, trivial⟩ ?_
        exact OK_ri okX10_seasonsRefused rfl rfl (Or.inl rfl)
    · refine OK_st 2 okX10_seasonsRefused (S' := (46, [(0, .ref 49), (1, .int v1)], [.int (-1000000003 : Int32)], hp I1642 F1643)) rfl ⟨trivial, trivial, trivial⟩ ?_
      exact OK_ri okX10_seasonsRefused rfl rfl (Or.inl rfl)
  · refine OK_st 1 okX10_seasonsRefused (S' := (14, [(0, .ref 49), (1, .int v1)], [.int (-1000000002 : Int32)], hp I1642 F1643)) rfl ⟨trivial, trivial⟩ ?_
    exact OK_ri okX10_seasonsRefused rfl rfl (Or.inl rfl)

def f_X10_remember_52 (ko : Int32 → AI → AF → AQ) : Nat → Int32 → AI → AF → AQ
  | 0, _, _, _ => none
  | n + 1, v1, I, F =>
    if (22 : Int32) ≤ v1 then
      ko v1 I F
    else
      bif ab_vin v1 22 then
        bif ab_vin (((22 : Int32) * (I 34)) + v1) 440 then
          ab_lt (va_up F 59 (upd (F 59) (((22 : Int32) * (I 34)) + v1).toNatClampNeg ((F 47) v1.toNatClampNeg))) (fun F1655 =>
            f_X10_remember_52 ko n (v1 + (1 : Int32)) I F1655)
        else none
      else none
set_option maxRecDepth 20000 in
set_option maxHeartbeats 4000000 in
theorem kf_X10_remember_52 (ko : Int32 → AI → AF → AQ) (hko : ∀ v1 I F, OK 0 mX10_remember false (ko v1 I F) (84, [(0, .ref 49), (1, .int v1)], [], hp I F)) : ∀ n v1 I F, OK 0 mX10_remember false (f_X10_remember_52 ko n v1 I F) (52, [(0, .ref 49), (1, .int v1)], [], hp I F) := by
  intro n
  induction n with
  | zero =>
    intro v1 I F
    exact OK_no
  | succ n ih =>
    intro v1 I F
    rw [f_X10_remember_52]
    refine OK_st 3 okX10_remember (S' := ((if (22 : Int32) ≤ v1 then 84 else 58), [(0, .ref 49), (1, .int v1)], [], hp I F)) rfl ⟨trivial, trivial, trivial, trivial⟩ ?_
    refine OK_if (fun h1652 => ?_) (fun h1652 => ?_)
    · exact hko v1 I F
    · refine OK_gd (fun g1653 => ?_)
      refine OK_gd (fun g1654 => ?_)
      refine OK_st 15 okX10_remember (S' := (52, [(1, .int (v1 + (1 : Int32))), (0, .ref 49)], [], hp I (va_up F 59 (upd (F 59) (((22 : Int32) * (I 34)) + v1).toNatClampNeg ((F 47) v1.toNatClampNeg))))) rfl ⟨trivial, trivial, trivial, trivial, trivial, trivial, trivial, trivial, trivial, trivial, trivial, (ab_vo g1653), (ab_vo g1654), (by decide), trivial, trivial⟩ ?_
      refine OK_lt (fun F1655 => (52, [(1, .int (v1 + (1 : Int32))), (0, .ref 49)], [], hp I F1655)) (fun F1655 => ?_)
      refine OK_pk [1, 0] rfl ?_
      exact ih (v1 + (1 : Int32)) I F1655

def f_X10_remember_12 (ko : Int32 → AI → AF → AQ) : Nat → Int32 → AI → AF → AQ
  | 0, _, _, _ => none
  | n + 1, v1, I, F =>
    if (440 : Int32) ≤ v1 then
      ko v1 I F
    else
      bif ab_vin v1 440 then
        bif ab_vin (v1 - (22 : Int32)) 440 then
          ab_lt (va_up F 59 (upd (F 59) (v1 - (22 : Int32)).toNatClampNeg ((F 59) v1.toNatClampNeg))) (fun F1662 =>
            f_X10_remember_12 ko n (v1 + (1 : Int32)) I F1662)
        else none
      else none
set_option maxRecDepth 20000 in
set_option maxHeartbeats 4000000 in
theorem kf_X10_remember_12 (ko : Int32 → AI → AF → AQ) (hko : ∀ v1 I F, OK 0 mX10_remember false (ko v1 I F) (40, [(0, .ref 49), (1, .int v1)], [], hp I F)) : ∀ n v1 I F, OK 0 mX10_remember false (f_X10_remember_12 ko n v1 I F) (12, [(0, .ref 49), (1, .int v1)], [], hp I F) := by
  intro n
  induction n with
  | zero =>
    intro v1 I F
    exact OK_no
  | succ n ih =>
    intro v1 I F
    rw [f_X10_remember_12]
    refine OK_st 3 okX10_remember (S' := ((if (440 : Int32) ≤ v1 then 40 else 19), [(0, .ref 49), (1, .int v1)], [], hp I F)) rfl ⟨trivial, trivial, trivial, trivial⟩ ?_
    refine OK_if (fun h1659 => ?_) (fun h1659 => ?_)
    · exact hko v1 I F
    · refine OK_gd (fun g1660 => ?_)
      refine OK_gd (fun g1661 => ?_)
      refine OK_st 12 okX10_remember (S' := (12, [(1, .int (v1 + (1 : Int32))), (0, .ref 49)], [], hp I (va_up F 59 (upd (F 59) (v1 - (22 : Int32)).toNatClampNeg ((F 59) v1.toNatClampNeg))))) rfl ⟨trivial, trivial, trivial, trivial, trivial, trivial, trivial, trivial, (ab_vo g1660), (ab_vo g1661), (by decide), trivial, trivial⟩ ?_
      refine OK_lt (fun F1662 => (12, [(1, .int (v1 + (1 : Int32))), (0, .ref 49)], [], hp I F1662)) (fun F1662 => ?_)
      refine OK_pk [1, 0] rfl ?_
      exact ih (v1 + (1 : Int32)) I F1662
