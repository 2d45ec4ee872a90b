/-! methods as functions (by program) -/
def f_X10_remember (I : AI) (F : AF) : AQ :=
  if ¬ (I 34) = (nI 20) then
    f_X10_remember_52 (fun v1_1676 I1677 F1678 =>
      some (0, (va_up I1677 34 ((I1677 34) + (1 : Int32))), F1678)) ab_fu (0 : Int32) I F
  else
    f_X10_remember_12 (fun v1_1683 I1684 F1685 =>
      ab_lt (va_up I1684 34 ((I1684 34) - (1 : Int32))) (fun I1686 =>
        f_X10_remember_52 (fun v1_1687 I1688 F1689 =>
          some (0, (va_up I1688 34 ((I1688 34) + (1 : Int32))), F1689)) ab_fu (0 : Int32) I1686 F1685)) ab_fu (nI 22) I F
set_option maxRecDepth 20000 in
set_option maxHeartbeats 4000000 in
theorem kf_X10_remember (I : AI) (F : AF) : OK 0 mX10_remember false (f_X10_remember I F) (0, [(0, .ref 49)], [], hp I F) := by
  rw [f_X10_remember]
  refine OK_st 4 okX10_remember (S' := ((if ¬ (I 34) = (nI 20) then 50 else 9), [(0, .ref 49)], [], hp I F)) rfl ⟨trivial, trivial, trivial, trivial, trivial⟩ ?_
  refine OK_if (fun h1671 => ?_) (fun h1671 => ?_)
  · refine OK_st 2 okX10_remember (S' := (52, [(1, .int (0 : Int32)), (0, .ref 49)], [], hp I F)) rfl ⟨trivial, (by decide), trivial⟩ ?_
    refine OK_pk [1, 0] rfl ?_
    refine kf_X10_remember_52 _ (fun v1_1676 I1677 F1678 => ?_) ab_fu (0 : Int32) I F
    refine OK_st 6 okX10_remember (S' := (94, [(0, .ref 49), (1, .int v1_1676)], [], hp (va_up I1677 34 ((I1677 34) + (1 : Int32))) F1678)) rfl ⟨trivial, rfl, trivial, trivial, trivial, trivial, trivial⟩ ?_
    exact OK_rv okX10_remember rfl rfl rfl
  · refine OK_st 2 okX10_remember (S' := (12, [(1, .int (nI 22)), (0, .ref 49)], [], hp I F)) rfl ⟨trivial, (by decide), trivial⟩ ?_
    refine OK_pk [1, 0] rfl ?_
    refine kf_X10_remember_12 _ (fun v1_1683 I1684 F1685 => ?_) ab_fu (nI 22) I F
    refine OK_st 8 okX10_remember (S' := (52, [(1, .int (0 : Int32)), (0, .ref 49)], [], hp (va_up I1684 34 ((I1684 34) - (1 : Int32))) F1685)) rfl ⟨trivial, rfl, trivial, trivial, trivial, trivial, trivial, (by decide), trivial⟩ ?_
    refine OK_lt (fun I1686 => (52, [(1, .int (0 : Int32)), (0, .ref 49)], [], hp I1686 F1685)) (fun I1686 => ?_)
    refine OK_pk [1, 0] rfl ?_
    refine kf_X10_remember_52 _ (fun v1_1687 I1688 F1689 => ?_) ab_fu (0 : Int32) I1686 F1685
    refine OK_st 6 okX10_remember (S' := (94, [(0, .ref 49), (1, .int v1_1687)], [], hp (va_up I1688 34 ((I1688 34) + (1 : Int32))) F1689)) rfl ⟨trivial, rfl, trivial, trivial, trivial, trivial, trivial⟩ ?_
    exact OK_rv okX10_remember rfl rfl rfl

def f_X10_pass_2 (ko : Int32 → AI → AF → AQ) : Nat → Int32 → AI → AF → AQ
  | 0, _, _, _ => none
  | n + 1, v1, I, F =>
    if (I 23) ≤ v1 then
      ko v1 I F
    else
      bif ab_vin v1 6 then
        if ¬ ((F 40) v1.toNatClampNeg) = ((F 47) 19) then
          f_X10_pass_2 ko n (v1 + (1 : Int32)) I F
        else
          bif ab_vin v1 6 then
            bif ab_vin v1 6 then
              ab_bd (f_X10_measureNow ((F 41) v1.toNatClampNeg) I F) (fun r1699 I1700 F1701 =>
                ab_lt (((F 42) v1.toNatClampNeg) * r1699) (fun x1702 =>
                  bif ab_vin ((nI 12) + v1) 22 then
                    ab_lt (va_up F1701 47 (upd (upd (F1701 47) ((nI 12) + v1).toNatClampNeg x1702) 20 (((upd (F1701 47) ((nI 12) + v1).toNatClampNeg x1702) 20) + x1702))) (fun F1704 =>
                      if ¬ x1702 = 0 then
                        ab_lt (va_up F1704 47 (upd (F1704 47) 21 (((upd (upd (F1701 47) ((nI 12) + v1).toNatClampNeg x1702) 20 (((upd (F1701 47) ((nI 12) + v1).toNatClampNeg x1702) 20) + x1702)) 21) ||| (0 : Int32)))) (fun F1706 =>
                          f_X10_pass_2 ko n (v1 + (1 : Int32)) I1700 F1706)
                      else
                        ab_lt (va_up F1704 47 (upd (F1704 47) 21 (((upd (upd (F1701 47) ((nI 12) + v1).toNatClampNeg x1702) 20 (((upd (F1701 47) ((nI 12) + v1).toNatClampNeg x1702) 20) + x1702)) 21) ||| ((1 : Int32) <<< (v1 &&& 31))))) (fun F1707 =>
                          f_X10_pass_2 ko n (v1 + (1 : Int32)) I1700 F1707))
                  else none))
            else none
          else none
      else none
set_option maxRecDepth 20000 in
set_option maxHeartbeats 4000000 in
theorem kf_X10_pass_2 (ko : Int32 → AI → AF → AQ) (hko : ∀ v1 I F, OK 4 mX10_pass false (ko v1 I F) (92, [(0, .ref 49), (1, .int v1)], [], hp I F)) : ∀ n v1 I F, OK 4 mX10_pass false (f_X10_pass_2 ko n v1 I F) (2, [(0, .ref 49), (1, .int v1)], [], hp I F) := by
  intro n
  induction n with
  | zero =>
    intro v1 I F
    exact OK_no
  | succ n ih =>
    intro v1 I F
    rw [f_X10_pass_2]
    refine OK_st 4 okX10_pass (S' := ((if (I 23) ≤ v1 then 92 else 10), [(0, .ref 49), (1, .int v1)], [], hp I F)) rfl ⟨trivial, trivial, trivial, trivial, trivial⟩ ?_
    refine OK_if (fun h1694 => ?_) (fun h1694 => ?_)
    · exact hko v1 I F
    · refine OK_gd (fun g1695 => ?_)
      refine OK_st 9 okX10_pass (S' := ((if ¬ ((F 40) v1.toNatClampNeg) = ((F 47) 19) then 86 else 26), [(0, .ref 49), (1, .int v1)], [], hp I F)) rfl ⟨trivial, trivial, trivial, (ab_vo g1695), trivial, trivial, trivial, (ab_vo (by decide)), trivial, trivial⟩ ?_
      refine OK_if (fun h1696 => ?_) (fun h1696 => ?_)
      · refine OK_st 2 okX10_pass (S' := (2, [(1, .int (v1 + (1 : Int32))), (0, .ref 49)], [], hp I F)) rfl ⟨(by decide), trivial, trivial⟩ ?_
        refine OK_pk [1, 0] rfl ?_
        exact ih (v1 + (1 : Int32)) I F
      · refine OK_gd (fun g1697 => ?_)
        refine OK_gd (fun g1698 => ?_)
        refine OK_st 9 okX10_pass (S' := (39, [(0, .ref 49), (1, .int v1)], [.int ((F 41) v1.toNatClampNeg), .ref 49, .int ((F 42) v1.toNatClampNeg)], hp I F)) rfl ⟨trivial, trivial, trivial, (ab_vo g1697), trivial, trivial, trivial, trivial, (ab_vo g1698), trivial⟩ ?_
        refine OK_cv [.int ((F 41) v1.toNatClampNeg)] [.int ((F 42) v1.toNatClampNeg)] okX10_pass okX10_measureNow rfl rfl cl_RX10_204 rfl rfl (Nat.le_of_ble_eq_true rfl) (by decide) (Nat.le_of_ble_eq_true rfl) (kf_X10_measureNow ((F 41) v1.toNatClampNeg) I F) (fun r1699 I1700 F1701 => ?_)
        refine OK_st 2 okX10_pass (S' := (44, [(2, .int (((F 42) v1.toNatClampNeg) * r1699)), (0, .ref 49), (1, .int v1)], [], hp I1700 F1701)) rfl ⟨trivial, (by decide), trivial⟩ ?_
        refine OK_lt (fun x1702 => (44, [(2, .int x1702), (0, .ref 49), (1, .int v1)], [], hp I1700 F1701)) (fun x1702 => ?_)
        refine OK_gd (fun g1703 => ?_)
        refine OK_st 22 okX10_pass (S' := ((if ¬ x1702 = 0 then 83 else 77), [(2, .int x1702), (0, .ref 49), (1, .int v1)], [.int ((upd (upd (F1701 47) ((nI 12) + v1).toNatClampNeg x1702) 20 (((upd (F1701 47) ((nI 12) + v1).toNatClampNeg x1702) 20) + x1702)) 21), .int (nI 21), .ref 59], hp I1700 (va_up F1701 47 (upd (upd (F1701 47) ((nI 12) + v1).toNatClampNeg x1702) 20 (((upd (F1701 47) ((nI 12) + v1).toNatClampNeg x1702) 20) + x1702))))) rfl ⟨trivial, trivial, trivial, trivial, trivial, trivial, (ab_vo g1703), trivial, trivial, trivial, ⟨rfl, rfl⟩, (ab_vo (by decide)), trivial, trivial, (ab_vo (by decide)), trivial, trivial, trivial, ⟨rfl, rfl⟩, (ab_vo (by decide)), trivial, trivial, trivial⟩ ?_
        refine OK_lt (fun F1704 => ((if ¬ x1702 = 0 then 83 else 77), [(2, .int x1702), (0, .ref 49), (1, .int v1)], [.int ((upd (upd (F1701 47) ((nI 12) + v1).toNatClampNeg x1702) 20 (((upd (F1701 47) ((nI 12) + v1).toNatClampNeg x1702) 20) + x1702)) 21), .int (nI 21), .ref 59], hp I1700 F1704)) (fun F1704 => ?_)
        refine OK_if (fun h1705 => ?_) (fun h1705 => ?_)
        · refine OK_st 5 okX10_pass (S' := (2, [(1, .int (v1 + (1 : Int32))), (2, .int x1702), (0, .ref 49)], [], hp I1700 (va_up F1704 47 (upd (F1704 47) 21 (((upd (upd (F1701 47) ((nI 12) + v1).toNatClampNeg x1702) 20 (((upd (F1701 47) ((nI 12) + v1).toNatClampNeg x1702) 20) + x1702)) 21) ||| (0 : Int32)))))) rfl ⟨trivial, trivial, (ab_vo (by decide)), (by decide), trivial, trivial⟩ ?_
          refine OK_lt (fun F1706 => (2, [(1, .int (v1 + (1 : Int32))), (2, .int x1702), (0, .ref 49)], [], hp I1700 F1706)) (fun F1706 => ?_)
          refine OK_pk [2, 0] rfl ?_
          exact ih (v1 + (1 : Int32)) I1700 F1706
        · refine OK_st 8 okX10_pass (S' := (2, [(1, .int (v1 + (1 : Int32))), (2, .int x1702), (0, .ref 49)], [], hp I1700 (va_up F1704 47 (upd (F1704 47) 21 (((upd (upd (F1701 47) ((nI 12) + v1).toNatClampNeg x1702) 20 (((upd (F1701 47) ((nI 12) + v1).toNatClampNeg x1702) 20) + x1702)) 21) ||| ((1 : Int32) <<< (v1 &&& 31))))))) rfl ⟨trivial, trivial, trivial, trivial, trivial, (ab_vo (by decide)), (by decide), trivial, trivial⟩ ?_
          refine OK_lt (fun F1707 => (2, [(1, .int (v1 + (1 : Int32))), (2, .int x1702), (0, .ref 49)], [], hp I1700 F1707)) (fun F1707 => ?_)
          refine OK_pk [2, 0] rfl ?_
          exact ih (v1 + (1 : Int32)) I1700 F1707

def f_X10_pass (I : AI) (F : AF) : AQ :=
  f_X10_pass_2 (fun v1_1708 I1709 F1710 =>
    some (0, I1709, (va_up F1710 47 (upd (F1710 47) 19 (((F1710 47) 19) + (1 : Int32)))))) ab_fu (0 : Int32) I F
set_option maxRecDepth 20000 in
set_option maxHeartbeats 4000000 in
theorem kf_X10_pass (I : AI) (F : AF) : OK 4 mX10_pass false (f_X10_pass I F) (0, [(0, .ref 49)], [], hp I F) := by
  rw [f_X10_pass]
  refine OK_st 2 okX10_pass (S' := (2, [(1, .int (0 : Int32)), (0, .ref 49)], [], hp I F)) rfl ⟨trivial, (by decide), trivial⟩ ?_
  refine OK_pk [1, 0] rfl ?_
  refine kf_X10_pass_2 _ (fun v1_1708 I1709 F1710 => ?_) ab_fu (0 : Int32) I F
  refine OK_st 8 okX10_pass (S' := (103, [(0, .ref 49), (1, .int v1_1708)], [], hp I1709 (va_up F1710 47 (upd (F1710 47) 19 (((F1710 47) 19) + (1 : Int32)))))) rfl ⟨trivial, trivial, trivial, ⟨rfl, rfl⟩, (ab_vo (by decide)), trivial, trivial, (ab_vo (by decide)), trivial⟩ ?_
  exact OK_rv okX10_pass rfl rfl rfl

def f_X10_season_18 (v1 : Int32) (ko : Int32 → AI → AF → AQ) : Nat → Int32 → AI → AF → AQ
  | 0, _, _, _ => none
  | n + 1, v3, I, F =>
    if v1 ≤ v3 then
      ko v3 I F
    else
      ab_bd (f_X10_pass I F) (fun r1711 I1712 F1713 =>
        f_X10_season_18 v1 ko n (v3 + (1 : Int32)) I1712 F1713)
set_option maxRecDepth 20000 in
set_option maxHeartbeats 4000000 in
theorem kf_X10_season_18 (v1 : Int32) (ko : Int32 → AI → AF → AQ) (hko : ∀ v3 I F, OK 5 mX10_season true (ko v3 I F) (33, [(0, .ref 49), (1, .int v1), (3, .int v3)], [], hp I F)) : ∀ n v3 I F, OK 5 mX10_season true (f_X10_season_18 v1 ko n v3 I F) (18, [(0, .ref 49), (1, .int v1), (3, .int v3)], [], hp I F) := by
  intro n
  induction n with
  | zero =>
    intro v3 I F
    exact OK_no
  | succ n ih =>
    intro v3 I F
    rw [f_X10_season_18]
    refine OK_st 3 okX10_season (S' := ((if v1 ≤ v3 then 33 else 23), [(0, .ref 49), (1, .int v1), (3, .int v3)], [], hp I F)) rfl ⟨trivial, trivial, trivial, trivial⟩ ?_
    refine OK_if (fun h1693 => ?_) (fun h1693 => ?_)
    · exact hko v3 I F
    · refine OK_st 1 okX10_season (S' := (24, [(0, .ref 49), (1, .int v1), (3, .int v3)], [.ref 49], hp I F)) rfl ⟨trivial, trivial⟩ ?_
      refine OK_cv [] [] okX10_season okX10_pass rfl rfl cl_RX10_221 rfl rfl (Nat.le_of_ble_eq_true rfl) (by decide) (Nat.le_of_ble_eq_true rfl) (kf_X10_pass I F) (fun r1711 I1712 F1713 => ?_)
      refine OK_st 2 okX10_season (S' := (18, [(3, .int (v3 + (1 : Int32))), (0, .ref 49), (1, .int v1)], [], hp I1712 F1713)) rfl ⟨(by decide), trivial, trivial⟩ ?_
      refine OK_pk [1, 2, 0] rfl ?_
      exact ih (v3 + (1 : Int32)) I1712 F1713

def f_X10_season (v1 : Int32) (I : AI) (F : AF) : AQ :=
  ab_bd (f_X10_seasonsRefused v1 I F) (fun r1667 I1668 F1669 =>
    if r1667 = 0 then
      ab_bd (f_X10_remember I1668 F1669) (fun r1690 I1691 F1692 =>
        f_X10_season_18 v1 (fun v3_1714 I1715 F1716 =>
          some (((F1716 47) 19), I1715, F1716)) ab_fu (0 : Int32) I1691 F1692)
    else
      some (r1667, I1668, F1669))
set_option maxRecDepth 20000 in
set_option maxHeartbeats 4000000 in
theorem kf_X10_season (v1 : Int32) (I : AI) (F : AF) : OK 5 mX10_season true (f_X10_season v1 I F) (0, [(0, .ref 49), (1, .int v1)], [], hp I F) := by
  rw [f_X10_season]
  refine OK_st 2 okX10_season (S' := (2, [(0, .ref 49), (1, .int v1)], [.int v1, .ref 49], hp I F)) rfl ⟨trivial, trivial, trivial⟩ ?_
  refine OK_cv [.int v1] [] okX10_season okX10_seasonsRefused rfl rfl cl_RX10_215 rfl rfl (Nat.le_of_ble_eq_true rfl) (by decide) (Nat.le_of_ble_eq_true rfl) (kf_X10_seasonsRefused v1 I F) (fun r1667 I1668 F1669 => ?_)
  refine OK_st 3 okX10_season (S' := ((if r1667 = 0 then 12 else 10), [(2, .int r1667), (0, .ref 49), (1, .int v1)], [], hp I1668 F1669)) rfl ⟨(by decide), trivial, trivial, trivial⟩ ?_
  refine OK_if (fun h1670 => ?_) (fun h1670 => ?_)
  · refine OK_st 1 okX10_season (S' := (13, [(2, .int r1667), (0, .ref 49), (1, .int v1)], [.ref 49], hp I1668 F1669)) rfl ⟨trivial, trivial⟩ ?_
    refine OK_cv [] [] okX10_season okX10_remember rfl rfl cl_RX10_218 rfl rfl (Nat.le_of_ble_eq_true rfl) (by decide) (Nat.le_of_ble_eq_true rfl) (kf_X10_remember I1668 F1669) (fun r1690 I1691 F1692 => ?_)
    refine OK_st 2 okX10_season (S' := (18, [(3, .int (0 : Int32)), (2, .int r1667), (0, .ref 49), (1, .int v1)], [], hp I1691 F1692)) rfl ⟨trivial, (by decide), trivial⟩ ?_
    refine OK_pk [2, 3, 0] rfl ?_
    refine kf_X10_season_18 v1 _ (fun v3_1714 I1715 F1716 => ?_) ab_fu (0 : Int32) I1691 F1692
    refine OK_st 4 okX10_season (S' := (40, [(0, .ref 49), (1, .int v1), (3, .int v3_1714)], [.int ((F1716 47) 19)], hp I1715 F1716)) rfl ⟨trivial, trivial, trivial, (ab_vo (by decide)), trivial⟩ ?_
    exact OK_ri okX10_season rfl rfl (Or.inl rfl)
  · refine OK_st 1 okX10_season (S' := (11, [(2, .int r1667), (0, .ref 49), (1, .int v1)], [.int r1667], hp I1668 F1669)) rfl ⟨trivial, trivial⟩ ?_
    exact OK_ri okX10_season rfl rfl (Or.inl rfl)

def f_X10_swell (v1 : Int32) (v2 : Int32) (I : AI) (F : AF) : AQ :=
  bif ab_vin v1 22 then
    if (nI 140) ≤ (((F 47) v1.toNatClampNeg) + v2) then
      bif ab_vin v1 22 then
        some (0, I, (va_up F 47 (upd (F 47) v1.toNatClampNeg (nI 140))))
      else none
    else
      bif ab_vin v1 22 then
        bif ab_vin v1 22 then
          some (0, I, (va_up F 47 (upd (F 47) v1.toNatClampNeg (((F 47) v1.toNatClampNeg) + v2))))
        else none
      else none
  else none
set_option maxRecDepth 20000 in
set_option maxHeartbeats 4000000 in
theorem kf_X10_swell (v1 : Int32) (v2 : Int32) (I : AI) (F : AF) : OK 0 mX10_swell false (f_X10_swell v1 v2 I F) (0, [(0, .ref 49), (1, .int v1), (2, .int v2)], [], hp I F) := by
  rw [f_X10_swell]
  refine OK_gd (fun g1732 => ?_)
  refine OK_st 11 okX10_swell (S' := ((if (nI 140) ≤ (((F 47) v1.toNatClampNeg) + v2) then 30 else 19), [(0, .ref 49), (1, .int v1), (2, .int v2)], [.int v1, .ref 59], hp I F)) rfl ⟨trivial, trivial, trivial, trivial, trivial, trivial, (ab_vo g1732), trivial, trivial, trivial, trivial, trivial⟩ ?_
  refine OK_if (fun h1733 => ?_) (fun h1733 => ?_)
  · refine OK_gd (fun g1734 => ?_)
    refine OK_st 2 okX10_swell (S' := (34, [(0, .ref 49), (1, .int v1), (2, .int v2)], [], hp I (va_up F 47 (upd (F 47) v1.toNatClampNeg (nI 140))))) rfl ⟨trivial, (ab_vo g1734), trivial⟩ ?_
    exact OK_rv okX10_swell rfl rfl rfl
  · refine OK_gd (fun g1735 => ?_)
    refine OK_gd (fun g1736 => ?_)
    refine OK_st 8 okX10_swell (S' := (34, [(0, .ref 49), (1, .int v1), (2, .int v2)], [], hp I (va_up F 47 (upd (F 47) v1.toNatClampNeg (((F 47) v1.toNatClampNeg) + v2))))) rfl ⟨trivial, trivial, trivial, (ab_vo g1735), trivial, trivial, trivial, (ab_vo g1736), trivial⟩ ?_
    exact OK_rv okX10_swell rfl rfl rfl

def f_X10_gout (v1 : Int32) (v2 : Int32) (I : AI) (F : AF) : AQ :=
  ab_bd (f_X10_isLimb v1 I F) (fun r1717 I1718 F1719 =>
    if ¬ r1717 = 0 then
      ab_bd (f_X10_in v2.toInt64 (1 : Int64) (20 : Int64) I1718 F1719) (fun r1721 I1722 F1723 =>
        if ¬ r1721 = 0 then
          ab_bd (f_X10_lives v1 I1722 F1723) (fun r1725 I1726 F1727 =>
            if ¬ r1725 = 0 then
              ab_bd (f_X10_remember I1726 F1727) (fun r1729 I1730 F1731 =>
                ab_bd (f_X10_swell v1 v2 I1730 F1731) (fun r1737 I1738 F1739 =>
                  bif ab_vin v1 22 then
                    some (((F1739 47) v1.toNatClampNeg), I1738, F1739)
                  else none))
            else
              some ((-1000000003 : Int32), I1726, F1727))
        else
          some ((-1000000002 : Int32), I1722, F1723))
    else
      some ((-1000000001 : Int32), I1718, F1719))
set_option maxRecDepth 20000 in
set_option maxHeartbeats 4000000 in
theorem kf_X10_gout (v1 : Int32) (v2 : Int32) (I : AI) (F : AF) : OK 2 mX10_gout true (f_X10_gout v1 v2 I F) (0, [(0, .ref 49), (1, .int v1), (2, .int v2)], [], hp I F) := by
  rw [f_X10_gout]
  refine OK_st 2 okX10_gout (S' := (2, [(0, .ref 49), (1, .int v1), (2, .int v2)], [.int v1, .ref 49], hp I F)) rfl ⟨trivial, trivial, trivial⟩ ?_
  refine OK_cv [.int v1] [] okX10_gout okX10_isLimb rfl rfl cl_RX10_200 rfl rfl (Nat.le_of_ble_eq_true rfl) (by decide) (Nat.le_of_ble_eq_true rfl) (kf_X10_isLimb v1 I F) (fun r1717 I1718 F1719 => ?_)
  refine OK_st 1 okX10_gout (S' := ((if ¬ r1717 = 0 then 11 else 8), [(0, .ref 49), (1, .int v1), (2, .int v2)], [], hp I1718 F1719)) rfl ⟨trivial, trivial⟩ ?_
  refine OK_if (fun h1720 => ?_) (fun h1720 => ?_)
  · refine OK_st 4 okX10_gout (S' := (17, [(0, .ref 49), (1, .int v1), (2, .int v2)], [.long (20 : Int64), .long (1 : Int64), .long v2.toInt64], hp I1718 F1719)) rfl ⟨trivial, trivial, trivial, trivial, trivial⟩ ?_
    refine OK_cs [.long v2.toInt64, .long (1 : Int64), .long (20 : Int64)] [] okX10_gout okX10_in rfl rfl cl_RX10_102 (Nat.le_of_ble_eq_true rfl) (by decide) (Nat.le_of_ble_eq_true rfl) (kf_X10_in v2.toInt64 (1 : Int64) (20 : Int64) I1718 F1719) (fun r1721 I1722 F1723 => ?_)
    refine OK_st 1 okX10_gout (S' := ((if ¬ r1721 = 0 then 26 else 23), [(0, .ref 49), (1, .int v1), (2, .int v2)], [], hp I1722 F1723)) rfl ⟨trivial, trivial⟩ ?_
    refine OK_if (fun h1724 => ?_) (fun h1724 => ?_)
    · refine OK_st 2 okX10_gout (S' := (28, [(0, .ref 49), (1, .int v1), (2, .int v2)], [.int v1, .ref 49], hp I1722 F1723)) rfl ⟨trivial, trivial, trivial⟩ ?_
      refine OK_cv [.int v1] [] okX10_gout okX10_lives rfl rfl cl_RX10_190 rfl rfl (Nat.le_of_ble_eq_true rfl) (by decide) (Nat.le_of_ble_eq_true rfl) (kf_X10_lives v1 I1722 F1723) (fun r1725 I1726 F1727 => ?_)
      refine OK_st 1 okX10_gout (S' := ((if ¬ r1725 = 0 then 37 else 34), [(0, .ref 49), (1, .int v1), (2, .int v2)], [], hp I1726 F1727)) rfl ⟨trivial, trivial⟩ ?_
      refine OK_if (fun h1728 => ?_) (fun h1728 => ?_)
      · refine OK_st 1 okX10_gout (S' := (38, [(0, .ref 49), (1, .int v1), (2, .int v2)], [.ref 49], hp I1726 F1727)) rfl ⟨trivial, trivial⟩ ?_
        refine OK_cv [] [] okX10_gout okX10_remember rfl rfl cl_RX10_218 rfl rfl (Nat.le_of_ble_eq_true rfl) (by decide) (Nat.le_of_ble_eq_true rfl) (kf_X10_remember I1726 F1727) (fun r1729 I1730 F1731 => ?_)
        refine OK_st 3 okX10_gout (S' := (44, [(0, .ref 49), (1, .int v1), (2, .int v2)], [.int v2, .int v1, .ref 49], hp I1730 F1731)) rfl ⟨trivial, trivial, trivial, trivial⟩ ?_
        refine OK_cv [.int v1, .int v2] [] okX10_gout okX10_swell rfl rfl cl_RX10_226 rfl rfl (Nat.le_of_ble_eq_true rfl) (by decide) (Nat.le_of_ble_eq_true rfl) (kf_X10_swell v1 v2 I1730 F1731) (fun r1737 I1738 F1739 => ?_)
        refine OK_gd (fun g1740 => ?_)
        refine OK_st 4 okX10_gout (S' := (53, [(0, .ref 49), (1, .int v1), (2, .int v2)], [.int ((F1739 47) v1.toNatClampNeg)], hp I1738 F1739)) rfl ⟨trivial, trivial, trivial, (ab_vo g1740), trivial⟩ ?_
        exact OK_ri okX10_gout rfl rfl (Or.inl rfl)
      · refine OK_st 1 okX10_gout (S' := (36, [(0, .ref 49), (1, .int v1), (2, .int v2)], [.int (-1000000003 : Int32)], hp I1726 F1727)) rfl ⟨trivial, trivial⟩ ?_
        exact OK_ri okX10_gout rfl rfl (Or.inl rfl)
    · refine OK_st 1 okX10_gout (S' := (25, [(0, .ref 49), (1, .int v1), (2, .int v2)], [.int (-1000000002 : Int32)], hp I1722 F1723)) rfl ⟨trivial, trivial⟩ ?_
      exact OK_ri okX10_gout rfl rfl (Or.inl rfl)
  · refine OK_st 1 okX10_gout (S' := (10, [(0, .ref 49), (1, .int v1), (2, .int v2)], [.int (-1000000001 : Int32)], hp I1718 F1719)) rfl ⟨trivial, trivial⟩ ?_
    exact OK_ri okX10_gout rfl rfl (Or.inl rfl)

def f_X10_shrink (v1 : Int32) (I : AI) (F : AF) : AQ :=
  bif ab_vin v1 22 then
    if ((F 47) v1.toNatClampNeg) ≤ (nI 4) then
      bif ab_vin v1 22 then
        some (0, I, (va_up F 47 (upd (F 47) v1.toNatClampNeg (1 : Int32))))
      else none
    else
      bif ab_vin v1 22 then
        bif ab_vin v1 22 then
          some (0, I, (va_up F 47 (upd (F 47) v1.toNatClampNeg (((F 47) v1.toNatClampNeg) - (nI 3)))))
        else none
      else none
  else none
set_option maxRecDepth 20000 in
set_option maxHeartbeats 4000000 in
theorem kf_X10_shrink (v1 : Int32) (I : AI) (F : AF) : OK 0 mX10_shrink false (f_X10_shrink v1 I F) (0, [(0, .ref 49), (1, .int v1)], [], hp I F) := by
  rw [f_X10_shrink]
  refine OK_gd (fun g1752 => ?_)
  refine OK_st 9 okX10_shrink (S' := ((if ((F 47) v1.toNatClampNeg) ≤ (nI 4) then 26 else 15), [(0, .ref 49), (1, .int v1)], [.int v1, .ref 59], hp I F)) rfl ⟨trivial, trivial, trivial, trivial, trivial, trivial, (ab_vo g1752), trivial, trivial, trivial⟩ ?_
  refine OK_if (fun h1753 => ?_) (fun h1753 => ?_)
  · refine OK_gd (fun g1754 => ?_)
    refine OK_st 2 okX10_shrink (S' := (28, [(0, .ref 49), (1, .int v1)], [], hp I (va_up F 47 (upd (F 47) v1.toNatClampNeg (1 : Int32))))) rfl ⟨trivial, (ab_vo g1754), trivial⟩ ?_
    exact OK_rv okX10_shrink rfl rfl rfl
  · refine OK_gd (fun g1755 => ?_)
    refine OK_gd (fun g1756 => ?_)
    refine OK_st 8 okX10_shrink (S' := (28, [(0, .ref 49), (1, .int v1)], [], hp I (va_up F 47 (upd (F 47) v1.toNatClampNeg (((F 47) v1.toNatClampNeg) - (nI 3)))))) rfl ⟨trivial, trivial, trivial, (ab_vo g1755), trivial, trivial, trivial, (ab_vo g1756), trivial⟩ ?_
    exact OK_rv okX10_shrink rfl rfl rfl

def f_X10_stub (v1 : Int32) (I : AI) (F : AF) : AQ :=
  ab_bd (f_X10_isLimb v1 I F) (fun r1741 I1742 F1743 =>
    if ¬ r1741 = 0 then
      ab_bd (f_X10_lives v1 I1742 F1743) (fun r1745 I1746 F1747 =>
        if ¬ r1745 = 0 then
          ab_bd (f_X10_remember I1746 F1747) (fun r1749 I1750 F1751 =>
            ab_bd (f_X10_shrink v1 I1750 F1751) (fun r1757 I1758 F1759 =>
              bif ab_vin v1 22 then
                some (((F1759 47) v1.toNatClampNeg), I1758, F1759)
              else none))
        else
          some ((-1000000003 : Int32), I1746, F1747))
    else
      some ((-1000000001 : Int32), I1742, F1743))
set_option maxRecDepth 20000 in
set_option maxHeartbeats 4000000 in
theorem kf_X10_stub (v1 : Int32) (I : AI) (F : AF) : OK 2 mX10_stub true (f_X10_stub v1 I F) (0, [(0, .ref 49), (1, .int v1)], [], hp I F) := by
  rw [f_X10_stub]
  refine OK_st 2 okX10_stub (S' := (2, [(0, .ref 49), (1, .int v1)], [.int v1, .ref 49], hp I F)) rfl ⟨trivial, trivial, trivial⟩ ?_
  refine OK_cv [.int v1] [] okX10_stub okX10_isLimb rfl rfl cl_RX10_200 rfl rfl (Nat.le_of_ble_eq_true rfl) (by decide) (Nat.le_of_ble_eq_true rfl) (kf_X10_isLimb v1 I F) (fun r1741 I1742 F1743 => ?_)
  refine OK_st 1 okX10_stub (S' := ((if ¬ r1741 = 0 then 11 else 8), [(0, .ref 49), (1, .int v1)], [], hp I1742 F1743)) rfl ⟨trivial, trivial⟩ ?_
  refine OK_if (fun h1744 => ?_) (fun h1744 => ?_)
  · refine OK_st 2 okX10_stub (S' := (13, [(0, .ref 49), (1, .int v1)], [.int v1, .ref 49], hp I1742 F1743)) rfl ⟨trivial, trivial, trivial⟩ ?_
    refine OK_cv [.int v1] [] okX10_stub okX10_lives rfl rfl cl_RX10_190 rfl rfl (Nat.le_of_ble_eq_true rfl) (by decide) (Nat.le_of_ble_eq_true rfl) (kf_X10_lives v1 I1742 F1743) (fun r1745 I1746 F1747 => ?_)
    refine OK_st 1 okX10_stub (S' := ((if ¬ r1745 = 0 then 22 else 19), [(0, .ref 49), (1, .int v1)], [], hp I1746 F1747)) rfl ⟨trivial, trivial⟩ ?_
    refine OK_if (fun h1748 => ?_) (fun h1748 => ?_)
    · refine OK_st 1 okX10_stub (S' := (23, [(0, .ref 49), (1, .int v1)], [.ref 49], hp I1746 F1747)) rfl ⟨trivial, trivial⟩ ?_
      refine OK_cv [] [] okX10_stub okX10_remember rfl rfl cl_RX10_218 rfl rfl (Nat.le_of_ble_eq_true rfl) (by decide) (Nat.le_of_ble_eq_true rfl) (kf_X10_remember I1746 F1747) (fun r1749 I1750 F1751 => ?_)
      refine OK_st 2 okX10_stub (S' := (28, [(0, .ref 49), (1, .int v1)], [.int v1, .ref 49], hp I1750 F1751)) rfl ⟨trivial, trivial, trivial⟩ ?_
      refine OK_cv [.int v1] [] okX10_stub okX10_shrink rfl rfl cl_RX10_230 rfl rfl (Nat.le_of_ble_eq_true rfl) (by decide) (Nat.le_of_ble_eq_true rfl) (kf_X10_shrink v1 I1750 F1751) (fun r1757 I1758 F1759 => ?_)
      refine OK_gd (fun g1760 => ?_)
      refine OK_st 4 okX10_stub (S' := (37, [(0, .ref 49), (1, .int v1)], [.int ((F1759 47) v1.toNatClampNeg)], hp I1758 F1759)) rfl ⟨trivial, trivial, trivial, (ab_vo g1760), trivial⟩ ?_
      exact OK_ri okX10_stub rfl rfl (Or.inl rfl)
    · refine OK_st 1 okX10_stub (S' := (21, [(0, .ref 49), (1, .int v1)], [.int (-1000000003 : Int32)], hp I1746 F1747)) rfl ⟨trivial, trivial⟩ ?_
      exact OK_ri okX10_stub rfl rfl (Or.inl rfl)
  · refine OK_st 1 okX10_stub (S' := (10, [(0, .ref 49), (1, .int v1)], [.int (-1000000001 : Int32)], hp I1742 F1743)) rfl ⟨trivial, trivial⟩ ?_
    exact OK_ri okX10_stub rfl rfl (Or.inl rfl)

def f_X10_dies (v1 : Int32) (I : AI) (F : AF) : AQ :=
  ab_bd (f_X10_isLimb v1 I F) (fun r1761 I1762 F1763 =>
    if ¬ r1761 = 0 then
      ab_bd (f_X10_lives v1 I1762 F1763) (fun r1765 I1766 F1767 =>
        if ¬ r1765 = 0 then
          ab_bd (f_X10_remember I1766 F1767) (fun r1769 I1770 F1771 =>
            ab_lt (va_up F1771 47 (upd (F1771 47) 18 (((F1771 47) 18) &&& (((1 : Int32) <<< (v1 &&& 31)) ^^^ (-1 : Int32))))) (fun F1772 =>
              ab_bd (f_X10_measureNow v1 I1770 F1772) (fun r1773 I1774 F1775 =>
                some (r1773, I1774, F1775))))
        else
          some ((-1000000003 : Int32), I1766, F1767))
    else
      some ((-1000000001 : Int32), I1762, F1763))
set_option maxRecDepth 20000 in
set_option maxHeartbeats 4000000 in
theorem kf_X10_dies (v1 : Int32) (I : AI) (F : AF) : OK 4 mX10_dies true (f_X10_dies v1 I F) (0, [(0, .ref 49), (1, .int v1)], [], hp I F) := by
  rw [f_X10_dies]
  refine OK_st 2 okX10_dies (S' := (2, [(0, .ref 49), (1, .int v1)], [.int v1, .ref 49], hp I F)) rfl ⟨trivial, trivial, trivial⟩ ?_
  refine OK_cv [.int v1] [] okX10_dies okX10_isLimb rfl rfl cl_RX10_200 rfl rfl (Nat.le_of_ble_eq_true rfl) (by decide) (Nat.le_of_ble_eq_true rfl) (kf_X10_isLimb v1 I F) (fun r1761 I1762 F1763 => ?_)
  refine OK_st 1 okX10_dies (S' := ((if ¬ r1761 = 0 then 11 else 8), [(0, .ref 49), (1, .int v1)], [], hp I1762 F1763)) rfl ⟨trivial, trivial⟩ ?_
  refine OK_if (fun h1764 => ?_) (fun h1764 => ?_)
  · refine OK_st 2 okX10_dies (S' := (13, [(0, .ref 49), (1, .int v1)], [.int v1, .ref 49], hp I1762 F1763)) rfl ⟨trivial, trivial, trivial⟩ ?_
    refine OK_cv [.int v1] [] okX10_dies okX10_lives rfl rfl cl_RX10_190 rfl rfl (Nat.le_of_ble_eq_true rfl) (by decide) (Nat.le_of_ble_eq_true rfl) (kf_X10_lives v1 I1762 F1763) (fun r1765 I1766 F1767 => ?_)
    refine OK_st 1 okX10_dies (S' := ((if ¬ r1765 = 0 then 22 else 19), [(0, .ref 49), (1, .int v1)], [], hp I1766 F1767)) rfl ⟨trivial, trivial⟩ ?_
    refine OK_if (fun h1768 => ?_) (fun h1768 => ?_)
    · refine OK_st 1 okX10_dies (S' := (23, [(0, .ref 49), (1, .int v1)], [.ref 49], hp I1766 F1767)) rfl ⟨trivial, trivial⟩ ?_
      refine OK_cv [] [] okX10_dies okX10_remember rfl rfl cl_RX10_218 rfl rfl (Nat.le_of_ble_eq_true rfl) (by decide) (Nat.le_of_ble_eq_true rfl) (kf_X10_remember I1766 F1767) (fun r1769 I1770 F1771 => ?_)
      refine OK_st 14 okX10_dies (S' := (43, [(0, .ref 49), (1, .int v1)], [.int v1, .ref 49], hp I1770 (va_up F1771 47 (upd (F1771 47) 18 (((F1771 47) 18) &&& (((1 : Int32) <<< (v1 &&& 31)) ^^^ (-1 : Int32))))))) rfl ⟨trivial, trivial, trivial, ⟨rfl, rfl⟩, (ab_vo (by decide)), trivial, trivial, trivial, trivial, trivial, trivial, (ab_vo (by decide)), trivial, trivial, trivial⟩ ?_
      refine OK_lt (fun F1772 => (43, [(0, .ref 49), (1, .int v1)], [.int v1, .ref 49], hp I1770 F1772)) (fun F1772 => ?_)
      refine OK_cv [.int v1] [] okX10_dies okX10_measureNow rfl rfl cl_RX10_204 rfl rfl (Nat.le_of_ble_eq_true rfl) (by decide) (Nat.le_of_ble_eq_true rfl) (kf_X10_measureNow v1 I1770 F1772) (fun r1773 I1774 F1775 => ?_)
      exact OK_ri okX10_dies rfl rfl (Or.inl rfl)
    · refine OK_st 1 okX10_dies (S' := (21, [(0, .ref 49), (1, .int v1)], [.int (-1000000003 : Int32)], hp I1766 F1767)) rfl ⟨trivial, trivial⟩ ?_
      exact OK_ri okX10_dies rfl rfl (Or.inl rfl)
  · refine OK_st 1 okX10_dies (S' := (10, [(0, .ref 49), (1, .int v1)], [.int (-1000000001 : Int32)], hp I1762 F1763)) rfl ⟨trivial, trivial⟩ ?_
    exact OK_ri okX10_dies rfl rfl (Or.inl rfl)

def f_X10_copy (v1 : Int32) (I : AI) (F : AF) : AQ :=
  ab_bd (f_X10_isLimb v1 I F) (fun r1776 I1777 F1778 =>
    if ¬ r1776 = 0 then
      ab_bd (f_X10_lives v1 I1777 F1778) (fun r1780 I1781 F1782 =>
        if ¬ r1780 = 0 then
          ab_bd (f_X10_remember I1781 F1782) (fun r1784 I1785 F1786 =>
            ab_bd (f_X10_grown v1 ((F1786 47) 19) I1785 F1786) (fun r1787 I1788 F1789 =>
              bif ab_vin ((nI 6) + v1) 22 then
                bif ab_vin ((nI 6) + v1) 22 then
                  some (((upd (F1789 47) ((nI 6) + v1).toNatClampNeg r1787) ((nI 6) + v1).toNatClampNeg), I1788, (va_up F1789 47 (upd (F1789 47) ((nI 6) + v1).toNatClampNeg r1787)))
                else none
              else none))
        else
          some ((-1000000003 : Int32), I1781, F1782))
    else
      some ((-1000000001 : Int32), I1777, F1778))
set_option maxRecDepth 20000 in
set_option maxHeartbeats 4000000 in
theorem kf_X10_copy (v1 : Int32) (I : AI) (F : AF) : OK 2 mX10_copy true (f_X10_copy v1 I F) (0, [(0, .ref 49), (1, .int v1)], [], hp I F) := by
  rw [f_X10_copy]
  refine OK_st 2 okX10_copy (S' := (2, [(0, .ref 49), (1, .int v1)], [.int v1, .ref 49], hp I F)) rfl ⟨trivial, trivial, trivial⟩ ?_
  refine OK_cv [.int v1] [] okX10_copy okX10_isLimb rfl rfl cl_RX10_200 rfl rfl (Nat.le_of_ble_eq_true rfl) (by decide) (Nat.le_of_ble_eq_true rfl) (kf_X10_isLimb v1 I F) (fun r1776 I1777 F1778 => ?_)
  refine OK_st 1 okX10_copy (S' := ((if ¬ r1776 = 0 then 11 else 8), [(0, .ref 49), (1, .int v1)], [], hp I1777 F1778)) rfl ⟨trivial, trivial⟩ ?_
  refine OK_if (fun h1779 => ?_) (fun h1779 => ?_)
  · refine OK_st 2 okX10_copy (S' := (13, [(0, .ref 49), (1, .int v1)], [.int v1, .ref 49], hp I1777 F1778)) rfl ⟨trivial, trivial, trivial⟩ ?_
    refine OK_cv [.int v1] [] okX10_copy okX10_lives rfl rfl cl_RX10_190 rfl rfl (Nat.le_of_ble_eq_true rfl) (by decide) (Nat.le_of_ble_eq_true rfl) (kf_X10_lives v1 I1777 F1778) (fun r1780 I1781 F1782 => ?_)
    refine OK_st 1 okX10_copy (S' := ((if ¬ r1780 = 0 then 22 else 19), [(0, .ref 49), (1, .int v1)], [], hp I1781 F1782)) rfl ⟨trivial, trivial⟩ ?_
    refine OK_if (fun h1783 => ?_) (fun h1783 => ?_)
    · refine OK_st 1 okX10_copy (S' := (23, [(0, .ref 49), (1, .int v1)], [.ref 49], hp I1781 F1782)) rfl ⟨trivial, trivial⟩ ?_
      refine OK_cv [] [] okX10_copy okX10_remember rfl rfl cl_RX10_218 rfl rfl (Nat.le_of_ble_eq_true rfl) (by decide) (Nat.le_of_ble_eq_true rfl) (kf_X10_remember I1781 F1782) (fun r1784 I1785 F1786 => ?_)
      refine OK_st 11 okX10_copy (S' := (43, [(0, .ref 49), (1, .int v1)], [.int ((F1786 47) 19), .int v1, .ref 49, .int ((nI 6) + v1), .ref 59], hp I1785 F1786)) rfl ⟨trivial, trivial, trivial, trivial, trivial, trivial, trivial, trivial, trivial, trivial, (ab_vo (by decide)), trivial⟩ ?_
      refine OK_cv [.int v1, .int ((F1786 47) 19)] [.int ((nI 6) + v1), .ref 59] okX10_copy okX10_grown rfl rfl cl_RX10_194 rfl rfl (Nat.le_of_ble_eq_true rfl) (by decide) (Nat.le_of_ble_eq_true rfl) (kf_X10_grown v1 ((F1786 47) 19) I1785 F1786) (fun r1787 I1788 F1789 => ?_)
      refine OK_gd (fun g1790 => ?_)
      refine OK_gd (fun g1791 => ?_)
      refine OK_st 7 okX10_copy (S' := (56, [(0, .ref 49), (1, .int v1)], [.int ((upd (F1789 47) ((nI 6) + v1).toNatClampNeg r1787) ((nI 6) + v1).toNatClampNeg)], hp I1788 (va_up F1789 47 (upd (F1789 47) ((nI 6) + v1).toNatClampNeg r1787)))) rfl ⟨(ab_vo g1790), trivial, trivial, trivial, trivial, trivial, (ab_vo g1791), trivial⟩ ?_
      exact OK_ri okX10_copy rfl rfl (Or.inl rfl)
    · refine OK_st 1 okX10_copy (S' := (21, [(0, .ref 49), (1, .int v1)], [.int (-1000000003 : Int32)], hp I1781 F1782)) rfl ⟨trivial, trivial⟩ ?_
      exact OK_ri okX10_copy rfl rfl (Or.inl rfl)
  · refine OK_st 1 okX10_copy (S' := (10, [(0, .ref 49), (1, .int v1)], [.int (-1000000001 : Int32)], hp I1777 F1778)) rfl ⟨trivial, trivial⟩ ?_
    exact OK_ri okX10_copy rfl rfl (Or.inl rfl)

def f_X10_draw (v1 : Int32) (I : AI) (F : AF) : AQ :=
  bif ab_nz v1 then
    some (((((((((I 25).toInt64) * (1103515245 : Int64)) + (12345 : Int64)) - ((((I 25).toInt64) * (1103515245 : Int64)) + (12345 : Int64)) / (2147483648 : Int64) * (2147483648 : Int64)).toInt32) / (nI 65536)) - (((((((I 25).toInt64) * (1103515245 : Int64)) + (12345 : Int64)) - ((((I 25).toInt64) * (1103515245 : Int64)) + (12345 : Int64)) / (2147483648 : Int64) * (2147483648 : Int64)).toInt32) / (nI 65536)) / v1 * v1), (va_up I 25 ((((((I 25).toInt64) * (1103515245 : Int64)) + (12345 : Int64)) - ((((I 25).toInt64) * (1103515245 : Int64)) + (12345 : Int64)) / (2147483648 : Int64) * (2147483648 : Int64)).toInt32)), F)
  else none
set_option maxRecDepth 20000 in
set_option maxHeartbeats 4000000 in
theorem kf_X10_draw (v1 : Int32) (I : AI) (F : AF) : OK 0 mX10_draw true (f_X10_draw v1 I F) (0, [(0, .ref 49), (1, .int v1)], [], hp I F) := by
  rw [f_X10_draw]
  refine OK_gd (fun g1800 => ?_)
  refine OK_st 18 okX10_draw (S' := (31, [(0, .ref 49), (1, .int v1)], [.int ((((((((I 25).toInt64) * (1103515245 : Int64)) + (12345 : Int64)) - ((((I 25).toInt64) * (1103515245 : Int64)) + (12345 : Int64)) / (2147483648 : Int64) * (2147483648 : Int64)).toInt32) / (nI 65536)) - (((((((I 25).toInt64) * (1103515245 : Int64)) + (12345 : Int64)) - ((((I 25).toInt64) * (1103515245 : Int64)) + (12345 : Int64)) / (2147483648 : Int64) * (2147483648 : Int64)).toInt32) / (nI 65536)) / v1 * v1)], hp (va_up I 25 ((((((I 25).toInt64) * (1103515245 : Int64)) + (12345 : Int64)) - ((((I 25).toInt64) * (1103515245 : Int64)) + (12345 : Int64)) / (2147483648 : Int64) * (2147483648 : Int64)).toInt32)) F)) rfl ⟨trivial, trivial, trivial, trivial, trivial, trivial, trivial, trivial, trivial, (by decide), trivial, trivial, trivial, trivial, trivial, (by decide), trivial, (ab_nzo g1800), trivial⟩ ?_
  exact OK_ri okX10_draw rfl rfl (Or.inl rfl)

def f_X10_drawn_j38 (v1 : Int32) (v2 : Int32) (s0 : Int32) (I : AI) (F : AF) : AQ :=
  ab_bd (f_X10_lives v2 I F) (fun r1809 I1810 F1811 =>
    if r1809 = 0 then
      ab_bd (f_X10_lives v2 I1810 F1811) (fun r1813 I1814 F1815 =>
        if r1813 = 0 then
          some (0, I1814, F1815)
        else
          ab_bd (f_X10_shrink v2 I1814 F1815) (fun r1817 I1818 F1819 =>
            some (0, I1818, F1819)))
    else
      if ¬ v1 = 0 then
        ab_bd (f_X10_lives v2 I1810 F1811) (fun r1821 I1822 F1823 =>
          if r1821 = 0 then
            some (0, I1822, F1823)
          else
            ab_bd (f_X10_shrink v2 I1822 F1823) (fun r1825 I1826 F1827 =>
              some (0, I1826, F1827)))
      else
        ab_bd (f_X10_swell v2 s0 I1810 F1811) (fun r1828 I1829 F1830 =>
          some (0, I1829, F1830)))
set_option maxRecDepth 20000 in
set_option maxHeartbeats 4000000 in
theorem kf_X10_drawn_j38 (v1 : Int32) (v2 : Int32) (s0 : Int32) (I : AI) (F : AF) : OK 2 mX10_drawn false (f_X10_drawn_j38 v1 v2 s0 I F) (38, [(0, .ref 49), (1, .int v1), (2, .int v2)], [.int s0], hp I F) := by
  rw [f_X10_drawn_j38]
  refine OK_st 3 okX10_drawn (S' := (41, [(3, .int s0), (0, .ref 49), (1, .int v1), (2, .int v2)], [.int v2, .ref 49], hp I F)) rfl ⟨(by decide), trivial, trivial, trivial⟩ ?_
  refine OK_cv [.int v2] [] okX10_drawn okX10_lives rfl rfl cl_RX10_190 rfl rfl (Nat.le_of_ble_eq_true rfl) (by decide) (Nat.le_of_ble_eq_true rfl) (kf_X10_lives v2 I F) (fun r1809 I1810 F1811 => ?_)
  refine OK_st 1 okX10_drawn (S' := ((if r1809 = 0 then 60 else 47), [(3, .int s0), (0, .ref 49), (1, .int v1), (2, .int v2)], [], hp I1810 F1811)) rfl ⟨trivial, trivial⟩ ?_
  refine OK_if (fun h1812 => ?_) (fun h1812 => ?_)
  · refine OK_st 2 okX10_drawn (S' := (62, [(3, .int s0), (0, .ref 49), (1, .int v1), (2, .int v2)], [.int v2, .ref 49], hp I1810 F1811)) rfl ⟨trivial, trivial, trivial⟩ ?_
    refine OK_cv [.int v2] [] okX10_drawn okX10_lives rfl rfl cl_RX10_190 rfl rfl (Nat.le_of_ble_eq_true rfl) (by decide) (Nat.le_of_ble_eq_true rfl) (kf_X10_lives v2 I1810 F1811) (fun r1813 I1814 F1815 => ?_)
    refine OK_st 1 okX10_drawn (S' := ((if r1813 = 0 then 73 else 68), [(3, .int s0), (0, .ref 49), (1, .int v1), (2, .int v2)], [], hp I1814 F1815)) rfl ⟨trivial, trivial⟩ ?_
    refine OK_if (fun h1816 => ?_) (fun h1816 => ?_)
    · exact OK_rv okX10_drawn rfl rfl rfl
    · refine OK_st 2 okX10_drawn (S' := (70, [(3, .int s0), (0, .ref 49), (1, .int v1), (2, .int v2)], [.int v2, .ref 49], hp I1814 F1815)) rfl ⟨trivial, trivial, trivial⟩ ?_
      refine OK_cv [.int v2] [] okX10_drawn okX10_shrink rfl rfl cl_RX10_230 rfl rfl (Nat.le_of_ble_eq_true rfl) (by decide) (Nat.le_of_ble_eq_true rfl) (kf_X10_shrink v2 I1814 F1815) (fun r1817 I1818 F1819 => ?_)
      exact OK_rv okX10_drawn rfl rfl rfl
  · refine OK_st 2 okX10_drawn (S' := ((if ¬ v1 = 0 then 60 else 51), [(3, .int s0), (0, .ref 49), (1, .int v1), (2, .int v2)], [], hp I1810 F1811)) rfl ⟨trivial, trivial, trivial⟩ ?_
    refine OK_if (fun h1820 => ?_) (fun h1820 => ?_)
    · refine OK_st 2 okX10_drawn (S' := (62, [(3, .int s0), (0, .ref 49), (1, .int v1), (2, .int v2)], [.int v2, .ref 49], hp I1810 F1811)) rfl ⟨trivial, trivial, trivial⟩ ?_
      refine OK_cv [.int v2] [] okX10_drawn okX10_lives rfl rfl cl_RX10_190 rfl rfl (Nat.le_of_ble_eq_true rfl) (by decide) (Nat.le_of_ble_eq_true rfl) (kf_X10_lives v2 I1810 F1811) (fun r1821 I1822 F1823 => ?_)
      refine OK_st 1 okX10_drawn (S' := ((if r1821 = 0 then 73 else 68), [(3, .int s0), (0, .ref 49), (1, .int v1), (2, .int v2)], [], hp I1822 F1823)) rfl ⟨trivial, trivial⟩ ?_
      refine OK_if (fun h1824 => ?_) (fun h1824 => ?_)
      · exact OK_rv okX10_drawn rfl rfl rfl
      · refine OK_st 2 okX10_drawn (S' := (70, [(3, .int s0), (0, .ref 49), (1, .int v1), (2, .int v2)], [.int v2, .ref 49], hp I1822 F1823)) rfl ⟨trivial, trivial, trivial⟩ ?_
        refine OK_cv [.int v2] [] okX10_drawn okX10_shrink rfl rfl cl_RX10_230 rfl rfl (Nat.le_of_ble_eq_true rfl) (by decide) (Nat.le_of_ble_eq_true rfl) (kf_X10_shrink v2 I1822 F1823) (fun r1825 I1826 F1827 => ?_)
        exact OK_rv okX10_drawn rfl rfl rfl
    · refine OK_st 3 okX10_drawn (S' := (54, [(3, .int s0), (0, .ref 49), (1, .int v1), (2, .int v2)], [.int s0, .int v2, .ref 49], hp I1810 F1811)) rfl ⟨trivial, trivial, trivial, trivial⟩ ?_
      refine OK_cv [.int v2, .int s0] [] okX10_drawn okX10_swell rfl rfl cl_RX10_226 rfl rfl (Nat.le_of_ble_eq_true rfl) (by decide) (Nat.le_of_ble_eq_true rfl) (kf_X10_swell v2 s0 I1810 F1811) (fun r1828 I1829 F1830 => ?_)
      refine OK_st 1 okX10_drawn (S' := (73, [(3, .int s0), (0, .ref 49), (1, .int v1), (2, .int v2)], [], hp I1829 F1830)) rfl ⟨trivial, trivial⟩ ?_
      exact OK_rv okX10_drawn rfl rfl rfl

def f_X10_drawn (I : AI) (F : AF) : AQ :=
  ab_bd (f_X10_draw (nI 6) I F) (fun r1801 I1802 F1803 =>
    if r1801 ≤ (1 : Int32) then
      ab_bd (f_X10_draw (I1802 22) I1802 F1803) (fun r1805 I1806 F1807 =>
        if ¬ r1801 = 0 then
          f_X10_drawn_j38 r1801 r1805 (0 : Int32) I1806 F1807
        else
          ab_bd (f_X10_draw (nI 20) I1806 F1807) (fun r1831 I1832 F1833 =>
            f_X10_drawn_j38 r1801 r1805 (r1831 + (1 : Int32)) I1832 F1833))
    else
      some (0, I1802, F1803))
set_option maxRecDepth 20000 in
set_option maxHeartbeats 4000000 in
theorem kf_X10_drawn (I : AI) (F : AF) : OK 2 mX10_drawn false (f_X10_drawn I F) (0, [(0, .ref 49)], [], hp I F) := by
  rw [f_X10_drawn]
  refine OK_st 2 okX10_drawn (S' := (3, [(0, .ref 49)], [.int (nI 6), .ref 49], hp I F)) rfl ⟨trivial, trivial, trivial⟩ ?_
  refine OK_cv [.int (nI 6)] [] okX10_drawn okX10_draw rfl rfl cl_RX10_244 rfl rfl (Nat.le_of_ble_eq_true rfl) (by decide) (Nat.le_of_ble_eq_true rfl) (kf_X10_draw (nI 6) I F) (fun r1801 I1802 F1803 => ?_)
  refine OK_st 4 okX10_drawn (S' := ((if r1801 ≤ (1 : Int32) then 13 else 12), [(1, .int r1801), (0, .ref 49)], [], hp I1802 F1803)) rfl ⟨(by decide), trivial, trivial, trivial, trivial⟩ ?_
  refine OK_if (fun h1804 => ?_) (fun h1804 => ?_)
  · refine OK_st 3 okX10_drawn (S' := (18, [(1, .int r1801), (0, .ref 49)], [.int (I1802 22), .ref 49], hp I1802 F1803)) rfl ⟨trivial, trivial, trivial, trivial⟩ ?_
    refine OK_cv [.int (I1802 22)] [] okX10_drawn okX10_draw rfl rfl cl_RX10_244 rfl rfl (Nat.le_of_ble_eq_true rfl) (by decide) (Nat.le_of_ble_eq_true rfl) (kf_X10_draw (I1802 22) I1802 F1803) (fun r1805 I1806 F1807 => ?_)
    refine OK_st 3 okX10_drawn (S' := ((if ¬ r1801 = 0 then 37 else 26), [(2, .int r1805), (1, .int r1801), (0, .ref 49)], [], hp I1806 F1807)) rfl ⟨(by decide), trivial, trivial, trivial⟩ ?_
    refine OK_if (fun h1808 => ?_) (fun h1808 => ?_)
    · refine OK_st 1 okX10_drawn (S' := (38, [(2, .int r1805), (1, .int r1801), (0, .ref 49)], [.int (0 : Int32)], hp I1806 F1807)) rfl ⟨trivial, trivial⟩ ?_
      refine OK_pk [2, 1, 0] rfl ?_
      exact kf_X10_drawn_j38 r1801 r1805 (0 : Int32) I1806 F1807
    · refine OK_st 2 okX10_drawn (S' := (29, [(2, .int r1805), (1, .int r1801), (0, .ref 49)], [.int (nI 20), .ref 49], hp I1806 F1807)) rfl ⟨trivial, trivial, trivial⟩ ?_
      refine OK_cv [.int (nI 20)] [] okX10_drawn okX10_draw rfl rfl cl_RX10_244 rfl rfl (Nat.le_of_ble_eq_true rfl) (by decide) (Nat.le_of_ble_eq_true rfl) (kf_X10_draw (nI 20) I1806 F1807) (fun r1831 I1832 F1833 => ?_)
      refine OK_st 3 okX10_drawn (S' := (38, [(2, .int r1805), (1, .int r1801), (0, .ref 49)], [.int (r1831 + (1 : Int32))], hp I1832 F1833)) rfl ⟨trivial, trivial, trivial, trivial⟩ ?_
      refine OK_pk [2, 1, 0] rfl ?_
      exact kf_X10_drawn_j38 r1801 r1805 (r1831 + (1 : Int32)) I1832 F1833
  · exact OK_rv okX10_drawn rfl rfl rfl

def f_X10_drift_18 (v1 : Int32) (ko : Int32 → AI → AF → AQ) : Nat → Int32 → AI → AF → AQ
  | 0, _, _, _ => none
  | n + 1, v3, I, F =>
    if v1 ≤ v3 then
      ko v3 I F
    else
      ab_bd (f_X10_drawn I F) (fun r1834 I1835 F1836 =>
        ab_bd (f_X10_pass I1835 F1836) (fun r1837 I1838 F1839 =>
          f_X10_drift_18 v1 ko n (v3 + (1 : Int32)) I1838 F1839))
set_option maxRecDepth 20000 in
set_option maxHeartbeats 4000000 in
theorem kf_X10_drift_18 (v1 : Int32) (ko : Int32 → AI → AF → AQ) (hko : ∀ v3 I F, OK 5 mX10_drift true (ko v3 I F) (37, [(0, .ref 49), (1, .int v1), (3, .int v3)], [], hp I F)) : ∀ n v3 I F, OK 5 mX10_drift true (f_X10_drift_18 v1 ko n v3 I F) (18, [(0, .ref 49), (1, .int v1), (3, .int v3)], [], hp I F) := by
  intro n
  induction n with
  | zero =>
    intro v3 I F
    exact OK_no
  | succ n ih =>
    intro v3 I F
    rw [f_X10_drift_18]
    refine OK_st 3 okX10_drift (S' := ((if v1 ≤ v3 then 37 else 23), [(0, .ref 49), (1, .int v1), (3, .int v3)], [], hp I F)) rfl ⟨trivial, trivial, trivial, trivial⟩ ?_
    refine OK_if (fun h1799 => ?_) (fun h1799 => ?_)
    · exact hko v3 I F
    · refine OK_st 1 okX10_drift (S' := (24, [(0, .ref 49), (1, .int v1), (3, .int v3)], [.ref 49], hp I F)) rfl ⟨trivial, trivial⟩ ?_
      refine OK_cv [] [] okX10_drift okX10_drawn rfl rfl cl_RX10_247 rfl rfl (Nat.le_of_ble_eq_true rfl) (by decide) (Nat.le_of_ble_eq_true rfl) (kf_X10_drawn I F) (fun r1834 I1835 F1836 => ?_)
      refine OK_st 1 okX10_drift (S' := (28, [(0, .ref 49), (1, .int v1), (3, .int v3)], [.ref 49], hp I1835 F1836)) rfl ⟨trivial, trivial⟩ ?_
      refine OK_cv [] [] okX10_drift okX10_pass rfl rfl cl_RX10_221 rfl rfl (Nat.le_of_ble_eq_true rfl) (by decide) (Nat.le_of_ble_eq_true rfl) (kf_X10_pass I1835 F1836) (fun r1837 I1838 F1839 => ?_)
      refine OK_st 2 okX10_drift (S' := (18, [(3, .int (v3 + (1 : Int32))), (0, .ref 49), (1, .int v1)], [], hp I1838 F1839)) rfl ⟨(by decide), trivial, trivial⟩ ?_
      refine OK_pk [1, 2, 0] rfl ?_
      exact ih (v3 + (1 : Int32)) I1838 F1839

def f_X10_drift (v1 : Int32) (I : AI) (F : AF) : AQ :=
  ab_bd (f_X10_seasonsRefused v1 I F) (fun r1792 I1793 F1794 =>
    if r1792 = 0 then
      ab_bd (f_X10_remember I1793 F1794) (fun r1796 I1797 F1798 =>
        f_X10_drift_18 v1 (fun v3_1840 I1841 F1842 =>
          some (((F1842 47) 19), I1841, F1842)) ab_fu (0 : Int32) I1797 F1798)
    else
      some (r1792, I1793, F1794))
set_option maxRecDepth 20000 in
set_option maxHeartbeats 4000000 in
theorem kf_X10_drift (v1 : Int32) (I : AI) (F : AF) : OK 5 mX10_drift true (f_X10_drift v1 I F) (0, [(0, .ref 49), (1, .int v1)], [], hp I F) := by
  rw [f_X10_drift]
  refine OK_st 2 okX10_drift (S' := (2, [(0, .ref 49), (1, .int v1)], [.int v1, .ref 49], hp I F)) rfl ⟨trivial, trivial, trivial⟩ ?_
  refine OK_cv [.int v1] [] okX10_drift okX10_seasonsRefused rfl rfl cl_RX10_215 rfl rfl (Nat.le_of_ble_eq_true rfl) (by decide) (Nat.le_of_ble_eq_true rfl) (kf_X10_seasonsRefused v1 I F) (fun r1792 I1793 F1794 => ?_)
  refine OK_st 3 okX10_drift (S' := ((if r1792 = 0 then 12 else 10), [(2, .int r1792), (0, .ref 49), (1, .int v1)], [], hp I1793 F1794)) rfl ⟨(by decide), trivial, trivial, trivial⟩ ?_
  refine OK_if (fun h1795 => ?_) (fun h1795 => ?_)
  · refine OK_st 1 okX10_drift (S' := (13, [(2, .int r1792), (0, .ref 49), (1, .int v1)], [.ref 49], hp I1793 F1794)) rfl ⟨trivial, trivial⟩ ?_
    refine OK_cv [] [] okX10_drift okX10_remember rfl rfl cl_RX10_218 rfl rfl (Nat.le_of_ble_eq_true rfl) (by decide) (Nat.le_of_ble_eq_true rfl) (kf_X10_remember I1793 F1794) (fun r1796 I1797 F1798 => ?_)
    refine OK_st 2 okX10_drift (S' := (18, [(3, .int (0 : Int32)), (2, .int r1792), (0, .ref 49), (1, .int v1)], [], hp I1797 F1798)) rfl ⟨trivial, (by decide), trivial⟩ ?_
    refine OK_pk [2, 3, 0] rfl ?_
    refine kf_X10_drift_18 v1 _ (fun v3_1840 I1841 F1842 => ?_) ab_fu (0 : Int32) I1797 F1798
    refine OK_st 4 okX10_drift (S' := (44, [(0, .ref 49), (1, .int v1), (3, .int v3_1840)], [.int ((F1842 47) 19)], hp I1841 F1842)) rfl ⟨trivial, trivial, trivial, (ab_vo (by decide)), trivial⟩ ?_
    exact OK_ri okX10_drift rfl rfl (Or.inl rfl)
  · refine OK_st 1 okX10_drift (S' := (11, [(2, .int r1792), (0, .ref 49), (1, .int v1)], [.int r1792], hp I1793 F1794)) rfl ⟨trivial, trivial⟩ ?_
    exact OK_ri okX10_drift rfl rfl (Or.inl rfl)

def f_X10_undo_22 (ko : Int32 → AI → AF → AQ) : Nat → Int32 → AI → AF → AQ
  | 0, _, _, _ => none
  | n + 1, v1, I, F =>
    if (nI 22) ≤ v1 then
      ko v1 I F
    else
      bif ab_vin (((nI 22) * (I 34)) + v1) 440 then
        bif ab_vin v1 22 then
          ab_lt (va_up F 47 (upd (F 47) v1.toNatClampNeg ((F 59) (((nI 22) * (I 34)) + v1).toNatClampNeg))) (fun F1848 =>
            f_X10_undo_22 ko n (v1 + (1 : Int32)) I F1848)
        else none
      else none
set_option maxRecDepth 20000 in
set_option maxHeartbeats 4000000 in
theorem kf_X10_undo_22 (ko : Int32 → AI → AF → AQ) (hko : ∀ v1 I F, OK 0 mX10_undo true (ko v1 I F) (54, [(0, .ref 49), (1, .int v1)], [], hp I F)) : ∀ n v1 I F, OK 0 mX10_undo true (f_X10_undo_22 ko n v1 I F) (22, [(0, .ref 49), (1, .int v1)], [], hp I F) := by
  intro n
  induction n with
  | zero =>
    intro v1 I F
    exact OK_no
  | succ n ih =>
    intro v1 I F
    rw [f_X10_undo_22]
    refine OK_st 3 okX10_undo (S' := ((if (nI 22) ≤ v1 then 54 else 28), [(0, .ref 49), (1, .int v1)], [], hp I F)) rfl ⟨trivial, trivial, trivial, trivial⟩ ?_
    refine OK_if (fun h1845 => ?_) (fun h1845 => ?_)
    · exact hko v1 I F
    · refine OK_gd (fun g1846 => ?_)
      refine OK_gd (fun g1847 => ?_)
      refine OK_st 15 okX10_undo (S' := (22, [(1, .int (v1 + (1 : Int32))), (0, .ref 49)], [], hp I (va_up F 47 (upd (F 47) v1.toNatClampNeg ((F 59) (((nI 22) * (I 34)) + v1).toNatClampNeg))))) rfl ⟨trivial, trivial, trivial, trivial, trivial, trivial, trivial, trivial, trivial, trivial, trivial, (ab_vo g1846), (ab_vo g1847), (by decide), trivial, trivial⟩ ?_
      refine OK_lt (fun F1848 => (22, [(1, .int (v1 + (1 : Int32))), (0, .ref 49)], [], hp I F1848)) (fun F1848 => ?_)
      refine OK_pk [1, 0] rfl ?_
      exact ih (v1 + (1 : Int32)) I F1848

def f_X10_undo (I : AI) (F : AF) : AQ :=
  if ¬ (I 34) = 0 then
    ab_lt (va_up I 34 ((I 34) - (1 : Int32))) (fun I1844 =>
      f_X10_undo_22 (fun v1_1849 I1850 F1851 =>
        some ((I1850 34), I1850, F1851)) ab_fu (0 : Int32) I1844 F)
  else
    some ((-1000000003 : Int32), I, F)
set_option maxRecDepth 20000 in
set_option maxHeartbeats 4000000 in
theorem kf_X10_undo (I : AI) (F : AF) : OK 0 mX10_undo true (f_X10_undo I F) (0, [(0, .ref 49)], [], hp I F) := by
  rw [f_X10_undo]
  refine OK_st 3 okX10_undo (S' := ((if ¬ (I 34) = 0 then 10 else 7), [(0, .ref 49)], [], hp I F)) rfl ⟨trivial, trivial, trivial, trivial⟩ ?_
  refine OK_if (fun h1843 => ?_) (fun h1843 => ?_)
  · refine OK_st 8 okX10_undo (S' := (22, [(1, .int (0 : Int32)), (0, .ref 49)], [], hp (va_up I 34 ((I 34) - (1 : Int32))) F)) rfl ⟨trivial, rfl, trivial, trivial, trivial, trivial, trivial, (by decide), trivial⟩ ?_
    refine OK_lt (fun I1844 => (22, [(1, .int (0 : Int32)), (0, .ref 49)], [], hp I1844 F)) (fun I1844 => ?_)
    refine OK_pk [1, 0] rfl ?_
    refine kf_X10_undo_22 _ (fun v1_1849 I1850 F1851 => ?_) ab_fu (0 : Int32) I1844 F
    refine OK_st 2 okX10_undo (S' := (58, [(0, .ref 49), (1, .int v1_1849)], [.int (I1850 34)], hp I1850 F1851)) rfl ⟨trivial, trivial, trivial⟩ ?_
    exact OK_ri okX10_undo rfl rfl (Or.inl rfl)
  · refine OK_st 1 okX10_undo (S' := (9, [(0, .ref 49)], [.int (-1000000003 : Int32)], hp I F)) rfl ⟨trivial, trivial⟩ ?_
    exact OK_ri okX10_undo rfl rfl (Or.inl rfl)

def f_X10_firstNought_j52_4 (bk ko : Int32 → Int32 → AI → AF → AQ) (v1 : Int32) (v2 : Int32) (s0 : Int32) (I : AI) (F : AF) : AQ :=
  if s0 = 0 then
    bk v1 (v2 + (1 : Int32)) I F
  else
    if v1 < 0 then
      bk v2 (v2 + (1 : Int32)) I F
    else
      bif ab_vin v2 6 then
        bif ab_vin v1 6 then
          if ((F 40) v1.toNatClampNeg) ≤ ((F 40) v2.toNatClampNeg) then
            bk v1 (v2 + (1 : Int32)) I F
          else
            bk v2 (v2 + (1 : Int32)) I F
        else none
      else none
set_option maxRecDepth 20000 in
set_option maxHeartbeats 4000000 in
theorem kf_X10_firstNought_j52_4 (bk ko : Int32 → Int32 → AI → AF → AQ) (v1 : Int32) (v2 : Int32) (hbk : ∀ v1 v2 I F, OK 3 mX10_firstNought true (bk v1 v2 I F) (4, [(0, .ref 49), (1, .int v1), (2, .int v2)], [], hp I F)) (hko : ∀ v1 v2 I F, OK 3 mX10_firstNought true (ko v1 v2 I F) (88, [(0, .ref 49), (1, .int v1), (2, .int v2)], [], hp I F)) (s0 : Int32) (I : AI) (F : AF) : OK 3 mX10_firstNought true (f_X10_firstNought_j52_4 bk ko v1 v2 s0 I F) (52, [(0, .ref 49), (1, .int v1), (2, .int v2)], [.int s0], hp I F) := by
  rw [f_X10_firstNought_j52_4]
  refine OK_st 3 okX10_firstNought (S' := ((if s0 = 0 then 80 else 57), [(3, .int s0), (0, .ref 49), (1, .int v1), (2, .int v2)], [], hp I F)) rfl ⟨(by decide), trivial, trivial, trivial⟩ ?_
  refine OK_if (fun h1855 => ?_) (fun h1855 => ?_)
  · refine OK_st 4 okX10_firstNought (S' := (4, [(2, .int (v2 + (1 : Int32))), (1, .int v1), (3, .int s0), (0, .ref 49)], [], hp I F)) rfl ⟨trivial, (by decide), (by decide), trivial, trivial⟩ ?_
    refine OK_pk [3, 1, 0] rfl ?_
    exact hbk v1 (v2 + (1 : Int32)) I F
  · refine OK_st 2 okX10_firstNought (S' := ((if v1 < 0 then 76 else 61), [(3, .int s0), (0, .ref 49), (1, .int v1), (2, .int v2)], [], hp I F)) rfl ⟨trivial, trivial, trivial⟩ ?_
    refine OK_if (fun h1856 => ?_) (fun h1856 => ?_)
    · refine OK_st 5 okX10_firstNought (S' := (4, [(2, .int (v2 + (1 : Int32))), (1, .int v2), (3, .int s0), (0, .ref 49)], [], hp I F)) rfl ⟨trivial, trivial, (by decide), (by decide), trivial, trivial⟩ ?_
      refine OK_pk [3, 1, 0] rfl ?_
      exact hbk v2 (v2 + (1 : Int32)) I F
    · refine OK_gd (fun g1857 => ?_)
      refine OK_gd (fun g1858 => ?_)
      refine OK_st 9 okX10_firstNought (S' := ((if ((F 40) v1.toNatClampNeg) ≤ ((F 40) v2.toNatClampNeg) then 80 else 76), [(3, .int s0), (0, .ref 49), (1, .int v1), (2, .int v2)], [], hp I F)) rfl ⟨trivial, trivial, trivial, (ab_vo g1857), trivial, trivial, trivial, (ab_vo g1858), trivial, trivial⟩ ?_
      refine OK_if (fun h1859 => ?_) (fun h1859 => ?_)
      · refine OK_st 4 okX10_firstNought (S' := (4, [(2, .int (v2 + (1 : Int32))), (1, .int v1), (3, .int s0), (0, .ref 49)], [], hp I F)) rfl ⟨trivial, (by decide), (by decide), trivial, trivial⟩ ?_
        refine OK_pk [3, 1, 0] rfl ?_
        exact hbk v1 (v2 + (1 : Int32)) I F
      · refine OK_st 5 okX10_firstNought (S' := (4, [(2, .int (v2 + (1 : Int32))), (1, .int v2), (3, .int s0), (0, .ref 49)], [], hp I F)) rfl ⟨trivial, trivial, (by decide), (by decide), trivial, trivial⟩ ?_
        refine OK_pk [3, 1, 0] rfl ?_
        exact hbk v2 (v2 + (1 : Int32)) I F

def f_X10_firstNought_j51_4 (bk ko : Int32 → Int32 → AI → AF → AQ) (v1 : Int32) (v2 : Int32) (I : AI) (F : AF) : AQ :=
  f_X10_firstNought_j52_4 (bk) ko v1 v2 (0 : Int32) I F
set_option maxRecDepth 20000 in
set_option maxHeartbeats 4000000 in
theorem kf_X10_firstNought_j51_4 (bk ko : Int32 → Int32 → AI → AF → AQ) (v1 : Int32) (v2 : Int32) (hbk : ∀ v1 v2 I F, OK 3 mX10_firstNought true (bk v1 v2 I F) (4, [(0, .ref 49), (1, .int v1), (2, .int v2)], [], hp I F)) (hko : ∀ v1 v2 I F, OK 3 mX10_firstNought true (ko v1 v2 I F) (88, [(0, .ref 49), (1, .int v1), (2, .int v2)], [], hp I F)) (I : AI) (F : AF) : OK 3 mX10_firstNought true (f_X10_firstNought_j51_4 bk ko v1 v2 I F) (51, [(0, .ref 49), (1, .int v1), (2, .int v2)], [], hp I F) := by
  rw [f_X10_firstNought_j51_4]
  refine OK_st 1 okX10_firstNought (S' := (52, [(0, .ref 49), (1, .int v1), (2, .int v2)], [.int (0 : Int32)], hp I F)) rfl ⟨trivial, trivial⟩ ?_
  exact kf_X10_firstNought_j52_4 (bk) ko v1 v2 hbk hko (0 : Int32) I F

def f_X10_firstNought_4 (ko : Int32 → Int32 → AI → AF → AQ) : Nat → Int32 → Int32 → AI → AF → AQ
  | 0, _, _, _, _ => none
  | n + 1, v1, v2, I, F =>
    if (I 23) ≤ v2 then
      ko v1 v2 I F
    else
      bif ab_vin v2 6 then
        if ((F 40) v2.toNatClampNeg) < ((F 47) 19) then
          f_X10_firstNought_j51_4 (f_X10_firstNought_4 ko n) ko v1 v2 I F
        else
          bif ab_vin v2 6 then
            bif ab_vin v2 6 then
              ab_bd (f_X10_measure ((F 41) v2.toNatClampNeg) ((F 40) v2.toNatClampNeg) I F) (fun r1862 I1863 F1864 =>
                if ¬ r1862 = 0 then
                  f_X10_firstNought_j51_4 (f_X10_firstNought_4 ko n) ko v1 v2 I1863 F1864
                else
                  f_X10_firstNought_j52_4 (f_X10_firstNought_4 ko n) ko v1 v2 (1 : Int32) I1863 F1864)
            else none
          else none
      else none
set_option maxRecDepth 20000 in
set_option maxHeartbeats 4000000 in
theorem kf_X10_firstNought_4 (ko : Int32 → Int32 → AI → AF → AQ) (hko : ∀ v1 v2 I F, OK 3 mX10_firstNought true (ko v1 v2 I F) (88, [(0, .ref 49), (1, .int v1), (2, .int v2)], [], hp I F)) : ∀ n v1 v2 I F, OK 3 mX10_firstNought true (f_X10_firstNought_4 ko n v1 v2 I F) (4, [(0, .ref 49), (1, .int v1), (2, .int v2)], [], hp I F) := by
  intro n
  induction n with
  | zero =>
    intro v1 v2 I F
    exact OK_no
  | succ n ih =>
    intro v1 v2 I F
    rw [f_X10_firstNought_4]
    refine OK_st 4 okX10_firstNought (S' := ((if (I 23) ≤ v2 then 88 else 12), [(0, .ref 49), (1, .int v1), (2, .int v2)], [], hp I F)) rfl ⟨trivial, trivial, trivial, trivial, trivial⟩ ?_
    refine OK_if (fun h1852 => ?_) (fun h1852 => ?_)
    · exact hko v1 v2 I F
    · refine OK_gd (fun g1853 => ?_)
      refine OK_st 9 okX10_firstNought (S' := ((if ((F 40) v2.toNatClampNeg) < ((F 47) 19) then 51 else 28), [(0, .ref 49), (1, .int v1), (2, .int v2)], [], hp I F)) rfl ⟨trivial, trivial, trivial, (ab_vo g1853), trivial, trivial, trivial, (ab_vo (by decide)), trivial, trivial⟩ ?_
      refine OK_if (fun h1854 => ?_) (fun h1854 => ?_)
      · exact kf_X10_firstNought_j51_4 (f_X10_firstNought_4 ko n) ko v1 v2 ih hko I F
      · refine OK_gd (fun g1860 => ?_)
        refine OK_gd (fun g1861 => ?_)
        refine OK_st 9 okX10_firstNought (S' := (41, [(0, .ref 49), (1, .int v1), (2, .int v2)], [.int ((F 40) v2.toNatClampNeg), .int ((F 41) v2.toNatClampNeg), .ref 49], hp I F)) rfl ⟨trivial, trivial, trivial, trivial, (ab_vo g1860), trivial, trivial, trivial, (ab_vo g1861), trivial⟩ ?_
        refine OK_cv [.int ((F 41) v2.toNatClampNeg), .int ((F 40) v2.toNatClampNeg)] [] okX10_firstNought okX10_measure rfl rfl cl_RX10_197 rfl rfl (Nat.le_of_ble_eq_true rfl) (by decide) (Nat.le_of_ble_eq_true rfl) (kf_X10_measure ((F 41) v2.toNatClampNeg) ((F 40) v2.toNatClampNeg) I F) (fun r1862 I1863 F1864 => ?_)
        refine OK_st 1 okX10_firstNought (S' := ((if ¬ r1862 = 0 then 51 else 47), [(0, .ref 49), (1, .int v1), (2, .int v2)], [], hp I1863 F1864)) rfl ⟨trivial, trivial⟩ ?_
        refine OK_if (fun h1865 => ?_) (fun h1865 => ?_)
        · exact kf_X10_firstNought_j51_4 (f_X10_firstNought_4 ko n) ko v1 v2 ih hko I1863 F1864
        · refine OK_st 2 okX10_firstNought (S' := (52, [(0, .ref 49), (1, .int v1), (2, .int v2)], [.int (1 : Int32)], hp I1863 F1864)) rfl ⟨trivial, trivial, trivial⟩ ?_
          exact kf_X10_firstNought_j52_4 (f_X10_firstNought_4 ko n) ko v1 v2 ih hko (1 : Int32) I1863 F1864

def f_X10_firstNought (I : AI) (F : AF) : AQ :=
  f_X10_firstNought_4 (fun v1_1866 v2_1867 I1868 F1869 =>
    some (v1_1866, I1868, F1869)) ab_fu (-1 : Int32) (0 : Int32) I F
set_option maxRecDepth 20000 in
set_option maxHeartbeats 4000000 in
theorem kf_X10_firstNought (I : AI) (F : AF) : OK 3 mX10_firstNought true (f_X10_firstNought I F) (0, [(0, .ref 49)], [], hp I F) := by
  rw [f_X10_firstNought]
  refine OK_st 4 okX10_firstNought (S' := (4, [(2, .int (0 : Int32)), (1, .int (-1 : Int32)), (0, .ref 49)], [], hp I F)) rfl ⟨trivial, (by decide), trivial, (by decide), trivial⟩ ?_
  refine OK_pk [2, 1, 0] rfl ?_
  refine kf_X10_firstNought_4 _ (fun v1_1866 v2_1867 I1868 F1869 => ?_) ab_fu (-1 : Int32) (0 : Int32) I F
  refine OK_st 1 okX10_firstNought (S' := (89, [(0, .ref 49), (1, .int v1_1866), (2, .int v2_1867)], [.int v1_1866], hp I1868 F1869)) rfl ⟨trivial, trivial⟩ ?_
  exact OK_ri okX10_firstNought rfl rfl (Or.inl rfl)

def f_X10_means (v1 : Int32) (v2 : Int32) (I : AI) (F : AF) : AQ :=
  ab_bd (f_X10_in v1.toInt64 (0 : Int64) (((I 23) - (1 : Int32)).toInt64) I F) (fun r1870 I1871 F1872 =>
    if ¬ r1870 = 0 then
      ab_bd (f_X10_in v2.toInt64 (0 : Int64) (99 : Int64) I1871 F1872) (fun r1874 I1875 F1876 =>
        if r1874 = 0 then
          some ((-1000000002 : Int32), I1875, F1876)
        else
          bif ab_vin v1 6 then
            bif ab_vin v1 6 then
              ab_bd (f_X10_measure ((F1876 41) v1.toNatClampNeg) v2 I1875 F1876) (fun r1880 I1881 F1882 =>
                some ((((F1876 42) v1.toNatClampNeg) * r1880), I1881, F1882))
            else none
          else none)
    else
      some ((-1000000001 : Int32), I1871, F1872))
set_option maxRecDepth 20000 in
set_option maxHeartbeats 4000000 in
theorem kf_X10_means (v1 : Int32) (v2 : Int32) (I : AI) (F : AF) : OK 3 mX10_means true (f_X10_means v1 v2 I F) (0, [(0, .ref 49), (1, .int v1), (2, .int v2)], [], hp I F) := by
  rw [f_X10_means]
  refine OK_st 8 okX10_means (S' := (10, [(0, .ref 49), (1, .int v1), (2, .int v2)], [.long ((I 23) - (1 : Int32)).toInt64, .long (0 : Int64), .long v1.toInt64], hp I F)) rfl ⟨trivial, trivial, trivial, trivial, trivial, trivial, trivial, trivial, trivial⟩ ?_
  refine OK_cs [.long v1.toInt64, .long (0 : Int64), .long ((I 23) - (1 : Int32)).toInt64] [] okX10_means okX10_in rfl rfl cl_RX10_102 (Nat.le_of_ble_eq_true rfl) (by decide) (Nat.le_of_ble_eq_true rfl) (kf_X10_in v1.toInt64 (0 : Int64) (((I 23) - (1 : Int32)).toInt64) I F) (fun r1870 I1871 F1872 => ?_)
  refine OK_st 1 okX10_means (S' := ((if ¬ r1870 = 0 then 19 else 16), [(0, .ref 49), (1, .int v1), (2, .int v2)], [], hp I1871 F1872)) rfl ⟨trivial, trivial⟩ ?_
  refine OK_if (fun h1873 => ?_) (fun h1873 => ?_)
  · refine OK_st 4 okX10_means (S' := (25, [(0, .ref 49), (1, .int v1), (2, .int v2)], [.long (99 : Int64), .long (0 : Int64), .long v2.toInt64], hp I1871 F1872)) rfl ⟨trivial, trivial, trivial, trivial, trivial⟩ ?_
    refine OK_cs [.long v2.toInt64, .long (0 : Int64), .long (99 : Int64)] [] okX10_means okX10_in rfl rfl cl_RX10_102 (Nat.le_of_ble_eq_true rfl) (by decide) (Nat.le_of_ble_eq_true rfl) (kf_X10_in v2.toInt64 (0 : Int64) (99 : Int64) I1871 F1872) (fun r1874 I1875 F1876 => ?_)
    refine OK_st 1 okX10_means (S' := ((if r1874 = 0 then 52 else 31), [(0, .ref 49), (1, .int v1), (2, .int v2)], [], hp I1875 F1876)) rfl ⟨trivial, trivial⟩ ?_
    refine OK_if (fun h1877 => ?_) (fun h1877 => ?_)
    · refine OK_st 1 okX10_means (S' := (54, [(0, .ref 49), (1, .int v1), (2, .int v2)], [.int (-1000000002 : Int32)], hp I1875 F1876)) rfl ⟨trivial, trivial⟩ ?_
      exact OK_ri okX10_means rfl rfl (Or.inl rfl)
    · refine OK_gd (fun g1878 => ?_)
      refine OK_gd (fun g1879 => ?_)
      refine OK_st 10 okX10_means (S' := (45, [(0, .ref 49), (1, .int v1), (2, .int v2)], [.int v2, .int ((F1876 41) v1.toNatClampNeg), .ref 49, .int ((F1876 42) v1.toNatClampNeg)], hp I1875 F1876)) rfl ⟨trivial, trivial, trivial, (ab_vo g1878), trivial, trivial, trivial, trivial, (ab_vo g1879), trivial, trivial⟩ ?_
      refine OK_cv [.int ((F1876 41) v1.toNatClampNeg), .int v2] [.int ((F1876 42) v1.toNatClampNeg)] okX10_means okX10_measure rfl rfl cl_RX10_197 rfl rfl (Nat.le_of_ble_eq_true rfl) (by decide) (Nat.le_of_ble_eq_true rfl) (kf_X10_measure ((F1876 41) v1.toNatClampNeg) v2 I1875 F1876) (fun r1880 I1881 F1882 => ?_)
      refine OK_st 2 okX10_means (S' := (54, [(0, .ref 49), (1, .int v1), (2, .int v2)], [.int (((F1876 42) v1.toNatClampNeg) * r1880)], hp I1881 F1882)) rfl ⟨trivial, trivial, trivial⟩ ?_
      exact OK_ri okX10_means rfl rfl (Or.inl rfl)
  · refine OK_st 1 okX10_means (S' := (18, [(0, .ref 49), (1, .int v1), (2, .int v2)], [.int (-1000000001 : Int32)], hp I1871 F1872)) rfl ⟨trivial, trivial⟩ ?_
    exact OK_ri okX10_means rfl rfl (Or.inl rfl)

def f_X10_times_4 (v1 : Int32) (ko : Int32 → Int32 → AI → AF → AQ) : Nat → Int32 → Int32 → AI → AF → AQ
  | 0, _, _, _, _ => none
  | n + 1, v2, v3, I, F =>
    if v3 ≤ v1 then
      ko v2 v3 I F
    else
      f_X10_times_4 v1 ko n (v2 / (nI 5)) (v3 + (-1 : Int32)) I F
set_option maxRecDepth 20000 in
set_option maxHeartbeats 4000000 in
theorem kf_X10_times_4 (v1 : Int32) (ko : Int32 → Int32 → AI → AF → AQ) (hko : ∀ v2 v3 I F, OK 0 mX10_times true (ko v2 v3 I F) (19, [(1, .int v1), (2, .int v2), (3, .int v3)], [], hp I F)) : ∀ n v2 v3 I F, OK 0 mX10_times true (f_X10_times_4 v1 ko n v2 v3 I F) (4, [(1, .int v1), (2, .int v2), (3, .int v3)], [], hp I F) := by
  intro n
  induction n with
  | zero =>
    intro v2 v3 I F
    exact OK_no
  | succ n ih =>
    intro v2 v3 I F
    rw [f_X10_times_4]
    refine OK_st 3 okX10_times (S' := ((if v3 ≤ v1 then 19 else 9), [(1, .int v1), (2, .int v2), (3, .int v3)], [], hp I F)) rfl ⟨trivial, trivial, trivial, trivial⟩ ?_
    refine OK_if (fun h1887 => ?_) (fun h1887 => ?_)
    · exact hko v2 v3 I F
    · refine OK_st 6 okX10_times (S' := (4, [(3, .int (v3 + (-1 : Int32))), (2, .int (v2 / (nI 5))), (1, .int v1)], [], hp I F)) rfl ⟨trivial, trivial, (by decide), (by decide), (by decide), trivial, trivial⟩ ?_
      refine OK_pk [2, 1, 0] rfl ?_
      exact ih (v2 / (nI 5)) (v3 + (-1 : Int32)) I F

def f_X10_times (v0 : Int32) (v1 : Int32) (I : AI) (F : AF) : AQ :=
  f_X10_times_4 v1 (fun v2_1888 v3_1889 I1890 F1891 =>
    some ((v2_1888 - v2_1888 / (nI 5) * (nI 5)), I1890, F1891)) ab_fu v0 (nI 5) I F
set_option maxRecDepth 20000 in
set_option maxHeartbeats 4000000 in
theorem kf_X10_times (v0 : Int32) (v1 : Int32) (I : AI) (F : AF) : OK 0 mX10_times true (f_X10_times v0 v1 I F) (0, [(0, .int v0), (1, .int v1)], [], hp I F) := by
  rw [f_X10_times]
  refine OK_st 4 okX10_times (S' := (4, [(3, .int (nI 5)), (2, .int v0), (0, .int v0), (1, .int v1)], [], hp I F)) rfl ⟨trivial, (by decide), trivial, (by decide), trivial⟩ ?_
  refine OK_pk [3, 1, 0] rfl ?_
  refine kf_X10_times_4 v1 _ (fun v2_1888 v3_1889 I1890 F1891 => ?_) ab_fu v0 (nI 5) I F
  refine OK_st 3 okX10_times (S' := (22, [(1, .int v1), (2, .int v2_1888), (3, .int v3_1889)], [.int (v2_1888 - v2_1888 / (nI 5) * (nI 5))], hp I1890 F1891)) rfl ⟨trivial, trivial, (by decide), trivial⟩ ?_
  exact OK_ri okX10_times rfl rfl (Or.inl rfl)

def f_X10_isFree (v1 : Int32) (I : AI) (F : AF) : AQ :=
  ab_bd (f_X10_isLimb v1 I F) (fun r1896 I1897 F1898 =>
    if r1896 = 0 then
      some ((0 : Int32), I1897, F1898)
    else
      ab_bd (f_X10_lives v1 I1897 F1898) (fun r1900 I1901 F1902 =>
        if r1900 = 0 then
          some ((0 : Int32), I1901, F1902)
        else
          bif ab_vin ((nI 6) + v1) 22 then
            if 0 ≤ ((F1902 47) ((nI 6) + v1).toNatClampNeg) then
              some ((0 : Int32), I1901, F1902)
            else
              some ((1 : Int32), I1901, F1902)
          else none))
set_option maxRecDepth 20000 in
set_option maxHeartbeats 4000000 in
theorem kf_X10_isFree (v1 : Int32) (I : AI) (F : AF) : OK 2 mX10_isFree true (f_X10_isFree v1 I F) (0, [(0, .ref 49), (1, .int v1)], [], hp I F) := by
  rw [f_X10_isFree]
  refine OK_st 2 okX10_isFree (S' := (2, [(0, .ref 49), (1, .int v1)], [.int v1, .ref 49], hp I F)) rfl ⟨trivial, trivial, trivial⟩ ?_
  refine OK_cv [.int v1] [] okX10_isFree okX10_isLimb rfl rfl cl_RX10_200 rfl rfl (Nat.le_of_ble_eq_true rfl) (by decide) (Nat.le_of_ble_eq_true rfl) (kf_X10_isLimb v1 I F) (fun r1896 I1897 F1898 => ?_)
  refine OK_st 1 okX10_isFree (S' := ((if r1896 = 0 then 32 else 8), [(0, .ref 49), (1, .int v1)], [], hp I1897 F1898)) rfl ⟨trivial, trivial⟩ ?_
  refine OK_if (fun h1899 => ?_) (fun h1899 => ?_)
  · refine OK_st 1 okX10_isFree (S' := (33, [(0, .ref 49), (1, .int v1)], [.int (0 : Int32)], hp I1897 F1898)) rfl ⟨trivial, trivial⟩ ?_
    exact OK_ri okX10_isFree rfl rfl (Or.inr ⟨rfl, Or.inl rfl⟩)
  · refine OK_st 2 okX10_isFree (S' := (10, [(0, .ref 49), (1, .int v1)], [.int v1, .ref 49], hp I1897 F1898)) rfl ⟨trivial, trivial, trivial⟩ ?_
    refine OK_cv [.int v1] [] okX10_isFree okX10_lives rfl rfl cl_RX10_190 rfl rfl (Nat.le_of_ble_eq_true rfl) (by decide) (Nat.le_of_ble_eq_true rfl) (kf_X10_lives v1 I1897 F1898) (fun r1900 I1901 F1902 => ?_)
    refine OK_st 1 okX10_isFree (S' := ((if r1900 = 0 then 32 else 16), [(0, .ref 49), (1, .int v1)], [], hp I1901 F1902)) rfl ⟨trivial, trivial⟩ ?_
    refine OK_if (fun h1903 => ?_) (fun h1903 => ?_)
    · refine OK_st 1 okX10_isFree (S' := (33, [(0, .ref 49), (1, .int v1)], [.int (0 : Int32)], hp I1901 F1902)) rfl ⟨trivial, trivial⟩ ?_
      exact OK_ri okX10_isFree rfl rfl (Or.inr ⟨rfl, Or.inl rfl⟩)
    · refine OK_gd (fun g1904 => ?_)
      refine OK_st 7 okX10_isFree (S' := ((if 0 ≤ ((F1902 47) ((nI 6) + v1).toNatClampNeg) then 32 else 28), [(0, .ref 49), (1, .int v1)], [], hp I1901 F1902)) rfl ⟨trivial, trivial, trivial, trivial, trivial, (ab_vo g1904), trivial, trivial⟩ ?_
      refine OK_if (fun h1905 => ?_) (fun h1905 => ?_)
      · refine OK_st 1 okX10_isFree (S' := (33, [(0, .ref 49), (1, .int v1)], [.int (0 : Int32)], hp I1901 F1902)) rfl ⟨trivial, trivial⟩ ?_
        exact OK_ri okX10_isFree rfl rfl (Or.inr ⟨rfl, Or.inl rfl⟩)
      · refine OK_st 2 okX10_isFree (S' := (33, [(0, .ref 49), (1, .int v1)], [.int (1 : Int32)], hp I1901 F1902)) rfl ⟨trivial, trivial, trivial⟩ ?_
        exact OK_ri okX10_isFree rfl rfl (Or.inr ⟨rfl, Or.inr rfl⟩)

def f_X10_isBasket_2 (v1 : Int32) (ko : Int32 → AI → AF → AQ) : Nat → Int32 → AI → AF → AQ
  | 0, _, _, _ => none
  | n + 1, v2, I, F =>
    if (nI 6) ≤ v2 then
      ko v2 I F
    else
      ab_bd (f_X10_times v1 v2 I F) (fun r1892 I1893 F1894 =>
        if r1892 ≤ 0 then
          f_X10_isBasket_2 v1 ko n (v2 + (1 : Int32)) I1893 F1894
        else
          ab_bd (f_X10_isFree v2 I1893 F1894) (fun r1906 I1907 F1908 =>
            if ¬ r1906 = 0 then
              f_X10_isBasket_2 v1 ko n (v2 + (1 : Int32)) I1907 F1908
            else
              some ((0 : Int32), I1907, F1908)))
set_option maxRecDepth 20000 in
set_option maxHeartbeats 4000000 in
theorem kf_X10_isBasket_2 (v1 : Int32) (ko : Int32 → AI → AF → AQ) (hko : ∀ v2 I F, OK 3 mX10_isBasket true (ko v2 I F) (32, [(0, .ref 49), (1, .int v1), (2, .int v2)], [], hp I F)) : ∀ n v2 I F, OK 3 mX10_isBasket true (f_X10_isBasket_2 v1 ko n v2 I F) (2, [(0, .ref 49), (1, .int v1), (2, .int v2)], [], hp I F) := by
  intro n
  induction n with
  | zero =>
    intro v2 I F
    exact OK_no
  | succ n ih =>
    intro v2 I F
    rw [f_X10_isBasket_2]
    refine OK_st 3 okX10_isBasket (S' := ((if (nI 6) ≤ v2 then 32 else 8), [(0, .ref 49), (1, .int v1), (2, .int v2)], [], hp I F)) rfl ⟨trivial, trivial, trivial, trivial⟩ ?_
    refine OK_if (fun h1886 => ?_) (fun h1886 => ?_)
    · exact hko v2 I F
    · refine OK_st 2 okX10_isBasket (S' := (10, [(0, .ref 49), (1, .int v1), (2, .int v2)], [.int v2, .int v1], hp I F)) rfl ⟨trivial, trivial, trivial⟩ ?_
      refine OK_cs [.int v1, .int v2] [] okX10_isBasket okX10_times rfl rfl cl_RX10_252 (Nat.le_of_ble_eq_true rfl) (by decide) (Nat.le_of_ble_eq_true rfl) (kf_X10_times v1 v2 I F) (fun r1892 I1893 F1894 => ?_)
      refine OK_st 1 okX10_isBasket (S' := ((if r1892 ≤ 0 then 26 else 16), [(0, .ref 49), (1, .int v1), (2, .int v2)], [], hp I1893 F1894)) rfl ⟨trivial, trivial⟩ ?_
      refine OK_if (fun h1895 => ?_) (fun h1895 => ?_)
      · refine OK_st 2 okX10_isBasket (S' := (2, [(2, .int (v2 + (1 : Int32))), (0, .ref 49), (1, .int v1)], [], hp I1893 F1894)) rfl ⟨(by decide), trivial, trivial⟩ ?_
        refine OK_pk [1, 2, 0] rfl ?_
        exact ih (v2 + (1 : Int32)) I1893 F1894
      · refine OK_st 2 okX10_isBasket (S' := (18, [(0, .ref 49), (1, .int v1), (2, .int v2)], [.int v2, .ref 49], hp I1893 F1894)) rfl ⟨trivial, trivial, trivial⟩ ?_
        refine OK_cv [.int v2] [] okX10_isBasket okX10_isFree rfl rfl cl_RX10_255 rfl rfl (Nat.le_of_ble_eq_true rfl) (by decide) (Nat.le_of_ble_eq_true rfl) (kf_X10_isFree v2 I1893 F1894) (fun r1906 I1907 F1908 => ?_)
        refine OK_st 1 okX10_isBasket (S' := ((if ¬ r1906 = 0 then 26 else 24), [(0, .ref 49), (1, .int v1), (2, .int v2)], [], hp I1907 F1908)) rfl ⟨trivial, trivial⟩ ?_
        refine OK_if (fun h1909 => ?_) (fun h1909 => ?_)
        · refine OK_st 2 okX10_isBasket (S' := (2, [(2, .int (v2 + (1 : Int32))), (0, .ref 49), (1, .int v1)], [], hp I1907 F1908)) rfl ⟨(by decide), trivial, trivial⟩ ?_
          refine OK_pk [1, 2, 0] rfl ?_
          exact ih (v2 + (1 : Int32)) I1907 F1908
        · refine OK_st 1 okX10_isBasket (S' := (25, [(0, .ref 49), (1, .int v1), (2, .int v2)], [.int (0 : Int32)], hp I1907 F1908)) rfl ⟨trivial, trivial⟩ ?_
          exact OK_ri okX10_isBasket rfl rfl (Or.inr ⟨rfl, Or.inl rfl⟩)

def f_X10_basketAt_5 (v1 : Int32) (v2 : Int32) (ko : Int32 → Int32 → AI → AF → AQ) : Nat → Int32 → Int32 → AI → AF → AQ
  | 0, _, _, _, _ => none
  | n + 1, v3, v4, I, F =>
    if (I 22) ≤ v4 then
      ko v3 v4 I F
    else
      ab_bd (f_X10_times v1 v4 I F) (fun r1914 I1915 F1916 =>
        ab_bd (f_X10_grown v4 v2 I1915 F1916) (fun r1917 I1918 F1919 =>
          f_X10_basketAt_5 v1 v2 ko n (v3 + (r1914 * r1917)) (v4 + (1 : Int32)) I1918 F1919))
set_option maxRecDepth 20000 in
set_option maxHeartbeats 4000000 in
theorem kf_X10_basketAt_5 (v1 : Int32) (v2 : Int32) (ko : Int32 → Int32 → AI → AF → AQ) (hko : ∀ v3 v4 I F, OK 1 mX10_basketAt true (ko v3 v4 I F) (37, [(0, .ref 49), (1, .int v1), (2, .int v2), (3, .int v3), (4, .int v4)], [], hp I F)) : ∀ n v3 v4 I F, OK 1 mX10_basketAt true (f_X10_basketAt_5 v1 v2 ko n v3 v4 I F) (5, [(0, .ref 49), (1, .int v1), (2, .int v2), (3, .int v3), (4, .int v4)], [], hp I F) := by
  intro n
  induction n with
  | zero =>
    intro v3 v4 I F
    exact OK_no
  | succ n ih =>
    intro v3 v4 I F
    rw [f_X10_basketAt_5]
    refine OK_st 4 okX10_basketAt (S' := ((if (I 22) ≤ v4 then 37 else 14), [(0, .ref 49), (1, .int v1), (2, .int v2), (3, .int v3), (4, .int v4)], [], hp I F)) rfl ⟨trivial, trivial, trivial, trivial, trivial⟩ ?_
    refine OK_if (fun h1913 => ?_) (fun h1913 => ?_)
    · exact hko v3 v4 I F
    · refine OK_st 3 okX10_basketAt (S' := (18, [(0, .ref 49), (1, .int v1), (2, .int v2), (3, .int v3), (4, .int v4)], [.int v4, .int v1, .int v3], hp I F)) rfl ⟨trivial, trivial, trivial, trivial⟩ ?_
      refine OK_cs [.int v1, .int v4] [.int v3] okX10_basketAt okX10_times rfl rfl cl_RX10_252 (Nat.le_of_ble_eq_true rfl) (by decide) (Nat.le_of_ble_eq_true rfl) (kf_X10_times v1 v4 I F) (fun r1914 I1915 F1916 => ?_)
      refine OK_st 3 okX10_basketAt (S' := (25, [(0, .ref 49), (1, .int v1), (2, .int v2), (3, .int v3), (4, .int v4)], [.int v2, .int v4, .ref 49, .int r1914, .int v3], hp I1915 F1916)) rfl ⟨trivial, trivial, trivial, trivial⟩ ?_
      refine OK_cv [.int v4, .int v2] [.int r1914, .int v3] okX10_basketAt okX10_grown rfl rfl cl_RX10_194 rfl rfl (Nat.le_of_ble_eq_true rfl) (by decide) (Nat.le_of_ble_eq_true rfl) (kf_X10_grown v4 v2 I1915 F1916) (fun r1917 I1918 F1919 => ?_)
      refine OK_st 5 okX10_basketAt (S' := (5, [(4, .int (v4 + (1 : Int32))), (3, .int (v3 + (r1914 * r1917))), (0, .ref 49), (1, .int v1), (2, .int v2)], [], hp I1918 F1919)) rfl ⟨trivial, trivial, (by decide), (by decide), trivial, trivial⟩ ?_
      refine OK_pk [2, 3, 4, 1, 0] rfl ?_
      exact ih (v3 + (r1914 * r1917)) (v4 + (1 : Int32)) I1918 F1919

def f_X10_basketAt (v1 : Int32) (v2 : Int32) (I : AI) (F : AF) : AQ :=
  f_X10_basketAt_5 v1 v2 (fun v3_1920 v4_1921 I1922 F1923 =>
    some (v3_1920, I1922, F1923)) ab_fu (0 : Int32) (0 : Int32) I F
set_option maxRecDepth 20000 in
set_option maxHeartbeats 4000000 in
theorem kf_X10_basketAt (v1 : Int32) (v2 : Int32) (I : AI) (F : AF) : OK 1 mX10_basketAt true (f_X10_basketAt v1 v2 I F) (0, [(0, .ref 49), (1, .int v1), (2, .int v2)], [], hp I F) := by
  rw [f_X10_basketAt]
  refine OK_st 4 okX10_basketAt (S' := (5, [(4, .int (0 : Int32)), (3, .int (0 : Int32)), (0, .ref 49), (1, .int v1), (2, .int v2)], [], hp I F)) rfl ⟨trivial, (by decide), trivial, (by decide), trivial⟩ ?_
  refine OK_pk [2, 3, 4, 1, 0] rfl ?_
  refine kf_X10_basketAt_5 v1 v2 _ (fun v3_1920 v4_1921 I1922 F1923 => ?_) ab_fu (0 : Int32) (0 : Int32) I F
  refine OK_st 1 okX10_basketAt (S' := (38, [(0, .ref 49), (1, .int v1), (2, .int v2), (3, .int v3_1920), (4, .int v4_1921)], [.int v3_1920], hp I1922 F1923)) rfl ⟨trivial, trivial⟩ ?_
  exact OK_ri okX10_basketAt rfl rfl (Or.inl rfl)

def f_X10_limbsOf_4 (v0 : Int32) (ko : Int32 → Int32 → AI → AF → AQ) : Nat → Int32 → Int32 → AI → AF → AQ
  | 0, _, _, _, _ => none
  | n + 1, v1, v2, I, F =>
    if (nI 6) ≤ v2 then
      ko v1 v2 I F
    else
      ab_bd (f_X10_times v0 v2 I F) (fun r1928 I1929 F1930 =>
        if r1928 ≤ 0 then
          f_X10_limbsOf_4 v0 ko n (v1 + (0 : Int32)) (v2 + (1 : Int32)) I1929 F1930
        else
          f_X10_limbsOf_4 v0 ko n (v1 + (1 : Int32)) (v2 + (1 : Int32)) I1929 F1930)
set_option maxRecDepth 20000 in
set_option maxHeartbeats 4000000 in
theorem kf_X10_limbsOf_4 (v0 : Int32) (ko : Int32 → Int32 → AI → AF → AQ) (hko : ∀ v1 v2 I F, OK 1 mX10_limbsOf true (ko v1 v2 I F) (32, [(0, .int v0), (1, .int v1), (2, .int v2)], [], hp I F)) : ∀ n v1 v2 I F, OK 1 mX10_limbsOf true (f_X10_limbsOf_4 v0 ko n v1 v2 I F) (4, [(0, .int v0), (1, .int v1), (2, .int v2)], [], hp I F) := by
  intro n
  induction n with
  | zero =>
    intro v1 v2 I F
    exact OK_no
  | succ n ih =>
    intro v1 v2 I F
    rw [f_X10_limbsOf_4]
    refine OK_st 3 okX10_limbsOf (S' := ((if (nI 6) ≤ v2 then 32 else 10), [(0, .int v0), (1, .int v1), (2, .int v2)], [], hp I F)) rfl ⟨trivial, trivial, trivial, trivial⟩ ?_
    refine OK_if (fun h1927 => ?_) (fun h1927 => ?_)
    · exact hko v1 v2 I F
    · refine OK_st 3 okX10_limbsOf (S' := (13, [(0, .int v0), (1, .int v1), (2, .int v2)], [.int v2, .int v0, .int v1], hp I F)) rfl ⟨trivial, trivial, trivial, trivial⟩ ?_
      refine OK_cs [.int v0, .int v2] [.int v1] okX10_limbsOf okX10_times rfl rfl cl_RX10_252 (Nat.le_of_ble_eq_true rfl) (by decide) (Nat.le_of_ble_eq_true rfl) (kf_X10_times v0 v2 I F) (fun r1928 I1929 F1930 => ?_)
      refine OK_st 1 okX10_limbsOf (S' := ((if r1928 ≤ 0 then 23 else 19), [(0, .int v0), (1, .int v1), (2, .int v2)], [.int v1], hp I1929 F1930)) rfl ⟨trivial, trivial⟩ ?_
      refine OK_if (fun h1931 => ?_) (fun h1931 => ?_)
      · refine OK_st 5 okX10_limbsOf (S' := (4, [(2, .int (v2 + (1 : Int32))), (1, .int (v1 + (0 : Int32))), (0, .int v0)], [], hp I1929 F1930)) rfl ⟨trivial, trivial, (by decide), (by decide), trivial, trivial⟩ ?_
        refine OK_pk [2, 1, 0] rfl ?_
        exact ih (v1 + (0 : Int32)) (v2 + (1 : Int32)) I1929 F1930
      · refine OK_st 6 okX10_limbsOf (S' := (4, [(2, .int (v2 + (1 : Int32))), (1, .int (v1 + (1 : Int32))), (0, .int v0)], [], hp I1929 F1930)) rfl ⟨trivial, trivial, trivial, (by decide), (by decide), trivial, trivial⟩ ?_
        refine OK_pk [2, 1, 0] rfl ?_
        exact ih (v1 + (1 : Int32)) (v2 + (1 : Int32)) I1929 F1930
