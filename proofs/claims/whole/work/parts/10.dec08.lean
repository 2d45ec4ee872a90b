/-! methods as functions (by program) -/
def f_X10_remember (I : AI) (F : AF) : AQ :=
  if ¬ (I 34) = (20 : Int32) then
    f_X10_remember_52 (fun v1_1656 I1657 F1658 =>
      some (0, (va_up I1657 34 ((I1657 34) + (1 : Int32))), F1658)) ab_fu (0 : Int32) I F
  else
    f_X10_remember_12 (fun v1_1663 I1664 F1665 =>
      ab_lt (va_up I1664 34 ((I1664 34) - (1 : Int32))) (fun I1666 =>
        f_X10_remember_52 (fun v1_1667 I1668 F1669 =>
          some (0, (va_up I1668 34 ((I1668 34) + (1 : Int32))), F1669)) ab_fu (0 : Int32) I1666 F1665)) ab_fu (22 : Int32) I F
set_option maxRecDepth 20000 in
set_option maxHeartbeats 4000000 in
theorem kf_X10_remember (I : AI) (F : AF) : OK 0 mX10_remember false (f_X10_remember I F) (0, [(0, .ref 49)], [], hp I F) := by
  rw [f_X10_remember]
  refine OK_st 4 okX10_remember (S' := ((if ¬ (I 34) = (20 : Int32) then 50 else 9), [(0, .ref 49)], [], hp I F)) rfl ⟨trivial, trivial, trivial, trivial, trivial⟩ ?_
  refine OK_if (fun h1651 => ?_) (fun h1651 => ?_)
  · refine OK_st 2 okX10_remember (S' := (52, [(1, .int (0 : Int32)), (0, .ref 49)], [], hp I F)) rfl ⟨trivial, (by decide), trivial⟩ ?_
    refine OK_pk [1, 0] rfl ?_
    refine kf_X10_remember_52 _ (fun v1_1656 I1657 F1658 => ?_) ab_fu (0 : Int32) I F
    refine OK_st 6 okX10_remember (S' := (94, [(0, .ref 49), (1, .int v1_1656)], [], hp (va_up I1657 34 ((I1657 34) + (1 : Int32))) F1658)) rfl ⟨trivial, rfl, trivial, trivial, trivial, trivial, trivial⟩ ?_
    exact OK_rv okX10_remember rfl rfl rfl
  · refine OK_st 2 okX10_remember (S' := (12, [(1, .int (22 : Int32)), (0, .ref 49)], [], hp I F)) rfl ⟨trivial, (by decide), trivial⟩ ?_
    refine OK_pk [1, 0] rfl ?_
    refine kf_X10_remember_12 _ (fun v1_1663 I1664 F1665 => ?_) ab_fu (22 : Int32) I F
    refine OK_st 8 okX10_remember (S' := (52, [(1, .int (0 : Int32)), (0, .ref 49)], [], hp (va_up I1664 34 ((I1664 34) - (1 : Int32))) F1665)) rfl ⟨trivial, rfl, trivial, trivial, trivial, trivial, trivial, (by decide), trivial⟩ ?_
    refine OK_lt (fun I1666 => (52, [(1, .int (0 : Int32)), (0, .ref 49)], [], hp I1666 F1665)) (fun I1666 => ?_)
    refine OK_pk [1, 0] rfl ?_
    refine kf_X10_remember_52 _ (fun v1_1667 I1668 F1669 => ?_) ab_fu (0 : Int32) I1666 F1665
    refine OK_st 6 okX10_remember (S' := (94, [(0, .ref 49), (1, .int v1_1667)], [], hp (va_up I1668 34 ((I1668 34) + (1 : Int32))) F1669)) rfl ⟨trivial, rfl, trivial, trivial, trivial, trivial, trivial⟩ ?_
    exact OK_rv okX10_remember rfl rfl rfl

def f_X10_pass_2 (ko : Int32 → AI → AF → AQ) : Nat → Int32 → AI → AF → AQ
  | 0, _, _, _ => none
  | n + 1, v1, I, F =>
    if (I 23) ≤ v1 then
      ko v1 I F
    else
      bif ab_vin v1 6 then
        if ¬ ((F 40) v1.toNatClampNeg) = ((F 47) 19) then
          f_X10_pass_2 ko n (v1 + (1 : Int32)) I F
        else
          bif ab_vin v1 6 then
            bif ab_vin v1 6 then
              ab_bd (f_X10_measureNow ((F 41) v1.toNatClampNeg) I F) (fun r1679 I1680 F1681 =>
                ab_lt (((F 42) v1.toNatClampNeg) * r1679) (fun x1682 =>
                  bif ab_vin ((12 : Int32) + v1) 22 then
                    ab_lt (va_up (va_up F1681 47 (upd (F1681 47) ((12 : Int32) + v1).toNatClampNeg x1682)) 47 (upd upd (F1681 47) ((12 : Int32) + v1).toNatClampNeg x1682 20 ((upd (F1681 47) ((12 : Int32) + v1).toNatClampNeg x1682 20) + x1682))) (fun F1684 =>
                      if ¬ x1682 = 0 then
                        ab_lt (va_up F1684 47 (upd (F1684 47) 21 ((upd upd (F1681 47) ((12 : Int32) + v1).toNatClampNeg x1682 20 ((upd (F1681 47) ((12 : Int32) + v1).toNatClampNeg x1682 20) + x1682) 21) ||| (0 : Int32)))) (fun F1686 =>
                          f_X10_pass_2 ko n (v1 + (1 : Int32)) I1680 F1686)
                      else
                        ab_lt (va_up F1684 47 (upd (F1684 47) 21 ((upd upd (F1681 47) ((12 : Int32) + v1).toNatClampNeg x1682 20 ((upd (F1681 47) ((12 : Int32) + v1).toNatClampNeg x1682 20) + x1682) 21) ||| ((1 : Int32) <<< (v1 &&& 31))))) (fun F1687 =>
                          f_X10_pass_2 ko n (v1 + (1 : Int32)) I1680 F1687))
                  else none))
            else none
          else none
      else none
set_option maxRecDepth 20000 in
set_option maxHeartbeats 4000000 in
theorem kf_X10_pass_2 (ko : Int32 → AI → AF → AQ) (hko : ∀ v1 I F, OK 4 mX10_pass false (ko v1 I F) (92, [(0, .ref 49), (1, .int v1)], [], hp I F)) : ∀ n v1 I F, OK 4 mX10_pass false (f_X10_pass_2 ko n v1 I F) (2, [(0, .ref 49), (1, .int v1)], [], hp I F) := by
  intro n
  induction n with
  | zero =>
    intro v1 I F
    exact OK_no
  | succ n ih =>
    intro v1 I F
    rw [f_X10_pass_2]
    refine OK_st 4 okX10_pass (S' := ((if (I 23) ≤ v1 then 92 else 10), [(0, .ref 49), (1, .int v1)], [], hp I F)) rfl ⟨trivial, trivial, trivial, trivial, trivial⟩ ?_
    refine OK_if (fun h1674 => ?_) (fun h1674 => ?_)
    · exact hko v1 I F
    · refine OK_gd (fun g1675 => ?_)
      refine OK_st 9 okX10_pass (S' := ((if ¬ ((F 40) v1.toNatClampNeg) = ((F 47) 19) then 86 else 26), [(0, .ref 49), (1, .int v1)], [], hp I F)) rfl ⟨trivial, trivial, trivial, (ab_vo g1675), trivial, trivial, trivial, (ab_vo (by decide)), trivial, trivial⟩ ?_
      refine OK_if (fun h1676 => ?_) (fun h1676 => ?_)
      · refine OK_st 2 okX10_pass (S' := (2, [(1, .int (v1 + (1 : Int32))), (0, .ref 49)], [], hp I F)) rfl ⟨(by decide), trivial, trivial⟩ ?_
        refine OK_pk [1, 0] rfl ?_
        exact ih (v1 + (1 : Int32)) I F
      · refine OK_gd (fun g1677 => ?_)
        refine OK_gd (fun g1678 => ?_)
        refine OK_st 9 okX10_pass (S' := (39, [(0, .ref 49), (1, .int v1)], [.int ((F 41) v1.toNatClampNeg), .ref 49, .int ((F 42) v1.toNatClampNeg)], hp I F)) rfl ⟨trivial, trivial, trivial, (ab_vo g1677), trivial, trivial, trivial, trivial, (ab_vo g1678), trivial⟩ ?_
        refine OK_cv [.int ((F 41) v1.toNatClampNeg)] [.int ((F 42) v1.toNatClampNeg)] okX10_pass okX10_measureNow rfl rfl cl_RX10_204 rfl rfl (Nat.le_of_ble_eq_true rfl) (by decide) (Nat.le_of_ble_eq_true rfl) (kf_X10_measureNow ((F 41) v1.toNatClampNeg) I F) (fun r1679 I1680 F1681 => ?_)
        refine OK_st 2 okX10_pass (S' := (44, [(2, .int (((F 42) v1.toNatClampNeg) * r1679)), (0, .ref 49), (1, .int v1)], [], hp I1680 F1681)) rfl ⟨trivial, (by decide), trivial⟩ ?_
        refine OK_lt (fun x1682 => (44, [(2, .int x1682), (0, .ref 49), (1, .int v1)], [], hp I1680 F1681)) (fun x1682 => ?_)
        refine OK_gd (fun g1683 => ?_)
        refine OK_st 22 okX10_pass (S' := ((if ¬ x1682 = 0 then 83 else 77), [(2, .int x1682), (0, .ref 49), (1, .int v1)], [.int (upd upd (F1681 47) ((12 : Int32) + v1).toNatClampNeg x1682 20 ((upd (F1681 47) ((12 : Int32) + v1).toNatClampNeg x1682 20) + x1682) 21), .int (21 : Int32), .ref 59], hp I1680 (va_up (va_up F1681 47 (upd (F1681 47) ((12 : Int32) + v1).toNatClampNeg x1682)) 47 (upd upd (F1681 47) ((12 : Int32) + v1).toNatClampNeg x1682 20 ((upd (F1681 47) ((12 : Int32) + v1).toNatClampNeg x1682 20) + x1682))))) rfl ⟨trivial, trivial, trivial, trivial, trivial, trivial, (ab_vo g1683), trivial, trivial, trivial, ⟨rfl, rfl⟩, (ab_vo (by decide)), trivial, trivial, (ab_vo (by decide)), trivial, trivial, trivial, ⟨rfl, rfl⟩, (ab_vo (by decide)), trivial, trivial, trivial⟩ ?_
        refine OK_lt (fun F1684 => ((if ¬ x1682 = 0 then 83 else 77), [(2, .int x1682), (0, .ref 49), (1, .int v1)], [.int (upd upd (F1681 47) ((12 : Int32) + v1).toNatClampNeg x1682 20 ((upd (F1681 47) ((12 : Int32) + v1).toNatClampNeg x1682 20) + x1682) 21), .int (21 : Int32), .ref 59], hp I1680 F1684)) (fun F1684 => ?_)
        refine OK_if (fun h1685 => ?_) (fun h1685 => ?_)
        · refine OK_st 5 okX10_pass (S' := (2, [(1, .int (v1 + (1 : Int32))), (2, .int x1682), (0, .ref 49)], [], hp I1680 (va_up F1684 47 (upd (F1684 47) 21 ((upd upd (F1681 47) ((12 : Int32) + v1).toNatClampNeg x1682 20 ((upd (F1681 47) ((12 : Int32) + v1).toNatClampNeg x1682 20) + x1682) 21) ||| (0 : Int32)))))) rfl ⟨trivial, trivial, (ab_vo (by decide)), (by decide), trivial, trivial⟩ ?_
          refine OK_lt (fun F1686 => (2, [(1, .int (v1 + (1 : Int32))), (2, .int x1682), (0, .ref 49)], [], hp I1680 F1686)) (fun F1686 => ?_)
          refine OK_pk [2, 0] rfl ?_
          exact ih (v1 + (1 : Int32)) I1680 F1686
        · refine OK_st 8 okX10_pass (S' := (2, [(1, .int (v1 + (1 : Int32))), (2, .int x1682), (0, .ref 49)], [], hp I1680 (va_up F1684 47 (upd (F1684 47) 21 ((upd upd (F1681 47) ((12 : Int32) + v1).toNatClampNeg x1682 20 ((upd (F1681 47) ((12 : Int32) + v1).toNatClampNeg x1682 20) + x1682) 21) ||| ((1 : Int32) <<< (v1 &&& 31))))))) rfl ⟨trivial, trivial, trivial, trivial, trivial, (ab_vo (by decide)), (by decide), trivial, trivial⟩ ?_
          refine OK_lt (fun F1687 => (2, [(1, .int (v1 + (1 : Int32))), (2, .int x1682), (0, .ref 49)], [], hp I1680 F1687)) (fun F1687 => ?_)
          refine OK_pk [2, 0] rfl ?_
          exact ih (v1 + (1 : Int32)) I1680 F1687

def f_X10_pass (I : AI) (F : AF) : AQ :=
  f_X10_pass_2 (fun v1_1688 I1689 F1690 =>
    some (0, I1689, (va_up F1690 47 (upd (F1690 47) 19 (((F1690 47) 19) + (1 : Int32)))))) ab_fu (0 : Int32) I F
set_option maxRecDepth 20000 in
set_option maxHeartbeats 4000000 in
theorem kf_X10_pass (I : AI) (F : AF) : OK 4 mX10_pass false (f_X10_pass I F) (0, [(0, .ref 49)], [], hp I F) := by
  rw [f_X10_pass]
  refine OK_st 2 okX10_pass (S' := (2, [(1, .int (0 : Int32)), (0, .ref 49)], [], hp I F)) rfl ⟨trivial, (by decide), trivial⟩ ?_
  refine OK_pk [1, 0] rfl ?_
  refine kf_X10_pass_2 _ (fun v1_1688 I1689 F1690 => ?_) ab_fu (0 : Int32) I F
  refine OK_st 8 okX10_pass (S' := (103, [(0, .ref 49), (1, .int v1_1688)], [], hp I1689 (va_up F1690 47 (upd (F1690 47) 19 (((F1690 47) 19) + (1 : Int32)))))) rfl ⟨trivial, trivial, trivial, ⟨rfl, rfl⟩, (ab_vo (by decide)), trivial, trivial, (ab_vo (by decide)), trivial⟩ ?_
  exact OK_rv okX10_pass rfl rfl rfl

def f_X10_season_18 (v1 : Int32) (ko : Int32 → AI → AF → AQ) : Nat → Int32 → AI → AF → AQ
  | 0, _, _, _ => none
  | n + 1, v3, I, F =>
    if v1 ≤ v3 then
      ko v3 I F
    else
      ab_bd (f_X10_pass I F) (fun r1691 I1692 F1693 =>
        f_X10_season_18 v1 ko n (v3 + (1 : Int32)) I1692 F1693)
set_option maxRecDepth 20000 in
set_option maxHeartbeats 4000000 in
theorem kf_X10_season_18 (v1 : Int32) (ko : Int32 → AI → AF → AQ) (hko : ∀ v3 I F, OK 5 mX10_season true (ko v3 I F) (33, [(0, .ref 49), (1, .int v1), (3, .int v3)], [], hp I F)) : ∀ n v3 I F, OK 5 mX10_season true (f_X10_season_18 v1 ko n v3 I F) (18, [(0, .ref 49), (1, .int v1), (3, .int v3)], [], hp I F) := by
  intro n
  induction n with
  | zero =>
    intro v3 I F
    exact OK_no
  | succ n ih =>
    intro v3 I F
    rw [f_X10_season_18]
    refine OK_st 3 okX10_season (S' := ((if v1 ≤ v3 then 33 else 23), [(0, .ref 49), (1, .int v1), (3, .int v3)], [], hp I F)) rfl ⟨trivial, trivial, trivial, trivial⟩ ?_
    refine OK_if (fun h1673 => ?_) (fun h1673 => ?_)
    · exact hko v3 I F
    · refine OK_st 1 okX10_season (S' := (24, [(0, .ref 49), (1, .int v1), (3, .int v3)], [.ref 49], hp I F)) rfl ⟨trivial, trivial⟩ ?_
      refine OK_cv [] [] okX10_season okX10_pass rfl rfl cl_RX10_221 rfl rfl (Nat.le_of_ble_eq_true rfl) (by decide) (Nat.le_of_ble_eq_true rfl) (kf_X10_pass I F) (fun r1691 I1692 F1693 => ?_)
      refine OK_st 2 okX10_season (S' := (18, [(3, .int (v3 + (1 : Int32))), (0, .ref 49), (1, .int v1)], [], hp I1692 F1693)) rfl ⟨(by decide), trivial, trivial⟩ ?_
      refine OK_pk [1, 2, 0] rfl ?_
      exact ih (v3 + (1 : Int32)) I1692 F1693

def f_X10_season (v1 : Int32) (I : AI) (F : AF) : AQ :=
  ab_bd (f_X10_seasonsRefused v1 I F) (fun r1647 I1648 F1649 =>
    if r1647 = 0 then
      ab_bd (f_X10_remember I1648 F1649) (fun r1670 I1671 F1672 =>
        f_X10_season_18 v1 (fun v3_1694 I1695 F1696 =>
          some (((F1696 47) 19), I1695, F1696)) ab_fu (0 : Int32) I1671 F1672)
    else
      some (r1647, I1648, F1649))
set_option maxRecDepth 20000 in
set_option maxHeartbeats 4000000 in
theorem kf_X10_season (v1 : Int32) (I : AI) (F : AF) : OK 5 mX10_season true (f_X10_season v1 I F) (0, [(0, .ref 49), (1, .int v1)], [], hp I F) := by
  rw [f_X10_season]
  refine OK_st 2 okX10_season (S' := (2, [(0, .ref 49), (1, .int v1)], [.int v1, .ref 49], hp I F)) rfl ⟨trivial, trivial, trivial⟩ ?_
  refine OK_cv [.int v1] [] okX10_season okX10_seasonsRefused rfl rfl cl_RX10_215 rfl rfl (Nat.le_of_ble_eq_true rfl) (by decide) (Nat.le_of_ble_eq_true rfl) (kf_X10_seasonsRefused v1 I F) (fun r1647 I1648 F1649 => ?_)
  refine OK_st 3 okX10_season (S' := ((if r1647 = 0 then 12 else 10), [(2, .int r1647), (0, .ref 49), (1, .int v1)], [], hp I1648 F1649)) rfl ⟨(by decide), trivial, trivial, trivial⟩ ?_
  refine OK_if (fun h1650 => ?_) (fun h1650 => ?_)
  · refine OK_st 1 okX10_season (S' := (13, [(2, .int r1647), (0, .ref 49), (1, .int v1)], [.ref 49], hp I1648 F1649)) rfl ⟨trivial, trivial⟩ ?_
    refine OK_cv [] [] okX10_season okX10_remember rfl rfl cl_RX10_218 rfl rfl (Nat.le_of_ble_eq_true rfl) (by decide) (Nat.le_of_ble_eq_true rfl) (kf_X10_remember I1648 F1649) (fun r1670 I1671 F1672 => ?_)
    refine OK_st 2 okX10_season (S' := (18, [(3, .int (0 : Int32)), (2, .int r1647), (0, .ref 49), (1, .int v1)], [], hp I1671 F1672)) rfl ⟨trivial, (by decide), trivial⟩ ?_
    refine OK_pk [2, 3, 0] rfl ?_
    refine kf_X10_season_18 v1 _ (fun v3_1694 I1695 F1696 => ?_) ab_fu (0 : Int32) I1671 F1672
    refine OK_st 4 okX10_season (S' := (40, [(0, .ref 49), (1, .int v1), (3, .int v3_1694)], [.int ((F1696 47) 19)], hp I1695 F1696)) rfl ⟨trivial, trivial, trivial, (ab_vo (by decide)), trivial⟩ ?_
    exact OK_ri okX10_season rfl rfl (Or.inl rfl)
  · refine OK_st 1 okX10_season (S' := (11, [(2, .int r1647), (0, .ref 49), (1, .int v1)], [.int r1647], hp I1648 F1649)) rfl ⟨trivial, trivial⟩ ?_
    exact OK_ri okX10_season rfl rfl (Or.inl rfl)

def f_X10_swell (v1 : Int32) (v2 : Int32) (I : AI) (F : AF) : AQ :=
  bif ab_vin v1 22 then
    if (140 : Int32) ≤ (((F 47) v1.toNatClampNeg) + v2) then
      bif ab_vin v1 22 then
        some (0, I, (va_up F 47 (upd (F 47) v1.toNatClampNeg (140 : Int32))))
      else none
    else
      bif ab_vin v1 22 then
        bif ab_vin v1 22 then
          some (0, I, (va_up F 47 (upd (F 47) v1.toNatClampNeg (((F 47) v1.toNatClampNeg) + v2))))
        else none
      else none
  else none
set_option maxRecDepth 20000 in
set_option maxHeartbeats 4000000 in
theorem kf_X10_swell (v1 : Int32) (v2 : Int32) (I : AI) (F : AF) : OK 0 mX10_swell false (f_X10_swell v1 v2 I F) (0, [(0, .ref 49), (1, .int v1), (2, .int v2)], [], hp I F) := by
  rw [f_X10_swell]
  refine OK_gd (fun g1712 => ?_)
  refine OK_st 11 okX10_swell (S' := ((if (140 : Int32) ≤ (((F 47) v1.toNatClampNeg) + v2) then 30 else 19), [(0, .ref 49), (1, .int v1), (2, .int v2)], [.int v1, .ref 59], hp I F)) rfl ⟨trivial, trivial, trivial, trivial, trivial, trivial, (ab_vo g1712), trivial, trivial, trivial, trivial, trivial⟩ ?_
  refine OK_if (fun h1713 => ?_) (fun h1713 => ?_)
  · refine OK_gd (fun g1714 => ?_)
    refine OK_st 2 okX10_swell (S' := (34, [(0, .ref 49), (1, .int v1), (2, .int v2)], [], hp I (va_up F 47 (upd (F 47) v1.toNatClampNeg (140 : Int32))))) rfl ⟨trivial, (ab_vo g1714), trivial⟩ ?_
    exact OK_rv okX10_swell rfl rfl rfl
  · refine OK_gd (fun g1715 => ?_)
    refine OK_gd (fun g1716 => ?_)
    refine OK_st 8 okX10_swell (S' := (34, [(0, .ref 49), (1, .int v1), (2, .int v2)], [], hp I (va_up F 47 (upd (F 47) v1.toNatClampNeg (((F 47) v1.toNatClampNeg) + v2))))) rfl ⟨trivial, trivial, trivial, (ab_vo g1715), trivial, trivial, trivial, (ab_vo g1716), trivial⟩ ?_
    exact OK_rv okX10_swell rfl rfl rfl

def f_X10_gout (v1 : Int32) (v2 : Int32) (I : AI) (F : AF) : AQ :=
  ab_bd (f_X10_isLimb v1 I F) (fun r1697 I1698 F1699 =>
    if ¬ r1697 = 0 then
      ab_bd (f_X10_in v2.toInt64 (1 : Int64) (20 : Int64) I1698 F1699) (fun r1701 I1702 F1703 =>
        if ¬ r1701 = 0 then
          ab_bd (f_X10_lives v1 I1702 F1703) (fun r1705 I1706 F1707 =>
            if ¬ r1705 = 0 then
              ab_bd (f_X10_remember I1706 F1707) (fun r1709 I1710 F1711 =>
                ab_bd (f_X10_swell v1 v2 I1710 F1711) (fun r1717 I1718 F1719 =>
                  bif ab_vin v1 22 then
                    some (((F1719 47) v1.toNatClampNeg), I1718, F1719)
                  else none))
            else
              some ((-1000000003 : Int32), I1706, F1707))
        else
          some ((-1000000002 : Int32), I1702, F1703))
    else
      some ((-1000000001 : Int32), I1698, F1699))
set_option maxRecDepth 20000 in
set_option maxHeartbeats 4000000 in
theorem kf_X10_gout (v1 : Int32) (v2 : Int32) (I : AI) (F : AF) : OK 2 mX10_gout true (f_X10_gout v1 v2 I F) (0, [(0, .ref 49), (1, .int v1), (2, .int v2)], [], hp I F) := by
  rw [f_X10_gout]
  refine OK_st 2 okX10_gout (S' := (2, [(0, .ref 49), (1, .int v1), (2, .int v2)], [.int v1, .ref 49], hp I F)) rfl ⟨trivial, trivial, trivial⟩ ?_
  refine OK_cv [.int v1] [] okX10_gout okX10_isLimb rfl rfl cl_RX10_200 rfl rfl (Nat.le_of_ble_eq_true rfl) (by decide) (Nat.le_of_ble_eq_true rfl) (kf_X10_isLimb v1 I F) (fun r1697 I1698 F1699 => ?_)
  refine OK_st 1 okX10_gout (S' := ((if ¬ r1697 = 0 then 11 else 8), [(0, .ref 49), (1, .int v1), (2, .int v2)], [], hp I1698 F1699)) rfl ⟨trivial, trivial⟩ ?_
  refine OK_if (fun h1700 => ?_) (fun h1700 => ?_)
  · refine OK_st 4 okX10_gout (S' := (17, [(0, .ref 49), (1, .int v1), (2, .int v2)], [.long (20 : Int64), .long (1 : Int64), .long v2.toInt64], hp I1698 F1699)) rfl ⟨trivial, trivial, trivial, trivial, trivial⟩ ?_
    refine OK_cs [.long v2.toInt64, .long (1 : Int64), .long (20 : Int64)] [] okX10_gout okX10_in rfl rfl cl_RX10_102 (Nat.le_of_ble_eq_true rfl) (by decide) (Nat.le_of_ble_eq_true rfl) (kf_X10_in v2.toInt64 (1 : Int64) (20 : Int64) I1698 F1699) (fun r1701 I1702 F1703 => ?_)
    refine OK_st 1 okX10_gout (S' := ((if ¬ r1701 = 0 then 26 else 23), [(0, .ref 49), (1, .int v1), (2, .int v2)], [], hp I1702 F1703)) rfl ⟨trivial, trivial⟩ ?_
    refine OK_if (fun h1704 => ?_) (fun h1704 => ?_)
    · refine OK_st 2 okX10_gout (S' := (28, [(0, .ref 49), (1, .int v1), (2, .int v2)], [.int v1, .ref 49], hp I1702 F1703)) rfl ⟨trivial, trivial, trivial⟩ ?_
      refine OK_cv [.int v1] [] okX10_gout okX10_lives rfl rfl cl_RX10_190 rfl rfl (Nat.le_of_ble_eq_true rfl) (by decide) (Nat.le_of_ble_eq_true rfl) (kf_X10_lives v1 I1702 F1703) (fun r1705 I1706 F1707 => ?_)
      refine OK_st 1 okX10_gout (S' := ((if ¬ r1705 = 0 then 37 else 34), [(0, .ref 49), (1, .int v1), (2, .int v2)], [], hp I1706 F1707)) rfl ⟨trivial, trivial⟩ ?_
      refine OK_if (fun h1708 => ?_) (fun h1708 => ?_)
      · refine OK_st 1 okX10_gout (S' := (38, [(0, .ref 49), (1, .int v1), (2, .int v2)], [.ref 49], hp I1706 F1707)) rfl ⟨trivial, trivial⟩ ?_
        refine OK_cv [] [] okX10_gout okX10_remember rfl rfl cl_RX10_218 rfl rfl (Nat.le_of_ble_eq_true rfl) (by decide) (Nat.le_of_ble_eq_true rfl) (kf_X10_remember I1706 F1707) (fun r1709 I1710 F1711 => ?_)
        refine OK_st 3 okX10_gout (S' := (44, [(0, .ref 49), (1, .int v1), (2, .int v2)], [.int v2, .int v1, .ref 49], hp I1710 F1711)) rfl ⟨trivial, trivial, trivial, trivial⟩ ?_
        refine OK_cv [.int v1, .int v2] [] okX10_gout okX10_swell rfl rfl cl_RX10_226 rfl rfl (Nat.le_of_ble_eq_true rfl) (by decide) (Nat.le_of_ble_eq_true rfl) (kf_X10_swell v1 v2 I1710 F1711) (fun r1717 I1718 F1719 => ?_)
        refine OK_gd (fun g1720 => ?_)
        refine OK_st 4 okX10_gout (S' := (53, [(0, .ref 49), (1, .int v1), (2, .int v2)], [.int ((F1719 47) v1.toNatClampNeg)], hp I1718 F1719)) rfl ⟨trivial, trivial, trivial, (ab_vo g1720), trivial⟩ ?_
        exact OK_ri okX10_gout rfl rfl (Or.inl rfl)
      · refine OK_st 1 okX10_gout (S' := (36, [(0, .ref 49), (1, .int v1), (2, .int v2)], [.int (-1000000003 : Int32)], hp I1706 F1707)) rfl ⟨trivial, trivial⟩ ?_
        exact OK_ri okX10_gout rfl rfl (Or.inl rfl)
    · refine OK_st 1 okX10_gout (S' := (25, [(0, .ref 49), (1, .int v1), (2, .int v2)], [.int (-1000000002 : Int32)], hp I1702 F1703)) rfl ⟨trivial, trivial⟩ ?_
      exact OK_ri okX10_gout rfl rfl (Or.inl rfl)
  · refine OK_st 1 okX10_gout (S' := (10, [(0, .ref 49), (1, .int v1), (2, .int v2)], [.int (-1000000001 : Int32)], hp I1698 F1699)) rfl ⟨trivial, trivial⟩ ?_
    exact OK_ri okX10_gout rfl rfl (Or.inl rfl)

def f_X10_shrink (v1 : Int32) (I : AI) (F : AF) : AQ :=
  bif ab_vin v1 22 then
    if ((F 47) v1.toNatClampNeg) ≤ (4 : Int32) then
      bif ab_vin v1 22 then
        some (0, I, (va_up F 47 (upd (F 47) v1.toNatClampNeg (1 : Int32))))
      else none
    else
      bif ab_vin v1 22 then
        bif ab_vin v1 22 then
          some (0, I, (va_up F 47 (upd (F 47) v1.toNatClampNeg (((F 47) v1.toNatClampNeg) - (3 : Int32)))))
        else none
      else none
  else none
set_option maxRecDepth 20000 in
set_option maxHeartbeats 4000000 in
theorem kf_X10_shrink (v1 : Int32) (I : AI) (F : AF) : OK 0 mX10_shrink false (f_X10_shrink v1 I F) (0, [(0, .ref 49), (1, .int v1)], [], hp I F) := by
  rw [f_X10_shrink]
  refine OK_gd (fun g1732 => ?_)
  refine OK_st 9 okX10_shrink (S' := ((if ((F 47) v1.toNatClampNeg) ≤ (4 : Int32) then 26 else 15), [(0, .ref 49), (1, .int v1)], [.int v1, .ref 59], hp I F)) rfl ⟨trivial, trivial, trivial, trivial, trivial, trivial, (ab_vo g1732), trivial, trivial, trivial⟩ ?_
  refine OK_if (fun h1733 => ?_) (fun h1733 => ?_)
  · refine OK_gd (fun g1734 => ?_)
    refine OK_st 2 okX10_shrink (S' := (28, [(0, .ref 49), (1, .int v1)], [], hp I (va_up F 47 (upd (F 47) v1.toNatClampNeg (1 : Int32))))) rfl ⟨trivial, (ab_vo g1734), trivial⟩ ?_
    exact OK_rv okX10_shrink rfl rfl rfl
  · refine OK_gd (fun g1735 => ?_)
    refine OK_gd (fun g1736 => ?_)
    refine OK_st 8 okX10_shrink (S' := (28, [(0, .ref 49), (1, .int v1)], [], hp I (va_up F 47 (upd (F 47) v1.toNatClampNeg (((F 47) v1.toNatClampNeg) - (3 : Int32)))))) rfl ⟨trivial, trivial, trivial, (ab_vo g1735), trivial, trivial, trivial, (ab_vo g1736), trivial⟩ ?_
    exact OK_rv okX10_shrink rfl rfl rfl

def f_X10_stub (v1 : Int32) (I : AI) (F : AF) : AQ :=
  ab_bd (f_X10_isLimb v1 I F) (fun r1721 I1722 F1723 =>
    if ¬ r1721 = 0 then
      ab_bd (f_X10_lives v1 I1722 F1723) (fun r1725 I1726 F1727 =>
        if ¬ r1725 = 0 then
          ab_bd (f_X10_remember I1726 F1727) (fun r1729 I1730 F1731 =>
            ab_bd (f_X10_shrink v1 I1730 F1731) (fun r1737 I1738 F1739 =>
              bif ab_vin v1 22 then
                some (((F1739 47) v1.toNatClampNeg), I1738, F1739)
              else none))
        else
          some ((-1000000003 : Int32), I1726, F1727))
    else
      some ((-1000000001 : Int32), I1722, F1723))
set_option maxRecDepth 20000 in
set_option maxHeartbeats 4000000 in
theorem kf_X10_stub (v1 : Int32) (I : AI) (F : AF) : OK 2 mX10_stub true (f_X10_stub v1 I F) (0, [(0, .ref 49), (1, .int v1)], [], hp I F) := by
  rw [f_X10_stub]
  refine OK_st 2 okX10_stub (S' := (2, [(0, .ref 49), (1, .int v1)], [.int v1, .ref 49], hp I F)) rfl ⟨trivial, trivial, trivial⟩ ?_
  refine OK_cv [.int v1] [] okX10_stub okX10_isLimb rfl rfl cl_RX10_200 rfl rfl (Nat.le_of_ble_eq_true rfl) (by decide) (Nat.le_of_ble_eq_true rfl) (kf_X10_isLimb v1 I F) (fun r1721 I1722 F1723 => ?_)
  refine OK_st 1 okX10_stub (S' := ((if ¬ r1721 = 0 then 11 else 8), [(0, .ref 49), (1, .int v1)], [], hp I1722 F1723)) rfl ⟨trivial, trivial⟩ ?_
  refine OK_if (fun h1724 => ?_) (fun h1724 => ?_)
  · refine OK_st 2 okX10_stub (S' := (13, [(0, .ref 49), (1, .int v1)], [.int v1, .ref 49], hp I1722 F1723)) rfl ⟨trivial, trivial, trivial⟩ ?_
    refine OK_cv [.int v1] [] okX10_stub okX10_lives rfl rfl cl_RX10_190 rfl rfl (Nat.le_of_ble_eq_true rfl) (by decide) (Nat.le_of_ble_eq_true rfl) (kf_X10_lives v1 I1722 F1723) (fun r1725 I1726 F1727 => ?_)
    refine OK_st 1 okX10_stub (S' := ((if ¬ r1725 = 0 then 22 else 19), [(0, .ref 49), (1, .int v1)], [], hp I1726 F1727)) rfl ⟨trivial, trivial⟩ ?_
    refine OK_if (fun h1728 => ?_) (fun h1728 => ?_)
    · refine OK_st 1 okX10_stub (S' := (23, [(0, .ref 49), (1, .int v1)], [.ref 49], hp I1726 F1727)) rfl ⟨trivial, trivial⟩ ?_
      refine OK_cv [] [] okX10_stub okX10_remember rfl rfl cl_RX10_218 rfl rfl (Nat.le_of_ble_eq_true rfl) (by decide) (Nat.le_of_ble_eq_true rfl) (kf_X10_remember I1726 F1727) (fun r1729 I1730 F1731 => ?_)
      refine OK_st 2 okX10_stub (S' := (28, [(0, .ref 49), (1, .int v1)], [.int v1, .ref 49], hp I1730 F1731)) rfl ⟨trivial, trivial, trivial⟩ ?_
      refine OK_cv [.int v1] [] okX10_stub okX10_shrink rfl rfl cl_RX10_230 rfl rfl (Nat.le_of_ble_eq_true rfl) (by decide) (Nat.le_of_ble_eq_true rfl) (kf_X10_shrink v1 I1730 F1731) (fun r1737 I1738 F1739 => ?_)
      refine OK_gd (fun g1740 => ?_)
      refine OK_st 4 okX10_stub (S' := (37, [(0, .ref 49), (1, .int v1)], [.int ((F1739 47) v1.toNatClampNeg)], hp I1738 F1739)) rfl ⟨trivial, trivial, trivial, (ab_vo g1740), trivial⟩ ?_
      exact OK_ri okX10_stub rfl rfl (Or.inl rfl)
    · refine OK_st 1 okX10_stub (S' := (21, [(0, .ref 49), (1, .int v1)], [.int (-1000000003 : Int32)], hp I1726 F1727)) rfl ⟨trivial, trivial⟩ ?_
      exact OK_ri okX10_stub rfl rfl (Or.inl rfl)
  · refine OK_st 1 okX10_stub (S' := (10, [(0, .ref 49), (1, .int v1)], [.int (-1000000001 : Int32)], hp I1722 F1723)) rfl ⟨trivial, trivial⟩ ?_
    exact OK_ri okX10_stub rfl rfl (Or.inl rfl)

def f_X10_dies (v1 : Int32) (I : AI) (F : AF) : AQ :=
  ab_bd (f_X10_isLimb v1 I F) (fun r1741 I1742 F1743 =>
    if ¬ r1741 = 0 then
      ab_bd (f_X10_lives v1 I1742 F1743) (fun r1745 I1746 F1747 =>
        if ¬ r1745 = 0 then
          ab_bd (f_X10_remember I1746 F1747) (fun r1749 I1750 F1751 =>
            ab_lt (va_up F1751 47 (upd (F1751 47) 18 (((F1751 47) 18) &&& (((1 : Int32) <<< (v1 &&& 31)) ^^^ (-1 : Int32))))) (fun F1752 =>
              ab_bd (f_X10_measureNow v1 I1750 F1752) (fun r1753 I1754 F1755 =>
                some (r1753, I1754, F1755))))
        else
          some ((-1000000003 : Int32), I1746, F1747))
    else
      some ((-1000000001 : Int32), I1742, F1743))
set_option maxRecDepth 20000 in
set_option maxHeartbeats 4000000 in
theorem kf_X10_dies (v1 : Int32) (I : AI) (F : AF) : OK 4 mX10_dies true (f_X10_dies v1 I F) (0, [(0, .ref 49), (1, .int v1)], [], hp I F) := by
  rw [f_X10_dies]
  refine OK_st 2 okX10_dies (S' := (2, [(0, .ref 49), (1, .int v1)], [.int v1, .ref 49], hp I F)) rfl ⟨trivial, trivial, trivial⟩ ?_
  refine OK_cv [.int v1] [] okX10_dies okX10_isLimb rfl rfl cl_RX10_200 rfl rfl (Nat.le_of_ble_eq_true rfl) (by decide) (Nat.le_of_ble_eq_true rfl) (kf_X10_isLimb v1 I F) (fun r1741 I1742 F1743 => ?_)
  refine OK_st 1 okX10_dies (S' := ((if ¬ r1741 = 0 then 11 else 8), [(0, .ref 49), (1, .int v1)], [], hp I1742 F1743)) rfl ⟨trivial, trivial⟩ ?_
  refine OK_if (fun h1744 => ?_) (fun h1744 => ?_)
  · refine OK_st 2 okX10_dies (S' := (13, [(0, .ref 49), (1, .int v1)], [.int v1, .ref 49], hp I1742 F1743)) rfl ⟨trivial, trivial, trivial⟩ ?_
    refine OK_cv [.int v1] [] okX10_dies okX10_lives rfl rfl cl_RX10_190 rfl rfl (Nat.le_of_ble_eq_true rfl) (by decide) (Nat.le_of_ble_eq_true rfl) (kf_X10_lives v1 I1742 F1743) (fun r1745 I1746 F1747 => ?_)
    refine OK_st 1 okX10_dies (S' := ((if ¬ r1745 = 0 then 22 else 19), [(0, .ref 49), (1, .int v1)], [], hp I1746 F1747)) rfl ⟨trivial, trivial⟩ ?_
    refine OK_if (fun h1748 => ?_) (fun h1748 => ?_)
    · refine OK_st 1 okX10_dies (S' := (23, [(0, .ref 49), (1, .int v1)], [.ref 49], hp I1746 F1747)) rfl ⟨trivial, trivial⟩ ?_
      refine OK_cv [] [] okX10_dies okX10_remember rfl rfl cl_RX10_218 rfl rfl (Nat.le_of_ble_eq_true rfl) (by decide) (Nat.le_of_ble_eq_true rfl) (kf_X10_remember I1746 F1747) (fun r1749 I1750 F1751 => ?_)
      refine OK_st 14 okX10_dies (S' := (43, [(0, .ref 49), (1, .int v1)], [.int v1, .ref 49], hp I1750 (va_up F1751 47 (upd (F1751 47) 18 (((F1751 47) 18) &&& (((1 : Int32) <<< (v1 &&& 31)) ^^^ (-1 : Int32))))))) rfl ⟨trivial, trivial, trivial, ⟨rfl, rfl⟩, (ab_vo (by decide)), trivial, trivial, trivial, trivial, trivial, trivial, (ab_vo (by decide)), trivial, trivial, trivial⟩ ?_
      refine OK_lt (fun F1752 => (43, [(0, .ref 49), (1, .int v1)], [.int v1, .ref 49], hp I1750 F1752)) (fun F1752 => ?_)
      refine OK_cv [.int v1] [] okX10_dies okX10_measureNow rfl rfl cl_RX10_204 rfl rfl (Nat.le_of_ble_eq_true rfl) (by decide) (Nat.le_of_ble_eq_true rfl) (kf_X10_measureNow v1 I1750 F1752) (fun r1753 I1754 F1755 => ?_)
      exact OK_ri okX10_dies rfl rfl (Or.inl rfl)
    · refine OK_st 1 okX10_dies (S' := (21, [(0, .ref 49), (1, .int v1)], [.int (-1000000003 : Int32)], hp I1746 F1747)) rfl ⟨trivial, trivial⟩ ?_
      exact OK_ri okX10_dies rfl rfl (Or.inl rfl)
  · refine OK_st 1 okX10_dies (S' := (10, [(0, .ref 49), (1, .int v1)], [.int (-1000000001 : Int32)], hp I1742 F1743)) rfl ⟨trivial, trivial⟩ ?_
    exact OK_ri okX10_dies rfl rfl (Or.inl rfl)

def f_X10_copy (v1 : Int32) (I : AI) (F : AF) : AQ :=
  ab_bd (f_X10_isLimb v1 I F) (fun r1756 I1757 F1758 =>
    if ¬ r1756 = 0 then
      ab_bd (f_X10_lives v1 I1757 F1758) (fun r1760 I1761 F1762 =>
        if ¬ r1760 = 0 then
          ab_bd (f_X10_remember I1761 F1762) (fun r1764 I1765 F1766 =>
            ab_bd (f_X10_grown v1 ((F1766 47) 19) I1765 F1766) (fun r1767 I1768 F1769 =>
              bif ab_vin ((6 : Int32) + v1) 22 then
                bif ab_vin ((6 : Int32) + v1) 22 then
                  some ((upd (F1769 47) ((6 : Int32) + v1).toNatClampNeg r1767 ((6 : Int32) + v1).toNatClampNeg), I1768, (va_up F1769 47 (upd (F1769 47) ((6 : Int32) + v1).toNatClampNeg r1767)))
                else none
              else none))
        else
          some ((-1000000003 : Int32), I1761, F1762))
    else
      some ((-1000000001 : Int32), I1757, F1758))
set_option maxRecDepth 20000 in
set_option maxHeartbeats 4000000 in
theorem kf_X10_copy (v1 : Int32) (I : AI) (F : AF) : OK 2 mX10_copy true (f_X10_copy v1 I F) (0, [(0, .ref 49), (1, .int v1)], [], hp I F) := by
  rw [f_X10_copy]
  refine OK_st 2 okX10_copy (S' := (2, [(0, .ref 49), (1, .int v1)], [.int v1, .ref 49], hp I F)) rfl ⟨trivial, trivial, trivial⟩ ?_
  refine OK_cv [.int v1] [] okX10_copy okX10_isLimb rfl rfl cl_RX10_200 rfl rfl (Nat.le_of_ble_eq_true rfl) (by decide) (Nat.le_of_ble_eq_true rfl) (kf_X10_isLimb v1 I F) (fun r1756 I1757 F1758 => ?_)
  refine OK_st 1 okX10_copy (S' := ((if ¬ r1756 = 0 then 11 else 8), [(0, .ref 49), (1, .int v1)], [], hp I1757 F1758)) rfl ⟨trivial, trivial⟩ ?_
  refine OK_if (fun h1759 => ?_) (fun h1759 => ?_)
  · refine OK_st 2 okX10_copy (S' := (13, [(0, .ref 49), (1, .int v1)], [.int v1, .ref 49], hp I1757 F1758)) rfl ⟨trivial, trivial, trivial⟩ ?_
    refine OK_cv [.int v1] [] okX10_copy okX10_lives rfl rfl cl_RX10_190 rfl rfl (Nat.le_of_ble_eq_true rfl) (by decide) (Nat.le_of_ble_eq_true rfl) (kf_X10_lives v1 I1757 F1758) (fun r1760 I1761 F1762 => ?_)
    refine OK_st 1 okX10_copy (S' := ((if ¬ r1760 = 0 then 22 else 19), [(0, .ref 49), (1, .int v1)], [], hp I1761 F1762)) rfl ⟨trivial, trivial⟩ ?_
    refine OK_if (fun h1763 => ?_) (fun h1763 => ?_)
    · refine OK_st 1 okX10_copy (S' := (23, [(0, .ref 49), (1, .int v1)], [.ref 49], hp I1761 F1762)) rfl ⟨trivial, trivial⟩ ?_
      refine OK_cv [] [] okX10_copy okX10_remember rfl rfl cl_RX10_218 rfl rfl (Nat.le_of_ble_eq_true rfl) (by decide) (Nat.le_of_ble_eq_true rfl) (kf_X10_remember I1761 F1762) (fun r1764 I1765 F1766 => ?_)
      refine OK_st 11 okX10_copy (S' := (43, [(0, .ref 49), (1, .int v1)], [.int ((F1766 47) 19), .int v1, .ref 49, .int ((6 : Int32) + v1), .ref 59], hp I1765 F1766)) rfl ⟨trivial, trivial, trivial, trivial, trivial, trivial, trivial, trivial, trivial, trivial, (ab_vo (by decide)), trivial⟩ ?_
      refine OK_cv [.int v1, .int ((F1766 47) 19)] [.int ((6 : Int32) + v1), .ref 59] okX10_copy okX10_grown rfl rfl cl_RX10_194 rfl rfl (Nat.le_of_ble_eq_true rfl) (by decide) (Nat.le_of_ble_eq_true rfl) (kf_X10_grown v1 ((F1766 47) 19) I1765 F1766) (fun r1767 I1768 F1769 => ?_)
      refine OK_gd (fun g1770 => ?_)
      refine OK_gd (fun g1771 => ?_)
      refine OK_st 7 okX10_copy (S' := (56, [(0, .ref 49), (1, .int v1)], [.int (upd (F1769 47) ((6 : Int32) + v1).toNatClampNeg r1767 ((6 : Int32) + v1).toNatClampNeg)], hp I1768 (va_up F1769 47 (upd (F1769 47) ((6 : Int32) + v1).toNatClampNeg r1767)))) rfl ⟨(ab_vo g1770), trivial, trivial, trivial, trivial, trivial, (ab_vo g1771), trivial⟩ ?_
      exact OK_ri okX10_copy rfl rfl (Or.inl rfl)
    · refine OK_st 1 okX10_copy (S' := (21, [(0, .ref 49), (1, .int v1)], [.int (-1000000003 : Int32)], hp I1761 F1762)) rfl ⟨trivial, trivial⟩ ?_
      exact OK_ri okX10_copy rfl rfl (Or.inl rfl)
  · refine OK_st 1 okX10_copy (S' := (10, [(0, .ref 49), (1, .int v1)], [.int (-1000000001 : Int32)], hp I1757 F1758)) rfl ⟨trivial, trivial⟩ ?_
    exact OK_ri okX10_copy rfl rfl (Or.inl rfl)

def f_X10_draw (v1 : Int32) (I : AI) (F : AF) : AQ :=
  bif ab_nz v1 then
    some (((((((((I 25).toInt64) * (1103515245 : Int64)) + (12345 : Int64)) - ((((I 25).toInt64) * (1103515245 : Int64)) + (12345 : Int64)) / (2147483648 : Int64) * (2147483648 : Int64)).toInt32) / (65536 : Int32)) - (((((((I 25).toInt64) * (1103515245 : Int64)) + (12345 : Int64)) - ((((I 25).toInt64) * (1103515245 : Int64)) + (12345 : Int64)) / (2147483648 : Int64) * (2147483648 : Int64)).toInt32) / (65536 : Int32)) / v1 * v1), (va_up I 25 ((((((I 25).toInt64) * (1103515245 : Int64)) + (12345 : Int64)) - ((((I 25).toInt64) * (1103515245 : Int64)) + (12345 : Int64)) / (2147483648 : Int64) * (2147483648 : Int64)).toInt32)), F)
  else none
set_option maxRecDepth 20000 in
set_option maxHeartbeats 4000000 in
theorem kf_X10_draw (v1 : Int32) (I : AI) (F : AF) : OK 0 mX10_draw true (f_X10_draw v1 I F) (0, [(0, .ref 49), (1, .int v1)], [], hp I F) := by
  rw [f_X10_draw]
  refine OK_gd (fun g1780 => ?_)
  refine OK_st 18 okX10_draw (S' := (31, [(0, .ref 49), (1, .int v1)], [.int ((((((((I 25).toInt64) * (1103515245 : Int64)) + (12345 : Int64)) - ((((I 25).toInt64) * (1103515245 : Int64)) + (12345 : Int64)) / (2147483648 : Int64) * (2147483648 : Int64)).toInt32) / (65536 : Int32)) - (((((((I 25).toInt64) * (1103515245 : Int64)) + (12345 : Int64)) - ((((I 25).toInt64) * (1103515245 : Int64)) + (12345 : Int64)) / (2147483648 : Int64) * (2147483648 : Int64)).toInt32) / (65536 : Int32)) / v1 * v1)], hp (va_up I 25 ((((((I 25).toInt64) * (1103515245 : Int64)) + (12345 : Int64)) - ((((I 25).toInt64) * (1103515245 : Int64)) + (12345 : Int64)) / (2147483648 : Int64) * (2147483648 : Int64)).toInt32)) F)) rfl ⟨trivial, trivial, trivial, trivial, trivial, trivial, trivial, trivial, trivial, (by decide), trivial, trivial, trivial, trivial, trivial, (by decide), trivial, (ab_nzo g1780), trivial⟩ ?_
  exact OK_ri okX10_draw rfl rfl (Or.inl rfl)

def f_X10_drawn_j38 (v1 : Int32) (v2 : Int32) (s0 : Int32) (I : AI) (F : AF) : AQ :=
  ab_bd (f_X10_lives v2 I F) (fun r1789 I1790 F1791 =>
    if r1789 = 0 then
      ab_bd (f_X10_lives v2 I1790 F1791) (fun r1793 I1794 F1795 =>
        if r1793 = 0 then
          some (0, I1794, F1795)
        else
          ab_bd (f_X10_shrink v2 I1794 F1795) (fun r1797 I1798 F1799 =>
            some (0, I1798, F1799)))
    else
      if ¬ v1 = 0 then
        ab_bd (f_X10_lives v2 I1790 F1791) (fun r1801 I1802 F1803 =>
          if r1801 = 0 then
            some (0, I1802, F1803)
          else
            ab_bd (f_X10_shrink v2 I1802 F1803) (fun r1805 I1806 F1807 =>
              some (0, I1806, F1807)))
      else
        ab_bd (f_X10_swell v2 s0 I1790 F1791) (fun r1808 I1809 F1810 =>
          some (0, I1809, F1810)))
set_option maxRecDepth 20000 in
set_option maxHeartbeats 4000000 in
theorem kf_X10_drawn_j38 (v1 : Int32) (v2 : Int32) (s0 : Int32) (I : AI) (F : AF) : OK 2 mX10_drawn false (f_X10_drawn_j38 v1 v2 s0 I F) (38, [(0, .ref 49), (1, .int v1), (2, .int v2)], [.int s0], hp I F) := by
  rw [f_X10_drawn_j38]
  refine OK_st 3 okX10_drawn (S' := (41, [(3, .int s0), (0, .ref 49), (1, .int v1), (2, .int v2)], [.int v2, .ref 49], hp I F)) rfl ⟨(by decide), trivial, trivial, trivial⟩ ?_
  refine OK_cv [.int v2] [] okX10_drawn okX10_lives rfl rfl cl_RX10_190 rfl rfl (Nat.le_of_ble_eq_true rfl) (by decide) (Nat.le_of_ble_eq_true rfl) (kf_X10_lives v2 I F) (fun r1789 I1790 F1791 => ?_)
  refine OK_st 1 okX10_drawn (S' := ((if r1789 = 0 then 60 else 47), [(3, .int s0), (0, .ref 49), (1, .int v1), (2, .int v2)], [], hp I1790 F1791)) rfl ⟨trivial, trivial⟩ ?_
  refine OK_if (fun h1792 => ?_) (fun h1792 => ?_)
  · refine OK_st 2 okX10_drawn (S' := (62, [(3, .int s0), (0, .ref 49), (1, .int v1), (2, .int v2)], [.int v2, .ref 49], hp I1790 F1791)) rfl ⟨trivial, trivial, trivial⟩ ?_
    refine OK_cv [.int v2] [] okX10_drawn okX10_lives rfl rfl cl_RX10_190 rfl rfl (Nat.le_of_ble_eq_true rfl) (by decide) (Nat.le_of_ble_eq_true rfl) (kf_X10_lives v2 I1790 F1791) (fun r1793 I1794 F1795 => ?_)
    refine OK_st 1 okX10_drawn (S' := ((if r1793 = 0 then 73 else 68), [(3, .int s0), (0, .ref 49), (1, .int v1), (2, .int v2)], [], hp I1794 F1795)) rfl ⟨trivial, trivial⟩ ?_
    refine OK_if (fun h1796 => ?_) (fun h1796 => ?_)
    · exact OK_rv okX10_drawn rfl rfl rfl
    · refine OK_st 2 okX10_drawn (S' := (70, [(3, .int s0), (0, .ref 49), (1, .int v1), (2, .int v2)], [.int v2, .ref 49], hp I1794 F1795)) rfl ⟨trivial, trivial, trivial⟩ ?_
      refine OK_cv [.int v2] [] okX10_drawn okX10_shrink rfl rfl cl_RX10_230 rfl rfl (Nat.le_of_ble_eq_true rfl) (by decide) (Nat.le_of_ble_eq_true rfl) (kf_X10_shrink v2 I1794 F1795) (fun r1797 I1798 F1799 => ?_)
      exact OK_rv okX10_drawn rfl rfl rfl
  · refine OK_st 2 okX10_drawn (S' := ((if ¬ v1 = 0 then 60 else 51), [(3, .int s0), (0, .ref 49), (1, .int v1), (2, .int v2)], [], hp I1790 F1791)) rfl ⟨trivial, trivial, trivial⟩ ?_
    refine OK_if (fun h1800 => ?_) (fun h1800 => ?_)
    · refine OK_st 2 okX10_drawn (S' := (62, [(3, .int s0), (0, .ref 49), (1, .int v1), (2, .int v2)], [.int v2, .ref 49], hp I1790 F1791)) rfl ⟨trivial, trivial, trivial⟩ ?_
      refine OK_cv [.int v2] [] okX10_drawn okX10_lives rfl rfl cl_RX10_190 rfl rfl (Nat.le_of_ble_eq_true rfl) (by decide) (Nat.le_of_ble_eq_true rfl) (kf_X10_lives v2 I1790 F1791) (fun r1801 I1802 F1803 => ?_)
      refine OK_st 1 okX10_drawn (S' := ((if r1801 = 0 then 73 else 68), [(3, .int s0), (0, .ref 49), (1, .int v1), (2, .int v2)], [], hp I1802 F1803)) rfl ⟨trivial, trivial⟩ ?_
      refine OK_if (fun h1804 => ?_) (fun h1804 => ?_)
      · exact OK_rv okX10_drawn rfl rfl rfl
      · refine OK_st 2 okX10_drawn (S' := (70, [(3, .int s0), (0, .ref 49), (1, .int v1), (2, .int v2)], [.int v2, .ref 49], hp I1802 F1803)) rfl ⟨trivial, trivial, trivial⟩ ?_
        refine OK_cv [.int v2] [] okX10_drawn okX10_shrink rfl rfl cl_RX10_230 rfl rfl (Nat.le_of_ble_eq_true rfl) (by decide) (Nat.le_of_ble_eq_true rfl) (kf_X10_shrink v2 I1802 F1803) (fun r1805 I1806 F1807 => ?_)
        exact OK_rv okX10_drawn rfl rfl rfl
    · refine OK_st 3 okX10_drawn (S' := (54, [(3, .int s0), (0, .ref 49), (1, .int v1), (2, .int v2)], [.int s0, .int v2, .ref 49], hp I1790 F1791)) rfl ⟨trivial, trivial, trivial, trivial⟩ ?_
      refine OK_cv [.int v2, .int s0] [] okX10_drawn okX10_swell rfl rfl cl_RX10_226 rfl rfl (Nat.le_of_ble_eq_true rfl) (by decide) (Nat.le_of_ble_eq_true rfl) (kf_X10_swell v2 s0 I1790 F1791) (fun r1808 I1809 F1810 => ?_)
      refine OK_st 1 okX10_drawn (S' := (73, [(3, .int s0), (0, .ref 49), (1, .int v1), (2, .int v2)], [], hp I1809 F1810)) rfl ⟨trivial, trivial⟩ ?_
      exact OK_rv okX10_drawn rfl rfl rfl

def f_X10_drawn (I : AI) (F : AF) : AQ :=
  ab_bd (f_X10_draw (6 : Int32) I F) (fun r1781 I1782 F1783 =>
    if r1781 ≤ (1 : Int32) then
      ab_bd (f_X10_draw (I1782 22) I1782 F1783) (fun r1785 I1786 F1787 =>
        if ¬ r1781 = 0 then
          f_X10_drawn_j38 r1781 r1785 (0 : Int32) I1786 F1787
        else
          ab_bd (f_X10_draw (20 : Int32) I1786 F1787) (fun r1811 I1812 F1813 =>
            f_X10_drawn_j38 r1781 r1785 (r1811 + (1 : Int32)) I1812 F1813))
    else
      some (0, I1782, F1783))
set_option maxRecDepth 20000 in
set_option maxHeartbeats 4000000 in
theorem kf_X10_drawn (I : AI) (F : AF) : OK 2 mX10_drawn false (f_X10_drawn I F) (0, [(0, .ref 49)], [], hp I F) := by
  rw [f_X10_drawn]
  refine OK_st 2 okX10_drawn (S' := (3, [(0, .ref 49)], [.int (6 : Int32), .ref 49], hp I F)) rfl ⟨trivial, trivial, trivial⟩ ?_
  refine OK_cv [.int (6 : Int32)] [] okX10_drawn okX10_draw rfl rfl cl_RX10_244 rfl rfl (Nat.le_of_ble_eq_true rfl) (by decide) (Nat.le_of_ble_eq_true rfl) (kf_X10_draw (6 : Int32) I F) (fun r1781 I1782 F1783 => ?_)
  refine OK_st 4 okX10_drawn (S' := ((if r1781 ≤ (1 : Int32) then 13 else 12), [(1, .int r1781), (0, .ref 49)], [], hp I1782 F1783)) rfl ⟨(by decide), trivial, trivial, trivial, trivial⟩ ?_
  refine OK_if (fun h1784 => ?_) (fun h1784 => ?_)
  · refine OK_st 3 okX10_drawn (S' := (18, [(1, .int r1781), (0, .ref 49)], [.int (I1782 22), .ref 49], hp I1782 F1783)) rfl ⟨trivial, trivial, trivial, trivial⟩ ?_
    refine OK_cv [.int (I1782 22)] [] okX10_drawn okX10_draw rfl rfl cl_RX10_244 rfl rfl (Nat.le_of_ble_eq_true rfl) (by decide) (Nat.le_of_ble_eq_true rfl) (kf_X10_draw (I1782 22) I1782 F1783) (fun r1785 I1786 F1787 => ?_)
    refine OK_st 3 okX10_drawn (S' := ((if ¬ r1781 = 0 then 37 else 26), [(2, .int r1785), (1, .int r1781), (0, .ref 49)], [], hp I1786 F1787)) rfl ⟨(by decide), trivial, trivial, trivial⟩ ?_
    refine OK_if (fun h1788 => ?_) (fun h1788 => ?_)
    · refine OK_st 1 okX10_drawn (S' := (38, [(2, .int r1785), (1, .int r1781), (0, .ref 49)], [.int (0 : Int32)], hp I1786 F1787)) rfl ⟨trivial, trivial⟩ ?_
      refine OK_pk [2, 1, 0] rfl ?_
      exact kf_X10_drawn_j38 r1781 r1785 (0 : Int32) I1786 F1787
    · refine OK_st 2 okX10_drawn (S' := (29, [(2, .int r1785), (1, .int r1781), (0, .ref 49)], [.int (20 : Int32), .ref 49], hp I1786 F1787)) rfl ⟨trivial, trivial, trivial⟩ ?_
      refine OK_cv [.int (20 : Int32)] [] okX10_drawn okX10_draw rfl rfl cl_RX10_244 rfl rfl (Nat.le_of_ble_eq_true rfl) (by decide) (Nat.le_of_ble_eq_true rfl) (kf_X10_draw (20 : Int32) I1786 F1787) (fun r1811 I1812 F1813 => ?_)
      refine OK_st 3 okX10_drawn (S' := (38, [(2, .int r1785), (1, .int r1781), (0, .ref 49)], [.int (r1811 + (1 : Int32))], hp I1812 F1813)) rfl ⟨trivial, trivial, trivial, trivial⟩ ?_
      refine OK_pk [2, 1, 0] rfl ?_
      exact kf_X10_drawn_j38 r1781 r1785 (r1811 + (1 : Int32)) I1812 F1813
  · exact OK_rv okX10_drawn rfl rfl rfl

def f_X10_drift_18 (v1 : Int32) (ko : Int32 → AI → AF → AQ) : Nat → Int32 → AI → AF → AQ
  | 0, _, _, _ => none
  | n + 1, v3, I, F =>
    if v1 ≤ v3 then
      ko v3 I F
    else
      ab_bd (f_X10_drawn I F) (fun r1814 I1815 F1816 =>
        ab_bd (f_X10_pass I1815 F1816) (fun r1817 I1818 F1819 =>
          f_X10_drift_18 v1 ko n (v3 + (1 : Int32)) I1818 F1819))
set_option maxRecDepth 20000 in
set_option maxHeartbeats 4000000 in
theorem kf_X10_drift_18 (v1 : Int32) (ko : Int32 → AI → AF → AQ) (hko : ∀ v3 I F, OK 5 mX10_drift true (ko v3 I F) (37, [(0, .ref 49), (1, .int v1), (3, .int v3)], [], hp I F)) : ∀ n v3 I F, OK 5 mX10_drift true (f_X10_drift_18 v1 ko n v3 I F) (18, [(0, .ref 49), (1, .int v1), (3, .int v3)], [], hp I F) := by
  intro n
  induction n with
  | zero =>
    intro v3 I F
    exact OK_no
  | succ n ih =>
    intro v3 I F
    rw [f_X10_drift_18]
    refine OK_st 3 okX10_drift (S' := ((if v1 ≤ v3 then 37 else 23), [(0, .ref 49), (1, .int v1), (3, .int v3)], [], hp I F)) rfl ⟨trivial, trivial, trivial, trivial⟩ ?_
    refine OK_if (fun h1779 => ?_) (fun h1779 => ?_)
    · exact hko v3 I F
    · refine OK_st 1 okX10_drift (S' := (24, [(0, .ref 49), (1, .int v1), (3, .int v3)], [.ref 49], hp I F)) rfl ⟨trivial, trivial⟩ ?_
      refine OK_cv [] [] okX10_drift okX10_drawn rfl rfl cl_RX10_247 rfl rfl (Nat.le_of_ble_eq_true rfl) (by decide) (Nat.le_of_ble_eq_true rfl) (kf_X10_drawn I F) (fun r1814 I1815 F1816 => ?_)
      refine OK_st 1 okX10_drift (S' := (28, [(0, .ref 49), (1, .int v1), (3, .int v3)], [.ref 49], hp I1815 F1816)) rfl ⟨trivial, trivial⟩ ?_
      refine OK_cv [] [] okX10_drift okX10_pass rfl rfl cl_RX10_221 rfl rfl (Nat.le_of_ble_eq_true rfl) (by decide) (Nat.le_of_ble_eq_true rfl) (kf_X10_pass I1815 F1816) (fun r1817 I1818 F1819 => ?_)
      refine OK_st 2 okX10_drift (S' := (18, [(3, .int (v3 + (1 : Int32))), (0, .ref 49), (1, .int v1)], [], hp I1818 F1819)) rfl ⟨(by decide), trivial, trivial⟩ ?_
      refine OK_pk [1, 2, 0] rfl ?_
      exact ih (v3 + (1 : Int32)) I1818 F1819

def f_X10_drift (v1 : Int32) (I : AI) (F : AF) : AQ :=
  ab_bd (f_X10_seasonsRefused v1 I F) (fun r1772 I1773 F1774 =>
    if r1772 = 0 then
      ab_bd (f_X10_remember I1773 F1774) (fun r1776 I1777 F1778 =>
        f_X10_drift_18 v1 (fun v3_1820 I1821 F1822 =>
          some (((F1822 47) 19), I1821, F1822)) ab_fu (0 : Int32) I1777 F1778)
    else
      some (r1772, I1773, F1774))
set_option maxRecDepth 20000 in
set_option maxHeartbeats 4000000 in
theorem kf_X10_drift (v1 : Int32) (I : AI) (F : AF) : OK 5 mX10_drift true (f_X10_drift v1 I F) (0, [(0, .ref 49), (1, .int v1)], [], hp I F) := by
  rw [f_X10_drift]
  refine OK_st 2 okX10_drift (S' := (2, [(0, .ref 49), (1, .int v1)], [.int v1, .ref 49], hp I F)) rfl ⟨trivial, trivial, trivial⟩ ?_
  refine OK_cv [.int v1] [] okX10_drift okX10_seasonsRefused rfl rfl cl_RX10_215 rfl rfl (Nat.le_of_ble_eq_true rfl) (by decide) (Nat.le_of_ble_eq_true rfl) (kf_X10_seasonsRefused v1 I F) (fun r1772 I1773 F1774 => ?_)
  refine OK_st 3 okX10_drift (S' := ((if r1772 = 0 then 12 else 10), [(2, .int r1772), (0, .ref 49), (1, .int v1)], [], hp I1773 F1774)) rfl ⟨(by decide), trivial, trivial, trivial⟩ ?_
  refine OK_if (fun h1775 => ?_) (fun h1775 => ?_)
  · refine OK_st 1 okX10_drift (S' := (13, [(2, .int r1772), (0, .ref 49), (1, .int v1)], [.ref 49], hp I1773 F1774)) rfl ⟨trivial, trivial⟩ ?_
    refine OK_cv [] [] okX10_drift okX10_remember rfl rfl cl_RX10_218 rfl rfl (Nat.le_of_ble_eq_true rfl) (by decide) (Nat.le_of_ble_eq_true rfl) (kf_X10_remember I1773 F1774) (fun r1776 I1777 F1778 => ?_)
    refine OK_st 2 okX10_drift (S' := (18, [(3, .int (0 : Int32)), (2, .int r1772), (0, .ref 49), (1, .int v1)], [], hp I1777 F1778)) rfl ⟨trivial, (by decide), trivial⟩ ?_
    refine OK_pk [2, 3, 0] rfl ?_
    refine kf_X10_drift_18 v1 _ (fun v3_1820 I1821 F1822 => ?_) ab_fu (0 : Int32) I1777 F1778
    refine OK_st 4 okX10_drift (S' := (44, [(0, .ref 49), (1, .int v1), (3, .int v3_1820)], [.int ((F1822 47) 19)], hp I1821 F1822)) rfl ⟨trivial, trivial, trivial, (ab_vo (by decide)), trivial⟩ ?_
    exact OK_ri okX10_drift rfl rfl (Or.inl rfl)
  · refine OK_st 1 okX10_drift (S' := (11, [(2, .int r1772), (0, .ref 49), (1, .int v1)], [.int r1772], hp I1773 F1774)) rfl ⟨trivial, trivial⟩ ?_
    exact OK_ri okX10_drift rfl rfl (Or.inl rfl)

def f_X10_undo_22 (ko : Int32 → AI → AF → AQ) : Nat → Int32 → AI → AF → AQ
  | 0, _, _, _ => none
  | n + 1, v1, I, F =>
    if (22 : Int32) ≤ v1 then
      ko v1 I F
    else
      bif ab_vin (((22 : Int32) * (I 34)) + v1) 440 then
        bif ab_vin v1 22 then
          ab_lt (va_up F 47 (upd (F 47) v1.toNatClampNeg ((F 59) (((22 : Int32) * (I 34)) + v1).toNatClampNeg))) (fun F1828 =>
            f_X10_undo_22 ko n (v1 + (1 : Int32)) I F1828)
        else none
      else none
set_option maxRecDepth 20000 in
set_option maxHeartbeats 4000000 in
theorem kf_X10_undo_22 (ko : Int32 → AI → AF → AQ) (hko : ∀ v1 I F, OK 0 mX10_undo true (ko v1 I F) (54, [(0, .ref 49), (1, .int v1)], [], hp I F)) : ∀ n v1 I F, OK 0 mX10_undo true (f_X10_undo_22 ko n v1 I F) (22, [(0, .ref 49), (1, .int v1)], [], hp I F) := by
  intro n
  induction n with
  | zero =>
    intro v1 I F
    exact OK_no
  | succ n ih =>
    intro v1 I F
    rw [f_X10_undo_22]
    refine OK_st 3 okX10_undo (S' := ((if (22 : Int32) ≤ v1 then 54 else 28), [(0, .ref 49), (1, .int v1)], [], hp I F)) rfl ⟨trivial, trivial, trivial, trivial⟩ ?_
    refine OK_if (fun h1825 => ?_) (fun h1825 => ?_)
    · exact hko v1 I F
    · refine OK_gd (fun g1826 => ?_)
      refine OK_gd (fun g1827 => ?_)
      refine OK_st 15 okX10_undo (S' := (22, [(1, .int (v1 + (1 : Int32))), (0, .ref 49)], [], hp I (va_up F 47 (upd (F 47) v1.toNatClampNeg ((F 59) (((22 : Int32) * (I 34)) + v1).toNatClampNeg))))) rfl ⟨trivial, trivial, trivial, trivial, trivial, trivial, trivial, trivial, trivial, trivial, trivial, (ab_vo g1826), (ab_vo g1827), (by decide), trivial, trivial⟩ ?_
      refine OK_lt (fun F1828 => (22, [(1, .int (v1 + (1 : Int32))), (0, .ref 49)], [], hp I F1828)) (fun F1828 => ?_)
      refine OK_pk [1, 0] rfl ?_
      exact ih (v1 + (1 : Int32)) I F1828

def f_X10_undo (I : AI) (F : AF) : AQ :=
  if ¬ (I 34) = 0 then
    ab_lt (va_up I 34 ((I 34) - (1 : Int32))) (fun I1824 =>
      f_X10_undo_22 (fun v1_1829 I1830 F1831 =>
        some ((I1830 34), I1830, F1831)) ab_fu (0 : Int32) I1824 F)
  else
    some ((-1000000003 : Int32), I, F)
set_option maxRecDepth 20000 in
set_option maxHeartbeats 4000000 in
theorem kf_X10_undo (I : AI) (F : AF) : OK 0 mX10_undo true (f_X10_undo I F) (0, [(0, .ref 49)], [], hp I F) := by
  rw [f_X10_undo]
  refine OK_st 3 okX10_undo (S' := ((if ¬ (I 34) = 0 then 10 else 7), [(0, .ref 49)], [], hp I F)) rfl ⟨trivial, trivial, trivial, trivial⟩ ?_
  refine OK_if (fun h1823 => ?_) (fun h1823 => ?_)
  · refine OK_st 8 okX10_undo (S' := (22, [(1, .int (0 : Int32)), (0, .ref 49)], [], hp (va_up I 34 ((I 34) - (1 : Int32))) F)) rfl ⟨trivial, rfl, trivial, trivial, trivial, trivial, trivial, (by decide), trivial⟩ ?_
    refine OK_lt (fun I1824 => (22, [(1, .int (0 : Int32)), (0, .ref 49)], [], hp I1824 F)) (fun I1824 => ?_)
    refine OK_pk [1, 0] rfl ?_
    refine kf_X10_undo_22 _ (fun v1_1829 I1830 F1831 => ?_) ab_fu (0 : Int32) I1824 F
    refine OK_st 2 okX10_undo (S' := (58, [(0, .ref 49), (1, .int v1_1829)], [.int (I1830 34)], hp I1830 F1831)) rfl ⟨trivial, trivial, trivial⟩ ?_
    exact OK_ri okX10_undo rfl rfl (Or.inl rfl)
  · refine OK_st 1 okX10_undo (S' := (9, [(0, .ref 49)], [.int (-1000000003 : Int32)], hp I F)) rfl ⟨trivial, trivial⟩ ?_
    exact OK_ri okX10_undo rfl rfl (Or.inl rfl)

def f_X10_firstNought_j52_4 (bk ko : Int32 → Int32 → AI → AF → AQ) (v1 : Int32) (v2 : Int32) (s0 : Int32) (I : AI) (F : AF) : AQ :=
  if s0 = 0 then
    bk v1 (v2 + (1 : Int32)) I F
  else
    if v1 < 0 then
      bk v2 (v2 + (1 : Int32)) I F
    else
      bif ab_vin v2 6 then
        bif ab_vin v1 6 then
          if ((F 40) v1.toNatClampNeg) ≤ ((F 40) v2.toNatClampNeg) then
            bk v1 (v2 + (1 : Int32)) I F
          else
            bk v2 (v2 + (1 : Int32)) I F
        else none
      else none
set_option maxRecDepth 20000 in
set_option maxHeartbeats 4000000 in
theorem kf_X10_firstNought_j52_4 (bk ko : Int32 → Int32 → AI → AF → AQ) (v1 : Int32) (v2 : Int32) (hbk : ∀ v1 v2 I F, OK 3 mX10_firstNought true (bk v1 v2 I F) (4, [(0, .ref 49), (1, .int v1), (2, .int v2)], [], hp I F)) (hko : ∀ v1 v2 I F, OK 3 mX10_firstNought true (ko v1 v2 I F) (88, [(0, .ref 49), (1, .int v1), (2, .int v2)], [], hp I F)) (s0 : Int32) (I : AI) (F : AF) : OK 3 mX10_firstNought true (f_X10_firstNought_j52_4 bk ko v1 v2 s0 I F) (52, [(0, .ref 49), (1, .int v1), (2, .int v2)], [.int s0], hp I F) := by
  rw [f_X10_firstNought_j52_4]
  refine OK_st 3 okX10_firstNought (S' := ((if s0 = 0 then 80 else 57), [(3, .int s0), (0, .ref 49), (1, .int v1), (2, .int v2)], [], hp I F)) rfl ⟨(by decide), trivial, trivial, trivial⟩ ?_
  refine OK_if (fun h1835 => ?_) (fun h1835 => ?_)
  · refine OK_st 4 okX10_firstNought (S' := (4, [(2, .int (v2 + (1 : Int32))), (1, .int v1), (3, .int s0), (0, .ref 49)], [], hp I F)) rfl ⟨trivial, (by decide), (by decide), trivial, trivial⟩ ?_
    refine OK_pk [3, 1, 0] rfl ?_
    exact hbk v1 (v2 + (1 : Int32)) I F
  · refine OK_st 2 okX10_firstNought (S' := ((if v1 < 0 then 76 else 61), [(3, .int s0), (0, .ref 49), (1, .int v1), (2, .int v2)], [], hp I F)) rfl ⟨trivial, trivial, trivial⟩ ?_
    refine OK_if (fun h1836 => ?_) (fun h1836 => ?_)
    · refine OK_st 5 okX10_firstNought (S' := (4, [(2, .int (v2 + (1 : Int32))), (1, .int v2), (3, .int s0), (0, .ref 49)], [], hp I F)) rfl ⟨trivial, trivial, (by decide), (by decide), trivial, trivial⟩ ?_
      refine OK_pk [3, 1, 0] rfl ?_
      exact hbk v2 (v2 + (1 : Int32)) I F
    · refine OK_gd (fun g1837 => ?_)
      refine OK_gd (fun g1838 => ?_)
      refine OK_st 9 okX10_firstNought (S' := ((if ((F 40) v1.toNatClampNeg) ≤ ((F 40) v2.toNatClampNeg) then 80 else 76), [(3, .int s0), (0, .ref 49), (1, .int v1), (2, .int v2)], [], hp I F)) rfl ⟨trivial, trivial, trivial, (ab_vo g1837), trivial, trivial, trivial, (ab_vo g1838), trivial, trivial⟩ ?_
      refine OK_if (fun h1839 => ?_) (fun h1839 => ?_)
      · refine OK_st 4 okX10_firstNought (S' := (4, [(2, .int (v2 + (1 : Int32))), (1, .int v1), (3, .int s0), (0, .ref 49)], [], hp I F)) rfl ⟨trivial, (by decide), (by decide), trivial, trivial⟩ ?_
        refine OK_pk [3, 1, 0] rfl ?_
        exact hbk v1 (v2 + (1 : Int32)) I F
      · refine OK_st 5 okX10_firstNought (S' := (4, [(2, .int (v2 + (1 : Int32))), (1, .int v2), (3, .int s0), (0, .ref 49)], [], hp I F)) rfl ⟨trivial, trivial, (by decide), (by decide), trivial, trivial⟩ ?_
        refine OK_pk [3, 1, 0] rfl ?_
        exact hbk v2 (v2 + (1 : Int32)) I F

def f_X10_firstNought_j51_4 (bk ko : Int32 → Int32 → AI → AF → AQ) (v1 : Int32) (v2 : Int32) (I : AI) (F : AF) : AQ :=
  f_X10_firstNought_j52_4 (bk) ko v1 v2 (0 : Int32) I F
set_option maxRecDepth 20000 in
set_option maxHeartbeats 4000000 in
theorem kf_X10_firstNought_j51_4 (bk ko : Int32 → Int32 → AI → AF → AQ) (v1 : Int32) (v2 : Int32) (hbk : ∀ v1 v2 I F, OK 3 mX10_firstNought true (bk v1 v2 I F) (4, [(0, .ref 49), (1, .int v1), (2, .int v2)], [], hp I F)) (hko : ∀ v1 v2 I F, OK 3 mX10_firstNought true (ko v1 v2 I F) (88, [(0, .ref 49), (1, .int v1), (2, .int v2)], [], hp I F)) (I : AI) (F : AF) : OK 3 mX10_firstNought true (f_X10_firstNought_j51_4 bk ko v1 v2 I F) (51, [(0, .ref 49), (1, .int v1), (2, .int v2)], [], hp I F) := by
  rw [f_X10_firstNought_j51_4]
  refine OK_st 1 okX10_firstNought (S' := (52, [(0, .ref 49), (1, .int v1), (2, .int v2)], [.int (0 : Int32)], hp I F)) rfl ⟨trivial, trivial⟩ ?_
  exact kf_X10_firstNought_j52_4 (bk) ko v1 v2 hbk hko (0 : Int32) I F

def f_X10_firstNought_4 (ko : Int32 → Int32 → AI → AF → AQ) : Nat → Int32 → Int32 → AI → AF → AQ
  | 0, _, _, _, _ => none
  | n + 1, v1, v2, I, F =>
    if (I 23) ≤ v2 then
      ko v1 v2 I F
    else
      bif ab_vin v2 6 then
        if ((F 40) v2.toNatClampNeg) < ((F 47) 19) then
          f_X10_firstNought_j51_4 (f_X10_firstNought_4 ko n) ko v1 v2 I F
        else
          bif ab_vin v2 6 then
            bif ab_vin v2 6 then
              ab_bd (f_X10_measure ((F 41) v2.toNatClampNeg) ((F 40) v2.toNatClampNeg) I F) (fun r1842 I1843 F1844 =>
                if ¬ r1842 = 0 then
                  f_X10_firstNought_j51_4 (f_X10_firstNought_4 ko n) ko v1 v2 I1843 F1844
                else
                  f_X10_firstNought_j52_4 (f_X10_firstNought_4 ko n) ko v1 v2 (1 : Int32) I1843 F1844)
            else none
          else none
      else none
set_option maxRecDepth 20000 in
set_option maxHeartbeats 4000000 in
theorem kf_X10_firstNought_4 (ko : Int32 → Int32 → AI → AF → AQ) (hko : ∀ v1 v2 I F, OK 3 mX10_firstNought true (ko v1 v2 I F) (88, [(0, .ref 49), (1, .int v1), (2, .int v2)], [], hp I F)) : ∀ n v1 v2 I F, OK 3 mX10_firstNought true (f_X10_firstNought_4 ko n v1 v2 I F) (4, [(0, .ref 49), (1, .int v1), (2, .int v2)], [], hp I F) := by
  intro n
  induction n with
  | zero =>
    intro v1 v2 I F
    exact OK_no
  | succ n ih =>
    intro v1 v2 I F
    rw [f_X10_firstNought_4]
    refine OK_st 4 okX10_firstNought (S' := ((if (I 23) ≤ v2 then 88 else 12), [(0, .ref 49), (1, .int v1), (2, .int v2)], [], hp I F)) rfl ⟨trivial, trivial, trivial, trivial, trivial⟩ ?_
    refine OK_if (fun h1832 => ?_) (fun h1832 => ?_)
    · exact hko v1 v2 I F
    · refine OK_gd (fun g1833 => ?_)
      refine OK_st 9 okX10_firstNought (S' := ((if ((F 40) v2.toNatClampNeg) < ((F 47) 19) then 51 else 28), [(0, .ref 49), (1, .int v1), (2, .int v2)], [], hp I F)) rfl ⟨trivial, trivial, trivial, (ab_vo g1833), trivial, trivial, trivial, (ab_vo (by decide)), trivial, trivial⟩ ?_
      refine OK_if (fun h1834 => ?_) (fun h1834 => ?_)
      · exact kf_X10_firstNought_j51_4 (f_X10_firstNought_4 ko n) ko v1 v2 ih hko I F
      · refine OK_gd (fun g1840 => ?_)
        refine OK_gd (fun g1841 => ?_)
        refine OK_st 9 okX10_firstNought (S' := (41, [(0, .ref 49), (1, .int v1), (2, .int v2)], [.int ((F 40) v2.toNatClampNeg), .int ((F 41) v2.toNatClampNeg), .ref 49], hp I F)) rfl ⟨trivial, trivial, trivial, trivial, (ab_vo g1840), trivial, trivial, trivial, (ab_vo g1841), trivial⟩ ?_
        refine OK_cv [.int ((F 41) v2.toNatClampNeg), .int ((F 40) v2.toNatClampNeg)] [] okX10_firstNought okX10_measure rfl rfl cl_RX10_197 rfl rfl (Nat.le_of_ble_eq_true rfl) (by decide) (Nat.le_of_ble_eq_true rfl) (kf_X10_measure ((F 41) v2.toNatClampNeg) ((F 40) v2.toNatClampNeg) I F) (fun r1842 I1843 F1844 => ?_)
        refine OK_st 1 okX10_firstNought (S' := ((if ¬ r1842 = 0 then 51 else 47), [(0, .ref 49), (1, .int v1), (2, .int v2)], [], hp I1843 F1844)) rfl ⟨trivial, trivial⟩ ?_
        refine OK_if (fun h1845 => ?_) (fun h1845 => ?_)
        · exact kf_X10_firstNought_j51_4 (f_X10_firstNought_4 ko n) ko v1 v2 ih hko I1843 F1844
        · refine OK_st 2 okX10_firstNought (S' := (52, [(0, .ref 49), (1, .int v1), (2, .int v2)], [.int (1 : Int32)], hp I1843 F1844)) rfl ⟨trivial, trivial, trivial⟩ ?_
          exact kf_X10_firstNought_j52_4 (f_X10_firstNought_4 ko n) ko v1 v2 ih hko (1 : Int32) I1843 F1844

def f_X10_firstNought (I : AI) (F : AF) : AQ :=
  f_X10_firstNought_4 (fun v1_1846 v2_1847 I1848 F1849 =>
    some (v1_1846, I1848, F1849)) ab_fu (-1 : Int32) (0 : Int32) I F
set_option maxRecDepth 20000 in
set_option maxHeartbeats 4000000 in
theorem kf_X10_firstNought (I : AI) (F : AF) : OK 3 mX10_firstNought true (f_X10_firstNought I F) (0, [(0, .ref 49)], [], hp I F) := by
  rw [f_X10_firstNought]
  refine OK_st 4 okX10_firstNought (S' := (4, [(2, .int (0 : Int32)), (1, .int (-1 : Int32)), (0, .ref 49)], [], hp I F)) rfl ⟨trivial, (by decide), trivial, (by decide), trivial⟩ ?_
  refine OK_pk [2, 1, 0] rfl ?_
  refine kf_X10_firstNought_4 _ (fun v1_1846 v2_1847 I1848 F1849 => ?_) ab_fu (-1 : Int32) (0 : Int32) I F
  refine OK_st 1 okX10_firstNought (S' := (89, [(0, .ref 49), (1, .int v1_1846), (2, .int v2_1847)], [.int v1_1846], hp I1848 F1849)) rfl ⟨trivial, trivial⟩ ?_
  exact OK_ri okX10_firstNought rfl rfl (Or.inl rfl)

def f_X10_means (v1 : Int32) (v2 : Int32) (I : AI) (F : AF) : AQ :=
  ab_bd (f_X10_in v1.toInt64 (0 : Int64) (((I 23) - (1 : Int32)).toInt64) I F) (fun r1850 I1851 F1852 =>
    if ¬ r1850 = 0 then
      ab_bd (f_X10_in v2.toInt64 (0 : Int64) (99 : Int64) I1851 F1852) (fun r1854 I1855 F1856 =>
        if r1854 = 0 then
          some ((-1000000002 : Int32), I1855, F1856)
        else
          bif ab_vin v1 6 then
            bif ab_vin v1 6 then
              ab_bd (f_X10_measure ((F1856 41) v1.toNatClampNeg) v2 I1855 F1856) (fun r1860 I1861 F1862 =>
                some ((((F1856 42) v1.toNatClampNeg) * r1860), I1861, F1862))
            else none
          else none)
    else
      some ((-1000000001 : Int32), I1851, F1852))
set_option maxRecDepth 20000 in
set_option maxHeartbeats 4000000 in
theorem kf_X10_means (v1 : Int32) (v2 : Int32) (I : AI) (F : AF) : OK 3 mX10_means true (f_X10_means v1 v2 I F) (0, [(0, .ref 49), (1, .int v1), (2, .int v2)], [], hp I F) := by
  rw [f_X10_means]
  refine OK_st 8 okX10_means (S' := (10, [(0, .ref 49), (1, .int v1), (2, .int v2)], [.long ((I 23) - (1 : Int32)).toInt64, .long (0 : Int64), .long v1.toInt64], hp I F)) rfl ⟨trivial, trivial, trivial, trivial, trivial, trivial, trivial, trivial, trivial⟩ ?_
  refine OK_cs [.long v1.toInt64, .long (0 : Int64), .long ((I 23) - (1 : Int32)).toInt64] [] okX10_means okX10_in rfl rfl cl_RX10_102 (Nat.le_of_ble_eq_true rfl) (by decide) (Nat.le_of_ble_eq_true rfl) (kf_X10_in v1.toInt64 (0 : Int64) (((I 23) - (1 : Int32)).toInt64) I F) (fun r1850 I1851 F1852 => ?_)
  refine OK_st 1 okX10_means (S' := ((if ¬ r1850 = 0 then 19 else 16), [(0, .ref 49), (1, .int v1), (2, .int v2)], [], hp I1851 F1852)) rfl ⟨trivial, trivial⟩ ?_
  refine OK_if (fun h1853 => ?_) (fun h1853 => ?_)
  · refine OK_st 4 okX10_means (S' := (25, [(0, .ref 49), (1, .int v1), (2, .int v2)], [.long (99 : Int64), .long (0 : Int64), .long v2.toInt64], hp I1851 F1852)) rfl ⟨trivial, trivial, trivial, trivial, trivial⟩ ?_
    refine OK_cs [.long v2.toInt64, .long (0 : Int64), .long (99 : Int64)] [] okX10_means okX10_in rfl rfl cl_RX10_102 (Nat.le_of_ble_eq_true rfl) (by decide) (Nat.le_of_ble_eq_true rfl) (kf_X10_in v2.toInt64 (0 : Int64) (99 : Int64) I1851 F1852) (fun r1854 I1855 F1856 => ?_)
    refine OK_st 1 okX10_means (S' := ((if r1854 = 0 then 52 else 31), [(0, .ref 49), (1, .int v1), (2, .int v2)], [], hp I1855 F1856)) rfl ⟨trivial, trivial⟩ ?_
    refine OK_if (fun h1857 => ?_) (fun h1857 => ?_)
    · refine OK_st 1 okX10_means (S' := (54, [(0, .ref 49), (1, .int v1), (2, .int v2)], [.int (-1000000002 : Int32)], hp I1855 F1856)) rfl ⟨trivial, trivial⟩ ?_
      exact OK_ri okX10_means rfl rfl (Or.inl rfl)
    · refine OK_gd (fun g1858 => ?_)
      refine OK_gd (fun g1859 => ?_)
      refine OK_st 10 okX10_means (S' := (45, [(0, .ref 49), (1, .int v1), (2, .int v2)], [.int v2, .int ((F1856 41) v1.toNatClampNeg), .ref 49, .int ((F1856 42) v1.toNatClampNeg)], hp I1855 F1856)) rfl ⟨trivial, trivial, trivial, (ab_vo g1858), trivial, trivial, trivial, trivial, (ab_vo g1859), trivial, trivial⟩ ?_
      refine OK_cv [.int ((F1856 41) v1.toNatClampNeg), .int v2] [.int ((F1856 42) v1.toNatClampNeg)] okX10_means okX10_measure rfl rfl cl_RX10_197 rfl rfl (Nat.le_of_ble_eq_true rfl) (by decide) (Nat.le_of_ble_eq_true rfl) (kf_X10_measure ((F1856 41) v1.toNatClampNeg) v2 I1855 F1856) (fun r1860 I1861 F1862 => ?_)
      refine OK_st 2 okX10_means (S' := (54, [(0, .ref 49), (1, .int v1), (2, .int v2)], [.int (((F1856 42) v1.toNatClampNeg) * r1860)], hp I1861 F1862)) rfl ⟨trivial, trivial, trivial⟩ ?_
      exact OK_ri okX10_means rfl rfl (Or.inl rfl)
  · refine OK_st 1 okX10_means (S' := (18, [(0, .ref 49), (1, .int v1), (2, .int v2)], [.int (-1000000001 : Int32)], hp I1851 F1852)) rfl ⟨trivial, trivial⟩ ?_
    exact OK_ri okX10_means rfl rfl (Or.inl rfl)

def f_X10_times_4 (v1 : Int32) (ko : Int32 → Int32 → AI → AF → AQ) : Nat → Int32 → Int32 → AI → AF → AQ
  | 0, _, _, _, _ => none
  | n + 1, v2, v3, I, F =>
    if v3 ≤ v1 then
      ko v2 v3 I F
    else
      f_X10_times_4 v1 ko n (v2 / (5 : Int32)) (v3 + (-1 : Int32)) I F
set_option maxRecDepth 20000 in
set_option maxHeartbeats 4000000 in
theorem kf_X10_times_4 (v1 : Int32) (ko : Int32 → Int32 → AI → AF → AQ) (hko : ∀ v2 v3 I F, OK 0 mX10_times true (ko v2 v3 I F) (19, [(1, .int v1), (2, .int v2), (3, .int v3)], [], hp I F)) : ∀ n v2 v3 I F, OK 0 mX10_times true (f_X10_times_4 v1 ko n v2 v3 I F) (4, [(1, .int v1), (2, .int v2), (3, .int v3)], [], hp I F) := by
  intro n
  induction n with
  | zero =>
    intro v2 v3 I F
    exact OK_no
  | succ n ih =>
    intro v2 v3 I F
    rw [f_X10_times_4]
    refine OK_st 3 okX10_times (S' := ((if v3 ≤ v1 then 19 else 9), [(1, .int v1), (2, .int v2), (3, .int v3)], [], hp I F)) rfl ⟨trivial, trivial, trivial, trivial⟩ ?_
    refine OK_if (fun h1867 => ?_) (fun h1867 => ?_)
    · exact hko v2 v3 I F
    · refine OK_st 6 okX10_times (S' := (4, [(3, .int (v3 + (-1 : Int32))), (2, .int (v2 / (5 : Int32))), (1, .int v1)], [], hp I F)) rfl ⟨trivial, trivial, (by decide), (by decide), (by decide), trivial, trivial⟩ ?_
      refine OK_pk [2, 1, 0] rfl ?_
      exact ih (v2 / (5 : Int32)) (v3 + (-1 : Int32)) I F

def f_X10_times (v0 : Int32) (v1 : Int32) (I : AI) (F : AF) : AQ :=
  f_X10_times_4 v1 (fun v2_1868 v3_1869 I1870 F1871 =>
    some ((v2_1868 - v2_1868 / (5 : Int32) * (5 : Int32)), I1870, F1871)) ab_fu v0 (5 : Int32) I F
set_option maxRecDepth 20000 in
set_option maxHeartbeats 4000000 in
theorem kf_X10_times (v0 : Int32) (v1 : Int32) (I : AI) (F : AF) : OK 0 mX10_times true (f_X10_times v0 v1 I F) (0, [(0, .int v0), (1, .int v1)], [], hp I F) := by
  rw [f_X10_times]
  refine OK_st 4 okX10_times (S' := (4, [(3, .int (5 : Int32)), (2, .int v0), (0, .int v0), (1, .int v1)], [], hp I F)) rfl ⟨trivial, (by decide), trivial, (by decide), trivial⟩ ?_
  refine OK_pk [3, 1, 0] rfl ?_
  refine kf_X10_times_4 v1 _ (fun v2_1868 v3_1869 I1870 F1871 => ?_) ab_fu v0 (5 : Int32) I F
  refine OK_st 3 okX10_times (S' := (22, [(1, .int v1), (2, .int v2_1868), (3, .int v3_1869)], [.int (v2_1868 - v2_1868 / (5 : Int32) * (5 : Int32))], hp I1870 F1871)) rfl ⟨trivial, trivial, (by decide), trivial⟩ ?_
  exact OK_ri okX10_times rfl rfl (Or.inl rfl)

def f_X10_isFree (v1 : Int32) (I : AI) (F : AF) : AQ :=
  ab_bd (f_X10_isLimb v1 I F) (fun r1876 I1877 F1878 =>
    if r1876 = 0 then
      some ((0 : Int32), I1877, F1878)
    else
      ab_bd (f_X10_lives v1 I1877 F1878) (fun r1880 I1881 F1882 =>
        if r1880 = 0 then
          some ((0 : Int32), I1881, F1882)
        else
          bif ab_vin ((6 : Int32) + v1) 22 then
            if 0 ≤ ((F1882 47) ((6 : Int32) + v1).toNatClampNeg) then
              some ((0 : Int32), I1881, F1882)
            else
              some ((1 : Int32), I1881, F1882)
          else none))
set_option maxRecDepth 20000 in
set_option maxHeartbeats 4000000 in
theorem kf_X10_isFree (v1 : Int32) (I : AI) (F : AF) : OK 2 mX10_isFree true (f_X10_isFree v1 I F) (0, [(0, .ref 49), (1, .int v1)], [], hp I F) := by
  rw [f_X10_isFree]
  refine OK_st 2 okX10_isFree (S' := (2, [(0, .ref 49), (1, .int v1)], [.int v1, .ref 49], hp I F)) rfl ⟨trivial, trivial, trivial⟩ ?_
  refine OK_cv [.int v1] [] okX10_isFree okX10_isLimb rfl rfl cl_RX10_200 rfl rfl (Nat.le_of_ble_eq_true rfl) (by decide) (Nat.le_of_ble_eq_true rfl) (kf_X10_isLimb v1 I F) (fun r1876 I1877 F1878 => ?_)
  refine OK_st 1 okX10_isFree (S' := ((if r1876 = 0 then 32 else 8), [(0, .ref 49), (1, .int v1)], [], hp I1877 F1878)) rfl ⟨trivial, trivial⟩ ?_
  refine OK_if (fun h1879 => ?_) (fun h1879 => ?_)
  · refine OK_st 1 okX10_isFree (S' := (33, [(0, .ref 49), (1, .int v1)], [.int (0 : Int32)], hp I1877 F1878)) rfl ⟨trivial, trivial⟩ ?_
    exact OK_ri okX10_isFree rfl rfl (Or.inr ⟨rfl, Or.inl rfl⟩)
  · refine OK_st 2 okX10_isFree (S' := (10, [(0, .ref 49), (1, .int v1)], [.int v1, .ref 49], hp I1877 F1878)) rfl ⟨trivial, trivial, trivial⟩ ?_
    refine OK_cv [.int v1] [] okX10_isFree okX10_lives rfl rfl cl_RX10_190 rfl rfl (Nat.le_of_ble_eq_true rfl) (by decide) (Nat.le_of_ble_eq_true rfl) (kf_X10_lives v1 I1877 F1878) (fun r1880 I1881 F1882 => ?_)
    refine OK_st 1 okX10_isFree (S' := ((if r1880 = 0 then 32 else 16), [(0, .ref 49), (1, .int v1)], [], hp I1881 F1882)) rfl ⟨trivial, trivial⟩ ?_
    refine OK_if (fun h1883 => ?_) (fun h1883 => ?_)
    · refine OK_st 1 okX10_isFree (S' := (33, [(0, .ref 49), (1, .int v1)], [.int (0 : Int32)], hp I1881 F1882)) rfl ⟨trivial, trivial⟩ ?_
      exact OK_ri okX10_isFree rfl rfl (Or.inr ⟨rfl, Or.inl rfl⟩)
    · refine OK_gd (fun g1884 => ?_)
      refine OK_st 7 okX10_isFree (S' := ((if 0 ≤ ((F1882 47) ((6 : Int32) + v1).toNatClampNeg) then 32 else 28), [(0, .ref 49), (1, .int v1)], [], hp I1881 F1882)) rfl ⟨trivial, trivial, trivial, trivial, trivial, (ab_vo g1884), trivial, trivial⟩ ?_
      refine OK_if (fun h1885 => ?_) (fun h1885 => ?_)
      · refine OK_st 1 okX10_isFree (S' := (33, [(0, .ref 49), (1, .int v1)], [.int (0 : Int32)], hp I1881 F1882)) rfl ⟨trivial, trivial⟩ ?_
        exact OK_ri okX10_isFree rfl rfl (Or.inr ⟨rfl, Or.inl rfl⟩)
      · refine OK_st 2 okX10_isFree (S' := (33, [(0, .ref 49), (1, .int v1)], [.int (1 : Int32)], hp I1881 F1882)) rfl ⟨trivial, trivial, trivial⟩ ?_
        exact OK_ri okX10_isFree rfl rfl (Or.inr ⟨rfl, Or.inr rfl⟩)

def f_X10_isBasket_2 (v1 : Int32) (ko : Int32 → AI → AF → AQ) : Nat → Int32 → AI → AF → AQ
  | 0, _, _, _ => none
  | n + 1, v2, I, F =>
    if (6 : Int32) ≤ v2 then
      ko v2 I F
    else
      ab_bd (f_X10_times v1 v2 I F) (fun r1872 I1873 F1874 =>
        if r1872 ≤ 0 then
          f_X10_isBasket_2 v1 ko n (v2 + (1 : Int32)) I1873 F1874
        else
          ab_bd (f_X10_isFree v2 I1873 F1874) (fun r1886 I1887 F1888 =>
            if ¬ r1886 = 0 then
              f_X10_isBasket_2 v1 ko n (v2 + (1 : Int32)) I1887 F1888
            else
              some ((0 : Int32), I1887, F1888)))
set_option maxRecDepth 20000 in
set_option maxHeartbeats 4000000 in
theorem kf_X10_isBasket_2 (v1 : Int32) (ko : Int32 → AI → AF → AQ) (hko : ∀ v2 I F, OK 3 mX10_isBasket true (ko v2 I F) (32, [(0, .ref 49), (1, .int v1), (2, .int v2)], [], hp I F)) : ∀ n v2 I F, OK 3 mX10_isBasket true (f_X10_isBasket_2 v1 ko n v2 I F) (2, [(0, .ref 49), (1, .int v1), (2, .int v2)], [], hp I F) := by
  intro n
  induction n with
  | zero =>
    intro v2 I F
    exact OK_no
  | succ n ih =>
    intro v2 I F
    rw [f_X10_isBasket_2]
    refine OK_st 3 okX10_isBasket (S' := ((if (6 : Int32) ≤ v2 then 32 else 8), [(0, .ref 49), (1, .int v1), (2, .int v2)], [], hp I F)) rfl ⟨trivial, trivial, trivial, trivial⟩ ?_
    refine OK_if (fun h1866 => ?_) (fun h1866 => ?_)
    · exact hko v2 I F
    · refine OK_st 2 okX10_isBasket (S' := (10, [(0, .ref 49), (1, .int v1), (2, .int v2)], [.int v2, .int v1], hp I F)) rfl ⟨trivial, trivial, trivial⟩ ?_
      refine OK_cs [.int v1, .int v2] [] okX10_isBasket okX10_times rfl rfl cl_RX10_252 (Nat.le_of_ble_eq_true rfl) (by decide) (Nat.le_of_ble_eq_true rfl) (kf_X10_times v1 v2 I F) (fun r1872 I1873 F1874 => ?_)
      refine OK_st 1 okX10_isBasket (S' := ((if r1872 ≤ 0 then 26 else 16), [(0, .ref 49), (1, .int v1), (2, .int v2)], [], hp I1873 F1874)) rfl ⟨trivial, trivial⟩ ?_
      refine OK_if (fun h1875 => ?_) (fun h1875 => ?_)
      · refine OK_st 2 okX10_isBasket (S' := (2, [(2, .int (v2 + (1 : Int32))), (0, .ref 49), (1, .int v1)], [], hp I1873 F1874)) rfl ⟨(by decide), trivial, trivial⟩ ?_
        refine OK_pk [1, 2, 0] rfl ?_
        exact ih (v2 + (1 : Int32)) I1873 F1874
      · refine OK_st 2 okX10_isBasket (S' := (18, [(0, .ref 49), (1, .int v1), (2, .int v2)], [.int v2, .ref 49], hp I1873 F1874)) rfl ⟨trivial, trivial, trivial⟩ ?_
        refine OK_cv [.int v2] [] okX10_isBasket okX10_isFree rfl rfl cl_RX10_255 rfl rfl (Nat.le_of_ble_eq_true rfl) (by decide) (Nat.le_of_ble_eq_true rfl) (kf_X10_isFree v2 I1873 F1874) (fun r1886 I1887 F1888 => ?_)
        refine OK_st 1 okX10_isBasket (S' := ((if ¬ r1886 = 0 then 26 else 24), [(0, .ref 49), (1, .int v1), (2, .int v2)], [], hp I1887 F1888)) rfl ⟨trivial, trivial⟩ ?_
        refine OK_if (fun h1889 => ?_) (fun h1889 => ?_)
        · refine OK_st 2 okX10_isBasket (S' := (2, [(2, .int (v2 + (1 : Int32))), (0, .ref 49), (1, .int v1)], [], hp I1887 F1888)) rfl ⟨(by decide), trivial, trivial⟩ ?_
          refine OK_pk [1, 2, 0] rfl ?_
          exact ih (v2 + (1 : Int32)) I1887 F1888
        · refine OK_st 1 okX10_isBasket (S' := (25, [(0, .ref 49), (1, .int v1), (2, .int v2)], [.int (0 : Int32)], hp I1887 F1888)) rfl ⟨trivial, trivial⟩ ?_
          exact OK_ri okX10_isBasket rfl rfl (Or.inr ⟨rfl, Or.inl rfl⟩)

def f_X10_basketAt_5 (v1 : Int32) (v2 : Int32) (ko : Int32 → Int32 → AI → AF → AQ) : Nat → Int32 → Int32 → AI → AF → AQ
  | 0, _, _, _, _ => none
  | n + 1, v3, v4, I, F =>
    if (I 22) ≤ v4 then
      ko v3 v4 I F
    else
      ab_bd (f_X10_times v1 v4 I F) (fun r1894 I1895 F1896 =>
        ab_bd (f_X10_grown v4 v2 I1895 F1896) (fun r1897 I1898 F1899 =>
          f_X10_basketAt_5 v1 v2 ko n (v3 + (r1894 * r1897)) (v4 + (1 : Int32)) I1898 F1899))
set_option maxRecDepth 20000 in
set_option maxHeartbeats 4000000 in
theorem kf_X10_basketAt_5 (v1 : Int32) (v2 : Int32) (ko : Int32 → Int32 → AI → AF → AQ) (hko : ∀ v3 v4 I F, OK 1 mX10_basketAt true (ko v3 v4 I F) (37, [(0, .ref 49), (1, .int v1), (2, .int v2), (3, .int v3), (4, .int v4)], [], hp I F)) : ∀ n v3 v4 I F, OK 1 mX10_basketAt true (f_X10_basketAt_5 v1 v2 ko n v3 v4 I F) (5, [(0, .ref 49), (1, .int v1), (2, .int v2), (3, .int v3), (4, .int v4)], [], hp I F) := by
  intro n
  induction n with
  | zero =>
    intro v3 v4 I F
    exact OK_no
  | succ n ih =>
    intro v3 v4 I F
    rw [f_X10_basketAt_5]
    refine OK_st 4 okX10_basketAt (S' := ((if (I 22) ≤ v4 then 37 else 14), [(0, .ref 49), (1, .int v1), (2, .int v2), (3, .int v3), (4, .int v4)], [], hp I F)) rfl ⟨trivial, trivial, trivial, trivial, trivial⟩ ?_
    refine OK_if (fun h1893 => ?_) (fun h1893 => ?_)
    · exact hko v3 v4 I F
    · refine OK_st 3 okX10_basketAt (S' := (18, [(0, .ref 49), (1, .int v1), (2, .int v2), (3, .int v3), (4, .int v4)], [.int v4, .int v1, .int v3], hp I F)) rfl ⟨trivial, trivial, trivial, trivial⟩ ?_
      refine OK_cs [.int v1, .int v4] [.int v3] okX10_basketAt okX10_times rfl rfl cl_RX10_252 (Nat.le_of_ble_eq_true rfl) (by decide) (Nat.le_of_ble_eq_true rfl) (kf_X10_times v1 v4 I F) (fun r1894 I1895 F1896 => ?_)
      refine OK_st 3 okX10_basketAt (S' := (25, [(0, .ref 49), (1, .int v1), (2, .int v2), (3, .int v3), (4, .int v4)], [.int v2, .int v4, .ref 49, .int r1894, .int v3], hp I1895 F1896)) rfl ⟨trivial, trivial, trivial, trivial⟩ ?_
      refine OK_cv [.int v4, .int v2] [.int r1894, .int v3] okX10_basketAt okX10_grown rfl rfl cl_RX10_194 rfl rfl (Nat.le_of_ble_eq_true rfl) (by decide) (Nat.le_of_ble_eq_true rfl) (kf_X10_grown v4 v2 I1895 F1896) (fun r1897 I1898 F1899 => ?_)
      refine OK_st 5 okX10_basketAt (S' := (5, [(4, .int (v4 + (1 : Int32))), (3, .int (v3 + (r1894 * r1897))), (0, .ref 49), (1, .int v1), (2, .int v2)], [], hp I1898 F1899)) rfl ⟨trivial, trivial, (by decide), (by decide), trivial, trivial⟩ ?_
      refine OK_pk [2, 3, 4, 1, 0] rfl ?_
      exact ih (v3 + (r1894 * r1897)) (v4 + (1 : Int32)) I1898 F1899

def f_X10_basketAt (v1 : Int32) (v2 : Int32) (I : AI) (F : AF) : AQ :=
  f_X10_basketAt_5 v1 v2 (fun v3_1900 v4_1901 I1902 F1903 =>
    some (v3_1900, I1902, F1903)) ab_fu (0 : Int32) (0 : Int32) I F
set_option maxRecDepth 20000 in
set_option maxHeartbeats 4000000 in
theorem kf_X10_basketAt (v1 : Int32) (v2 : Int32) (I : AI) (F : AF) : OK 1 mX10_basketAt true (f_X10_basketAt v1 v2 I F) (0, [(0, .ref 49), (1, .int v1), (2, .int v2)], [], hp I F) := by
  rw [f_X10_basketAt]
  refine OK_st 4 okX10_basketAt (S' := (5, [(4, .int (0 : Int32)), (3, .int (0 : Int32)), (0, .ref 49), (1, .int v1), (2, .int v2)], [], hp I F)) rfl ⟨trivial, (by decide), trivial, (by decide), trivial⟩ ?_
  refine OK_pk [2, 3, 4, 1, 0] rfl ?_
  refine kf_X10_basketAt_5 v1 v2 _ (fun v3_1900 v4_1901 I1902 F1903 => ?_) ab_fu (0 : Int32) (0 : Int32) I F
  refine OK_st 1 okX10_basketAt (S' := (38, [(0, .ref 49), (1, .int v1), (2, .int v2), (3, .int v3_1900), (4, .int v4_1901)], [.int v3_1900], hp I1902 F1903)) rfl ⟨trivial, trivial⟩ ?_
  exact OK_ri okX10_basketAt rfl rfl (Or.inl rfl)

def f_X10_limbsOf_4 (v0 : Int32) (ko : Int32 → Int32 → AI → AF → AQ) : Nat → Int32 → Int32 → AI → AF → AQ
  | 0, _, _, _, _ => none
  | n + 1, v1, v2, I, F =>
    if (6 : Int32) ≤ v2 then
      ko v1 v2 I F
    else
      ab_bd (f_X10_times v0 v2 I F) (fun r1908 I1909 F1910 =>
        if r1908 ≤ 0 then
          f_X10_limbsOf_4 v0 ko n (v1 + (0 : Int32)) (v2 + (1 : Int32)) I1909 F1910
        else
          f_X10_limbsOf_4 v0 ko n (v1 + (1 : Int32)) (v2 + (1 : Int32)) I1909 F1910)
set_option maxRecDepth 20000 in
set_option maxHeartbeats 4000000 in
theorem kf_X10_limbsOf_4 (v0 : Int32) (ko : Int32 → Int32 → AI → AF → AQ) (hko : ∀ v1 v2 I F, OK 1 mX10_limbsOf true (ko v1 v2 I F) (32, [(0, .int v0), (1, .int v1), (2, .int v2)], [], hp I F)) : ∀ n v1 v2 I F, OK 1 mX10_limbsOf true (f_X10_limbsOf_4 v0 ko n v1 v2 I F) (4, [(0, .int v0), (1, .int v1), (2, .int v2)], [], hp I F) := by
  intro n
  induction n with
  | zero =>
    intro v1 v2 I F
    exact OK_no
  | succ n ih =>
    intro v1 v2 I F
    rw [f_X10_limbsOf_4]
    refine OK_st 3 okX10_limbsOf (S' := ((if (6 : Int32) ≤ v2 then 32 else 10), [(0, .int v0), (1, .int v1), (2, .int v2)], [], hp I F)) rfl ⟨trivial, trivial, trivial, trivial⟩ ?_
    refine OK_if (fun h1907 => ?_) (fun h1907 => ?_)
    · exact hko v1 v2 I F
    · refine OK_st 3 okX10_limbsOf (S' := (13, [(0, .int v0), (1, .int v1), (2, .int v2)], [.int v2, .int v0, .int v1], hp I F)) rfl ⟨trivial, trivial, trivial, trivial⟩ ?_
      refine OK_cs [.int v0, .int v2] [.int v1] okX10_limbsOf okX10_times rfl rfl cl_RX10_252 (Nat.le_of_ble_eq_true rfl) (by decide) (Nat.le_of_ble_eq_true rfl) (kf_X10_times v0 v2 I F) (fun r1908 I1909 F1910 => ?_)
      refine OK_st 1 okX10_limbsOf (S' := ((if r1908 ≤ 0 then 23 else 19), [(0, .int v0), (1, .int v1), (2, .int v2)], [.int v1], hp I1909 F1910)) rfl ⟨trivial, trivial⟩ ?_
      refine OK_if (fun h1911 => ?_) (fun h1911 => ?_)
      · refine OK_st 5 okX10_limbsOf (S' := (4, [(2, .int (v2 + (1 : Int32))), (1, .int (v1 + (0 : Int32))), (0, .int v0)], [], hp I1909 F1910)) rfl ⟨trivial, trivial, (by decide), (by decide), trivial, trivial⟩ ?_
        refine OK_pk [2, 1, 0] rfl ?_
        exact ih (v1 + (0 : Int32)) (v2 + (1 : Int32)) I1909 F1910
      · refine OK_st 6 okX10_limbsOf (S' := (4, [(2, .int (v2 + (1 : Int32))), (1, .int (v1 + (1 : Int32))), (0, .int v0)], [], hp I1909 F1910)) rfl ⟨trivial, trivial, trivial, (by decide), (by decide), trivial, trivial⟩ ?_
        refine OK_pk [2, 1, 0] rfl ?_
        exact ih (v1 + (1 : Int32)) (v2 + (1 : Int32)) I1909 F1910
