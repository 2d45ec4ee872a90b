/-! methods as functions (by program) -/
def f_X1_search_57 (ko : Int32 → AI → AF → AQ) : Nat → Int32 → AI → AF → AQ
  | 0, _, _, _ => none
  | n + 1, v2, I, F =>
    if v2 < 0 then
      ko v2 I F
    else
      ab_bd (f_X8_living I F) (fun r934 I935 F936 =>
        if ¬ (v2 &&& (r934 ^^^ (-1 : Int32))) = 0 then
          f_X1_search_57 ko n (v2 + (-1 : Int32)) I935 F936
        else
          ab_bd (f_X1_leastFrom v2 I935 F936) (fun r969 I970 F971 =>
            bif ab_vin v2 64 then
              ab_lt (va_up F971 35 (upd (F971 35) v2.toNatClampNeg r969)) (fun F973 =>
                f_X1_search_57 ko n (v2 + (-1 : Int32)) I970 F973)
            else none))
set_option maxRecDepth 20000 in
set_option maxHeartbeats 4000000 in
theorem kf_X1_search_57 (ko : Int32 → AI → AF → AQ) (hko : ∀ v2 I F, OK 3 mX1_search false (ko v2 I F) (90, [(0, .ref 45), (1, .ref 27), (2, .int v2)], [], hp I F)) : ∀ n v2 I F, OK 3 mX1_search false (f_X1_search_57 ko n v2 I F) (57, [(0, .ref 45), (1, .ref 27), (2, .int v2)], [], hp I F) := by
  intro n
  induction n with
  | zero =>
    intro v2 I F
    exact OK_no
  | succ n ih =>
    intro v2 I F
    rw [f_X1_search_57]
    refine OK_st 2 okX1_search (S' := ((if v2 < 0 then 90 else 61), [(0, .ref 45), (1, .ref 27), (2, .int v2)], [], hp I F)) rfl ⟨trivial, trivial, trivial⟩ ?_
    refine OK_if (fun h933 => ?_) (fun h933 => ?_)
    · exact hko v2 I F
    · refine OK_st 2 okX1_search (S' := (63, [(0, .ref 45), (1, .ref 27), (2, .int v2)], [.ref 27, .int v2], hp I F)) rfl ⟨trivial, trivial, trivial⟩ ?_
      refine OK_cv [] [.int v2] okX1_search okX8_living rfl rfl cl_RX1_31 rfl rfl (Nat.le_of_ble_eq_true rfl) (by decide) (Nat.le_of_ble_eq_true rfl) (kf_X8_living I F) (fun r934 I935 F936 => ?_)
      refine OK_st 4 okX1_search (S' := ((if ¬ (v2 &&& (r934 ^^^ (-1 : Int32))) = 0 then 84 else 72), [(0, .ref 45), (1, .ref 27), (2, .int v2)], [], hp I935 F936)) rfl ⟨trivial, trivial, trivial, trivial, trivial⟩ ?_
      refine OK_if (fun h937 => ?_) (fun h937 => ?_)
      · refine OK_st 2 okX1_search (S' := (57, [(2, .int (v2 + (-1 : Int32))), (0, .ref 45), (1, .ref 27)], [], hp I935 F936)) rfl ⟨(by decide), trivial, trivial⟩ ?_
        refine OK_pk [1, 2, 0] rfl ?_
        exact ih (v2 + (-1 : Int32)) I935 F936
      · refine OK_st 6 okX1_search (S' := (80, [(0, .ref 45), (1, .ref 27), (2, .int v2)], [.int v2, .ref 27, .ref 45, .int v2, .ref 46], hp I935 F936)) rfl ⟨trivial, trivial, trivial, trivial, trivial, trivial, trivial⟩ ?_
        refine OK_cv [.ref 27, .int v2] [.int v2, .ref 46] okX1_search okX1_leastFrom rfl rfl cl_RX1_35 rfl rfl (Nat.le_of_ble_eq_true rfl) (by decide) (Nat.le_of_ble_eq_true rfl) (kf_X1_leastFrom v2 I935 F936) (fun r969 I970 F971 => ?_)
        refine OK_gd (fun g972 => ?_)
        refine OK_st 3 okX1_search (S' := (57, [(2, .int (v2 + (-1 : Int32))), (0, .ref 45), (1, .ref 27)], [], hp I970 (va_up F971 35 (upd (F971 35) v2.toNatClampNeg r969)))) rfl ⟨(ab_vo g972), (by decide), trivial, trivial⟩ ?_
        refine OK_lt (fun F973 => (57, [(2, .int (v2 + (-1 : Int32))), (0, .ref 45), (1, .ref 27)], [], hp I970 F973)) (fun F973 => ?_)
        refine OK_pk [1, 2, 0] rfl ?_
        exact ih (v2 + (-1 : Int32)) I970 F973

def f_X1_chooseAll_18 (v3 : Int32) (ko : Int32 → Int32 → Int32 → AI → AF → AQ) : Nat → Int32 → Int32 → Int32 → AI → AF → AQ
  | 0, _, _, _, _, _ => none
  | n + 1, v2, v4, v5, I, F =>
    if (I 21) ≤ v5 then
      ko v2 v4 v5 I F
    else
      if ¬ v4 = 0 then
        ko v2 v4 v5 I F
      else
        ab_bd (f_X1_isFree v2 v3 v5 I F) (fun r980 I981 F982 =>
          if r980 = 0 then
            f_X1_chooseAll_18 v3 ko n v2 v4 (v5 + (1 : Int32)) I981 F982
          else
            ab_bd (f_X1_apartBy v2 v3 v5 I981 F982) (fun r984 I985 F986 =>
              bif ab_vin v2 64 then
                if ¬ r984 = ((F986 35) v2.toNatClampNeg) then
                  f_X1_chooseAll_18 v3 ko n v2 v4 (v5 + (1 : Int32)) I985 F986
                else
                  bif ab_vin v3 6 then
                    bif ab_vin v5 6 then
                      bif ab_vin ((F986 37) v3.toNatClampNeg) 6 then
                        bif ab_vin v5 6 then
                          ab_lt (va_up F986 36 (upd (F986 36) ((F986 37) v3.toNatClampNeg).toNatClampNeg ((F986 37) v5.toNatClampNeg))) (fun F993 =>
                            ab_lt (v2 ||| ((1 : Int32) <<< (((F986 37) v5.toNatClampNeg) &&& 31))) (fun x994 =>
                              f_X1_chooseAll_18 v3 ko n x994 (1 : Int32) (v5 + (1 : Int32)) I985 F993))
                        else none
                      else none
                    else none
                  else none
              else none))
set_option maxRecDepth 20000 in
set_option maxHeartbeats 4000000 in
theorem kf_X1_chooseAll_18 (v3 : Int32) (ko : Int32 → Int32 → Int32 → AI → AF → AQ) (hko : ∀ v2 v4 v5 I F, OK 2 mX1_chooseAll false (ko v2 v4 v5 I F) (100, [(0, .ref 45), (1, .ref 27), (2, .int v2), (3, .int v3), (4, .int v4), (5, .int v5)], [], hp I F)) : ∀ n v2 v4 v5 I F, OK 2 mX1_chooseAll false (f_X1_chooseAll_18 v3 ko n v2 v4 v5 I F) (18, [(0, .ref 45), (1, .ref 27), (2, .int v2), (3, .int v3), (4, .int v4), (5, .int v5)], [], hp I F) := by
  intro n
  induction n with
  | zero =>
    intro v2 v4 v5 I F
    exact OK_no
  | succ n ih =>
    intro v2 v4 v5 I F
    rw [f_X1_chooseAll_18]
    refine OK_st 4 okX1_chooseAll (S' := ((if (I 21) ≤ v5 then 100 else 27), [(0, .ref 45), (1, .ref 27), (2, .int v2), (3, .int v3), (4, .int v4), (5, .int v5)], [], hp I F)) rfl ⟨trivial, trivial, trivial, trivial, trivial⟩ ?_
    refine OK_if (fun h978 => ?_) (fun h978 => ?_)
    · exact hko v2 v4 v5 I F
    · refine OK_st 2 okX1_chooseAll (S' := ((if ¬ v4 = 0 then 100 else 32), [(0, .ref 45), (1, .ref 27), (2, .int v2), (3, .int v3), (4, .int v4), (5, .int v5)], [], hp I F)) rfl ⟨trivial, trivial, trivial⟩ ?_
      refine OK_if (fun h979 => ?_) (fun h979 => ?_)
      · exact hko v2 v4 v5 I F
      · refine OK_st 4 okX1_chooseAll (S' := (37, [(0, .ref 45), (1, .ref 27), (2, .int v2), (3, .int v3), (4, .int v4), (5, .int v5)], [.int v5, .int v3, .int v2, .ref 45], hp I F)) rfl ⟨trivial, trivial, trivial, trivial, trivial⟩ ?_
        refine OK_cv [.int v2, .int v3, .int v5] [] okX1_chooseAll okX1_isFree rfl rfl cl_RX1_50 rfl rfl (Nat.le_of_ble_eq_true rfl) (by decide) (Nat.le_of_ble_eq_true rfl) (kf_X1_isFree v2 v3 v5 I F) (fun r980 I981 F982 => ?_)
        refine OK_st 1 okX1_chooseAll (S' := ((if r980 = 0 then 94 else 43), [(0, .ref 45), (1, .ref 27), (2, .int v2), (3, .int v3), (4, .int v4), (5, .int v5)], [], hp I981 F982)) rfl ⟨trivial, trivial⟩ ?_
        refine OK_if (fun h983 => ?_) (fun h983 => ?_)
        · refine OK_st 2 okX1_chooseAll (S' := (18, [(5, .int (v5 + (1 : Int32))), (0, .ref 45), (1, .ref 27), (2, .int v2), (3, .int v3), (4, .int v4)], [], hp I981 F982)) rfl ⟨(by decide), trivial, trivial⟩ ?_
          refine OK_pk [1, 2, 3, 4, 5, 0] rfl ?_
          exact ih v2 v4 (v5 + (1 : Int32)) I981 F982
        · refine OK_st 5 okX1_chooseAll (S' := (49, [(0, .ref 45), (1, .ref 27), (2, .int v2), (3, .int v3), (4, .int v4), (5, .int v5)], [.int v5, .int v3, .int v2, .ref 27, .ref 45], hp I981 F982)) rfl ⟨trivial, trivial, trivial, trivial, trivial, trivial⟩ ?_
          refine OK_cv [.ref 27, .int v2, .int v3, .int v5] [] okX1_chooseAll okX1_apartBy rfl rfl cl_RX1_54 rfl rfl (Nat.le_of_ble_eq_true rfl) (by decide) (Nat.le_of_ble_eq_true rfl) (kf_X1_apartBy v2 v3 v5 I981 F982) (fun r984 I985 F986 => ?_)
          refine OK_gd (fun g987 => ?_)
          refine OK_st 5 okX1_chooseAll (S' := ((if ¬ r984 = ((F986 35) v2.toNatClampNeg) then 94 else 61), [(0, .ref 45), (1, .ref 27), (2, .int v2), (3, .int v3), (4, .int v4), (5, .int v5)], [], hp I985 F986)) rfl ⟨trivial, trivial, trivial, (ab_vo g987), trivial, trivial⟩ ?_
          refine OK_if (fun h988 => ?_) (fun h988 => ?_)
          · refine OK_st 2 okX1_chooseAll (S' := (18, [(5, .int (v5 + (1 : Int32))), (0, .ref 45), (1, .ref 27), (2, .int v2), (3, .int v3), (4, .int v4)], [], hp I985 F986)) rfl ⟨(by decide), trivial, trivial⟩ ?_
            refine OK_pk [1, 2, 3, 4, 5, 0] rfl ?_
            exact ih v2 v4 (v5 + (1 : Int32)) I985 F986
          · refine OK_gd (fun g989 => ?_)
            refine OK_gd (fun g990 => ?_)
            refine OK_gd (fun g991 => ?_)
            refine OK_gd (fun g992 => ?_)
            refine OK_st 20 okX1_chooseAll (S' := (91, [(2, .int (v2 ||| ((1 : Int32) <<< (((F986 37) v5.toNatClampNeg) &&& 31)))), (0, .ref 45), (1, .ref 27), (3, .int v3), (4, .int v4), (5, .int v5)], [], hp I985 (va_up F986 36 (upd (F986 36) ((F986 37) v3.toNatClampNeg).toNatClampNeg ((F986 37) v5.toNatClampNeg))))) rfl ⟨trivial, trivial, trivial, trivial, trivial, (ab_vo g989), trivial, trivial, trivial, (ab_vo g990), (ab_vo g991), trivial, trivial, trivial, trivial, trivial, (ab_vo g992), trivial, trivial, (by decide), trivial⟩ ?_
            refine OK_lt (fun F993 => (91, [(2, .int (v2 ||| ((1 : Int32) <<< (((F986 37) v5.toNatClampNeg) &&& 31)))), (0, .ref 45), (1, .ref 27), (3, .int v3), (4, .int v4), (5, .int v5)], [], hp I985 F993)) (fun F993 => ?_)
            refine OK_lt (fun x994 => (91, [(2, .int x994), (0, .ref 45), (1, .ref 27), (3, .int v3), (4, .int v4), (5, .int v5)], [], hp I985 F993)) (fun x994 => ?_)
            refine OK_st 4 okX1_chooseAll (S' := (18, [(5, .int (v5 + (1 : Int32))), (4, .int (1 : Int32)), (2, .int x994), (0, .ref 45), (1, .ref 27), (3, .int v3)], [], hp I985 F993)) rfl ⟨trivial, (by decide), (by decide), trivial, trivial⟩ ?_
            refine OK_pk [3, 4, 2, 5, 1, 0] rfl ?_
            exact ih x994 (1 : Int32) (v5 + (1 : Int32)) I985 F993

def f_X1_chooseAll_4 (ko : Int32 → Int32 → AI → AF → AQ) : Nat → Int32 → Int32 → AI → AF → AQ
  | 0, _, _, _, _ => none
  | n + 1, v2, v3, I, F =>
    if (I 21) ≤ v3 then
      ko v2 v3 I F
    else
      f_X1_chooseAll_18 v3 (fun v2_995 v4_996 v5_997 I998 F999 =>
        f_X1_chooseAll_4 ko n v2_995 (v3 + (1 : Int32)) I998 F999) ab_fu v2 (0 : Int32) (0 : Int32) I F
set_option maxRecDepth 20000 in
set_option maxHeartbeats 4000000 in
theorem kf_X1_chooseAll_4 (ko : Int32 → Int32 → AI → AF → AQ) (hko : ∀ v2 v3 I F, OK 2 mX1_chooseAll false (ko v2 v3 I F) (106, [(0, .ref 45), (1, .ref 27), (2, .int v2), (3, .int v3)], [], hp I F)) : ∀ n v2 v3 I F, OK 2 mX1_chooseAll false (f_X1_chooseAll_4 ko n v2 v3 I F) (4, [(0, .ref 45), (1, .ref 27), (2, .int v2), (3, .int v3)], [], hp I F) := by
  intro n
  induction n with
  | zero =>
    intro v2 v3 I F
    exact OK_no
  | succ n ih =>
    intro v2 v3 I F
    rw [f_X1_chooseAll_4]
    refine OK_st 4 okX1_chooseAll (S' := ((if (I 21) ≤ v3 then 106 else 12), [(0, .ref 45), (1, .ref 27), (2, .int v2), (3, .int v3)], [], hp I F)) rfl ⟨trivial, trivial, trivial, trivial, trivial⟩ ?_
    refine OK_if (fun h977 => ?_) (fun h977 => ?_)
    · exact hko v2 v3 I F
    · refine OK_st 4 okX1_chooseAll (S' := (18, [(5, .int (0 : Int32)), (4, .int (0 : Int32)), (0, .ref 45), (1, .ref 27), (2, .int v2), (3, .int v3)], [], hp I F)) rfl ⟨trivial, (by decide), trivial, (by decide), trivial⟩ ?_
      refine OK_pk [2, 3, 4, 5, 1, 0] rfl ?_
      refine kf_X1_chooseAll_18 v3 _ (fun v2_995 v4_996 v5_997 I998 F999 => ?_) ab_fu v2 (0 : Int32) (0 : Int32) I F
      refine OK_st 2 okX1_chooseAll (S' := (4, [(3, .int (v3 + (1 : Int32))), (0, .ref 45), (1, .ref 27), (2, .int v2_995), (4, .int v4_996), (5, .int v5_997)], [], hp I998 F999)) rfl ⟨(by decide), trivial, trivial⟩ ?_
      refine OK_pk [1, 2, 3, 0] rfl ?_
      exact ih v2_995 (v3 + (1 : Int32)) I998 F999

def f_X1_chooseAll (I : AI) (F : AF) : AQ :=
  f_X1_chooseAll_4 (fun v2_1000 v3_1001 I1002 F1003 =>
    some (0, I1002, F1003)) ab_fu (0 : Int32) (0 : Int32) I F
set_option maxRecDepth 20000 in
set_option maxHeartbeats 4000000 in
theorem kf_X1_chooseAll (I : AI) (F : AF) : OK 2 mX1_chooseAll false (f_X1_chooseAll I F) (0, [(0, .ref 45), (1, .ref 27)], [], hp I F) := by
  rw [f_X1_chooseAll]
  refine OK_st 4 okX1_chooseAll (S' := (4, [(3, .int (0 : Int32)), (2, .int (0 : Int32)), (0, .ref 45), (1, .ref 27)], [], hp I F)) rfl ⟨trivial, (by decide), trivial, (by decide), trivial⟩ ?_
  refine OK_pk [2, 3, 1, 0] rfl ?_
  refine kf_X1_chooseAll_4 _ (fun v2_1000 v3_1001 I1002 F1003 => ?_) ab_fu (0 : Int32) (0 : Int32) I F
  exact OK_rv okX1_chooseAll rfl rfl rfl

def f_X1_search (I : AI) (F : AF) : AQ :=
  ab_lt (va_up I 21 (0 : Int32)) (fun I919 =>
    f_X1_search_7 (fun v2_930 I931 F932 =>
      f_X1_search_57 (fun v2_974 I975 F976 =>
        ab_bd (f_X1_chooseAll I975 F976) (fun r1004 I1005 F1006 =>
          some (0, I1005, F1006))) ab_fu (nI 63) I931 F932) ab_fu (0 : Int32) I919 F)
set_option maxRecDepth 20000 in
set_option maxHeartbeats 4000000 in
theorem kf_X1_search (I : AI) (F : AF) : OK 3 mX1_search false (f_X1_search I F) (0, [(0, .ref 45), (1, .ref 27)], [], hp I F) := by
  rw [f_X1_search]
  refine OK_st 5 okX1_search (S' := (7, [(2, .int (0 : Int32)), (0, .ref 45), (1, .ref 27)], [], hp (va_up I 21 (0 : Int32)) F)) rfl ⟨trivial, trivial, trivial, trivial, (by decide), trivial⟩ ?_
  refine OK_lt (fun I919 => (7, [(2, .int (0 : Int32)), (0, .ref 45), (1, .ref 27)], [], hp I919 F)) (fun I919 => ?_)
  refine OK_pk [1, 2, 0] rfl ?_
  refine kf_X1_search_7 _ (fun v2_930 I931 F932 => ?_) ab_fu (0 : Int32) I919 F
  refine OK_st 2 okX1_search (S' := (57, [(2, .int (nI 63)), (0, .ref 45), (1, .ref 27)], [], hp I931 F932)) rfl ⟨trivial, (by decide), trivial⟩ ?_
  refine OK_pk [1, 2, 0] rfl ?_
  refine kf_X1_search_57 _ (fun v2_974 I975 F976 => ?_) ab_fu (nI 63) I931 F932
  refine OK_st 2 okX1_search (S' := (92, [(0, .ref 45), (1, .ref 27), (2, .int v2_974)], [.ref 27, .ref 45], hp I975 F976)) rfl ⟨trivial, trivial, trivial⟩ ?_
  refine OK_cv [.ref 27] [] okX1_search okX1_chooseAll rfl rfl cl_RX1_39 rfl rfl (Nat.le_of_ble_eq_true rfl) (by decide) (Nat.le_of_ble_eq_true rfl) (kf_X1_chooseAll I975 F976) (fun r1004 I1005 F1006 => ?_)
  exact OK_rv okX1_search rfl rfl rfl

def f_X1_apartTogether (I : AI) (F : AF) : AQ :=
  some (((F 35) 0), I, F)
set_option maxRecDepth 20000 in
set_option maxHeartbeats 4000000 in
theorem kf_X1_apartTogether (I : AI) (F : AF) : OK 0 mX1_apartTogether true (f_X1_apartTogether I F) (0, [(0, .ref 45)], [], hp I F) := by
  rw [f_X1_apartTogether]
  refine OK_st 4 okX1_apartTogether (S' := (6, [(0, .ref 45)], [.int ((F 35) 0)], hp I F)) rfl ⟨trivial, trivial, trivial, (ab_vo (by decide)), trivial⟩ ?_
  exact OK_ri okX1_apartTogether rfl rfl (Or.inl rfl)

def f_X9_heirs_j19 (v1 : Int32) (I : AI) (F : AF) : AQ :=
  ab_bd (f_X8_living I F) (fun r907 I908 F909 =>
    ab_bd (f_J6_bitCount_0f7a4 r907 I908 F909) (fun r915 I916 F917 =>
      if (nI 2) ≤ r915 then
        ab_bd (f_X1_search I916 F917) (fun r1007 I1008 F1009 =>
          if ¬ v1 = (-1 : Int32) then
            bif ab_vin v1 6 then
              some (((F1009 36) v1.toNatClampNeg), I1008, F1009)
            else none
          else
            ab_bd (f_X1_apartTogether I1008 F1009) (fun r1012 I1013 F1014 =>
              some (r1012, I1013, F1014)))
      else
        some ((-1 : Int32), I916, F917)))
set_option maxRecDepth 20000 in
set_option maxHeartbeats 4000000 in
theorem kf_X9_heirs_j19 (v1 : Int32) (I : AI) (F : AF) : OK 4 mX9_heirs true (f_X9_heirs_j19 v1 I F) (19, [(0, .ref 0), (1, .int v1)], [], hp I F) := by
  rw [f_X9_heirs_j19]
  refine OK_st 2 okX9_heirs (S' := (23, [(0, .ref 0), (1, .int v1)], [.ref 27], hp I F)) rfl ⟨trivial, trivial, trivial⟩ ?_
  refine OK_cv [] [] okX9_heirs okX8_living rfl rfl cl_RX9_130 rfl rfl (Nat.le_of_ble_eq_true rfl) (by decide) (Nat.le_of_ble_eq_true rfl) (kf_X8_living I F) (fun r907 I908 F909 => ?_)
  refine OK_cs [.int r907] [] okX9_heirs okJ6_bitCount_0f7a4 rfl rfl cl_RX9_271 (Nat.le_of_ble_eq_true rfl) (by decide) (Nat.le_of_ble_eq_true rfl) (kf_J6_bitCount_0f7a4 r907 I908 F909) (fun r915 I916 F917 => ?_)
  refine OK_st 2 okX9_heirs (S' := ((if (nI 2) ≤ r915 then 35 else 33), [(0, .ref 0), (1, .int v1)], [], hp I916 F917)) rfl ⟨trivial, trivial, trivial⟩ ?_
  refine OK_if (fun h918 => ?_) (fun h918 => ?_)
  · refine OK_st 4 okX9_heirs (S' := (43, [(0, .ref 0), (1, .int v1)], [.ref 27, .ref 45], hp I916 F917)) rfl ⟨trivial, trivial, trivial, trivial, trivial⟩ ?_
    refine OK_cv [.ref 27] [] okX9_heirs okX1_search rfl rfl cl_RX9_276 rfl rfl (Nat.le_of_ble_eq_true rfl) (by decide) (Nat.le_of_ble_eq_true rfl) (kf_X1_search I916 F917) (fun r1007 I1008 F1009 => ?_)
    refine OK_st 3 okX9_heirs (S' := ((if ¬ v1 = (-1 : Int32) then 61 else 51), [(0, .ref 0), (1, .int v1)], [], hp I1008 F1009)) rfl ⟨trivial, trivial, trivial, trivial⟩ ?_
    refine OK_if (fun h1010 => ?_) (fun h1010 => ?_)
    · refine OK_gd (fun g1011 => ?_)
      refine OK_st 5 okX9_heirs (S' := (70, [(0, .ref 0), (1, .int v1)], [.int ((F1009 36) v1.toNatClampNeg)], hp I1008 F1009)) rfl ⟨trivial, trivial, trivial, trivial, (ab_vo g1011), trivial⟩ ?_
      exact OK_ri okX9_heirs rfl rfl (Or.inl rfl)
    · refine OK_st 2 okX9_heirs (S' := (55, [(0, .ref 0), (1, .int v1)], [.ref 45], hp I1008 F1009)) rfl ⟨trivial, trivial, trivial⟩ ?_
      refine OK_cv [] [] okX9_heirs okX1_apartTogether rfl rfl cl_RX9_278 rfl rfl (Nat.le_of_ble_eq_true rfl) (by decide) (Nat.le_of_ble_eq_true rfl) (kf_X1_apartTogether I1008 F1009) (fun r1012 I1013 F1014 => ?_)
      refine OK_st 1 okX9_heirs (S' := (70, [(0, .ref 0), (1, .int v1)], [.int r1012], hp I1013 F1014)) rfl ⟨trivial, trivial⟩ ?_
      exact OK_ri okX9_heirs rfl rfl (Or.inl rfl)
  · refine OK_st 1 okX9_heirs (S' := (34, [(0, .ref 0), (1, .int v1)], [.int (-1 : Int32)], hp I916 F917)) rfl ⟨trivial, trivial⟩ ?_
    exact OK_ri okX9_heirs rfl rfl (Or.inl rfl)

def f_X9_heirs (v1 : Int32) (I : AI) (F : AF) : AQ :=
  if v1 = (-1 : Int32) then
    f_X9_heirs_j19 v1 I F
  else
    ab_bd (f_X5_hasLimb v1 I F) (fun r1015 I1016 F1017 =>
      if ¬ r1015 = 0 then
        f_X9_heirs_j19 v1 I1016 F1017
      else
        some ((-1000000001 : Int32), I1016, F1017))
set_option maxRecDepth 20000 in
set_option maxHeartbeats 4000000 in
theorem kf_X9_heirs (v1 : Int32) (I : AI) (F : AF) : OK 4 mX9_heirs true (f_X9_heirs v1 I F) (0, [(0, .ref 0), (1, .int v1)], [], hp I F) := by
  rw [f_X9_heirs]
  refine OK_st 3 okX9_heirs (S' := ((if v1 = (-1 : Int32) then 19 else 5), [(0, .ref 0), (1, .int v1)], [], hp I F)) rfl ⟨trivial, trivial, trivial, trivial⟩ ?_
  refine OK_if (fun h906 => ?_) (fun h906 => ?_)
  · exact kf_X9_heirs_j19 v1 I F
  · refine OK_st 3 okX9_heirs (S' := (10, [(0, .ref 0), (1, .int v1)], [.int v1, .ref 16], hp I F)) rfl ⟨trivial, trivial, trivial, trivial⟩ ?_
    refine OK_cv [.int v1] [] okX9_heirs okX5_hasLimb rfl rfl cl_RX9_151 rfl rfl (Nat.le_of_ble_eq_true rfl) (by decide) (Nat.le_of_ble_eq_true rfl) (kf_X5_hasLimb v1 I F) (fun r1015 I1016 F1017 => ?_)
    refine OK_st 1 okX9_heirs (S' := ((if ¬ r1015 = 0 then 19 else 16), [(0, .ref 0), (1, .int v1)], [], hp I1016 F1017)) rfl ⟨trivial, trivial⟩ ?_
    refine OK_if (fun h1018 => ?_) (fun h1018 => ?_)
    · exact kf_X9_heirs_j19 v1 I1016 F1017
    · refine OK_st 1 okX9_heirs (S' := (18, [(0, .ref 0), (1, .int v1)], [.int (-1000000001 : Int32)], hp I1016 F1017)) rfl ⟨trivial, trivial⟩ ?_
      exact OK_ri okX9_heirs rfl rfl (Or.inl rfl)

def f_X9_reach_43 (v1 : Int32) (v2 : Int32) (ko : Int32 → Int32 → AI → AF → AQ) : Nat → Int32 → Int32 → AI → AF → AQ
  | 0, _, _, _, _ => none
  | n + 1, v3, v4, I, F =>
    if (nI 4) ≤ v4 then
      ko v3 v4 I F
    else
      ab_bd (f_X8_measure v1 v4 I F) (fun r1028 I1029 F1030 =>
        if ¬ v2 = 0 then
          ab_lt (if v3 < r1028 then r1028 else v3) (fun x1032 =>
            f_X9_reach_43 v1 v2 ko n x1032 (v4 + (1 : Int32)) I1029 F1030)
        else
          ab_lt (if r1028 < v3 then r1028 else v3) (fun x1033 =>
            f_X9_reach_43 v1 v2 ko n x1033 (v4 + (1 : Int32)) I1029 F1030))
set_option maxRecDepth 20000 in
set_option maxHeartbeats 4000000 in
theorem kf_X9_reach_43 (v1 : Int32) (v2 : Int32) (ko : Int32 → Int32 → AI → AF → AQ) (hko : ∀ v3 v4 I F, OK 3 mX9_reach true (ko v3 v4 I F) (91, [(0, .ref 0), (1, .int v1), (2, .int v2), (3, .int v3), (4, .int v4)], [], hp I F)) : ∀ n v3 v4 I F, OK 3 mX9_reach true (f_X9_reach_43 v1 v2 ko n v3 v4 I F) (43, [(0, .ref 0), (1, .int v1), (2, .int v2), (3, .int v3), (4, .int v4)], [], hp I F) := by
  intro n
  induction n with
  | zero =>
    intro v3 v4 I F
    exact OK_no
  | succ n ih =>
    intro v3 v4 I F
    rw [f_X9_reach_43]
    refine OK_st 3 okX9_reach (S' := ((if (nI 4) ≤ v4 then 91 else 49), [(0, .ref 0), (1, .int v1), (2, .int v2), (3, .int v3), (4, .int v4)], [], hp I F)) rfl ⟨trivial, trivial, trivial, trivial⟩ ?_
    refine OK_if (fun h1027 => ?_) (fun h1027 => ?_)
    · exact hko v3 v4 I F
    · refine OK_st 6 okX9_reach (S' := (60, [(0, .ref 0), (1, .int v1), (2, .int v2), (3, .int v3), (4, .int v4)], [.int v4, .int v1, .ref 16, .ref 27], hp I F)) rfl ⟨trivial, trivial, trivial, trivial, trivial, trivial, trivial⟩ ?_
      refine OK_cv [.ref 16, .int v1, .int v4] [] okX9_reach okX8_measure rfl rfl cl_RX9_284 rfl rfl (Nat.le_of_ble_eq_true rfl) (by decide) (Nat.le_of_ble_eq_true rfl) (kf_X8_measure v1 v4 I F) (fun r1028 I1029 F1030 => ?_)
      refine OK_st 3 okX9_reach (S' := ((if ¬ v2 = 0 then 78 else 69), [(5, .int r1028), (0, .ref 0), (1, .int v1), (2, .int v2), (3, .int v3), (4, .int v4)], [], hp I1029 F1030)) rfl ⟨(by decide), trivial, trivial, trivial⟩ ?_
      refine OK_if (fun h1031 => ?_) (fun h1031 => ?_)
      · refine OK_st 4 okX9_reach (S' := (85, [(3, .int (if v3 < r1028 then r1028 else v3)), (5, .int r1028), (0, .ref 0), (1, .int v1), (2, .int v2), (4, .int v4)], [], hp I1029 F1030)) rfl ⟨trivial, trivial, (Nat.le_of_ble_eq_true rfl), (by decide), trivial⟩ ?_
        refine OK_lt (fun x1032 => (85, [(3, .int x1032), (5, .int r1028), (0, .ref 0), (1, .int v1), (2, .int v2), (4, .int v4)], [], hp I1029 F1030)) (fun x1032 => ?_)
        refine OK_st 2 okX9_reach (S' := (43, [(4, .int (v4 + (1 : Int32))), (3, .int x1032), (5, .int r1028), (0, .ref 0), (1, .int v1), (2, .int v2)], [], hp I1029 F1030)) rfl ⟨(by decide), trivial, trivial⟩ ?_
        refine OK_pk [3, 4, 5, 1, 0] rfl ?_
        exact ih x1032 (v4 + (1 : Int32)) I1029 F1030
      · refine OK_st 5 okX9_reach (S' := (85, [(3, .int (if r1028 < v3 then r1028 else v3)), (5, .int r1028), (0, .ref 0), (1, .int v1), (2, .int v2), (4, .int v4)], [], hp I1029 F1030)) rfl ⟨trivial, trivial, (Nat.le_of_ble_eq_true rfl), trivial, (by decide), trivial⟩ ?_
        refine OK_lt (fun x1033 => (85, [(3, .int x1033), (5, .int r1028), (0, .ref 0), (1, .int v1), (2, .int v2), (4, .int v4)], [], hp I1029 F1030)) (fun x1033 => ?_)
        refine OK_st 2 okX9_reach (S' := (43, [(4, .int (v4 + (1 : Int32))), (3, .int x1033), (5, .int r1028), (0, .ref 0), (1, .int v1), (2, .int v2)], [], hp I1029 F1030)) rfl ⟨(by decide), trivial, trivial⟩ ?_
        refine OK_pk [3, 4, 5, 1, 0] rfl ?_
        exact ih x1033 (v4 + (1 : Int32)) I1029 F1030

def f_X9_reach (v1 : Int32) (v2 : Int32) (I : AI) (F : AF) : AQ :=
  ab_bd (f_X5_hasLimb v1 I F) (fun r1019 I1020 F1021 =>
    if ¬ r1019 = 0 then
      if v2 = 0 then
        ab_bd (f_X8_measure v1 (0 : Int32) I1020 F1021) (fun r1024 I1025 F1026 =>
          f_X9_reach_43 v1 v2 (fun v3_1034 v4_1035 I1036 F1037 =>
            some (v3_1034, I1036, F1037)) ab_fu r1024 (1 : Int32) I1025 F1026)
      else
        if v2 = (1 : Int32) then
          ab_bd (f_X8_measure v1 (0 : Int32) I1020 F1021) (fun r1039 I1040 F1041 =>
            f_X9_reach_43 v1 v2 (fun v3_1042 v4_1043 I1044 F1045 =>
              some (v3_1042, I1044, F1045)) ab_fu r1039 (1 : Int32) I1040 F1041)
        else
          some ((-1000000002 : Int32), I1020, F1021)
    else
      some ((-1000000001 : Int32), I1020, F1021))
set_option maxRecDepth 20000 in
set_option maxHeartbeats 4000000 in
theorem kf_X9_reach (v1 : Int32) (v2 : Int32) (I : AI) (F : AF) : OK 3 mX9_reach true (f_X9_reach v1 v2 I F) (0, [(0, .ref 0), (1, .int v1), (2, .int v2)], [], hp I F) := by
  rw [f_X9_reach]
  refine OK_st 3 okX9_reach (S' := (5, [(0, .ref 0), (1, .int v1), (2, .int v2)], [.int v1, .ref 16], hp I F)) rfl ⟨trivial, trivial, trivial, trivial⟩ ?_
  refine OK_cv [.int v1] [] okX9_reach okX5_hasLimb rfl rfl cl_RX9_151 rfl rfl (Nat.le_of_ble_eq_true rfl) (by decide) (Nat.le_of_ble_eq_true rfl) (kf_X5_hasLimb v1 I F) (fun r1019 I1020 F1021 => ?_)
  refine OK_st 1 okX9_reach (S' := ((if ¬ r1019 = 0 then 14 else 11), [(0, .ref 0), (1, .int v1), (2, .int v2)], [], hp I1020 F1021)) rfl ⟨trivial, trivial⟩ ?_
  refine OK_if (fun h1022 => ?_) (fun h1022 => ?_)
  · refine OK_st 2 okX9_reach (S' := ((if v2 = 0 then 26 else 18), [(0, .ref 0), (1, .int v1), (2, .int v2)], [], hp I1020 F1021)) rfl ⟨trivial, trivial, trivial⟩ ?_
    refine OK_if (fun h1023 => ?_) (fun h1023 => ?_)
    · refine OK_st 6 okX9_reach (S' := (36, [(0, .ref 0), (1, .int v1), (2, .int v2)], [.int (0 : Int32), .int v1, .ref 16, .ref 27], hp I1020 F1021)) rfl ⟨trivial, trivial, trivial, trivial, trivial, trivial, trivial⟩ ?_
      refine OK_cv [.ref 16, .int v1, .int (0 : Int32)] [] okX9_reach okX8_measure rfl rfl cl_RX9_284 rfl rfl (Nat.le_of_ble_eq_true rfl) (by decide) (Nat.le_of_ble_eq_true rfl) (kf_X8_measure v1 (0 : Int32) I1020 F1021) (fun r1024 I1025 F1026 => ?_)
      refine OK_st 3 okX9_reach (S' := (43, [(4, .int (1 : Int32)), (3, .int r1024), (0, .ref 0), (1, .int v1), (2, .int v2)], [], hp I1025 F1026)) rfl ⟨(by decide), trivial, (by decide), trivial⟩ ?_
      refine OK_pk [2, 3, 4, 1, 0] rfl ?_
      refine kf_X9_reach_43 v1 v2 _ (fun v3_1034 v4_1035 I1036 F1037 => ?_) ab_fu r1024 (1 : Int32) I1025 F1026
      refine OK_st 1 okX9_reach (S' := (92, [(0, .ref 0), (1, .int v1), (2, .int v2), (3, .int v3_1034), (4, .int v4_1035)], [.int v3_1034], hp I1036 F1037)) rfl ⟨trivial, trivial⟩ ?_
      exact OK_ri okX9_reach rfl rfl (Or.inl rfl)
    · refine OK_st 3 okX9_reach (S' := ((if v2 = (1 : Int32) then 26 else 23), [(0, .ref 0), (1, .int v1), (2, .int v2)], [], hp I1020 F1021)) rfl ⟨trivial, trivial, trivial, trivial⟩ ?_
      refine OK_if (fun h1038 => ?_) (fun h1038 => ?_)
      · refine OK_st 6 okX9_reach (S' := (36, [(0, .ref 0), (1, .int v1), (2, .int v2)], [.int (0 : Int32), .int v1, .ref 16, .ref 27], hp I1020 F1021)) rfl ⟨trivial, trivial, trivial, trivial, trivial, trivial, trivial⟩ ?_
        refine OK_cv [.ref 16, .int v1, .int (0 : Int32)] [] okX9_reach okX8_measure rfl rfl cl_RX9_284 rfl rfl (Nat.le_of_ble_eq_true rfl) (by decide) (Nat.le_of_ble_eq_true rfl) (kf_X8_measure v1 (0 : Int32) I1020 F1021) (fun r1039 I1040 F1041 => ?_)
        refine OK_st 3 okX9_reach (S' := (43, [(4, .int (1 : Int32)), (3, .int r1039), (0, .ref 0), (1, .int v1), (2, .int v2)], [], hp I1040 F1041)) rfl ⟨(by decide), trivial, (by decide), trivial⟩ ?_
        refine OK_pk [2, 3, 4, 1, 0] rfl ?_
        refine kf_X9_reach_43 v1 v2 _ (fun v3_1042 v4_1043 I1044 F1045 => ?_) ab_fu r1039 (1 : Int32) I1040 F1041
        refine OK_st 1 okX9_reach (S' := (92, [(0, .ref 0), (1, .int v1), (2, .int v2), (3, .int v3_1042), (4, .int v4_1043)], [.int v3_1042], hp I1044 F1045)) rfl ⟨trivial, trivial⟩ ?_
        exact OK_ri okX9_reach rfl rfl (Or.inl rfl)
      · refine OK_st 1 okX9_reach (S' := (25, [(0, .ref 0), (1, .int v1), (2, .int v2)], [.int (-1000000002 : Int32)], hp I1020 F1021)) rfl ⟨trivial, trivial⟩ ?_
        exact OK_ri okX9_reach rfl rfl (Or.inl rfl)
  · refine OK_st 1 okX9_reach (S' := (13, [(0, .ref 0), (1, .int v1), (2, .int v2)], [.int (-1000000001 : Int32)], hp I1020 F1021)) rfl ⟨trivial, trivial⟩ ?_
    exact OK_ri okX9_reach rfl rfl (Or.inl rfl)

def f_X8_apartFrom_15 (v2 : Int32) (v4 : Int32) (ko : Int32 → Int32 → AI → AF → AQ) : Nat → Int32 → Int32 → AI → AF → AQ
  | 0, _, _, _, _ => none
  | n + 1, v5, v6, I, F =>
    if (nI 4) ≤ v6 then
      ko v5 v6 I F
    else
      ab_bd (f_X8_ownMeasure v2 v6 I F) (fun r1060 I1061 F1062 =>
        ab_lt (v5 + (if 0 ≤ (r1060 - v4) then (r1060 - v4) else 0 - (r1060 - v4))) (fun x1063 =>
          f_X8_apartFrom_15 v2 v4 ko n x1063 (v6 + (1 : Int32)) I1061 F1062))
set_option maxRecDepth 20000 in
set_option maxHeartbeats 4000000 in
theorem kf_X8_apartFrom_15 (v2 : Int32) (v4 : Int32) (ko : Int32 → Int32 → AI → AF → AQ) (hko : ∀ v5 v6 I F, OK 2 mX8_apartFrom true (ko v5 v6 I F) (46, [(0, .ref 27), (1, .ref 16), (2, .int v2), (4, .int v4), (5, .int v5), (6, .int v6)], [], hp I F)) : ∀ n v5 v6 I F, OK 2 mX8_apartFrom true (f_X8_apartFrom_15 v2 v4 ko n v5 v6 I F) (15, [(0, .ref 27), (1, .ref 16), (2, .int v2), (4, .int v4), (5, .int v5), (6, .int v6)], [], hp I F) := by
  intro n
  induction n with
  | zero =>
    intro v5 v6 I F
    exact OK_no
  | succ n ih =>
    intro v5 v6 I F
    rw [f_X8_apartFrom_15]
    refine OK_st 3 okX8_apartFrom (S' := ((if (nI 4) ≤ v6 then 46 else 21), [(0, .ref 27), (1, .ref 16), (2, .int v2), (4, .int v4), (5, .int v5), (6, .int v6)], [], hp I F)) rfl ⟨trivial, trivial, trivial, trivial⟩ ?_
    refine OK_if (fun h1059 => ?_) (fun h1059 => ?_)
    · exact hko v5 v6 I F
    · refine OK_st 5 okX8_apartFrom (S' := (28, [(0, .ref 27), (1, .ref 16), (2, .int v2), (4, .int v4), (5, .int v5), (6, .int v6)], [.int v6, .int v2, .ref 16, .ref 27, .int v5], hp I F)) rfl ⟨trivial, trivial, trivial, trivial, trivial, trivial⟩ ?_
      refine OK_cv [.ref 16, .int v2, .int v6] [.int v5] okX8_apartFrom okX8_ownMeasure rfl rfl cl_RX8_43 rfl rfl (Nat.le_of_ble_eq_true rfl) (by decide) (Nat.le_of_ble_eq_true rfl) (kf_X8_ownMeasure v2 v6 I F) (fun r1060 I1061 F1062 => ?_)
      refine OK_st 5 okX8_apartFrom (S' := (40, [(5, .int (v5 + (if 0 ≤ (r1060 - v4) then (r1060 - v4) else 0 - (r1060 - v4)))), (0, .ref 27), (1, .ref 16), (2, .int v2), (4, .int v4), (6, .int v6)], [], hp I1061 F1062)) rfl ⟨trivial, trivial, (Nat.le_of_ble_eq_true rfl), trivial, (by decide), trivial⟩ ?_
      refine OK_lt (fun x1063 => (40, [(5, .int x1063), (0, .ref 27), (1, .ref 16), (2, .int v2), (4, .int v4), (6, .int v6)], [], hp I1061 F1062)) (fun x1063 => ?_)
      refine OK_st 2 okX8_apartFrom (S' := (15, [(6, .int (v6 + (1 : Int32))), (5, .int x1063), (0, .ref 27), (1, .ref 16), (2, .int v2), (4, .int v4)], [], hp I1061 F1062)) rfl ⟨(by decide), trivial, trivial⟩ ?_
      refine OK_pk [2, 3, 4, 5, 1, 0] rfl ?_
      exact ih x1063 (v6 + (1 : Int32)) I1061 F1062

def f_X8_apartFrom (v2 : Int32) (v3 : Int32) (I : AI) (F : AF) : AQ :=
  ab_bd (f_X8_ownMeasure v2 v3 I F) (fun r1056 I1057 F1058 =>
    f_X8_apartFrom_15 v2 r1056 (fun v5_1064 v6_1065 I1066 F1067 =>
      some (v5_1064, I1066, F1067)) ab_fu (0 : Int32) (0 : Int32) I1057 F1058)
set_option maxRecDepth 20000 in
set_option maxHeartbeats 4000000 in
theorem kf_X8_apartFrom (v2 : Int32) (v3 : Int32) (I : AI) (F : AF) : OK 2 mX8_apartFrom true (f_X8_apartFrom v2 v3 I F) (0, [(0, .ref 27), (1, .ref 16), (2, .int v2), (3, .int v3)], [], hp I F) := by
  rw [f_X8_apartFrom]
  refine OK_st 4 okX8_apartFrom (S' := (4, [(0, .ref 27), (1, .ref 16), (2, .int v2), (3, .int v3)], [.int v3, .int v2, .ref 16, .ref 27], hp I F)) rfl ⟨trivial, trivial, trivial, trivial, trivial⟩ ?_
  refine OK_cv [.ref 16, .int v2, .int v3] [] okX8_apartFrom okX8_ownMeasure rfl rfl cl_RX8_43 rfl rfl (Nat.le_of_ble_eq_true rfl) (by decide) (Nat.le_of_ble_eq_true rfl) (kf_X8_ownMeasure v2 v3 I F) (fun r1056 I1057 F1058 => ?_)
  refine OK_st 5 okX8_apartFrom (S' := (15, [(6, .int (0 : Int32)), (5, .int (0 : Int32)), (4, .int r1056), (0, .ref 27), (1, .ref 16), (2, .int v2), (3, .int v3)], [], hp I1057 F1058)) rfl ⟨(by decide), trivial, (by decide), trivial, (by decide), trivial⟩ ?_
  refine OK_pk [3, 4, 5, 2, 1, 0] rfl ?_
  refine kf_X8_apartFrom_15 v2 r1056 _ (fun v5_1064 v6_1065 I1066 F1067 => ?_) ab_fu (0 : Int32) (0 : Int32) I1057 F1058
  refine OK_st 1 okX8_apartFrom (S' := (48, [(0, .ref 27), (1, .ref 16), (2, .int v2), (4, .int r1056), (5, .int v5_1064), (6, .int v6_1065)], [.int v5_1064], hp I1066 F1067)) rfl ⟨trivial, trivial⟩ ?_
  exact OK_ri okX8_apartFrom rfl rfl (Or.inl rfl)

def f_X9_bestCopy_44 (v1 : Int32) (v2 : Int32) (ko : Int32 → Int32 → AI → AF → AQ) : Nat → Int32 → Int32 → AI → AF → AQ
  | 0, _, _, _, _ => none
  | n + 1, v3, v4, I, F =>
    if (nI 4) ≤ v4 then
      ko v3 v4 I F
    else
      ab_bd (f_X8_apartFrom v1 v4 I F) (fun r1068 I1069 F1070 =>
        ab_bd (f_X8_apartFrom v1 v3 I1069 F1070) (fun r1071 I1072 F1073 =>
          if r1071 ≤ r1068 then
            f_X9_bestCopy_44 v1 v2 ko n v3 (v4 + (1 : Int32)) I1072 F1073
          else
            f_X9_bestCopy_44 v1 v2 ko n v4 (v4 + (1 : Int32)) I1072 F1073))
set_option maxRecDepth 20000 in
set_option maxHeartbeats 4000000 in
theorem kf_X9_bestCopy_44 (v1 : Int32) (v2 : Int32) (ko : Int32 → Int32 → AI → AF → AQ) (hko : ∀ v3 v4 I F, OK 3 mX9_bestCopy true (ko v3 v4 I F) (89, [(0, .ref 0), (1, .int v1), (2, .int v2), (3, .int v3), (4, .int v4)], [], hp I F)) : ∀ n v3 v4 I F, OK 3 mX9_bestCopy true (f_X9_bestCopy_44 v1 v2 ko n v3 v4 I F) (44, [(0, .ref 0), (1, .int v1), (2, .int v2), (3, .int v3), (4, .int v4)], [], hp I F) := by
  intro n
  induction n with
  | zero =>
    intro v3 v4 I F
    exact OK_no
  | succ n ih =>
    intro v3 v4 I F
    rw [f_X9_bestCopy_44]
    refine OK_st 3 okX9_bestCopy (S' := ((if (nI 4) ≤ v4 then 89 else 50), [(0, .ref 0), (1, .int v1), (2, .int v2), (3, .int v3), (4, .int v4)], [], hp I F)) rfl ⟨trivial, trivial, trivial, trivial⟩ ?_
    refine OK_if (fun h1055 => ?_) (fun h1055 => ?_)
    · exact hko v3 v4 I F
    · refine OK_st 6 okX9_bestCopy (S' := (61, [(0, .ref 0), (1, .int v1), (2, .int v2), (3, .int v3), (4, .int v4)], [.int v4, .int v1, .ref 16, .ref 27], hp I F)) rfl ⟨trivial, trivial, trivial, trivial, trivial, trivial, trivial⟩ ?_
      refine OK_cv [.ref 16, .int v1, .int v4] [] okX9_bestCopy okX8_apartFrom rfl rfl cl_RX9_295 rfl rfl (Nat.le_of_ble_eq_true rfl) (by decide) (Nat.le_of_ble_eq_true rfl) (kf_X8_apartFrom v1 v4 I F) (fun r1068 I1069 F1070 => ?_)
      refine OK_st 6 okX9_bestCopy (S' := (74, [(0, .ref 0), (1, .int v1), (2, .int v2), (3, .int v3), (4, .int v4)], [.int v3, .int v1, .ref 16, .ref 27, .int r1068], hp I1069 F1070)) rfl ⟨trivial, trivial, trivial, trivial, trivial, trivial, trivial⟩ ?_
      refine OK_cv [.ref 16, .int v1, .int v3] [.int r1068] okX9_bestCopy okX8_apartFrom rfl rfl cl_RX9_295 rfl rfl (Nat.le_of_ble_eq_true rfl) (by decide) (Nat.le_of_ble_eq_true rfl) (kf_X8_apartFrom v1 v3 I1069 F1070) (fun r1071 I1072 F1073 => ?_)
      refine OK_st 1 okX9_bestCopy (S' := ((if r1071 ≤ r1068 then 83 else 80), [(0, .ref 0), (1, .int v1), (2, .int v2), (3, .int v3), (4, .int v4)], [], hp I1072 F1073)) rfl ⟨trivial, trivial⟩ ?_
      refine OK_if (fun h1074 => ?_) (fun h1074 => ?_)
      · refine OK_st 2 okX9_bestCopy (S' := (44, [(4, .int (v4 + (1 : Int32))), (0, .ref 0), (1, .int v1), (2, .int v2), (3, .int v3)], [], hp I1072 F1073)) rfl ⟨(by decide), trivial, trivial⟩ ?_
        refine OK_pk [1, 2, 3, 4, 0] rfl ?_
        exact ih v3 (v4 + (1 : Int32)) I1072 F1073
      · refine OK_st 4 okX9_bestCopy (S' := (44, [(4, .int (v4 + (1 : Int32))), (3, .int v4), (0, .ref 0), (1, .int v1), (2, .int v2)], [], hp I1072 F1073)) rfl ⟨trivial, (by decide), (by decide), trivial, trivial⟩ ?_
        refine OK_pk [2, 3, 4, 1, 0] rfl ?_
        exact ih v4 (v4 + (1 : Int32)) I1072 F1073

def f_X9_bestCopy (v1 : Int32) (v2 : Int32) (I : AI) (F : AF) : AQ :=
  ab_bd (f_X5_hasLimb v1 I F) (fun r1046 I1047 F1048 =>
    if ¬ r1046 = 0 then
      if v2 = 0 then
        ab_bd (f_X8_lives v1 I1047 F1048) (fun r1051 I1052 F1053 =>
          if ¬ r1051 = 0 then
            f_X9_bestCopy_44 v1 v2 (fun v3_1075 v4_1076 I1077 F1078 =>
              if ¬ v2 = 0 then
                ab_bd (f_X8_apartFrom v1 v3_1075 I1077 F1078) (fun r1080 I1081 F1082 =>
                  some (r1080, I1081, F1082))
              else
                some (v3_1075, I1077, F1078)) ab_fu (0 : Int32) (1 : Int32) I1052 F1053
          else
            some ((-1 : Int32), I1052, F1053))
      else
        if v2 = (1 : Int32) then
          ab_bd (f_X8_lives v1 I1047 F1048) (fun r1084 I1085 F1086 =>
            if ¬ r1084 = 0 then
              f_X9_bestCopy_44 v1 v2 (fun v3_1088 v4_1089 I1090 F1091 =>
                if ¬ v2 = 0 then
                  ab_bd (f_X8_apartFrom v1 v3_1088 I1090 F1091) (fun r1093 I1094 F1095 =>
                    some (r1093, I1094, F1095))
                else
                  some (v3_1088, I1090, F1091)) ab_fu (0 : Int32) (1 : Int32) I1085 F1086
            else
              some ((-1 : Int32), I1085, F1086))
        else
          some ((-1000000002 : Int32), I1047, F1048)
    else
      some ((-1000000001 : Int32), I1047, F1048))
set_option maxRecDepth 20000 in
set_option maxHeartbeats 4000000 in
theorem kf_X9_bestCopy (v1 : Int32) (v2 : Int32) (I : AI) (F : AF) : OK 3 mX9_bestCopy true (f_X9_bestCopy v1 v2 I F) (0, [(0, .ref 0), (1, .int v1), (2, .int v2)], [], hp I F) := by
  rw [f_X9_bestCopy]
  refine OK_st 3 okX9_bestCopy (S' := (5, [(0, .ref 0), (1, .int v1), (2, .int v2)], [.int v1, .ref 16], hp I F)) rfl ⟨trivial, trivial, trivial, trivial⟩ ?_
  refine OK_cv [.int v1] [] okX9_bestCopy okX5_hasLimb rfl rfl cl_RX9_151 rfl rfl (Nat.le_of_ble_eq_true rfl) (by decide) (Nat.le_of_ble_eq_true rfl) (kf_X5_hasLimb v1 I F) (fun r1046 I1047 F1048 => ?_)
  refine OK_st 1 okX9_bestCopy (S' := ((if ¬ r1046 = 0 then 14 else 11), [(0, .ref 0), (1, .int v1), (2, .int v2)], [], hp I1047 F1048)) rfl ⟨trivial, trivial⟩ ?_
  refine OK_if (fun h1049 => ?_) (fun h1049 => ?_)
  · refine OK_st 2 okX9_bestCopy (S' := ((if v2 = 0 then 26 else 18), [(0, .ref 0), (1, .int v1), (2, .int v2)], [], hp I1047 F1048)) rfl ⟨trivial, trivial, trivial⟩ ?_
    refine OK_if (fun h1050 => ?_) (fun h1050 => ?_)
    · refine OK_st 3 okX9_bestCopy (S' := (31, [(0, .ref 0), (1, .int v1), (2, .int v2)], [.int v1, .ref 27], hp I1047 F1048)) rfl ⟨trivial, trivial, trivial, trivial⟩ ?_
      refine OK_cv [.int v1] [] okX9_bestCopy okX8_lives rfl rfl cl_RX9_167 rfl rfl (Nat.le_of_ble_eq_true rfl) (by decide) (Nat.le_of_ble_eq_true rfl) (kf_X8_lives v1 I1047 F1048) (fun r1051 I1052 F1053 => ?_)
      refine OK_st 1 okX9_bestCopy (S' := ((if ¬ r1051 = 0 then 39 else 37), [(0, .ref 0), (1, .int v1), (2, .int v2)], [], hp I1052 F1053)) rfl ⟨trivial, trivial⟩ ?_
      refine OK_if (fun h1054 => ?_) (fun h1054 => ?_)
      · refine OK_st 4 okX9_bestCopy (S' := (44, [(4, .int (1 : Int32)), (3, .int (0 : Int32)), (0, .ref 0), (1, .int v1), (2, .int v2)], [], hp I1052 F1053)) rfl ⟨trivial, (by decide), trivial, (by decide), trivial⟩ ?_
        refine OK_pk [2, 3, 4, 1, 0] rfl ?_
        refine kf_X9_bestCopy_44 v1 v2 _ (fun v3_1075 v4_1076 I1077 F1078 => ?_) ab_fu (0 : Int32) (1 : Int32) I1052 F1053
        refine OK_st 2 okX9_bestCopy (S' := ((if ¬ v2 = 0 then 97 else 93), [(0, .ref 0), (1, .int v1), (2, .int v2), (3, .int v3_1075), (4, .int v4_1076)], [], hp I1077 F1078)) rfl ⟨trivial, trivial, trivial⟩ ?_
        refine OK_if (fun h1079 => ?_) (fun h1079 => ?_)
        · refine OK_st 6 okX9_bestCopy (S' := (107, [(0, .ref 0), (1, .int v1), (2, .int v2), (3, .int v3_1075), (4, .int v4_1076)], [.int v3_1075, .int v1, .ref 16, .ref 27], hp I1077 F1078)) rfl ⟨trivial, trivial, trivial, trivial, trivial, trivial, trivial⟩ ?_
          refine OK_cv [.ref 16, .int v1, .int v3_1075] [] okX9_bestCopy okX8_apartFrom rfl rfl cl_RX9_295 rfl rfl (Nat.le_of_ble_eq_true rfl) (by decide) (Nat.le_of_ble_eq_true rfl) (kf_X8_apartFrom v1 v3_1075 I1077 F1078) (fun r1080 I1081 F1082 => ?_)
          exact OK_ri okX9_bestCopy rfl rfl (Or.inl rfl)
        · refine OK_st 2 okX9_bestCopy (S' := (110, [(0, .ref 0), (1, .int v1), (2, .int v2), (3, .int v3_1075), (4, .int v4_1076)], [.int v3_1075], hp I1077 F1078)) rfl ⟨trivial, trivial, trivial⟩ ?_
          exact OK_ri okX9_bestCopy rfl rfl (Or.inl rfl)
      · refine OK_st 1 okX9_bestCopy (S' := (38, [(0, .ref 0), (1, .int v1), (2, .int v2)], [.int (-1 : Int32)], hp I1052 F1053)) rfl ⟨trivial, trivial⟩ ?_
        exact OK_ri okX9_bestCopy rfl rfl (Or.inl rfl)
    · refine OK_st 3 okX9_bestCopy (S' := ((if v2 = (1 : Int32) then 26 else 23), [(0, .ref 0), (1, .int v1), (2, .int v2)], [], hp I1047 F1048)) rfl ⟨trivial, trivial, trivial, trivial⟩ ?_
      refine OK_if (fun h1083 => ?_) (fun h1083 => ?_)
      · refine OK_st 3 okX9_bestCopy (S' := (31, [(0, .ref 0), (1, .int v1), (2, .int v2)], [.int v1, .ref 27], hp I1047 F1048)) rfl ⟨trivial, trivial, trivial, trivial⟩ ?_
        refine OK_cv [.int v1] [] okX9_bestCopy okX8_lives rfl rfl cl_RX9_167 rfl rfl (Nat.le_of_ble_eq_true rfl) (by decide) (Nat.le_of_ble_eq_true rfl) (kf_X8_lives v1 I1047 F1048) (fun r1084 I1085 F1086 => ?_)
        refine OK_st 1 okX9_bestCopy (S' := ((if ¬ r1084 = 0 then 39 else 37), [(0, .ref 0), (1, .int v1), (2, .int v2)], [], hp I1085 F1086)) rfl ⟨trivial, trivial⟩ ?_
        refine OK_if (fun h1087 => ?_) (fun h1087 => ?_)
        · refine OK_st 4 okX9_bestCopy (S' := (44, [(4, .int (1 : Int32)), (3, .int (0 : Int32)), (0, .ref 0), (1, .int v1), (2, .int v2)], [], hp I1085 F1086)) rfl ⟨trivial, (by decide), trivial, (by decide), trivial⟩ ?_
          refine OK_pk [2, 3, 4, 1, 0] rfl ?_
          refine kf_X9_bestCopy_44 v1 v2 _ (fun v3_1088 v4_1089 I1090 F1091 => ?_) ab_fu (0 : Int32) (1 : Int32) I1085 F1086
          refine OK_st 2 okX9_bestCopy (S' := ((if ¬ v2 = 0 then 97 else 93), [(0, .ref 0), (1, .int v1), (2, .int v2), (3, .int v3_1088), (4, .int v4_1089)], [], hp I1090 F1091)) rfl ⟨trivial, trivial, trivial⟩ ?_
          refine OK_if (fun h1092 => ?_) (fun h1092 => ?_)
          · refine OK_st 6 okX9_bestCopy (S' := (107, [(0, .ref 0), (1, .int v1), (2, .int v2), (3, .int v3_1088), (4, .int v4_1089)], [.int v3_1088, .int v1, .ref 16, .ref 27], hp I1090 F1091)) rfl ⟨trivial, trivial, trivial, trivial, trivial, trivial, trivial⟩ ?_
            refine OK_cv [.ref 16, .int v1, .int v3_1088] [] okX9_bestCopy okX8_apartFrom rfl rfl cl_RX9_295 rfl rfl (Nat.le_of_ble_eq_true rfl) (by decide) (Nat.le_of_ble_eq_true rfl) (kf_X8_apartFrom v1 v3_1088 I1090 F1091) (fun r1093 I1094 F1095 => ?_)
            exact OK_ri okX9_bestCopy rfl rfl (Or.inl rfl)
          · refine OK_st 2 okX9_bestCopy (S' := (110, [(0, .ref 0), (1, .int v1), (2, .int v2), (3, .int v3_1088), (4, .int v4_1089)], [.int v3_1088], hp I1090 F1091)) rfl ⟨trivial, trivial, trivial⟩ ?_
            exact OK_ri okX9_bestCopy rfl rfl (Or.inl rfl)
        · refine OK_st 1 okX9_bestCopy (S' := (38, [(0, .ref 0), (1, .int v1), (2, .int v2)], [.int (-1 : Int32)], hp I1085 F1086)) rfl ⟨trivial, trivial⟩ ?_
          exact OK_ri okX9_bestCopy rfl rfl (Or.inl rfl)
      · refine OK_st 1 okX9_bestCopy (S' := (25, [(0, .ref 0), (1, .int v1), (2, .int v2)], [.int (-1000000002 : Int32)], hp I1047 F1048)) rfl ⟨trivial, trivial⟩ ?_
        exact OK_ri okX9_bestCopy rfl rfl (Or.inl rfl)
  · refine OK_st 1 okX9_bestCopy (S' := (13, [(0, .ref 0), (1, .int v1), (2, .int v2)], [.int (-1000000001 : Int32)], hp I1047 F1048)) rfl ⟨trivial, trivial⟩ ?_
    exact OK_ri okX9_bestCopy rfl rfl (Or.inl rfl)

def f_X9_nearest_21 (v1 : Int32) (ko : Int32 → Int32 → Int32 → AI → AF → AQ) : Nat → Int32 → Int32 → Int32 → AI → AF → AQ
  | 0, _, _, _, _, _ => none
  | n + 1, v2, v3, v4, I, F =>
    if (I 9) ≤ v4 then
      ko v2 v3 v4 I F
    else
      ab_bd (f_X8_measureNow v4 I F) (fun r1099 I1100 F1101 =>
        ab_lt (if 0 ≤ (r1099 - v1) then (r1099 - v1) else 0 - (r1099 - v1)) (fun x1102 =>
          if v2 = (-1 : Int32) then
            f_X9_nearest_21 v1 ko n v4 x1102 (v4 + (1 : Int32)) I1100 F1101
          else
            if v3 ≤ x1102 then
              f_X9_nearest_21 v1 ko n v2 v3 (v4 + (1 : Int32)) I1100 F1101
            else
              f_X9_nearest_21 v1 ko n v4 x1102 (v4 + (1 : Int32)) I1100 F1101))
set_option maxRecDepth 20000 in
set_option maxHeartbeats 4000000 in
theorem kf_X9_nearest_21 (v1 : Int32) (ko : Int32 → Int32 → Int32 → AI → AF → AQ) (hko : ∀ v2 v3 v4 I F, OK 4 mX9_nearest true (ko v2 v3 v4 I F) (76, [(0, .ref 0), (1, .int v1), (2, .int v2), (3, .int v3), (4, .int v4)], [], hp I F)) : ∀ n v2 v3 v4 I F, OK 4 mX9_nearest true (f_X9_nearest_21 v1 ko n v2 v3 v4 I F) (21, [(0, .ref 0), (1, .int v1), (2, .int v2), (3, .int v3), (4, .int v4)], [], hp I F) := by
  intro n
  induction n with
  | zero =>
    intro v2 v3 v4 I F
    exact OK_no
  | succ n ih =>
    intro v2 v3 v4 I F
    rw [f_X9_nearest_21]
    refine OK_st 5 okX9_nearest (S' := ((if (I 9) ≤ v4 then 76 else 33), [(0, .ref 0), (1, .int v1), (2, .int v2), (3, .int v3), (4, .int v4)], [], hp I F)) rfl ⟨trivial, trivial, trivial, trivial, trivial, trivial⟩ ?_
    refine OK_if (fun h1098 => ?_) (fun h1098 => ?_)
    · exact hko v2 v3 v4 I F
    · refine OK_st 5 okX9_nearest (S' := (43, [(0, .ref 0), (1, .int v1), (2, .int v2), (3, .int v3), (4, .int v4)], [.int v4, .ref 16, .ref 27], hp I F)) rfl ⟨trivial, trivial, trivial, trivial, trivial, trivial⟩ ?_
      refine OK_cv [.ref 16, .int v4] [] okX9_nearest okX8_measureNow rfl rfl cl_RX9_159 rfl rfl (Nat.le_of_ble_eq_true rfl) (by decide) (Nat.le_of_ble_eq_true rfl) (kf_X8_measureNow v4 I F) (fun r1099 I1100 F1101 => ?_)
      refine OK_st 4 okX9_nearest (S' := (53, [(5, .int (if 0 ≤ (r1099 - v1) then (r1099 - v1) else 0 - (r1099 - v1))), (0, .ref 0), (1, .int v1), (2, .int v2), (3, .int v3), (4, .int v4)], [], hp I1100 F1101)) rfl ⟨trivial, trivial, (Nat.le_of_ble_eq_true rfl), (by decide), trivial⟩ ?_
      refine OK_lt (fun x1102 => (53, [(5, .int x1102), (0, .ref 0), (1, .int v1), (2, .int v2), (3, .int v3), (4, .int v4)], [], hp I1100 F1101)) (fun x1102 => ?_)
      refine OK_st 3 okX9_nearest (S' := ((if v2 = (-1 : Int32) then 64 else 58), [(5, .int x1102), (0, .ref 0), (1, .int v1), (2, .int v2), (3, .int v3), (4, .int v4)], [], hp I1100 F1101)) rfl ⟨trivial, trivial, trivial, trivial⟩ ?_
      refine OK_if (fun h1103 => ?_) (fun h1103 => ?_)
      · refine OK_st 6 okX9_nearest (S' := (21, [(4, .int (v4 + (1 : Int32))), (3, .int x1102), (2, .int v4), (5, .int x1102), (0, .ref 0), (1, .int v1)], [], hp I1100 F1101)) rfl ⟨trivial, (by decide), trivial, (by decide), (by decide), trivial, trivial⟩ ?_
        refine OK_pk [4, 5, 2, 1, 0] rfl ?_
        exact ih v4 x1102 (v4 + (1 : Int32)) I1100 F1101
      · refine OK_st 3 okX9_nearest (S' := ((if v3 ≤ x1102 then 70 else 64), [(5, .int x1102), (0, .ref 0), (1, .int v1), (2, .int v2), (3, .int v3), (4, .int v4)], [], hp I1100 F1101)) rfl ⟨trivial, trivial, trivial, trivial⟩ ?_
        refine OK_if (fun h1104 => ?_) (fun h1104 => ?_)
        · refine OK_st 2 okX9_nearest (S' := (21, [(4, .int (v4 + (1 : Int32))), (5, .int x1102), (0, .ref 0), (1, .int v1), (2, .int v2), (3, .int v3)], [], hp I1100 F1101)) rfl ⟨(by decide), trivial, trivial⟩ ?_
          refine OK_pk [2, 3, 4, 5, 0] rfl ?_
          exact ih v2 v3 (v4 + (1 : Int32)) I1100 F1101
        · refine OK_st 6 okX9_nearest (S' := (21, [(4, .int (v4 + (1 : Int32))), (3, .int x1102), (2, .int v4), (5, .int x1102), (0, .ref 0), (1, .int v1)], [], hp I1100 F1101)) rfl ⟨trivial, (by decide), trivial, (by decide), (by decide), trivial, trivial⟩ ?_
          refine OK_pk [4, 5, 2, 1, 0] rfl ?_
          exact ih v4 x1102 (v4 + (1 : Int32)) I1100 F1101

def f_X9_nearest (v1 : Int32) (I : AI) (F : AF) : AQ :=
  if v1 < 0 then
    some ((-1000000002 : Int32), I, F)
  else
    if v1 ≤ (nI 999) then
      f_X9_nearest_21 v1 (fun v2_1105 v3_1106 v4_1107 I1108 F1109 =>
        some (v2_1105, I1108, F1109)) ab_fu (-1 : Int32) (0 : Int32) (0 : Int32) I F
    else
      some ((-1000000002 : Int32), I, F)
set_option maxRecDepth 20000 in
set_option maxHeartbeats 4000000 in
theorem kf_X9_nearest (v1 : Int32) (I : AI) (F : AF) : OK 4 mX9_nearest true (f_X9_nearest v1 I F) (0, [(0, .ref 0), (1, .int v1)], [], hp I F) := by
  rw [f_X9_nearest]
  refine OK_st 2 okX9_nearest (S' := ((if v1 < 0 then 11 else 4), [(0, .ref 0), (1, .int v1)], [], hp I F)) rfl ⟨trivial, trivial, trivial⟩ ?_
  refine OK_if (fun h1096 => ?_) (fun h1096 => ?_)
  · refine OK_st 1 okX9_nearest (S' := (13, [(0, .ref 0), (1, .int v1)], [.int (-1000000002 : Int32)], hp I F)) rfl ⟨trivial, trivial⟩ ?_
    exact OK_ri okX9_nearest rfl rfl (Or.inl rfl)
  · refine OK_st 3 okX9_nearest (S' := ((if v1 ≤ (nI 999) then 14 else 11), [(0, .ref 0), (1, .int v1)], [], hp I F)) rfl ⟨trivial, trivial, trivial, trivial⟩ ?_
    refine OK_if (fun h1097 => ?_) (fun h1097 => ?_)
    · refine OK_st 6 okX9_nearest (S' := (21, [(4, .int (0 : Int32)), (3, .int (0 : Int32)), (2, .int (-1 : Int32)), (0, .ref 0), (1, .int v1)], [], hp I F)) rfl ⟨trivial, (by decide), trivial, (by decide), trivial, (by decide), trivial⟩ ?_
      refine OK_pk [3, 4, 2, 1, 0] rfl ?_
      refine kf_X9_nearest_21 v1 _ (fun v2_1105 v3_1106 v4_1107 I1108 F1109 => ?_) ab_fu (-1 : Int32) (0 : Int32) (0 : Int32) I F
      refine OK_st 1 okX9_nearest (S' := (77, [(0, .ref 0), (1, .int v1), (2, .int v2_1105), (3, .int v3_1106), (4, .int v4_1107)], [.int v2_1105], hp I1108 F1109)) rfl ⟨trivial, trivial⟩ ?_
      exact OK_ri okX9_nearest rfl rfl (Or.inl rfl)
    · refine OK_st 1 okX9_nearest (S' := (13, [(0, .ref 0), (1, .int v1)], [.int (-1000000002 : Int32)], hp I F)) rfl ⟨trivial, trivial⟩ ?_
      exact OK_ri okX9_nearest rfl rfl (Or.inl rfl)

def f_X9_odds_61 (v2 : Int32) (w4 : Int64) (ko : Int64 → Int32 → AI → AF → AQ) : Nat → Int64 → Int32 → AI → AF → AQ
  | 0, _, _, _, _ => none
  | n + 1, w6, v8, I, F =>
    if v2 ≤ v8 then
      ko w6 v8 I F
    else
      f_X9_odds_61 v2 w4 ko n ((w6 * w4) / (100 : Int64)) (v8 + (1 : Int32)) I F
set_option maxRecDepth 20000 in
set_option maxHeartbeats 4000000 in
theorem kf_X9_odds_61 (v2 : Int32) (w4 : Int64) (ko : Int64 → Int32 → AI → AF → AQ) (hko : ∀ w6 v8 I F, OK 1 mX9_odds true (ko w6 v8 I F) (84, [(2, .int v2), (4, .long w4), (6, .long w6), (8, .int v8)], [], hp I F)) : ∀ n w6 v8 I F, OK 1 mX9_odds true (f_X9_odds_61 v2 w4 ko n w6 v8 I F) (61, [(2, .int v2), (4, .long w4), (6, .long w6), (8, .int v8)], [], hp I F) := by
  intro n
  induction n with
  | zero =>
    intro w6 v8 I F
    exact OK_no
  | succ n ih =>
    intro w6 v8 I F
    rw [f_X9_odds_61]
    refine OK_st 3 okX9_odds (S' := ((if v2 ≤ v8 then 84 else 67), [(2, .int v2), (4, .long w4), (6, .long w6), (8, .int v8)], [], hp I F)) rfl ⟨trivial, trivial, trivial, trivial⟩ ?_
    refine OK_if (fun h1118 => ?_) (fun h1118 => ?_)
    · exact hko w6 v8 I F
    · refine OK_st 8 okX9_odds (S' := (61, [(8, .int (v8 + (1 : Int32))), (6, .long ((w6 * w4) / (100 : Int64))), (2, .int v2), (4, .long w4)], [], hp I F)) rfl ⟨trivial, trivial, trivial, trivial, (by decide), (by decide), (by decide), trivial, trivial⟩ ?_
      refine OK_pk [2, 3, 1, 0] rfl ?_
      exact ih ((w6 * w4) / (100 : Int64)) (v8 + (1 : Int32)) I F

def f_X9_odds (v1 : Int32) (v2 : Int32) (v3 : Int32) (I : AI) (F : AF) : AQ :=
  ab_bd (f_X5_hasLimb v1 I F) (fun r1110 I1111 F1112 =>
    if ¬ r1110 = 0 then
      if v2 < 0 then
        some ((-1000000002 : Int32), I1111, F1112)
      else
        if (nI 60) < v2 then
          some ((-1000000002 : Int32), I1111, F1112)
        else
          if v3 < 0 then
            some ((-1000000002 : Int32), I1111, F1112)
          else
            if v3 ≤ (nI 100) then
              f_X9_odds_61 v2 (((nI 100) - (if (v3 + ((nI 2) * v1)) < (nI 100) then (v3 + ((nI 2) * v1)) else (nI 100))).toInt64) (fun w6_1119 v8_1120 I1121 F1122 =>
                some (w6_1119.toInt32, I1121, F1122)) ab_fu (1000000000 : Int64) (0 : Int32) I1111 F1112
            else
              some ((-1000000002 : Int32), I1111, F1112)
    else
      some ((-1000000001 : Int32), I1111, F1112))
set_option maxRecDepth 20000 in
set_option maxHeartbeats 4000000 in
theorem kf_X9_odds (v1 : Int32) (v2 : Int32) (v3 : Int32) (I : AI) (F : AF) : OK 1 mX9_odds true (f_X9_odds v1 v2 v3 I F) (0, [(0, .ref 0), (1, .int v1), (2, .int v2), (3, .int v3)], [], hp I F) := by
  rw [f_X9_odds]
  refine OK_st 3 okX9_odds (S' := (5, [(0, .ref 0), (1, .int v1), (2, .int v2), (3, .int v3)], [.int v1, .ref 16], hp I F)) rfl ⟨trivial, trivial, trivial, trivial⟩ ?_
  refine OK_cv [.int v1] [] okX9_odds okX5_hasLimb rfl rfl cl_RX9_151 rfl rfl (Nat.le_of_ble_eq_true rfl) (by decide) (Nat.le_of_ble_eq_true rfl) (kf_X5_hasLimb v1 I F) (fun r1110 I1111 F1112 => ?_)
  refine OK_st 1 okX9_odds (S' := ((if ¬ r1110 = 0 then 14 else 11), [(0, .ref 0), (1, .int v1), (2, .int v2), (3, .int v3)], [], hp I1111 F1112)) rfl ⟨trivial, trivial⟩ ?_
  refine OK_if (fun h1113 => ?_) (fun h1113 => ?_)
  · refine OK_st 2 okX9_odds (S' := ((if v2 < 0 then 34 else 18), [(0, .ref 0), (1, .int v1), (2, .int v2), (3, .int v3)], [], hp I1111 F1112)) rfl ⟨trivial, trivial, trivial⟩ ?_
    refine OK_if (fun h1114 => ?_) (fun h1114 => ?_)
    · refine OK_st 1 okX9_odds (S' := (36, [(0, .ref 0), (1, .int v1), (2, .int v2), (3, .int v3)], [.int (-1000000002 : Int32)], hp I1111 F1112)) rfl ⟨trivial, trivial⟩ ?_
      exact OK_ri okX9_odds rfl rfl (Or.inl rfl)
    · refine OK_st 3 okX9_odds (S' := ((if (nI 60) < v2 then 34 else 24), [(0, .ref 0), (1, .int v1), (2, .int v2), (3, .int v3)], [], hp I1111 F1112)) rfl ⟨trivial, trivial, trivial, trivial⟩ ?_
      refine OK_if (fun h1115 => ?_) (fun h1115 => ?_)
      · refine OK_st 1 okX9_odds (S' := (36, [(0, .ref 0), (1, .int v1), (2, .int v2), (3, .int v3)], [.int (-1000000002 : Int32)], hp I1111 F1112)) rfl ⟨trivial, trivial⟩ ?_
        exact OK_ri okX9_odds rfl rfl (Or.inl rfl)
      · refine OK_st 2 okX9_odds (S' := ((if v3 < 0 then 34 else 28), [(0, .ref 0), (1, .int v1), (2, .int v2), (3, .int v3)], [], hp I1111 F1112)) rfl ⟨trivial, trivial, trivial⟩ ?_
        refine OK_if (fun h1116 => ?_) (fun h1116 => ?_)
        · refine OK_st 1 okX9_odds (S' := (36, [(0, .ref 0), (1, .int v1), (2, .int v2), (3, .int v3)], [.int (-1000000002 : Int32)], hp I1111 F1112)) rfl ⟨trivial, trivial⟩ ?_
          exact OK_ri okX9_odds rfl rfl (Or.inl rfl)
        · refine OK_st 3 okX9_odds (S' := ((if v3 ≤ (nI 100) then 37 else 34), [(0, .ref 0), (1, .int v1), (2, .int v2), (3, .int v3)], [], hp I1111 F1112)) rfl ⟨trivial, trivial, trivial, trivial⟩ ?_
          refine OK_if (fun h1117 => ?_) (fun h1117 => ?_)
          · refine OK_st 15 okX9_odds (S' := (61, [(8, .int (0 : Int32)), (6, .long (1000000000 : Int64)), (4, .long ((nI 100) - (if (v3 + ((nI 2) * v1)) < (nI 100) then (v3 + ((nI 2) * v1)) else (nI 100))).toInt64), (0, .ref 0), (1, .int v1), (2, .int v2), (3, .int v3)], [], hp I1111 F1112)) rfl ⟨trivial, trivial, trivial, trivial, trivial, trivial, trivial, (Nat.le_of_ble_eq_true rfl), trivial, trivial, (by decide), trivial, (by decide), trivial, (by decide), trivial⟩ ?_
            refine OK_pk [5, 2, 1, 0] rfl ?_
            refine kf_X9_odds_61 v2 (((nI 100) - (if (v3 + ((nI 2) * v1)) < (nI 100) then (v3 + ((nI 2) * v1)) else (nI 100))).toInt64) _ (fun w6_1119 v8_1120 I1121 F1122 => ?_) ab_fu (1000000000 : Int64) (0 : Int32) I1111 F1112
            refine OK_st 2 okX9_odds (S' := (87, [(2, .int v2), (4, .long ((nI 100) - (if (v3 + ((nI 2) * v1)) < (nI 100) then (v3 + ((nI 2) * v1)) else (nI 100))).toInt64), (6, .long w6_1119), (8, .int v8_1120)], [.int w6_1119.toInt32], hp I1121 F1122)) rfl ⟨trivial, trivial, trivial⟩ ?_
            exact OK_ri okX9_odds rfl rfl (Or.inl rfl)
          · refine OK_st 1 okX9_odds (S' := (36, [(0, .ref 0), (1, .int v1), (2, .int v2), (3, .int v3)], [.int (-1000000002 : Int32)], hp I1111 F1112)) rfl ⟨trivial, trivial⟩ ?_
            exact OK_ri okX9_odds rfl rfl (Or.inl rfl)
  · refine OK_st 1 okX9_odds (S' := (13, [(0, .ref 0), (1, .int v1), (2, .int v2), (3, .int v3)], [.int (-1000000001 : Int32)], hp I1111 F1112)) rfl ⟨trivial, trivial⟩ ?_
    exact OK_ri okX9_odds rfl rfl (Or.inl rfl)

def f_X3_addGot (v1 : Int32) (v2 : Int32) (I : AI) (F : AF) : AQ :=
  if (nI 8) ≤ (I 15) then
    some ((I 15), I, F)
  else
    bif ab_vin (I 15) 8 then
      bif ab_vin (I 15) 8 then
        ab_lt (va_up I 15 ((I 15) + (1 : Int32))) (fun I1131 =>
          ab_lt (va_up (va_up F 25 (upd (F 25) (I 15).toNatClampNeg v1)) 26 (upd (F 26) (I 15).toNatClampNeg v2)) (fun F1132 =>
            some ((I1131 15), I1131, F1132)))
      else none
    else none
set_option maxRecDepth 20000 in
set_option maxHeartbeats 4000000 in
theorem kf_X3_addGot (v1 : Int32) (v2 : Int32) (I : AI) (F : AF) : OK 0 mX3_addGot true (f_X3_addGot v1 v2 I F) (0, [(0, .ref 32), (1, .int v1), (2, .int v2)], [], hp I F) := by
  rw [f_X3_addGot]
  refine OK_st 4 okX3_addGot (S' := ((if (nI 8) ≤ (I 15) then 39 else 9), [(0, .ref 32), (1, .int v1), (2, .int v2)], [], hp I F)) rfl ⟨trivial, trivial, trivial, trivial, trivial⟩ ?_
  refine OK_if (fun h1128 => ?_) (fun h1128 => ?_)
  · refine OK_st 2 okX3_addGot (S' := (43, [(0, .ref 32), (1, .int v1), (2, .int v2)], [.int (I 15)], hp I F)) rfl ⟨trivial, trivial, trivial⟩ ?_
    exact OK_ri okX3_addGot rfl rfl (Or.inl rfl)
  · refine OK_gd (fun g1129 => ?_)
    refine OK_gd (fun g1130 => ?_)
    refine OK_st 18 okX3_addGot (S' := (39, [(0, .ref 32), (1, .int v1), (2, .int v2)], [], hp (va_up I 15 ((I 15) + (1 : Int32))) (va_up (va_up F 25 (upd (F 25) (I 15).toNatClampNeg v1)) 26 (upd (F 26) (I 15).toNatClampNeg v2)))) rfl ⟨trivial, trivial, trivial, trivial, trivial, (ab_vo g1129), trivial, trivial, trivial, trivial, trivial, (ab_vo g1130), trivial, rfl, trivial, trivial, trivial, trivial, trivial⟩ ?_
    refine OK_lt (fun I1131 => (39, [(0, .ref 32), (1, .int v1), (2, .int v2)], [], hp I1131 (va_up (va_up F 25 (upd (F 25) (I 15).toNatClampNeg v1)) 26 (upd (F 26) (I 15).toNatClampNeg v2)))) (fun I1131 => ?_)
    refine OK_lt (fun F1132 => (39, [(0, .ref 32), (1, .int v1), (2, .int v2)], [], hp I1131 F1132)) (fun F1132 => ?_)
    refine OK_st 2 okX3_addGot (S' := (43, [(0, .ref 32), (1, .int v1), (2, .int v2)], [.int (I1131 15)], hp I1131 F1132)) rfl ⟨trivial, trivial, trivial⟩ ?_
    exact OK_ri okX3_addGot rfl rfl (Or.inl rfl)

def f_X9_got (v1 : Int32) (v2 : Int32) (I : AI) (F : AF) : AQ :=
  if v1 < (1 : Int32) then
    some ((-1000000002 : Int32), I, F)
  else
    if (nI 50) < v1 then
      some ((-1000000002 : Int32), I, F)
    else
      if v2 < 0 then
        some ((-1000000002 : Int32), I, F)
      else
        if v2 ≤ (nI 9999) then
          if (I 15) < (nI 8) then
            ab_bd (f_X3_addGot v1 v2 I F) (fun r1133 I1134 F1135 =>
              some (r1133, I1134, F1135))
          else
            some ((-1000000004 : Int32), I, F)
        else
          some ((-1000000002 : Int32), I, F)
set_option maxRecDepth 20000 in
set_option maxHeartbeats 4000000 in
theorem kf_X9_got (v1 : Int32) (v2 : Int32) (I : AI) (F : AF) : OK 1 mX9_got true (f_X9_got v1 v2 I F) (0, [(0, .ref 0), (1, .int v1), (2, .int v2)], [], hp I F) := by
  rw [f_X9_got]
  refine OK_st 3 okX9_got (S' := ((if v1 < (1 : Int32) then 22 else 5), [(0, .ref 0), (1, .int v1), (2, .int v2)], [], hp I F)) rfl ⟨trivial, trivial, trivial, trivial⟩ ?_
  refine OK_if (fun h1123 => ?_) (fun h1123 => ?_)
  · refine OK_st 1 okX9_got (S' := (24, [(0, .ref 0), (1, .int v1), (2, .int v2)], [.int (-1000000002 : Int32)], hp I F)) rfl ⟨trivial, trivial⟩ ?_
    exact OK_ri okX9_got rfl rfl (Or.inl rfl)
  · refine OK_st 3 okX9_got (S' := ((if (nI 50) < v1 then 22 else 11), [(0, .ref 0), (1, .int v1), (2, .int v2)], [], hp I F)) rfl ⟨trivial, trivial, trivial, trivial⟩ ?_
    refine OK_if (fun h1124 => ?_) (fun h1124 => ?_)
    · refine OK_st 1 okX9_got (S' := (24, [(0, .ref 0), (1, .int v1), (2, .int v2)], [.int (-1000000002 : Int32)], hp I F)) rfl ⟨trivial, trivial⟩ ?_
      exact OK_ri okX9_got rfl rfl (Or.inl rfl)
    · refine OK_st 2 okX9_got (S' := ((if v2 < 0 then 22 else 15), [(0, .ref 0), (1, .int v1), (2, .int v2)], [], hp I F)) rfl ⟨trivial, trivial, trivial⟩ ?_
      refine OK_if (fun h1125 => ?_) (fun h1125 => ?_)
      · refine OK_st 1 okX9_got (S' := (24, [(0, .ref 0), (1, .int v1), (2, .int v2)], [.int (-1000000002 : Int32)], hp I F)) rfl ⟨trivial, trivial⟩ ?_
        exact OK_ri okX9_got rfl rfl (Or.inl rfl)
      · refine OK_st 3 okX9_got (S' := ((if v2 ≤ (nI 9999) then 25 else 22), [(0, .ref 0), (1, .int v1), (2, .int v2)], [], hp I F)) rfl ⟨trivial, trivial, trivial, trivial⟩ ?_
        refine OK_if (fun h1126 => ?_) (fun h1126 => ?_)
        · refine OK_st 5 okX9_got (S' := ((if (I 15) < (nI 8) then 40 else 37), [(0, .ref 0), (1, .int v1), (2, .int v2)], [], hp I F)) rfl ⟨trivial, trivial, trivial, trivial, trivial, trivial⟩ ?_
          refine OK_if (fun h1127 => ?_) (fun h1127 => ?_)
          · refine OK_st 4 okX9_got (S' := (46, [(0, .ref 0), (1, .int v1), (2, .int v2)], [.int v2, .int v1, .ref 32], hp I F)) rfl ⟨trivial, trivial, trivial, trivial, trivial⟩ ?_
            refine OK_cv [.int v1, .int v2] [] okX9_got okX3_addGot rfl rfl cl_RX9_305 rfl rfl (Nat.le_of_ble_eq_true rfl) (by decide) (Nat.le_of_ble_eq_true rfl) (kf_X3_addGot v1 v2 I F) (fun r1133 I1134 F1135 => ?_)
            exact OK_ri okX9_got rfl rfl (Or.inl rfl)
          · refine OK_st 1 okX9_got (S' := (39, [(0, .ref 0), (1, .int v1), (2, .int v2)], [.int (-1000000004 : Int32)], hp I F)) rfl ⟨trivial, trivial⟩ ?_
            exact OK_ri okX9_got rfl rfl (Or.inl rfl)
        · refine OK_st 1 okX9_got (S' := (24, [(0, .ref 0), (1, .int v1), (2, .int v2)], [.int (-1000000002 : Int32)], hp I F)) rfl ⟨trivial, trivial⟩ ?_
          exact OK_ri okX9_got rfl rfl (Or.inl rfl)

def f_X3_fitsAll_2 (v1 : Int32) (ko : Int32 → AI → AF → AQ) : Nat → Int32 → AI → AF → AQ
  | 0, _, _, _ => none
  | n + 1, v2, I, F =>
    if (I 15) ≤ v2 then
      ko v2 I F
    else
      bif ab_vin v2 8 then
        bif ab_vin v2 8 then
          if (((F 25) v2.toNatClampNeg) * v1) = ((F 26) v2.toNatClampNeg) then
            f_X3_fitsAll_2 v1 ko n (v2 + (1 : Int32)) I F
          else
            some ((0 : Int32), I, F)
        else none
      else none
set_option maxRecDepth 20000 in
set_option maxHeartbeats 4000000 in
theorem kf_X3_fitsAll_2 (v1 : Int32) (ko : Int32 → AI → AF → AQ) (hko : ∀ v2 I F, OK 0 mX3_fitsAll true (ko v2 I F) (35, [(0, .ref 32), (1, .int v1), (2, .int v2)], [], hp I F)) : ∀ n v2 I F, OK 0 mX3_fitsAll true (f_X3_fitsAll_2 v1 ko n v2 I F) (2, [(0, .ref 32), (1, .int v1), (2, .int v2)], [], hp I F) := by
  intro n
  induction n with
  | zero =>
    intro v2 I F
    exact OK_no
  | succ n ih =>
    intro v2 I F
    rw [f_X3_fitsAll_2]
    refine OK_st 4 okX3_fitsAll (S' := ((if (I 15) ≤ v2 then 35 else 10), [(0, .ref 32), (1, .int v1), (2, .int v2)], [], hp I F)) rfl ⟨trivial, trivial, trivial, trivial, trivial⟩ ?_
    refine OK_if (fun h1140 => ?_) (fun h1140 => ?_)
    · exact hko v2 I F
    · refine OK_gd (fun g1141 => ?_)
      refine OK_gd (fun g1142 => ?_)
      refine OK_st 11 okX3_fitsAll (S' := ((if (((F 25) v2.toNatClampNeg) * v1) = ((F 26) v2.toNatClampNeg) then 29 else 27), [(0, .ref 32), (1, .int v1), (2, .int v2)], [], hp I F)) rfl ⟨trivial, trivial, trivial, (ab_vo g1141), trivial, trivial, trivial, trivial, trivial, (ab_vo g1142), trivial, trivial⟩ ?_
      refine OK_if (fun h1143 => ?_) (fun h1143 => ?_)
      · refine OK_st 2 okX3_fitsAll (S' := (2, [(2, .int (v2 + (1 : Int32))), (0, .ref 32), (1, .int v1)], [], hp I F)) rfl ⟨(by decide), trivial, trivial⟩ ?_
        refine OK_pk [1, 2, 0] rfl ?_
        exact ih (v2 + (1 : Int32)) I F
      · refine OK_st 1 okX3_fitsAll (S' := (28, [(0, .ref 32), (1, .int v1), (2, .int v2)], [.int (0 : Int32)], hp I F)) rfl ⟨trivial, trivial⟩ ?_
        exact OK_ri okX3_fitsAll rfl rfl (Or.inr ⟨rfl, Or.inl rfl⟩)

def f_X3_fitsAll (v1 : Int32) (I : AI) (F : AF) : AQ :=
  f_X3_fitsAll_2 v1 (fun v2_1144 I1145 F1146 =>
    some ((1 : Int32), I1145, F1146)) ab_fu (0 : Int32) I F
set_option maxRecDepth 20000 in
set_option maxHeartbeats 4000000 in
theorem kf_X3_fitsAll (v1 : Int32) (I : AI) (F : AF) : OK 0 mX3_fitsAll true (f_X3_fitsAll v1 I F) (0, [(0, .ref 32), (1, .int v1)], [], hp I F) := by
  rw [f_X3_fitsAll]
  refine OK_st 2 okX3_fitsAll (S' := (2, [(2, .int (0 : Int32)), (0, .ref 32), (1, .int v1)], [], hp I F)) rfl ⟨trivial, (by decide), trivial⟩ ?_
  refine OK_pk [1, 2, 0] rfl ?_
  refine kf_X3_fitsAll_2 v1 _ (fun v2_1144 I1145 F1146 => ?_) ab_fu (0 : Int32) I F
  refine OK_st 1 okX3_fitsAll (S' := (36, [(0, .ref 32), (1, .int v1), (2, .int v2_1144)], [.int (1 : Int32)], hp I1145 F1146)) rfl ⟨trivial, trivial⟩ ?_
  exact OK_ri okX3_fitsAll rfl rfl (Or.inr ⟨rfl, Or.inr rfl⟩)

def f_X3_fitting_5 (ko : Int32 → Int32 → AI → AF → AQ) : Nat → Int32 → Int32 → AI → AF → AQ
  | 0, _, _, _, _ => none
  | n + 1, v3, v4, I, F =>
    if (I 9) ≤ v4 then
      ko v3 v4 I F
    else
      ab_bd (f_X8_measureNow v4 I F) (fun r1137 I1138 F1139 =>
        ab_bd (f_X3_fitsAll r1137 I1138 F1139) (fun r1147 I1148 F1149 =>
          if r1147 = 0 then
            f_X3_fitting_5 ko n v3 (v4 + (1 : Int32)) I1148 F1149
          else
            ab_lt (v3 ||| ((1 : Int32) <<< (v4 &&& 31))) (fun x1151 =>
              f_X3_fitting_5 ko n x1151 (v4 + (1 : Int32)) I1148 F1149)))
set_option maxRecDepth 20000 in
set_option maxHeartbeats 4000000 in
theorem kf_X3_fitting_5 (ko : Int32 → Int32 → AI → AF → AQ) (hko : ∀ v3 v4 I F, OK 4 mX3_fitting true (ko v3 v4 I F) (41, [(0, .ref 32), (1, .ref 16), (2, .ref 27), (3, .int v3), (4, .int v4)], [], hp I F)) : ∀ n v3 v4 I F, OK 4 mX3_fitting true (f_X3_fitting_5 ko n v3 v4 I F) (5, [(0, .ref 32), (1, .ref 16), (2, .ref 27), (3, .int v3), (4, .int v4)], [], hp I F) := by
  intro n
  induction n with
  | zero =>
    intro v3 v4 I F
    exact OK_no
  | succ n ih =>
    intro v3 v4 I F
    rw [f_X3_fitting_5]
    refine OK_st 4 okX3_fitting (S' := ((if (I 9) ≤ v4 then 41 else 14), [(0, .ref 32), (1, .ref 16), (2, .ref 27), (3, .int v3), (4, .int v4)], [], hp I F)) rfl ⟨trivial, trivial, trivial, trivial, trivial⟩ ?_
    refine OK_if (fun h1136 => ?_) (fun h1136 => ?_)
    · exact hko v3 v4 I F
    · refine OK_st 4 okX3_fitting (S' := (19, [(0, .ref 32), (1, .ref 16), (2, .ref 27), (3, .int v3), (4, .int v4)], [.int v4, .ref 16, .ref 27, .ref 32], hp I F)) rfl ⟨trivial, trivial, trivial, trivial, trivial⟩ ?_
      refine OK_cv [.ref 16, .int v4] [.ref 32] okX3_fitting okX8_measureNow rfl rfl cl_RX3_36 rfl rfl (Nat.le_of_ble_eq_true rfl) (by decide) (Nat.le_of_ble_eq_true rfl) (kf_X8_measureNow v4 I F) (fun r1137 I1138 F1139 => ?_)
      refine OK_cv [.int r1137] [] okX3_fitting okX3_fitsAll rfl rfl cl_RX3_42 rfl rfl (Nat.le_of_ble_eq_true rfl) (by decide) (Nat.le_of_ble_eq_true rfl) (kf_X3_fitsAll r1137 I1138 F1139) (fun r1147 I1148 F1149 => ?_)
      refine OK_st 1 okX3_fitting (S' := ((if r1147 = 0 then 35 else 28), [(0, .ref 32), (1, .ref 16), (2, .ref 27), (3, .int v3), (4, .int v4)], [], hp I1148 F1149)) rfl ⟨trivial, trivial⟩ ?_
      refine OK_if (fun h1150 => ?_) (fun h1150 => ?_)
      · refine OK_st 2 okX3_fitting (S' := (5, [(4, .int (v4 + (1 : Int32))), (0, .ref 32), (1, .ref 16), (2, .ref 27), (3, .int v3)], [], hp I1148 F1149)) rfl ⟨(by decide), trivial, trivial⟩ ?_
        refine OK_pk [1, 2, 3, 4, 0] rfl ?_
        exact ih v3 (v4 + (1 : Int32)) I1148 F1149
      · refine OK_st 6 okX3_fitting (S' := (35, [(3, .int (v3 ||| ((1 : Int32) <<< (v4 &&& 31)))), (0, .ref 32), (1, .ref 16), (2, .ref 27), (4, .int v4)], [], hp I1148 F1149)) rfl ⟨trivial, trivial, trivial, trivial, trivial, (by decide), trivial⟩ ?_
        refine OK_lt (fun x1151 => (35, [(3, .int x1151), (0, .ref 32), (1, .ref 16), (2, .ref 27), (4, .int v4)], [], hp I1148 F1149)) (fun x1151 => ?_)
        refine OK_st 2 okX3_fitting (S' := (5, [(4, .int (v4 + (1 : Int32))), (3, .int x1151), (0, .ref 32), (1, .ref 16), (2, .ref 27)], [], hp I1148 F1149)) rfl ⟨(by decide), trivial, trivial⟩ ?_
        refine OK_pk [2, 3, 4, 1, 0] rfl ?_
        exact ih x1151 (v4 + (1 : Int32)) I1148 F1149

def f_X3_fitting (I : AI) (F : AF) : AQ :=
  f_X3_fitting_5 (fun v3_1152 v4_1153 I1154 F1155 =>
    some (v3_1152, I1154, F1155)) ab_fu (0 : Int32) (0 : Int32) I F
set_option maxRecDepth 20000 in
set_option maxHeartbeats 4000000 in
theorem kf_X3_fitting (I : AI) (F : AF) : OK 4 mX3_fitting true (f_X3_fitting I F) (0, [(0, .ref 32), (1, .ref 16), (2, .ref 27)], [], hp I F) := by
  rw [f_X3_fitting]
  refine OK_st 4 okX3_fitting (S' := (5, [(4, .int (0 : Int32)), (3, .int (0 : Int32)), (0, .ref 32), (1, .ref 16), (2, .ref 27)], [], hp I F)) rfl ⟨trivial, (by decide), trivial, (by decide), trivial⟩ ?_
  refine OK_pk [2, 3, 4, 1, 0] rfl ?_
  refine kf_X3_fitting_5 _ (fun v3_1152 v4_1153 I1154 F1155 => ?_) ab_fu (0 : Int32) (0 : Int32) I F
  refine OK_st 1 okX3_fitting (S' := (42, [(0, .ref 32), (1, .ref 16), (2, .ref 27), (3, .int v3_1152), (4, .int v4_1153)], [.int v3_1152], hp I1154 F1155)) rfl ⟨trivial, trivial⟩ ?_
  exact OK_ri okX3_fitting rfl rfl (Or.inl rfl)

def f_X9_used (I : AI) (F : AF) : AQ :=
  ab_bd (f_X3_fitting I F) (fun r1156 I1157 F1158 =>
    some (r1156, I1157, F1158))
set_option maxRecDepth 20000 in
set_option maxHeartbeats 4000000 in
theorem kf_X9_used (I : AI) (F : AF) : OK 5 mX9_used true (f_X9_used I F) (0, [(0, .ref 0)], [], hp I F) := by
  rw [f_X9_used]
  refine OK_st 6 okX9_used (S' := (12, [(0, .ref 0)], [.ref 27, .ref 16, .ref 32], hp I F)) rfl ⟨trivial, trivial, trivial, trivial, trivial, trivial, trivial⟩ ?_
  refine OK_cv [.ref 16, .ref 27] [] okX9_used okX3_fitting rfl rfl cl_RX9_308 rfl rfl (Nat.le_of_ble_eq_true rfl) (by decide) (Nat.le_of_ble_eq_true rfl) (kf_X3_fitting I F) (fun r1156 I1157 F1158 => ?_)
  exact OK_ri okX9_used rfl rfl (Or.inl rfl)

def f_X8_areUnlike_j41_15 (bk ko : Int32 → AI → AF → AQ) (v2 : Int32) (v3 : Int32) (v4 : Int32) (v5 : Int32) (s0 : Int32) (I : AI) (F : AF) : AQ :=
  if s0 = 0 then
    bk (v5 + (1 : Int32)) I F
  else
    ab_bd (f_X8_measure v4 v3 I F) (fun r1174 I1175 F1176 =>
      ab_bd (f_X8_measure v5 v3 I1175 F1176) (fun r1177 I1178 F1179 =>
        if ¬ r1174 = r1177 then
          bk (v5 + (1 : Int32)) I1178 F1179
        else
          some ((0 : Int32), I1178, F1179)))
set_option maxRecDepth 20000 in
set_option maxHeartbeats 4000000 in
theorem kf_X8_areUnlike_j41_15 (bk ko : Int32 → AI → AF → AQ) (v2 : Int32) (v3 : Int32) (v4 : Int32) (v5 : Int32) (hbk : ∀ v5 I F, OK 3 mX8_areUnlike true (bk v5 I F) (15, [(0, .ref 27), (1, .ref 16), (2, .int v2), (3, .int v3), (4, .int v4), (5, .int v5)], [], hp I F)) (hko : ∀ v5 I F, OK 3 mX8_areUnlike true (ko v5 I F) (75, [(0, .ref 27), (1, .ref 16), (2, .int v2), (3, .int v3), (4, .int v4), (5, .int v5)], [], hp I F)) (s0 : Int32) (I : AI) (F : AF) : OK 3 mX8_areUnlike true (f_X8_areUnlike_j41_15 bk ko v2 v3 v4 v5 s0 I F) (41, [(0, .ref 27), (1, .ref 16), (2, .int v2), (3, .int v3), (4, .int v4), (5, .int v5)], [.int s0], hp I F) := by
  rw [f_X8_areUnlike_j41_15]
  refine OK_st 3 okX8_areUnlike (S' := ((if s0 = 0 then 69 else 48), [(6, .int s0), (0, .ref 27), (1, .ref 16), (2, .int v2), (3, .int v3), (4, .int v4), (5, .int v5)], [], hp I F)) rfl ⟨(by decide), trivial, trivial, trivial⟩ ?_
  refine OK_if (fun h1173 => ?_) (fun h1173 => ?_)
  · refine OK_st 2 okX8_areUnlike (S' := (15, [(5, .int (v5 + (1 : Int32))), (6, .int s0), (0, .ref 27), (1, .ref 16), (2, .int v2), (3, .int v3), (4, .int v4)], [], hp I F)) rfl ⟨(by decide), trivial, trivial⟩ ?_
    refine OK_pk [2, 3, 4, 5, 6, 0] rfl ?_
    exact hbk (v5 + (1 : Int32)) I F
  · refine OK_st 4 okX8_areUnlike (S' := (53, [(6, .int s0), (0, .ref 27), (1, .ref 16), (2, .int v2), (3, .int v3), (4, .int v4), (5, .int v5)], [.int v3, .int v4, .ref 16, .ref 27], hp I F)) rfl ⟨trivial, trivial, trivial, trivial, trivial⟩ ?_
    refine OK_cv [.ref 16, .int v4, .int v3] [] okX8_areUnlike okX8_measure rfl rfl cl_RX8_50 rfl rfl (Nat.le_of_ble_eq_true rfl) (by decide) (Nat.le_of_ble_eq_true rfl) (kf_X8_measure v4 v3 I F) (fun r1174 I1175 F1176 => ?_)
    refine OK_st 4 okX8_areUnlike (S' := (61, [(6, .int s0), (0, .ref 27), (1, .ref 16), (2, .int v2), (3, .int v3), (4, .int v4), (5, .int v5)], [.int v3, .int v5, .ref 16, .ref 27, .int r1174], hp I1175 F1176)) rfl ⟨trivial, trivial, trivial, trivial, trivial⟩ ?_
    refine OK_cv [.ref 16, .int v5, .int v3] [.int r1174] okX8_areUnlike okX8_measure rfl rfl cl_RX8_50 rfl rfl (Nat.le_of_ble_eq_true rfl) (by decide) (Nat.le_of_ble_eq_true rfl) (kf_X8_measure v5 v3 I1175 F1176) (fun r1177 I1178 F1179 => ?_)
    refine OK_st 1 okX8_areUnlike (S' := ((if ¬ r1174 = r1177 then 69 else 67), [(6, .int s0), (0, .ref 27), (1, .ref 16), (2, .int v2), (3, .int v3), (4, .int v4), (5, .int v5)], [], hp I1178 F1179)) rfl ⟨trivial, trivial⟩ ?_
    refine OK_if (fun h1180 => ?_) (fun h1180 => ?_)
    · refine OK_st 2 okX8_areUnlike (S' := (15, [(5, .int (v5 + (1 : Int32))), (6, .int s0), (0, .ref 27), (1, .ref 16), (2, .int v2), (3, .int v3), (4, .int v4)], [], hp I1178 F1179)) rfl ⟨(by decide), trivial, trivial⟩ ?_
      refine OK_pk [2, 3, 4, 5, 6, 0] rfl ?_
      exact hbk (v5 + (1 : Int32)) I1178 F1179
    · refine OK_st 1 okX8_areUnlike (S' := (68, [(6, .int s0), (0, .ref 27), (1, .ref 16), (2, .int v2), (3, .int v3), (4, .int v4), (5, .int v5)], [.int (0 : Int32)], hp I1178 F1179)) rfl ⟨trivial, trivial⟩ ?_
      exact OK_ri okX8_areUnlike rfl rfl (Or.inr ⟨rfl, Or.inl rfl⟩)

def f_X8_areUnlike_15 (v2 : Int32) (v3 : Int32) (v4 : Int32) (ko : Int32 → AI → AF → AQ) : Nat → Int32 → AI → AF → AQ
  | 0, _, _, _ => none
  | n + 1, v5, I, F =>
    if v4 ≤ v5 then
      ko v5 I F
    else
      if (((v2 >>> (v4 &&& 31)) &&& (v2 >>> (v5 &&& 31))) &&& (1 : Int32)) = 0 then
        f_X8_areUnlike_j41_15 (f_X8_areUnlike_15 v2 v3 v4 ko n) ko v2 v3 v4 v5 (0 : Int32) I F
      else
        f_X8_areUnlike_j41_15 (f_X8_areUnlike_15 v2 v3 v4 ko n) ko v2 v3 v4 v5 (1 : Int32) I F
set_option maxRecDepth 20000 in
set_option maxHeartbeats 4000000 in
theorem kf_X8_areUnlike_15 (v2 : Int32) (v3 : Int32) (v4 : Int32) (ko : Int32 → AI → AF → AQ) (hko : ∀ v5 I F, OK 3 mX8_areUnlike true (ko v5 I F) (75, [(0, .ref 27), (1, .ref 16), (2, .int v2), (3, .int v3), (4, .int v4), (5, .int v5)], [], hp I F)) : ∀ n v5 I F, OK 3 mX8_areUnlike true (f_X8_areUnlike_15 v2 v3 v4 ko n v5 I F) (15, [(0, .ref 27), (1, .ref 16), (2, .int v2), (3, .int v3), (4, .int v4), (5, .int v5)], [], hp I F) := by
  intro n
  induction n with
  | zero =>
    intro v5 I F
    exact OK_no
  | succ n ih =>
    intro v5 I F
    rw [f_X8_areUnlike_15]
    refine OK_st 3 okX8_areUnlike (S' := ((if v4 ≤ v5 then 75 else 22), [(0, .ref 27), (1, .ref 16), (2, .int v2), (3, .int v3), (4, .int v4), (5, .int v5)], [], hp I F)) rfl ⟨trivial, trivial, trivial, trivial⟩ ?_
    refine OK_if (fun h1171 => ?_) (fun h1171 => ?_)
    · exact hko v5 I F
    · refine OK_st 10 okX8_areUnlike (S' := ((if (((v2 >>> (v4 &&& 31)) &&& (v2 >>> (v5 &&& 31))) &&& (1 : Int32)) = 0 then 40 else 36), [(0, .ref 27), (1, .ref 16), (2, .int v2), (3, .int v3), (4, .int v4), (5, .int v5)], [], hp I F)) rfl ⟨trivial, trivial, trivial, trivial, trivial, trivial, trivial, trivial, trivial, trivial, trivial⟩ ?_
      refine OK_if (fun h1172 => ?_) (fun h1172 => ?_)
      · refine OK_st 1 okX8_areUnlike (S' := (41, [(0, .ref 27), (1, .ref 16), (2, .int v2), (3, .int v3), (4, .int v4), (5, .int v5)], [.int (0 : Int32)], hp I F)) rfl ⟨trivial, trivial⟩ ?_
        exact kf_X8_areUnlike_j41_15 (f_X8_areUnlike_15 v2 v3 v4 ko n) ko v2 v3 v4 v5 ih hko (0 : Int32) I F
      · refine OK_st 2 okX8_areUnlike (S' := (41, [(0, .ref 27), (1, .ref 16), (2, .int v2), (3, .int v3), (4, .int v4), (5, .int v5)], [.int (1 : Int32)], hp I F)) rfl ⟨trivial, trivial, trivial⟩ ?_
        exact kf_X8_areUnlike_j41_15 (f_X8_areUnlike_15 v2 v3 v4 ko n) ko v2 v3 v4 v5 ih hko (1 : Int32) I F

def f_X8_areUnlike_3 (v2 : Int32) (v3 : Int32) (ko : Int32 → AI → AF → AQ) : Nat → Int32 → AI → AF → AQ
  | 0, _, _, _ => none
  | n + 1, v4, I, F =>
    if (I 9) ≤ v4 then
      ko v4 I F
    else
      f_X8_areUnlike_15 v2 v3 v4 (fun v5_1181 I1182 F1183 =>
        f_X8_areUnlike_3 v2 v3 ko n (v4 + (1 : Int32)) I1182 F1183) ab_fu (0 : Int32) I F
set_option maxRecDepth 20000 in
set_option maxHeartbeats 4000000 in
theorem kf_X8_areUnlike_3 (v2 : Int32) (v3 : Int32) (ko : Int32 → AI → AF → AQ) (hko : ∀ v4 I F, OK 3 mX8_areUnlike true (ko v4 I F) (81, [(0, .ref 27), (1, .ref 16), (2, .int v2), (3, .int v3), (4, .int v4)], [], hp I F)) : ∀ n v4 I F, OK 3 mX8_areUnlike true (f_X8_areUnlike_3 v2 v3 ko n v4 I F) (3, [(0, .ref 27), (1, .ref 16), (2, .int v2), (3, .int v3), (4, .int v4)], [], hp I F) := by
  intro n
  induction n with
  | zero =>
    intro v4 I F
    exact OK_no
  | succ n ih =>
    intro v4 I F
    rw [f_X8_areUnlike_3]
    refine OK_st 4 okX8_areUnlike (S' := ((if (I 9) ≤ v4 then 81 else 12), [(0, .ref 27), (1, .ref 16), (2, .int v2), (3, .int v3), (4, .int v4)], [], hp I F)) rfl ⟨trivial, trivial, trivial, trivial, trivial⟩ ?_
    refine OK_if (fun h1170 => ?_) (fun h1170 => ?_)
    · exact hko v4 I F
    · refine OK_st 2 okX8_areUnlike (S' := (15, [(5, .int (0 : Int32)), (0, .ref 27), (1, .ref 16), (2, .int v2), (3, .int v3), (4, .int v4)], [], hp I F)) rfl ⟨trivial, (by decide), trivial⟩ ?_
      refine OK_pk [1, 2, 3, 4, 5, 0] rfl ?_
      refine kf_X8_areUnlike_15 v2 v3 v4 _ (fun v5_1181 I1182 F1183 => ?_) ab_fu (0 : Int32) I F
      refine OK_st 2 okX8_areUnlike (S' := (3, [(4, .int (v4 + (1 : Int32))), (0, .ref 27), (1, .ref 16), (2, .int v2), (3, .int v3), (5, .int v5_1181)], [], hp I1182 F1183)) rfl ⟨(by decide), trivial, trivial⟩ ?_
      refine OK_pk [1, 2, 3, 4, 0] rfl ?_
      exact ih (v4 + (1 : Int32)) I1182 F1183
