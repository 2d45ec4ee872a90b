/-! methods as functions (by program) -/
def f_X1_search_57 (ko : Int32 → AI → AF → AQ) : Nat → Int32 → AI → AF → AQ
  | 0, _, _, _ => none
  | n + 1, v2, I, F =>
    if v2 < 0 then
      ko v2 I F
    else
      ab_bd (f_X8_living I F) (fun r922 I923 F924 =>
        if ¬ (v2 &&& (r922 ^^^ (-1 : Int32))) = 0 then
          f_X1_search_57 ko n (v2 + (-1 : Int32)) I923 F924
        else
          ab_bd (f_X1_leastFrom v2 I923 F924) (fun r957 I958 F959 =>
            bif ab_vin v2 64 then
              ab_lt (va_up F959 35 (upd (F959 35) v2.toNatClampNeg r957)) (fun F961 =>
                f_X1_search_57 ko n (v2 + (-1 : Int32)) I958 F961)
            else none))
set_option maxRecDepth 20000 in
set_option maxHeartbeats 4000000 in
theorem kf_X1_search_57 (ko : Int32 → AI → AF → AQ) (hko : ∀ v2 I F, OK 3 mX1_search false (ko v2 I F) (90, [(0, .ref 45), (1, .ref 27), (2, .int v2)], [], hp I F)) : ∀ n v2 I F, OK 3 mX1_search false (f_X1_search_57 ko n v2 I F) (57, [(0, .ref 45), (1, .ref 27), (2, .int v2)], [], hp I F) := by
  intro n
  induction n with
  | zero =>
    intro v2 I F
    exact OK_no
  | succ n ih =>
    intro v2 I F
    rw [f_X1_search_57]
    refine OK_st 2 okX1_search (S' := ((if v2 < 0 then 90 else 61), [(0, .ref 45), (1, .ref 27), (2, .int v2)], [], hp I F)) rfl ⟨trivial, trivial, trivial⟩ ?_
    refine OK_if (fun h921 => ?_) (fun h921 => ?_)
    · exact hko v2 I F
    · refine OK_st 2 okX1_search (S' := (63, [(0, .ref 45), (1, .ref 27), (2, .int v2)], [.ref 27, .int v2], hp I F)) rfl ⟨trivial, trivial, trivial⟩ ?_
      refine OK_cv [] [.int v2] okX1_search okX8_living rfl rfl cl_RX1_31 rfl rfl (Nat.le_of_ble_eq_true rfl) (by decide) (Nat.le_of_ble_eq_true rfl) (kf_X8_living I F) (fun r922 I923 F924 => ?_)
      refine OK_st 4 okX1_search (S' := ((if ¬ (v2 &&& (r922 ^^^ (-1 : Int32))) = 0 then 84 else 72), [(0, .ref 45), (1, .ref 27), (2, .int v2)], [], hp I923 F924)) rfl ⟨trivial, trivial, trivial, trivial, trivial⟩ ?_
      refine OK_if (fun h925 => ?_) (fun h925 => ?_)
      · refine OK_st 2 okX1_search (S' := (57, [(2, .int (v2 + (-1 : Int32))), (0, .ref 45), (1, .ref 27)], [], hp I923 F924)) rfl ⟨(by decide), trivial, trivial⟩ ?_
        refine OK_pk [1, 2, 0] rfl ?_
        exact ih (v2 + (-1 : Int32)) I923 F924
      · refine OK_st 6 okX1_search (S' := (80, [(0, .ref 45), (1, .ref 27), (2, .int v2)], [.int v2, .ref 27, .ref 45, .int v2, .ref 46], hp I923 F924)) rfl ⟨trivial, trivial, trivial, trivial, trivial, trivial, trivial⟩ ?_
        refine OK_cv [.ref 27, .int v2] [.int v2, .ref 46] okX1_search okX1_leastFrom rfl rfl cl_RX1_35 rfl rfl (Nat.le_of_ble_eq_true rfl) (by decide) (Nat.le_of_ble_eq_true rfl) (kf_X1_leastFrom v2 I923 F924) (fun r957 I958 F959 => ?_)
        refine OK_gd (fun g960 => ?_)
        refine OK_st 3 okX1_search (S' := (57, [(2, .int (v2 + (-1 : Int32))), (0, .ref 45), (1, .ref 27)], [], hp I958 (va_up F959 35 (upd (F959 35) v2.toNatClampNeg r957)))) rfl ⟨(ab_vo g960), (by decide), trivial, trivial⟩ ?_
        refine OK_lt (fun F961 => (57, [(2, .int (v2 + (-1 : Int32))), (0, .ref 45), (1, .ref 27)], [], hp I958 F961)) (fun F961 => ?_)
        refine OK_pk [1, 2, 0] rfl ?_
        exact ih (v2 + (-1 : Int32)) I958 F961

def f_X1_chooseAll_18 (v3 : Int32) (ko : Int32 → Int32 → Int32 → AI → AF → AQ) : Nat → Int32 → Int32 → Int32 → AI → AF → AQ
  | 0, _, _, _, _, _ => none
  | n + 1, v2, v4, v5, I, F =>
    if (I 21) ≤ v5 then
      ko v2 v4 v5 I F
    else
      if ¬ v4 = 0 then
        ko v2 v4 v5 I F
      else
        ab_bd (f_X1_isFree v2 v3 v5 I F) (fun r968 I969 F970 =>
          if r968 = 0 then
            f_X1_chooseAll_18 v3 ko n v2 v4 (v5 + (1 : Int32)) I969 F970
          else
            ab_bd (f_X1_apartBy v2 v3 v5 I969 F970) (fun r972 I973 F974 =>
              bif ab_vin v2 64 then
                if ¬ r972 = ((F974 35) v2.toNatClampNeg) then
                  f_X1_chooseAll_18 v3 ko n v2 v4 (v5 + (1 : Int32)) I973 F974
                else
                  bif ab_vin v3 6 then
                    bif ab_vin v5 6 then
                      bif ab_vin ((F974 37) v3.toNatClampNeg) 6 then
                        bif ab_vin v5 6 then
                          ab_lt (va_up F974 36 (upd (F974 36) ((F974 37) v3.toNatClampNeg).toNatClampNeg ((F974 37) v5.toNatClampNeg))) (fun F981 =>
                            ab_lt (v2 ||| ((1 : Int32) <<< (((F974 37) v5.toNatClampNeg) &&& 31))) (fun x982 =>
                              f_X1_chooseAll_18 v3 ko n x982 (1 : Int32) (v5 + (1 : Int32)) I973 F981))
                        else none
                      else none
                    else none
                  else none
              else none))
set_option maxRecDepth 20000 in
set_option maxHeartbeats 4000000 in
theorem kf_X1_chooseAll_18 (v3 : Int32) (ko : Int32 → Int32 → Int32 → AI → AF → AQ) (hko : ∀ v2 v4 v5 I F, OK 2 mX1_chooseAll false (ko v2 v4 v5 I F) (100, [(0, .ref 45), (1, .ref 27), (2, .int v2), (3, .int v3), (4, .int v4), (5, .int v5)], [], hp I F)) : ∀ n v2 v4 v5 I F, OK 2 mX1_chooseAll false (f_X1_chooseAll_18 v3 ko n v2 v4 v5 I F) (18, [(0, .ref 45), (1, .ref 27), (2, .int v2), (3, .int v3), (4, .int v4), (5, .int v5)], [], hp I F) := by
  intro n
  induction n with
  | zero =>
    intro v2 v4 v5 I F
    exact OK_no
  | succ n ih =>
    intro v2 v4 v5 I F
    rw [f_X1_chooseAll_18]
    refine OK_st 4 okX1_chooseAll (S' := ((if (I 21) ≤ v5 then 100 else 27), [(0, .ref 45), (1, .ref 27), (2, .int v2), (3, .int v3), (4, .int v4), (5, .int v5)], [], hp I F)) rfl ⟨trivial, trivial, trivial, trivial, trivial⟩ ?_
    refine OK_if (fun h966 => ?_) (fun h966 => ?_)
    · exact hko v2 v4 v5 I F
    · refine OK_st 2 okX1_chooseAll (S' := ((if ¬ v4 = 0 then 100 else 32), [(0, .ref 45), (1, .ref 27), (2, .int v2), (3, .int v3), (4, .int v4), (5, .int v5)], [], hp I F)) rfl ⟨trivial, trivial, trivial⟩ ?_
      refine OK_if (fun h967 => ?_) (fun h967 => ?_)
      · exact hko v2 v4 v5 I F
      · refine OK_st 4 okX1_chooseAll (S' := (37, [(0, .ref 45), (1, .ref 27), (2, .int v2), (3, .int v3), (4, .int v4), (5, .int v5)], [.int v5, .int v3, .int v2, .ref 45], hp I F)) rfl ⟨trivial, trivial, trivial, trivial, trivial⟩ ?_
        refine OK_cv [.int v2, .int v3, .int v5] [] okX1_chooseAll okX1_isFree rfl rfl cl_RX1_50 rfl rfl (Nat.le_of_ble_eq_true rfl) (by decide) (Nat.le_of_ble_eq_true rfl) (kf_X1_isFree v2 v3 v5 I F) (fun r968 I969 F970 => ?_)
        refine OK_st 1 okX1_chooseAll (S' := ((if r968 = 0 then 94 else 43), [(0, .ref 45), (1, .ref 27), (2, .int v2), (3, .int v3), (4, .int v4), (5, .int v5)], [], hp I969 F970)) rfl ⟨trivial, trivial⟩ ?_
        refine OK_if (fun h971 => ?_) (fun h971 => ?_)
        · refine OK_st 2 okX1_chooseAll (S' := (18, [(5, .int (v5 + (1 : Int32))), (0, .ref 45), (1, .ref 27), (2, .int v2), (3, .int v3), (4, .int v4)], [], hp I969 F970)) rfl ⟨(by decide), trivial, trivial⟩ ?_
          refine OK_pk [1, 2, 3, 4, 5, 0] rfl ?_
          exact ih v2 v4 (v5 + (1 : Int32)) I969 F970
        · refine OK_st 5 okX1_chooseAll (S' := (49, [(0, .ref 45), (1, .ref 27), (2, .int v2), (3, .int v3), (4, .int v4), (5, .int v5)], [.int v5, .int v3, .int v2, .ref 27, .ref 45], hp I969 F970)) rfl ⟨trivial, trivial, trivial, trivial, trivial, trivial⟩ ?_
          refine OK_cv [.ref 27, .int v2, .int v3, .int v5] [] okX1_chooseAll okX1_apartBy rfl rfl cl_RX1_54 rfl rfl (Nat.le_of_ble_eq_true rfl) (by decide) (Nat.le_of_ble_eq_true rfl) (kf_X1_apartBy v2 v3 v5 I969 F970) (fun r972 I973 F974 => ?_)
          refine OK_gd (fun g975 => ?_)
          refine OK_st 5 okX1_chooseAll (S' := ((if ¬ r972 = ((F974 35) v2.toNatClampNeg) then 94 else 61), [(0, .ref 45), (1, .ref 27), (2, .int v2), (3, .int v3), (4, .int v4), (5, .int v5)], [], hp I973 F974)) rfl ⟨trivial, trivial, trivial, (ab_vo g975), trivial, trivial⟩ ?_
          refine OK_if (fun h976 => ?_) (fun h976 => ?_)
          · refine OK_st 2 okX1_chooseAll (S' := (18, [(5, .int (v5 + (1 : Int32))), (0, .ref 45), (1, .ref 27), (2, .int v2), (3, .int v3), (4, .int v4)], [], hp I973 F974)) rfl ⟨(by decide), trivial, trivial⟩ ?_
            refine OK_pk [1, 2, 3, 4, 5, 0] rfl ?_
            exact ih v2 v4 (v5 + (1 : Int32)) I973 F974
          · refine OK_gd (fun g977 => ?_)
            refine OK_gd (fun g978 => ?_)
            refine OK_gd (fun g979 => ?_)
            refine OK_gd (fun g980 => ?_)
            refine OK_st 20 okX1_chooseAll (S' := (91, [(2, .int (v2 ||| ((1 : Int32) <<< (((F974 37) v5.toNatClampNeg) &&& 31)))), (0, .ref 45), (1, .ref 27), (3, .int v3), (4, .int v4), (5, .int v5)], [], hp I973 (va_up F974 36 (upd (F974 36) ((F974 37) v3.toNatClampNeg).toNatClampNeg ((F974 37) v5.toNatClampNeg))))) rfl ⟨trivial, trivial, trivial, trivial, trivial, (ab_vo g977), trivial, trivial, trivial, (ab_vo g978), (ab_vo g979), trivial, trivial, trivial, trivial, trivial, (ab_vo g980), trivial, trivial, (by decide), trivial⟩ ?_
            refine OK_lt (fun F981 => (91, [(2, .int (v2 ||| ((1 : Int32) <<< (((F974 37) v5.toNatClampNeg) &&& 31)))), (0, .ref 45), (1, .ref 27), (3, .int v3), (4, .int v4), (5, .int v5)], [], hp I973 F981)) (fun F981 => ?_)
            refine OK_lt (fun x982 => (91, [(2, .int x982), (0, .ref 45), (1, .ref 27), (3, .int v3), (4, .int v4), (5, .int v5)], [], hp I973 F981)) (fun x982 => ?_)
            refine OK_st 4 okX1_chooseAll (S' := (18, [(5, .int (v5 + (1 : Int32))), (4, .int (1 : Int32)), (2, .int x982), (0, .ref 45), (1, .ref 27), (3, .int v3)], [], hp I973 F981)) rfl ⟨trivial, (by decide), (by decide), trivial, trivial⟩ ?_
            refine OK_pk [3, 4, 2, 5, 1, 0] rfl ?_
            exact ih x982 (1 : Int32) (v5 + (1 : Int32)) I973 F981

def f_X1_chooseAll_4 (ko : Int32 → Int32 → AI → AF → AQ) : Nat → Int32 → Int32 → AI → AF → AQ
  | 0, _, _, _, _ => none
  | n + 1, v2, v3, I, F =>
    if (I 21) ≤ v3 then
      ko v2 v3 I F
    else
      f_X1_chooseAll_18 v3 (fun v2_983 v4_984 v5_985 I986 F987 =>
        f_X1_chooseAll_4 ko n v2_983 (v3 + (1 : Int32)) I986 F987) ab_fu v2 (0 : Int32) (0 : Int32) I F
set_option maxRecDepth 20000 in
set_option maxHeartbeats 4000000 in
theorem kf_X1_chooseAll_4 (ko : Int32 → Int32 → AI → AF → AQ) (hko : ∀ v2 v3 I F, OK 2 mX1_chooseAll false (ko v2 v3 I F) (106, [(0, .ref 45), (1, .ref 27), (2, .int v2), (3, .int v3)], [], hp I F)) : ∀ n v2 v3 I F, OK 2 mX1_chooseAll false (f_X1_chooseAll_4 ko n v2 v3 I F) (4, [(0, .ref 45), (1, .ref 27), (2, .int v2), (3, .int v3)], [], hp I F) := by
  intro n
  induction n with
  | zero =>
    intro v2 v3 I F
    exact OK_no
  | succ n ih =>
    intro v2 v3 I F
    rw [f_X1_chooseAll_4]
    refine OK_st 4 okX1_chooseAll (S' := ((if (I 21) ≤ v3 then 106 else 12), [(0, .ref 45), (1, .ref 27), (2, .int v2), (3, .int v3)], [], hp I F)) rfl ⟨trivial, trivial, trivial, trivial, trivial⟩ ?_
    refine OK_if (fun h965 => ?_) (fun h965 => ?_)
    · exact hko v2 v3 I F
    · refine OK_st 4 okX1_chooseAll (S' := (18, [(5, .int (0 : Int32)), (4, .int (0 : Int32)), (0, .ref 45), (1, .ref 27), (2, .int v2), (3, .int v3)], [], hp I F)) rfl ⟨trivial, (by decide), trivial, (by decide), trivial⟩ ?_
      refine OK_pk [2, 3, 4, 5, 1, 0] rfl ?_
      refine kf_X1_chooseAll_18 v3 _ (fun v2_983 v4_984 v5_985 I986 F987 => ?_) ab_fu v2 (0 : Int32) (0 : Int32) I F
      refine OK_st 2 okX1_chooseAll (S' := (4, [(3, .int (v3 + (1 : Int32))), (0, .ref 45), (1, .ref 27), (2, .int v2_983), (4, .int v4_984), (5, .int v5_985)], [], hp I986 F987)) rfl ⟨(by decide), trivial, trivial⟩ ?_
      refine OK_pk [1, 2, 3, 0] rfl ?_
      exact ih v2_983 (v3 + (1 : Int32)) I986 F987

def f_X1_chooseAll (I : AI) (F : AF) : AQ :=
  f_X1_chooseAll_4 (fun v2_988 v3_989 I990 F991 =>
    some (0, I990, F991)) ab_fu (0 : Int32) (0 : Int32) I F
set_option maxRecDepth 20000 in
set_option maxHeartbeats 4000000 in
theorem kf_X1_chooseAll (I : AI) (F : AF) : OK 2 mX1_chooseAll false (f_X1_chooseAll I F) (0, [(0, .ref 45), (1, .ref 27)], [], hp I F) := by
  rw [f_X1_chooseAll]
  refine OK_st 4 okX1_chooseAll (S' := (4, [(3, .int (0 : Int32)), (2, .int (0 : Int32)), (0, .ref 45), (1, .ref 27)], [], hp I F)) rfl ⟨trivial, (by decide), trivial, (by decide), trivial⟩ ?_
  refine OK_pk [2, 3, 1, 0] rfl ?_
  refine kf_X1_chooseAll_4 _ (fun v2_988 v3_989 I990 F991 => ?_) ab_fu (0 : Int32) (0 : Int32) I F
  exact OK_rv okX1_chooseAll rfl rfl rfl

def f_X1_search (I : AI) (F : AF) : AQ :=
  ab_lt (va_up I 21 (0 : Int32)) (fun I907 =>
    f_X1_search_7 (fun v2_918 I919 F920 =>
      f_X1_search_57 (fun v2_962 I963 F964 =>
        ab_bd (f_X1_chooseAll I963 F964) (fun r992 I993 F994 =>
          some (0, I993, F994))) ab_fu (63 : Int32) I919 F920) ab_fu (0 : Int32) I907 F)
set_option maxRecDepth 20000 in
set_option maxHeartbeats 4000000 in
theorem kf_X1_search (I : AI) (F : AF) : OK 3 mX1_search false (f_X1_search I F) (0, [(0, .ref 45), (1, .ref 27)], [], hp I F) := by
  rw [f_X1_search]
  refine OK_st 5 okX1_search (S' := (7, [(2, .int (0 : Int32)), (0, .ref 45), (1, .ref 27)], [], hp (va_up I 21 (0 : Int32)) F)) rfl ⟨trivial, trivial, trivial, trivial, (by decide), trivial⟩ ?_
  refine OK_lt (fun I907 => (7, [(2, .int (0 : Int32)), (0, .ref 45), (1, .ref 27)], [], hp I907 F)) (fun I907 => ?_)
  refine OK_pk [1, 2, 0] rfl ?_
  refine kf_X1_search_7 _ (fun v2_918 I919 F920 => ?_) ab_fu (0 : Int32) I907 F
  refine OK_st 2 okX1_search (S' := (57, [(2, .int (63 : Int32)), (0, .ref 45), (1, .ref 27)], [], hp I919 F920)) rfl ⟨trivial, (by decide), trivial⟩ ?_
  refine OK_pk [1, 2, 0] rfl ?_
  refine kf_X1_search_57 _ (fun v2_962 I963 F964 => ?_) ab_fu (63 : Int32) I919 F920
  refine OK_st 2 okX1_search (S' := (92, [(0, .ref 45), (1, .ref 27), (2, .int v2_962)], [.ref 27, .ref 45], hp I963 F964)) rfl ⟨trivial, trivial, trivial⟩ ?_
  refine OK_cv [.ref 27] [] okX1_search okX1_chooseAll rfl rfl cl_RX1_39 rfl rfl (Nat.le_of_ble_eq_true rfl) (by decide) (Nat.le_of_ble_eq_true rfl) (kf_X1_chooseAll I963 F964) (fun r992 I993 F994 => ?_)
  exact OK_rv okX1_search rfl rfl rfl

def f_X1_apartTogether (I : AI) (F : AF) : AQ :=
  some (((F 35) 0), I, F)
set_option maxRecDepth 20000 in
set_option maxHeartbeats 4000000 in
theorem kf_X1_apartTogether (I : AI) (F : AF) : OK 0 mX1_apartTogether true (f_X1_apartTogether I F) (0, [(0, .ref 45)], [], hp I F) := by
  rw [f_X1_apartTogether]
  refine OK_st 4 okX1_apartTogether (S' := (6, [(0, .ref 45)], [.int ((F 35) 0)], hp I F)) rfl ⟨trivial, trivial, trivial, (ab_vo (by decide)), trivial⟩ ?_
  exact OK_ri okX1_apartTogether rfl rfl (Or.inl rfl)

def f_X9_heirs_j19 (v1 : Int32) (I : AI) (F : AF) : AQ :=
  ab_bd (f_X8_living I F) (fun r895 I896 F897 =>
    ab_bd (f_J6_bitCount_0f7a4 r895 I896 F897) (fun r903 I904 F905 =>
      if (2 : Int32) ≤ r903 then
        ab_bd (f_X1_search I904 F905) (fun r995 I996 F997 =>
          if ¬ v1 = (-1 : Int32) then
            bif ab_vin v1 6 then
              some (((F997 36) v1.toNatClampNeg), I996, F997)
            else none
          else
            ab_bd (f_X1_apartTogether I996 F997) (fun r1000 I1001 F1002 =>
              some (r1000, I1001, F1002)))
      else
        some ((-1 : Int32), I904, F905)))
set_option maxRecDepth 20000 in
set_option maxHeartbeats 4000000 in
theorem kf_X9_heirs_j19 (v1 : Int32) (I : AI) (F : AF) : OK 4 mX9_heirs true (f_X9_heirs_j19 v1 I F) (19, [(0, .ref 0), (1, .int v1)], [], hp I F) := by
  rw [f_X9_heirs_j19]
  refine OK_st 2 okX9_heirs (S' := (23, [(0, .ref 0), (1, .int v1)], [.ref 27], hp I F)) rfl ⟨trivial, trivial, trivial⟩ ?_
  refine OK_cv [] [] okX9_heirs okX8_living rfl rfl cl_RX9_130 rfl rfl (Nat.le_of_ble_eq_true rfl) (by decide) (Nat.le_of_ble_eq_true rfl) (kf_X8_living I F) (fun r895 I896 F897 => ?_)
  refine OK_cs [.int r895] [] okX9_heirs okJ6_bitCount_0f7a4 rfl rfl cl_RX9_271 (Nat.le_of_ble_eq_true rfl) (by decide) (Nat.le_of_ble_eq_true rfl) (kf_J6_bitCount_0f7a4 r895 I896 F897) (fun r903 I904 F905 => ?_)
  refine OK_st 2 okX9_heirs (S' := ((if (2 : Int32) ≤ r903 then 35 else 33), [(0, .ref 0), (1, .int v1)], [], hp I904 F905)) rfl ⟨trivial, trivial, trivial⟩ ?_
  refine OK_if (fun h906 => ?_) (fun h906 => ?_)
  · refine OK_st 4 okX9_heirs (S' := (43, [(0, .ref 0), (1, .int v1)], [.ref 27, .ref 45], hp I904 F905)) rfl ⟨trivial, trivial, trivial, trivial, trivial⟩ ?_
    refine OK_cv [.ref 27] [] okX9_heirs okX1_search rfl rfl cl_RX9_276 rfl rfl (Nat.le_of_ble_eq_true rfl) (by decide) (Nat.le_of_ble_eq_true rfl) (kf_X1_search I904 F905) (fun r995 I996 F997 => ?_)
    refine OK_st 3 okX9_heirs (S' := ((if ¬ v1 = (-1 : Int32) then 61 else 51), [(0, .ref 0), (1, .int v1)], [], hp I996 F997)) rfl ⟨trivial, trivial, trivial, trivial⟩ ?_
    refine OK_if (fun h998 => ?_) (fun h998 => ?_)
    · refine OK_gd (fun g999 => ?_)
      refine OK_st 5 okX9_heirs (S' := (70, [(0, .ref 0), (1, .int v1)], [.int ((F997 36) v1.toNatClampNeg)], hp I996 F997)) rfl ⟨trivial, trivial, trivial, trivial, (ab_vo g999), trivial⟩ ?_
      exact OK_ri okX9_heirs rfl rfl (Or.inl rfl)
    · refine OK_st 2 okX9_heirs (S' := (55, [(0, .ref 0), (1, .int v1)], [.ref 45], hp I996 F997)) rfl ⟨trivial, trivial, trivial⟩ ?_
      refine OK_cv [] [] okX9_heirs okX1_apartTogether rfl rfl cl_RX9_278 rfl rfl (Nat.le_of_ble_eq_true rfl) (by decide) (Nat.le_of_ble_eq_true rfl) (kf_X1_apartTogether I996 F997) (fun r1000 I1001 F1002 => ?_)
      refine OK_st 1 okX9_heirs (S' := (70, [(0, .ref 0), (1, .int v1)], [.int r1000], hp I1001 F1002)) rfl ⟨trivial, trivial⟩ ?_
      exact OK_ri okX9_heirs rfl rfl (Or.inl rfl)
  · refine OK_st 1 okX9_heirs (S' := (34, [(0, .ref 0), (1, .int v1)], [.int (-1 : Int32)], hp I904 F905)) rfl ⟨trivial, trivial⟩ ?_
    exact OK_ri okX9_heirs rfl rfl (Or.inl rfl)

def f_X9_heirs (v1 : Int32) (I : AI) (F : AF) : AQ :=
  if v1 = (-1 : Int32) then
    f_X9_heirs_j19 v1 I F
  else
    ab_bd (f_X5_hasLimb v1 I F) (fun r1003 I1004 F1005 =>
      if ¬ r1003 = 0 then
        f_X9_heirs_j19 v1 I1004 F1005
      else
        some ((-1000000001 : Int32), I1004, F1005))
set_option maxRecDepth 20000 in
set_option maxHeartbeats 4000000 in
theorem kf_X9_heirs (v1 : Int32) (I : AI) (F : AF) : OK 4 mX9_heirs true (f_X9_heirs v1 I F) (0, [(0, .ref 0), (1, .int v1)], [], hp I F) := by
  rw [f_X9_heirs]
  refine OK_st 3 okX9_heirs (S' := ((if v1 = (-1 : Int32) then 19 else 5), [(0, .ref 0), (1, .int v1)], [], hp I F)) rfl ⟨trivial, trivial, trivial, trivial⟩ ?_
  refine OK_if (fun h894 => ?_) (fun h894 => ?_)
  · exact kf_X9_heirs_j19 v1 I F
  · refine OK_st 3 okX9_heirs (S' := (10, [(0, .ref 0), (1, .int v1)], [.int v1, .ref 16], hp I F)) rfl ⟨trivial, trivial, trivial, trivial⟩ ?_
    refine OK_cv [.int v1] [] okX9_heirs okX5_hasLimb rfl rfl cl_RX9_151 rfl rfl (Nat.le_of_ble_eq_true rfl) (by decide) (Nat.le_of_ble_eq_true rfl) (kf_X5_hasLimb v1 I F) (fun r1003 I1004 F1005 => ?_)
    refine OK_st 1 okX9_heirs (S' := ((if ¬ r1003 = 0 then 19 else 16), [(0, .ref 0), (1, .int v1)], [], hp I1004 F1005)) rfl ⟨trivial, trivial⟩ ?_
    refine OK_if (fun h1006 => ?_) (fun h1006 => ?_)
    · exact kf_X9_heirs_j19 v1 I1004 F1005
    · refine OK_st 1 okX9_heirs (S' := (18, [(0, .ref 0), (1, .int v1)], [.int (-1000000001 : Int32)], hp I1004 F1005)) rfl ⟨trivial, trivial⟩ ?_
      exact OK_ri okX9_heirs rfl rfl (Or.inl rfl)

def f_X9_reach_43 (v1 : Int32) (v2 : Int32) (ko : Int32 → Int32 → AI → AF → AQ) : Nat → Int32 → Int32 → AI → AF → AQ
  | 0, _, _, _, _ => none
  | n + 1, v3, v4, I, F =>
    if (4 : Int32) ≤ v4 then
      ko v3 v4 I F
    else
      ab_bd (f_X8_measure v1 v4 I F) (fun r1016 I1017 F1018 =>
        if ¬ v2 = 0 then
          ab_lt (if v3 < r1016 then r1016 else v3) (fun x1020 =>
            f_X9_reach_43 v1 v2 ko n x1020 (v4 + (1 : Int32)) I1017 F1018)
        else
          ab_lt (if r1016 < v3 then r1016 else v3) (fun x1021 =>
            f_X9_reach_43 v1 v2 ko n x1021 (v4 + (1 : Int32)) I1017 F1018))
set_option maxRecDepth 20000 in
set_option maxHeartbeats 4000000 in
theorem kf_X9_reach_43 (v1 : Int32) (v2 : Int32) (ko : Int32 → Int32 → AI → AF → AQ) (hko : ∀ v3 v4 I F, OK 3 mX9_reach true (ko v3 v4 I F) (91, [(0, .ref 0), (1, .int v1), (2, .int v2), (3, .int v3), (4, .int v4)], [], hp I F)) : ∀ n v3 v4 I F, OK 3 mX9_reach true (f_X9_reach_43 v1 v2 ko n v3 v4 I F) (43, [(0, .ref 0), (1, .int v1), (2, .int v2), (3, .int v3), (4, .int v4)], [], hp I F) := by
  intro n
  induction n with
  | zero =>
    intro v3 v4 I F
    exact OK_no
  | succ n ih =>
    intro v3 v4 I F
    rw [f_X9_reach_43]
    refine OK_st 3 okX9_reach (S' := ((if (4 : Int32) ≤ v4 then 91 else 49), [(0, .ref 0), (1, .int v1), (2, .int v2), (3, .int v3), (4, .int v4)], [], hp I F)) rfl ⟨trivial, trivial, trivial, trivial⟩ ?_
    refine OK_if (fun h1015 => ?_) (fun h1015 => ?_)
    · exact hko v3 v4 I F
    · refine OK_st 6 okX9_reach (S' := (60, [(0, .ref 0), (1, .int v1), (2, .int v2), (3, .int v3), (4, .int v4)], [.int v4, .int v1, .ref 16, .ref 27], hp I F)) rfl ⟨trivial, trivial, trivial, trivial, trivial, trivial, trivial⟩ ?_
      refine OK_cv [.ref 16, .int v1, .int v4] [] okX9_reach okX8_measure rfl rfl cl_RX9_284 rfl rfl (Nat.le_of_ble_eq_true rfl) (by decide) (Nat.le_of_ble_eq_true rfl) (kf_X8_measure v1 v4 I F) (fun r1016 I1017 F1018 => ?_)
      refine OK_st 3 okX9_reach (S' := ((if ¬ v2 = 0 then 78 else 69), [(5, .int r1016), (0, .ref 0), (1, .int v1), (2, .int v2), (3, .int v3), (4, .int v4)], [], hp I1017 F1018)) rfl ⟨(by decide), trivial, trivial, trivial⟩ ?_
      refine OK_if (fun h1019 => ?_) (fun h1019 => ?_)
      · refine OK_st 4 okX9_reach (S' := (85, [(3, .int (if v3 < r1016 then r1016 else v3)), (5, .int r1016), (0, .ref 0), (1, .int v1), (2, .int v2), (4, .int v4)], [], hp I1017 F1018)) rfl ⟨trivial, trivial, (Nat.le_of_ble_eq_true rfl), (by decide), trivial⟩ ?_
        refine OK_lt (fun x1020 => (85, [(3, .int x1020), (5, .int r1016), (0, .ref 0), (1, .int v1), (2, .int v2), (4, .int v4)], [], hp I1017 F1018)) (fun x1020 => ?_)
        refine OK_st 2 okX9_reach (S' := (43, [(4, .int (v4 + (1 : Int32))), (3, .int x1020), (5, .int r1016), (0, .ref 0), (1, .int v1), (2, .int v2)], [], hp I1017 F1018)) rfl ⟨(by decide), trivial, trivial⟩ ?_
        refine OK_pk [3, 4, 5, 1, 0] rfl ?_
        exact ih x1020 (v4 + (1 : Int32)) I1017 F1018
      · refine OK_st 5 okX9_reach (S' := (85, [(3, .int (if r1016 < v3 then r1016 else v3)), (5, .int r1016), (0, .ref 0), (1, .int v1), (2, .int v2), (4, .int v4)], [], hp I1017 F1018)) rfl ⟨trivial, trivial, (Nat.le_of_ble_eq_true rfl), trivial, (by decide), trivial⟩ ?_
        refine OK_lt (fun x1021 => (85, [(3, .int x1021), (5, .int r1016), (0, .ref 0), (1, .int v1), (2, .int v2), (4, .int v4)], [], hp I1017 F1018)) (fun x1021 => ?_)
        refine OK_st 2 okX9_reach (S' := (43, [(4, .int (v4 + (1 : Int32))), (3, .int x1021), (5, .int r1016), (0, .ref 0), (1, .int v1), (2, .int v2)], [], hp I1017 F1018)) rfl ⟨(by decide), trivial, trivial⟩ ?_
        refine OK_pk [3, 4, 5, 1, 0] rfl ?_
        exact ih x1021 (v4 + (1 : Int32)) I1017 F1018

def f_X9_reach (v1 : Int32) (v2 : Int32) (I : AI) (F : AF) : AQ :=
  ab_bd (f_X5_hasLimb v1 I F) (fun r1007 I1008 F1009 =>
    if ¬ r1007 = 0 then
      if v2 = 0 then
        ab_bd (f_X8_measure v1 (0 : Int32) I1008 F1009) (fun r1012 I1013 F1014 =>
          f_X9_reach_43 v1 v2 (fun v3_1022 v4_1023 I1024 F1025 =>
            some (v3_1022, I1024, F1025)) ab_fu r1012 (1 : Int32) I1013 F1014)
      else
        if v2 = (1 : Int32) then
          ab_bd (f_X8_measure v1 (0 : Int32) I1008 F1009) (fun r1027 I1028 F1029 =>
            f_X9_reach_43 v1 v2 (fun v3_1030 v4_1031 I1032 F1033 =>
              some (v3_1030, I1032, F1033)) ab_fu r1027 (1 : Int32) I1028 F1029)
        else
          some ((-1000000002 : Int32), I1008, F1009)
    else
      some ((-1000000001 : Int32), I1008, F1009))
set_option maxRecDepth 20000 in
set_option maxHeartbeats 4000000 in
theorem kf_X9_reach (v1 : Int32) (v2 : Int32) (I : AI) (F : AF) : OK 3 mX9_reach true (f_X9_reach v1 v2 I F) (0, [(0, .ref 0), (1, .int v1), (2, .int v2)], [], hp I F) := by
  rw [f_X9_reach]
  refine OK_st 3 okX9_reach (S' := (5, [(0, .ref 0), (1, .int v1), (2, .int v2)], [.int v1, .ref 16], hp I F)) rfl ⟨trivial, trivial, trivial, trivial⟩ ?_
  refine OK_cv [.int v1] [] okX9_reach okX5_hasLimb rfl rfl cl_RX9_151 rfl rfl (Nat.le_of_ble_eq_true rfl) (by decide) (Nat.le_of_ble_eq_true rfl) (kf_X5_hasLimb v1 I F) (fun r1007 I1008 F1009 => ?_)
  refine OK_st 1 okX9_reach (S' := ((if ¬ r1007 = 0 then 14 else 11), [(0, .ref 0), (1, .int v1), (2, .int v2)], [], hp I1008 F1009)) rfl ⟨trivial, trivial⟩ ?_
  refine OK_if (fun h1010 => ?_) (fun h1010 => ?_)
  · refine OK_st 2 okX9_reach (S' := ((if v2 = 0 then 26 else 18), [(0, .ref 0), (1, .int v1), (2, .int v2)], [], hp I1008 F1009)) rfl ⟨trivial, trivial, trivial⟩ ?_
    refine OK_if (fun h1011 => ?_) (fun h1011 => ?_)
    · refine OK_st 6 okX9_reach (S' := (36, [(0, .ref 0), (1, .int v1), (2, .int v2)], [.int (0 : Int32), .int v1, .ref 16, .ref 27], hp I1008 F1009)) rfl ⟨trivial, trivial, trivial, trivial, trivial, trivial, trivial⟩ ?_
      refine OK_cv [.ref 16, .int v1, .int (0 : Int32)] [] okX9_reach okX8_measure rfl rfl cl_RX9_284 rfl rfl (Nat.le_of_ble_eq_true rfl) (by decide) (Nat.le_of_ble_eq_true rfl) (kf_X8_measure v1 (0 : Int32) I1008 F1009) (fun r1012 I1013 F1014 => ?_)
      refine OK_st 3 okX9_reach (S' := (43, [(4, .int (1 : Int32)), (3, .int r1012), (0, .ref 0), (1, .int v1), (2, .int v2)], [], hp I1013 F1014)) rfl ⟨(by decide), trivial, (by decide), trivial⟩ ?_
      refine OK_pk [2, 3, 4, 1, 0] rfl ?_
      refine kf_X9_reach_43 v1 v2 _ (fun v3_1022 v4_1023 I1024 F1025 => ?_) ab_fu r1012 (1 : Int32) I1013 F1014
      refine OK_st 1 okX9_reach (S' := (92, [(0, .ref 0), (1, .int v1), (2, .int v2), (3, .int v3_1022), (4, .int v4_1023)], [.int v3_1022], hp I1024 F1025)) rfl ⟨trivial, trivial⟩ ?_
      exact OK_ri okX9_reach rfl rfl (Or.inl rfl)
    · refine OK_st 3 okX9_reach (S' := ((if v2 = (1 : Int32) then 26 else 23), [(0, .ref 0), (1, .int v1), (2, .int v2)], [], hp I1008 F1009)) rfl ⟨trivial, trivial, trivial, trivial⟩ ?_
      refine OK_if (fun h1026 => ?_) (fun h1026 => ?_)
      · refine OK_st 6 okX9_reach (S' := (36, [(0, .ref 0), (1, .int v1), (2, .int v2)], [.int (0 : Int32), .int v1, .ref 16, .ref 27], hp I1008 F1009)) rfl ⟨trivial, trivial, trivial, trivial, trivial, trivial, trivial⟩ ?_
        refine OK_cv [.ref 16, .int v1, .int (0 : Int32)] [] okX9_reach okX8_measure rfl rfl cl_RX9_284 rfl rfl (Nat.le_of_ble_eq_true rfl) (by decide) (Nat.le_of_ble_eq_true rfl) (kf_X8_measure v1 (0 : Int32) I1008 F1009) (fun r1027 I1028 F1029 => ?_)
        refine OK_st 3 okX9_reach (S' := (43, [(4, .int (1 : Int32)), (3, .int r1027), (0, .ref 0), (1, .int v1), (2, .int v2)], [], hp I1028 F1029)) rfl ⟨(by decide), trivial, (by decide), trivial⟩ ?_
        refine OK_pk [2, 3, 4, 1, 0] rfl ?_
        refine kf_X9_reach_43 v1 v2 _ (fun v3_1030 v4_1031 I1032 F1033 => ?_) ab_fu r1027 (1 : Int32) I1028 F1029
        refine OK_st 1 okX9_reach (S' := (92, [(0, .ref 0), (1, .int v1), (2, .int v2), (3, .int v3_1030), (4, .int v4_1031)], [.int v3_1030], hp I1032 F1033)) rfl ⟨trivial, trivial⟩ ?_
        exact OK_ri okX9_reach rfl rfl (Or.inl rfl)
      · refine OK_st 1 okX9_reach (S' := (25, [(0, .ref 0), (1, .int v1), (2, .int v2)], [.int (-1000000002 : Int32)], hp I1008 F1009)) rfl ⟨trivial, trivial⟩ ?_
        exact OK_ri okX9_reach rfl rfl (Or.inl rfl)
  · refine OK_st 1 okX9_reach (S' := (13, [(0, .ref 0), (1, .int v1), (2, .int v2)], [.int (-1000000001 : Int32)], hp I1008 F1009)) rfl ⟨trivial, trivial⟩ ?_
    exact OK_ri okX9_reach rfl rfl (Or.inl rfl)

def f_X8_apartFrom_15 (v2 : Int32) (v4 : Int32) (ko : Int32 → Int32 → AI → AF → AQ) : Nat → Int32 → Int32 → AI → AF → AQ
  | 0, _, _, _, _ => none
  | n + 1, v5, v6, I, F =>
    if (4 : Int32) ≤ v6 then
      ko v5 v6 I F
    else
      ab_bd (f_X8_ownMeasure v2 v6 I F) (fun r1048 I1049 F1050 =>
        ab_lt (v5 + (if 0 ≤ (r1048 - v4) then (r1048 - v4) else 0 - (r1048 - v4))) (fun x1051 =>
          f_X8_apartFrom_15 v2 v4 ko n x1051 (v6 + (1 : Int32)) I1049 F1050))
set_option maxRecDepth 20000 in
set_option maxHeartbeats 4000000 in
theorem kf_X8_apartFrom_15 (v2 : Int32) (v4 : Int32) (ko : Int32 → Int32 → AI → AF → AQ) (hko : ∀ v5 v6 I F, OK 2 mX8_apartFrom true (ko v5 v6 I F) (46, [(0, .ref 27), (1, .ref 16), (2, .int v2), (4, .int v4), (5, .int v5), (6, .int v6)], [], hp I F)) : ∀ n v5 v6 I F, OK 2 mX8_apartFrom true (f_X8_apartFrom_15 v2 v4 ko n v5 v6 I F) (15, [(0, .ref 27), (1, .ref 16), (2, .int v2), (4, .int v4), (5, .int v5), (6, .int v6)], [], hp I F) := by
  intro n
  induction n with
  | zero =>
    intro v5 v6 I F
    exact OK_no
  | succ n ih =>
    intro v5 v6 I F
    rw [f_X8_apartFrom_15]
    refine OK_st 3 okX8_apartFrom (S' := ((if (4 : Int32) ≤ v6 then 46 else 21), [(0, .ref 27), (1, .ref 16), (2, .int v2), (4, .int v4), (5, .int v5), (6, .int v6)], [], hp I F)) rfl ⟨trivial, trivial, trivial, trivial⟩ ?_
    refine OK_if (fun h1047 => ?_) (fun h1047 => ?_)
    · exact hko v5 v6 I F
    · refine OK_st 5 okX8_apartFrom (S' := (28, [(0, .ref 27), (1, .ref 16), (2, .int v2), (4, .int v4), (5, .int v5), (6, .int v6)], [.int v6, .int v2, .ref 16, .ref 27, .int v5], hp I F)) rfl ⟨trivial, trivial, trivial, trivial, trivial, trivial⟩ ?_
      refine OK_cv [.ref 16, .int v2, .int v6] [.int v5] okX8_apartFrom okX8_ownMeasure rfl rfl cl_RX8_43 rfl rfl (Nat.le_of_ble_eq_true rfl) (by decide) (Nat.le_of_ble_eq_true rfl) (kf_X8_ownMeasure v2 v6 I F) (fun r1048 I1049 F1050 => ?_)
      refine OK_st 5 okX8_apartFrom (S' := (40, [(5, .int (v5 + (if 0 ≤ (r1048 - v4) then (r1048 - v4) else 0 - (r1048 - v4)))), (0, .ref 27), (1, .ref 16), (2, .int v2), (4, .int v4), (6, .int v6)], [], hp I1049 F1050)) rfl ⟨trivial, trivial, (Nat.le_of_ble_eq_true rfl), trivial, (by decide), trivial⟩ ?_
      refine OK_lt (fun x1051 => (40, [(5, .int x1051), (0, .ref 27), (1, .ref 16), (2, .int v2), (4, .int v4), (6, .int v6)], [], hp I1049 F1050)) (fun x1051 => ?_)
      refine OK_st 2 okX8_apartFrom (S' := (15, [(6, .int (v6 + (1 : Int32))), (5, .int x1051), (0, .ref 27), (1, .ref 16), (2, .int v2), (4, .int v4)], [], hp I1049 F1050)) rfl ⟨(by decide), trivial, trivial⟩ ?_
      refine OK_pk [2, 3, 4, 5, 1, 0] rfl ?_
      exact ih x1051 (v6 + (1 : Int32)) I1049 F1050

def f_X8_apartFrom (v2 : Int32) (v3 : Int32) (I : AI) (F : AF) : AQ :=
  ab_bd (f_X8_ownMeasure v2 v3 I F) (fun r1044 I1045 F1046 =>
    f_X8_apartFrom_15 v2 r1044 (fun v5_1052 v6_1053 I1054 F1055 =>
      some (v5_1052, I1054, F1055)) ab_fu (0 : Int32) (0 : Int32) I1045 F1046)
set_option maxRecDepth 20000 in
set_option maxHeartbeats 4000000 in
theorem kf_X8_apartFrom (v2 : Int32) (v3 : Int32) (I : AI) (F : AF) : OK 2 mX8_apartFrom true (f_X8_apartFrom v2 v3 I F) (0, [(0, .ref 27), (1, .ref 16), (2, .int v2), (3, .int v3)], [], hp I F) := by
  rw [f_X8_apartFrom]
  refine OK_st 4 okX8_apartFrom (S' := (4, [(0, .ref 27), (1, .ref 16), (2, .int v2), (3, .int v3)], [.int v3, .int v2, .ref 16, .ref 27], hp I F)) rfl ⟨trivial, trivial, trivial, trivial, trivial⟩ ?_
  refine OK_cv [.ref 16, .int v2, .int v3] [] okX8_apartFrom okX8_ownMeasure rfl rfl cl_RX8_43 rfl rfl (Nat.le_of_ble_eq_true rfl) (by decide) (Nat.le_of_ble_eq_true rfl) (kf_X8_ownMeasure v2 v3 I F) (fun r1044 I1045 F1046 => ?_)
  refine OK_st 5 okX8_apartFrom (S' := (15, [(6, .int (0 : Int32)), (5, .int (0 : Int32)), (4, .int r1044), (0, .ref 27), (1, .ref 16), (2, .int v2), (3, .int v3)], [], hp I1045 F1046)) rfl ⟨(by decide), trivial, (by decide), trivial, (by decide), trivial⟩ ?_
  refine OK_pk [3, 4, 5, 2, 1, 0] rfl ?_
  refine kf_X8_apartFrom_15 v2 r1044 _ (fun v5_1052 v6_1053 I1054 F1055 => ?_) ab_fu (0 : Int32) (0 : Int32) I1045 F1046
  refine OK_st 1 okX8_apartFrom (S' := (48, [(0, .ref 27), (1, .ref 16), (2, .int v2), (4, .int r1044), (5, .int v5_1052), (6, .int v6_1053)], [.int v5_1052], hp I1054 F1055)) rfl ⟨trivial, trivial⟩ ?_
  exact OK_ri okX8_apartFrom rfl rfl (Or.inl rfl)

def f_X9_bestCopy_44 (v1 : Int32) (v2 : Int32) (ko : Int32 → Int32 → AI → AF → AQ) : Nat → Int32 → Int32 → AI → AF → AQ
  | 0, _, _, _, _ => none
  | n + 1, v3, v4, I, F =>
    if (4 : Int32) ≤ v4 then
      ko v3 v4 I F
    else
      ab_bd (f_X8_apartFrom v1 v4 I F) (fun r1056 I1057 F1058 =>
        ab_bd (f_X8_apartFrom v1 v3 I1057 F1058) (fun r1059 I1060 F1061 =>
          if r1059 ≤ r1056 then
            f_X9_bestCopy_44 v1 v2 ko n v3 (v4 + (1 : Int32)) I1060 F1061
          else
            f_X9_bestCopy_44 v1 v2 ko n v4 (v4 + (1 : Int32)) I1060 F1061))
set_option maxRecDepth 20000 in
set_option maxHeartbeats 4000000 in
theorem kf_X9_bestCopy_44 (v1 : Int32) (v2 : Int32) (ko : Int32 → Int32 → AI → AF → AQ) (hko : ∀ v3 v4 I F, OK 3 mX9_bestCopy true (ko v3 v4 I F) (89, [(0, .ref 0), (1, .int v1), (2, .int v2), (3, .int v3), (4, .int v4)], [], hp I F)) : ∀ n v3 v4 I F, OK 3 mX9_bestCopy true (f_X9_bestCopy_44 v1 v2 ko n v3 v4 I F) (44, [(0, .ref 0), (1, .int v1), (2, .int v2), (3, .int v3), (4, .int v4)], [], hp I F) := by
  intro n
  induction n with
  | zero =>
    intro v3 v4 I F
    exact OK_no
  | succ n ih =>
    intro v3 v4 I F
    rw [f_X9_bestCopy_44]
    refine OK_st 3 okX9_bestCopy (S' := ((if (4 : Int32) ≤ v4 then 89 else 50), [(0, .ref 0), (1, .int v1), (2, .int v2), (3, .int v3), (4, .int v4)], [], hp I F)) rfl ⟨trivial, trivial, trivial, trivial⟩ ?_
    refine OK_if (fun h1043 => ?_) (fun h1043 => ?_)
    · exact hko v3 v4 I F
    · refine OK_st 6 okX9_bestCopy (S' := (61, [(0, .ref 0), (1, .int v1), (2, .int v2), (3, .int v3), (4, .int v4)], [.int v4, .int v1, .ref 16, .ref 27], hp I F)) rfl ⟨trivial, trivial, trivial, trivial, trivial, trivial, trivial⟩ ?_
      refine OK_cv [.ref 16, .int v1, .int v4] [] okX9_bestCopy okX8_apartFrom rfl rfl cl_RX9_295 rfl rfl (Nat.le_of_ble_eq_true rfl) (by decide) (Nat.le_of_ble_eq_true rfl) (kf_X8_apartFrom v1 v4 I F) (fun r1056 I1057 F1058 => ?_)
      refine OK_st 6 okX9_bestCopy (S' := (74, [(0, .ref 0), (1, .int v1), (2, .int v2), (3, .int v3), (4, .int v4)], [.int v3, .int v1, .ref 16, .ref 27, .int r1056], hp I1057 F1058)) rfl ⟨trivial, trivial, trivial, trivial, trivial, trivial, trivial⟩ ?_
      refine OK_cv [.ref 16, .int v1, .int v3] [.int r1056] okX9_bestCopy okX8_apartFrom rfl rfl cl_RX9_295 rfl rfl (Nat.le_of_ble_eq_true rfl) (by decide) (Nat.le_of_ble_eq_true rfl) (kf_X8_apartFrom v1 v3 I1057 F1058) (fun r1059 I1060 F1061 => ?_)
      refine OK_st 1 okX9_bestCopy (S' := ((if r1059 ≤ r1056 then 83 else 80), [(0, .ref 0), (1, .int v1), (2, .int v2), (3, .int v3), (4, .int v4)], [], hp I1060 F1061)) rfl ⟨trivial, trivial⟩ ?_
      refine OK_if (fun h1062 => ?_) (fun h1062 => ?_)
      · refine OK_st 2 okX9_bestCopy (S' := (44, [(4, .int (v4 + (1 : Int32))), (0, .ref 0), (1, .int v1), (2, .int v2), (3, .int v3)], [], hp I1060 F1061)) rfl ⟨(by decide), trivial, trivial⟩ ?_
        refine OK_pk [1, 2, 3, 4, 0] rfl ?_
        exact ih v3 (v4 + (1 : Int32)) I1060 F1061
      · refine OK_st 4 okX9_bestCopy (S' := (44, [(4, .int (v4 + (1 : Int32))), (3, .int v4), (0, .ref 0), (1, .int v1), (2, .int v2)], [], hp I1060 F1061)) rfl ⟨trivial, (by decide), (by decide), trivial, trivial⟩ ?_
        refine OK_pk [2, 3, 4, 1, 0] rfl ?_
        exact ih v4 (v4 + (1 : Int32)) I1060 F1061

def f_X9_bestCopy (v1 : Int32) (v2 : Int32) (I : AI) (F : AF) : AQ :=
  ab_bd (f_X5_hasLimb v1 I F) (fun r1034 I1035 F1036 =>
    if ¬ r1034 = 0 then
      if v2 = 0 then
        ab_bd (f_X8_lives v1 I1035 F1036) (fun r1039 I1040 F1041 =>
          if ¬ r1039 = 0 then
            f_X9_bestCopy_44 v1 v2 (fun v3_1063 v4_1064 I1065 F1066 =>
              if ¬ v2 = 0 then
                ab_bd (f_X8_apartFrom v1 v3_1063 I1065 F1066) (fun r1068 I1069 F1070 =>
                  some (r1068, I1069, F1070))
              else
                some (v3_1063, I1065, F1066)) ab_fu (0 : Int32) (1 : Int32) I1040 F1041
          else
            some ((-1 : Int32), I1040, F1041))
      else
        if v2 = (1 : Int32) then
          ab_bd (f_X8_lives v1 I1035 F1036) (fun r1072 I1073 F1074 =>
            if ¬ r1072 = 0 then
              f_X9_bestCopy_44 v1 v2 (fun v3_1076 v4_1077 I1078 F1079 =>
                if ¬ v2 = 0 then
                  ab_bd (f_X8_apartFrom v1 v3_1076 I1078 F1079) (fun r1081 I1082 F1083 =>
                    some (r1081, I1082, F1083))
                else
                  some (v3_1076, I1078, F1079)) ab_fu (0 : Int32) (1 : Int32) I1073 F1074
            else
              some ((-1 : Int32), I1073, F1074))
        else
          some ((-1000000002 : Int32), I1035, F1036)
    else
      some ((-1000000001 : Int32), I1035, F1036))
set_option maxRecDepth 20000 in
set_option maxHeartbeats 4000000 in
theorem kf_X9_bestCopy (v1 : Int32) (v2 : Int32) (I : AI) (F : AF) : OK 3 mX9_bestCopy true (f_X9_bestCopy v1 v2 I F) (0, [(0, .ref 0), (1, .int v1), (2, .int v2)], [], hp I F) := by
  rw [f_X9_bestCopy]
  refine OK_st 3 okX9_bestCopy (S' := (5, [(0, .ref 0), (1, .int v1), (2, .int v2)], [.int v1, .ref 16], hp I F)) rfl ⟨trivial, trivial, trivial, trivial⟩ ?_
  refine OK_cv [.int v1] [] okX9_bestCopy okX5_hasLimb rfl rfl cl_RX9_151 rfl rfl (Nat.le_of_ble_eq_true rfl) (by decide) (Nat.le_of_ble_eq_true rfl) (kf_X5_hasLimb v1 I F) (fun r1034 I1035 F1036 => ?_)
  refine OK_st 1 okX9_bestCopy (S' := ((if ¬ r1034 = 0 then 14 else 11), [(0, .ref 0), (1, .int v1), (2, .int v2)], [], hp I1035 F1036)) rfl ⟨trivial, trivial⟩ ?_
  refine OK_if (fun h1037 => ?_) (fun h1037 => ?_)
  · refine OK_st 2 okX9_bestCopy (S' := ((if v2 = 0 then 26 else 18), [(0, .ref 0), (1, .int v1), (2, .int v2)], [], hp I1035 F1036)) rfl ⟨trivial, trivial, trivial⟩ ?_
    refine OK_if (fun h1038 => ?_) (fun h1038 => ?_)
    · refine OK_st 3 okX9_bestCopy (S' := (31, [(0, .ref 0), (1, .int v1), (2, .int v2)], [.int v1, .ref 27], hp I1035 F1036)) rfl ⟨trivial, trivial, trivial, trivial⟩ ?_
      refine OK_cv [.int v1] [] okX9_bestCopy okX8_lives rfl rfl cl_RX9_167 rfl rfl (Nat.le_of_ble_eq_true rfl) (by decide) (Nat.le_of_ble_eq_true rfl) (kf_X8_lives v1 I1035 F1036) (fun r1039 I1040 F1041 => ?_)
      refine OK_st 1 okX9_bestCopy (S' := ((if ¬ r1039 = 0 then 39 else 37), [(0, .ref 0), (1, .int v1), (2, .int v2)], [], hp I1040 F1041)) rfl ⟨trivial, trivial⟩ ?_
      refine OK_if (fun h1042 => ?_) (fun h1042 => ?_)
      · refine OK_st 4 okX9_bestCopy (S' := (44, [(4, .int (1 : Int32)), (3, .int (0 : Int32)), (0, .ref 0), (1, .int v1), (2, .int v2)], [], hp I1040 F1041)) rfl ⟨trivial, (by decide), trivial, (by decide), trivial⟩ ?_
        refine OK_pk [2, 3, 4, 1, 0] rfl ?_
        refine kf_X9_bestCopy_44 v1 v2 _ (fun v3_1063 v4_1064 I1065 F1066 => ?_) ab_fu (0 : Int32) (1 : Int32) I1040 F1041
        refine OK_st 2 okX9_bestCopy (S' := ((if ¬ v2 = 0 then 97 else 93), [(0, .ref 0), (1, .int v1), (2, .int v2), (3, .int v3_1063), (4, .int v4_1064)], [], hp I1065 F1066)) rfl ⟨trivial, trivial, trivial⟩ ?_
        refine OK_if (fun h1067 => ?_) (fun h1067 => ?_)
        · refine OK_st 6 okX9_bestCopy (S' := (107, [(0, .ref 0), (1, .int v1), (2, .int v2), (3, .int v3_1063), (4, .int v4_1064)], [.int v3_1063, .int v1, .ref 16, .ref 27], hp I1065 F1066)) rfl ⟨trivial, trivial, trivial, trivial, trivial, trivial, trivial⟩ ?_
          refine OK_cv [.ref 16, .int v1, .int v3_1063] [] okX9_bestCopy okX8_apartFrom rfl rfl cl_RX9_295 rfl rfl (Nat.le_of_ble_eq_true rfl) (by decide) (Nat.le_of_ble_eq_true rfl) (kf_X8_apartFrom v1 v3_1063 I1065 F1066) (fun r1068 I1069 F1070 => ?_)
          exact OK_ri okX9_bestCopy rfl rfl (Or.inl rfl)
        · refine OK_st 2 okX9_bestCopy (S' := (110, [(0, .ref 0), (1, .int v1), (2, .int v2), (3, .int v3_1063), (4, .int v4_1064)], [.int v3_1063], hp I1065 F1066)) rfl ⟨trivial, trivial, trivial⟩ ?_
          exact OK_ri okX9_bestCopy rfl rfl (Or.inl rfl)
      · refine OK_st 1 okX9_bestCopy (S' := (38, [(0, .ref 0), (1, .int v1), (2, .int v2)], [.int (-1 : Int32)], hp I1040 F1041)) rfl ⟨trivial, trivial⟩ ?_
        exact OK_ri okX9_bestCopy rfl rfl (Or.inl rfl)
    · refine OK_st 3 okX9_bestCopy (S' := ((if v2 = (1 : Int32) then 26 else 23), [(0, .ref 0), (1, .int v1), (2, .int v2)], [], hp I1035 F1036)) rfl ⟨trivial, trivial, trivial, trivial⟩ ?_
      refine OK_if (fun h1071 => ?_) (fun h1071 => ?_)
      · refine OK_st 3 okX9_bestCopy (S' := (31, [(0, .ref 0), (1, .int v1), (2, .int v2)], [.int v1, .ref 27], hp I1035 F1036)) rfl ⟨trivial, trivial, trivial, trivial⟩ ?_
        refine OK_cv [.int v1] [] okX9_bestCopy okX8_lives rfl rfl cl_RX9_167 rfl rfl (Nat.le_of_ble_eq_true rfl) (by decide) (Nat.le_of_ble_eq_true rfl) (kf_X8_lives v1 I1035 F1036) (fun r1072 I1073 F1074 => ?_)
        refine OK_st 1 okX9_bestCopy (S' := ((if ¬ r1072 = 0 then 39 else 37), [(0, .ref 0), (1, .int v1), (2, .int v2)], [], hp I1073 F1074)) rfl ⟨trivial, trivial⟩ ?_
        refine OK_if (fun h1075 => ?_) (fun h1075 => ?_)
        · refine OK_st 4 okX9_bestCopy (S' := (44, [(4, .int (1 : Int32)), (3, .int (0 : Int32)), (0, .ref 0), (1, .int v1), (2, .int v2)], [], hp I1073 F1074)) rfl ⟨trivial, (by decide), trivial, (by decide), trivial⟩ ?_
          refine OK_pk [2, 3, 4, 1, 0] rfl ?_
          refine kf_X9_bestCopy_44 v1 v2 _ (fun v3_1076 v4_1077 I1078 F1079 => ?_) ab_fu (0 : Int32) (1 : Int32) I1073 F1074
          refine OK_st 2 okX9_bestCopy (S' := ((if ¬ v2 = 0 then 97 else 93), [(0, .ref 0), (1, .int v1), (2, .int v2), (3, .int v3_1076), (4, .int v4_1077)], [], hp I1078 F1079)) rfl ⟨trivial, trivial, trivial⟩ ?_
          refine OK_if (fun h1080 => ?_) (fun h1080 => ?_)
          · refine OK_st 6 okX9_bestCopy (S' := (107, [(0, .ref 0), (1, .int v1), (2, .int v2), (3, .int v3_1076), (4, .int v4_1077)], [.int v3_1076, .int v1, .ref 16, .ref 27], hp I1078 F1079)) rfl ⟨trivial, trivial, trivial, trivial, trivial, trivial, trivial⟩ ?_
            refine OK_cv [.ref 16, .int v1, .int v3_1076] [] okX9_bestCopy okX8_apartFrom rfl rfl cl_RX9_295 rfl rfl (Nat.le_of_ble_eq_true rfl) (by decide) (Nat.le_of_ble_eq_true rfl) (kf_X8_apartFrom v1 v3_1076 I1078 F1079) (fun r1081 I1082 F1083 => ?_)
            exact OK_ri okX9_bestCopy rfl rfl (Or.inl rfl)
          · refine OK_st 2 okX9_bestCopy (S' := (110, [(0, .ref 0), (1, .int v1), (2, .int v2), (3, .int v3_1076), (4, .int v4_1077)], [.int v3_1076], hp I1078 F1079)) rfl ⟨trivial, trivial, trivial⟩ ?_
            exact OK_ri okX9_bestCopy rfl rfl (Or.inl rfl)
        · refine OK_st 1 okX9_bestCopy (S' := (38, [(0, .ref 0), (1, .int v1), (2, .int v2)], [.int (-1 : Int32)], hp I1073 F1074)) rfl ⟨trivial, trivial⟩ ?_
          exact OK_ri okX9_bestCopy rfl rfl (Or.inl rfl)
      · refine OK_st 1 okX9_bestCopy (S' := (25, [(0, .ref 0), (1, .int v1), (2, .int v2)], [.int (-1000000002 : Int32)], hp I1035 F1036)) rfl ⟨trivial, trivial⟩ ?_
        exact OK_ri okX9_bestCopy rfl rfl (Or.inl rfl)
  · refine OK_st 1 okX9_bestCopy (S' := (13, [(0, .ref 0), (1, .int v1), (2, .int v2)], [.int (-1000000001 : Int32)], hp I1035 F1036)) rfl ⟨trivial, trivial⟩ ?_
    exact OK_ri okX9_bestCopy rfl rfl (Or.inl rfl)

def f_X9_nearest_21 (v1 : Int32) (ko : Int32 → Int32 → Int32 → AI → AF → AQ) : Nat → Int32 → Int32 → Int32 → AI → AF → AQ
  | 0, _, _, _, _, _ => none
  | n + 1, v2, v3, v4, I, F =>
    if (I 9) ≤ v4 then
      ko v2 v3 v4 I F
    else
      ab_bd (f_X8_measureNow v4 I F) (fun r1087 I1088 F1089 =>
        ab_lt (if 0 ≤ (r1087 - v1) then (r1087 - v1) else 0 - (r1087 - v1)) (fun x1090 =>
          if v2 = (-1 : Int32) then
            f_X9_nearest_21 v1 ko n v4 x1090 (v4 + (1 : Int32)) I1088 F1089
          else
            if v3 ≤ x1090 then
              f_X9_nearest_21 v1 ko n v2 v3 (v4 + (1 : Int32)) I1088 F1089
            else
              f_X9_nearest_21 v1 ko n v4 x1090 (v4 + (1 : Int32)) I1088 F1089))
set_option maxRecDepth 20000 in
set_option maxHeartbeats 4000000 in
theorem kf_X9_nearest_21 (v1 : Int32) (ko : Int32 → Int32 → Int32 → AI → AF → AQ) (hko : ∀ v2 v3 v4 I F, OK 4 mX9_nearest true (ko v2 v3 v4 I F) (76, [(0, .ref 0), (1, .int v1), (2, .int v2), (3, .int v3), (4, .int v4)], [], hp I F)) : ∀ n v2 v3 v4 I F, OK 4 mX9_nearest true (f_X9_nearest_21 v1 ko n v2 v3 v4 I F) (21, [(0, .ref 0), (1, .int v1), (2, .int v2), (3, .int v3), (4, .int v4)], [], hp I F) := by
  intro n
  induction n with
  | zero =>
    intro v2 v3 v4 I F
    exact OK_no
  | succ n ih =>
    intro v2 v3 v4 I F
    rw [f_X9_nearest_21]
    refine OK_st 5 okX9_nearest (S' := ((if (I 9) ≤ v4 then 76 else 33), [(0, .ref 0), (1, .int v1), (2, .int v2), (3, .int v3), (4, .int v4)], [], hp I F)) rfl ⟨trivial, trivial, trivial, trivial, trivial, trivial⟩ ?_
    refine OK_if (fun h1086 => ?_) (fun h1086 => ?_)
    · exact hko v2 v3 v4 I F
    · refine OK_st 5 okX9_nearest (S' := (43, [(0, .ref 0), (1, .int v1), (2, .int v2), (3, .int v3), (4, .int v4)], [.int v4, .ref 16, .ref 27], hp I F)) rfl ⟨trivial, trivial, trivial, trivial, trivial, trivial⟩ ?_
      refine OK_cv [.ref 16, .int v4] [] okX9_nearest okX8_measureNow rfl rfl cl_RX9_159 rfl rfl (Nat.le_of_ble_eq_true rfl) (by decide) (Nat.le_of_ble_eq_true rfl) (kf_X8_measureNow v4 I F) (fun r1087 I1088 F1089 => ?_)
      refine OK_st 4 okX9_nearest (S' := (53, [(5, .int (if 0 ≤ (r1087 - v1) then (r1087 - v1) else 0 - (r1087 - v1))), (0, .ref 0), (1, .int v1), (2, .int v2), (3, .int v3), (4, .int v4)], [], hp I1088 F1089)) rfl ⟨trivial, trivial, (Nat.le_of_ble_eq_true rfl), (by decide), trivial⟩ ?_
      refine OK_lt (fun x1090 => (53, [(5, .int x1090), (0, .ref 0), (1, .int v1), (2, .int v2), (3, .int v3), (4, .int v4)], [], hp I1088 F1089)) (fun x1090 => ?_)
      refine OK_st 3 okX9_nearest (S' := ((if v2 = (-1 : Int32) then 64 else 58), [(5, .int x1090), (0, .ref 0), (1, .int v1), (2, .int v2), (3, .int v3), (4, .int v4)], [], hp I1088 F1089)) rfl ⟨trivial, trivial, trivial, trivial⟩ ?_
      refine OK_if (fun h1091 => ?_) (fun h1091 => ?_)
      · refine OK_st 6 okX9_nearest (S' := (21, [(4, .int (v4 + (1 : Int32))), (3, .int x1090), (2, .int v4), (5, .int x1090), (0, .ref 0), (1, .int v1)], [], hp I1088 F1089)) rfl ⟨trivial, (by decide), trivial, (by decide), (by decide), trivial, trivial⟩ ?_
        refine OK_pk [4, 5, 2, 1, 0] rfl ?_
        exact ih v4 x1090 (v4 + (1 : Int32)) I1088 F1089
      · refine OK_st 3 okX9_nearest (S' := ((if v3 ≤ x1090 then 70 else 64), [(5, .int x1090), (0, .ref 0), (1, .int v1), (2, .int v2), (3, .int v3), (4, .int v4)], [], hp I1088 F1089)) rfl ⟨trivial, trivial, trivial, trivial⟩ ?_
        refine OK_if (fun h1092 => ?_) (fun h1092 => ?_)
        · refine OK_st 2 okX9_nearest (S' := (21, [(4, .int (v4 + (1 : Int32))), (5, .int x1090), (0, .ref 0), (1, .int v1), (2, .int v2), (3, .int v3)], [], hp I1088 F1089)) rfl ⟨(by decide), trivial, trivial⟩ ?_
          refine OK_pk [2, 3, 4, 5, 0] rfl ?_
          exact ih v2 v3 (v4 + (1 : Int32)) I1088 F1089
        · refine OK_st 6 okX9_nearest (S' := (21, [(4, .int (v4 + (1 : Int32))), (3, .int x1090), (2, .int v4), (5, .int x1090), (0, .ref 0), (1, .int v1)], [], hp I1088 F1089)) rfl ⟨trivial, (by decide), trivial, (by decide), (by decide), trivial, trivial⟩ ?_
          refine OK_pk [4, 5, 2, 1, 0] rfl ?_
          exact ih v4 x1090 (v4 + (1 : Int32)) I1088 F1089

def f_X9_nearest (v1 : Int32) (I : AI) (F : AF) : AQ :=
  if v1 < 0 then
    some ((-1000000002 : Int32), I, F)
  else
    if v1 ≤ (999 : Int32) then
      f_X9_nearest_21 v1 (fun v2_1093 v3_1094 v4_1095 I1096 F1097 =>
        some (v2_1093, I1096, F1097)) ab_fu (-1 : Int32) (0 : Int32) (0 : Int32) I F
    else
      some ((-1000000002 : Int32), I, F)
set_option maxRecDepth 20000 in
set_option maxHeartbeats 4000000 in
theorem kf_X9_nearest (v1 : Int32) (I : AI) (F : AF) : OK 4 mX9_nearest true (f_X9_nearest v1 I F) (0, [(0, .ref 0), (1, .int v1)], [], hp I F) := by
  rw [f_X9_nearest]
  refine OK_st 2 okX9_nearest (S' := ((if v1 < 0 then 11 else 4), [(0, .ref 0), (1, .int v1)], [], hp I F)) rfl ⟨trivial, trivial, trivial⟩ ?_
  refine OK_if (fun h1084 => ?_) (fun h1084 => ?_)
  · refine OK_st 1 okX9_nearest (S' := (13, [(0, .ref 0), (1, .int v1)], [.int (-1000000002 : Int32)], hp I F)) rfl ⟨trivial, trivial⟩ ?_
    exact OK_ri okX9_nearest rfl rfl (Or.inl rfl)
  · refine OK_st 3 okX9_nearest (S' := ((if v1 ≤ (999 : Int32) then 14 else 11), [(0, .ref 0), (1, .int v1)], [], hp I F)) rfl ⟨trivial, trivial, trivial, trivial⟩ ?_
    refine OK_if (fun h1085 => ?_) (fun h1085 => ?_)
    · refine OK_st 6 okX9_nearest (S' := (21, [(4, .int (0 : Int32)), (3, .int (0 : Int32)), (2, .int (-1 : Int32)), (0, .ref 0), (1, .int v1)], [], hp I F)) rfl ⟨trivial, (by decide), trivial, (by decide), trivial, (by decide), trivial⟩ ?_
      refine OK_pk [3, 4, 2, 1, 0] rfl ?_
      refine kf_X9_nearest_21 v1 _ (fun v2_1093 v3_1094 v4_1095 I1096 F1097 => ?_) ab_fu (-1 : Int32) (0 : Int32) (0 : Int32) I F
      refine OK_st 1 okX9_nearest (S' := (77, [(0, .ref 0), (1, .int v1), (2, .int v2_1093), (3, .int v3_1094), (4, .int v4_1095)], [.int v2_1093], hp I1096 F1097)) rfl ⟨trivial, trivial⟩ ?_
      exact OK_ri okX9_nearest rfl rfl (Or.inl rfl)
    · refine OK_st 1 okX9_nearest (S' := (13, [(0, .ref 0), (1, .int v1)], [.int (-1000000002 : Int32)], hp I F)) rfl ⟨trivial, trivial⟩ ?_
      exact OK_ri okX9_nearest rfl rfl (Or.inl rfl)

def f_X9_odds_61 (v2 : Int32) (w4 : Int64) (ko : Int64 → Int32 → AI → AF → AQ) : Nat → Int64 → Int32 → AI → AF → AQ
  | 0, _, _, _, _ => none
  | n + 1, w6, v8, I, F =>
    if v2 ≤ v8 then
      ko w6 v8 I F
    else
      f_X9_odds_61 v2 w4 ko n ((w6 * w4) / (100 : Int64)) (v8 + (1 : Int32)) I F
set_option maxRecDepth 20000 in
set_option maxHeartbeats 4000000 in
theorem kf_X9_odds_61 (v2 : Int32) (w4 : Int64) (ko : Int64 → Int32 → AI → AF → AQ) (hko : ∀ w6 v8 I F, OK 1 mX9_odds true (ko w6 v8 I F) (84, [(2, .int v2), (4, .long w4), (6, .long w6), (8, .int v8)], [], hp I F)) : ∀ n w6 v8 I F, OK 1 mX9_odds true (f_X9_odds_61 v2 w4 ko n w6 v8 I F) (61, [(2, .int v2), (4, .long w4), (6, .long w6), (8, .int v8)], [], hp I F) := by
  intro n
  induction n with
  | zero =>
    intro w6 v8 I F
    exact OK_no
  | succ n ih =>
    intro w6 v8 I F
    rw [f_X9_odds_61]
    refine OK_st 3 okX9_odds (S' := ((if v2 ≤ v8 then 84 else 67), [(2, .int v2), (4, .long w4), (6, .long w6), (8, .int v8)], [], hp I F)) rfl ⟨trivial, trivial, trivial, trivial⟩ ?_
    refine OK_if (fun h1106 => ?_) (fun h1106 => ?_)
    · exact hko w6 v8 I F
    · refine OK_st 8 okX9_odds (S' := (61, [(8, .int (v8 + (1 : Int32))), (6, .long ((w6 * w4) / (100 : Int64))), (2, .int v2), (4, .long w4)], [], hp I F)) rfl ⟨trivial, trivial, trivial, trivial, (by decide), (by decide), (by decide), trivial, trivial⟩ ?_
      refine OK_pk [2, 3, 1, 0] rfl ?_
      exact ih ((w6 * w4) / (100 : Int64)) (v8 + (1 : Int32)) I F

def f_X9_odds (v1 : Int32) (v2 : Int32) (v3 : Int32) (I : AI) (F : AF) : AQ :=
  ab_bd (f_X5_hasLimb v1 I F) (fun r1098 I1099 F1100 =>
    if ¬ r1098 = 0 then
      if v2 < 0 then
        some ((-1000000002 : Int32), I1099, F1100)
      else
        if (60 : Int32) < v2 then
          some ((-1000000002 : Int32), I1099, F1100)
        else
          if v3 < 0 then
            some ((-1000000002 : Int32), I1099, F1100)
          else
            if v3 ≤ (100 : Int32) then
              f_X9_odds_61 v2 (((100 : Int32) - (if (v3 + ((2 : Int32) * v1)) < (100 : Int32) then (v3 + ((2 : Int32) * v1)) else (100 : Int32))).toInt64) (fun w6_1107 v8_1108 I1109 F1110 =>
                some (w6_1107.toInt32, I1109, F1110)) ab_fu (1000000000 : Int64) (0 : Int32) I1099 F1100
            else
              some ((-1000000002 : Int32), I1099, F1100)
    else
      some ((-1000000001 : Int32), I1099, F1100))
set_option maxRecDepth 20000 in
set_option maxHeartbeats 4000000 in
theorem kf_X9_odds (v1 : Int32) (v2 : Int32) (v3 : Int32) (I : AI) (F : AF) : OK 1 mX9_odds true (f_X9_odds v1 v2 v3 I F) (0, [(0, .ref 0), (1, .int v1), (2, .int v2), (3, .int v3)], [], hp I F) := by
  rw [f_X9_odds]
  refine OK_st 3 okX9_odds (S' := (5, [(0, .ref 0), (1, .int v1), (2, .int v2), (3, .int v3)], [.int v1, .ref 16], hp I F)) rfl ⟨trivial, trivial, trivial, trivial⟩ ?_
  refine OK_cv [.int v1] [] okX9_odds okX5_hasLimb rfl rfl cl_RX9_151 rfl rfl (Nat.le_of_ble_eq_true rfl) (by decide) (Nat.le_of_ble_eq_true rfl) (kf_X5_hasLimb v1 I F) (fun r1098 I1099 F1100 => ?_)
  refine OK_st 1 okX9_odds (S' := ((if ¬ r1098 = 0 then 14 else 11), [(0, .ref 0), (1, .int v1), (2, .int v2), (3, .int v3)], [], hp I1099 F1100)) rfl ⟨trivial, trivial⟩ ?_
  refine OK_if (fun h1101 => ?_) (fun h1101 => ?_)
  · refine OK_st 2 okX9_odds (S' := ((if v2 < 0 then 34 else 18), [(0, .ref 0), (1, .int v1), (2, .int v2), (3, .int v3)], [], hp I1099 F1100)) rfl ⟨trivial, trivial, trivial⟩ ?_
    refine OK_if (fun h1102 => ?_) (fun h1102 => ?_)
    · refine OK_st 1 okX9_odds (S' := (36, [(0, .ref 0), (1, .int v1), (2, .int v2), (3, .int v3)], [.int (-1000000002 : Int32)], hp I1099 F1100)) rfl ⟨trivial, trivial⟩ ?_
      exact OK_ri okX9_odds rfl rfl (Or.inl rfl)
    · refine OK_st 3 okX9_odds (S' := ((if (60 : Int32) < v2 then 34 else 24), [(0, .ref 0), (1, .int v1), (2, .int v2), (3, .int v3)], [], hp I1099 F1100)) rfl ⟨trivial, trivial, trivial, trivial⟩ ?_
      refine OK_if (fun h1103 => ?_) (fun h1103 => ?_)
      · refine OK_st 1 okX9_odds (S' := (36, [(0, .ref 0), (1, .int v1), (2, .int v2), (3, .int v3)], [.int (-1000000002 : Int32)], hp I1099 F1100)) rfl ⟨trivial, trivial⟩ ?_
        exact OK_ri okX9_odds rfl rfl (Or.inl rfl)
      · refine OK_st 2 okX9_odds (S' := ((if v3 < 0 then 34 else 28), [(0, .ref 0), (1, .int v1), (2, .int v2), (3, .int v3)], [], hp I1099 F1100)) rfl ⟨trivial, trivial, trivial⟩ ?_
        refine OK_if (fun h1104 => ?_) (fun h1104 => ?_)
        · refine OK_st 1 okX9_odds (S' := (36, [(0, .ref 0), (1, .int v1), (2, .int v2), (3, .int v3)], [.int (-1000000002 : Int32)], hp I1099 F1100)) rfl ⟨trivial, trivial⟩ ?_
          exact OK_ri okX9_odds rfl rfl (Or.inl rfl)
        · refine OK_st 3 okX9_odds (S' := ((if v3 ≤ (100 : Int32) then 37 else 34), [(0, .ref 0), (1, .int v1), (2, .int v2), (3, .int v3)], [], hp I1099 F1100)) rfl ⟨trivial, trivial, trivial, trivial⟩ ?_
          refine OK_if (fun h1105 => ?_) (fun h1105 => ?_)
          · refine OK_st 15 okX9_odds (S' := (61, [(8, .int (0 : Int32)), (6, .long (1000000000 : Int64)), (4, .long ((100 : Int32) - (if (v3 + ((2 : Int32) * v1)) < (100 : Int32) then (v3 + ((2 : Int32) * v1)) else (100 : Int32))).toInt64), (0, .ref 0), (1, .int v1), (2, .int v2), (3, .int v3)], [], hp I1099 F1100)) rfl ⟨trivial, trivial, trivial, trivial, trivial, trivial, trivial, (Nat.le_of_ble_eq_true rfl), trivial, trivial, (by decide), trivial, (by decide), trivial, (by decide), trivial⟩ ?_
            refine OK_pk [5, 2, 1, 0] rfl ?_
            refine kf_X9_odds_61 v2 (((100 : Int32) - (if (v3 + ((2 : Int32) * v1)) < (100 : Int32) then (v3 + ((2 : Int32) * v1)) else (100 : Int32))).toInt64) _ (fun w6_1107 v8_1108 I1109 F1110 => ?_) ab_fu (1000000000 : Int64) (0 : Int32) I1099 F1100
            refine OK_st 2 okX9_odds (S' := (87, [(2, .int v2), (4, .long ((100 : Int32) - (if (v3 + ((2 : Int32) * v1)) < (100 : Int32) then (v3 + ((2 : Int32) * v1)) else (100 : Int32))).toInt64), (6, .long w6_1107), (8, .int v8_1108)], [.int w6_1107.toInt32], hp I1109 F1110)) rfl ⟨trivial, trivial, trivial⟩ ?_
            exact OK_ri okX9_odds rfl rfl (Or.inl rfl)
          · refine OK_st 1 okX9_odds (S' := (36, [(0, .ref 0), (1, .int v1), (2, .int v2), (3, .int v3)], [.int (-1000000002 : Int32)], hp I1099 F1100)) rfl ⟨trivial, trivial⟩ ?_
            exact OK_ri okX9_odds rfl rfl (Or.inl rfl)
  · refine OK_st 1 okX9_odds (S' := (13, [(0, .ref 0), (1, .int v1), (2, .int v2), (3, .int v3)], [.int (-1000000001 : Int32)], hp I1099 F1100)) rfl ⟨trivial, trivial⟩ ?_
    exact OK_ri okX9_odds rfl rfl (Or.inl rfl)

def f_X3_addGot (v1 : Int32) (v2 : Int32) (I : AI) (F : AF) : AQ :=
  if (8 : Int32) ≤ (I 15) then
    some ((I 15), I, F)
  else
    bif ab_vin (I 15) 8 then
      bif ab_vin (I 15) 8 then
        some (((I 15) + (1 : Int32)), (va_up I 15 ((I 15) + (1 : Int32))), (va_up (va_up F 25 (upd (F 25) (I 15).toNatClampNeg v1)) 26 (upd (F 26) (I 15).toNatClampNeg v2)))
      else none
    else none
set_option maxRecDepth 20000 in
set_option maxHeartbeats 4000000 in
theorem kf_X3_addGot (v1 : Int32) (v2 : Int32) (I : AI) (F : AF) : OK 0 mX3_addGot true (f_X3_addGot v1 v2 I F) (0, [(0, .ref 32), (1, .int v1), (2, .int v2)], [], hp I F) := by
  rw [f_X3_addGot]
  refine OK_st 4 okX3_addGot (S' := ((if (8 : Int32) ≤ (I 15) then 39 else 9), [(0, .ref 32), (1, .int v1), (2, .int v2)], [], hp I F)) rfl ⟨trivial, trivial, trivial, trivial, trivial⟩ ?_
  refine OK_if (fun h1116 => ?_) (fun h1116 => ?_)
  · refine OK_st 2 okX3_addGot (S' := (43, [(0, .ref 32), (1, .int v1), (2, .int v2)], [.int (I 15)], hp I F)) rfl ⟨trivial, trivial, trivial⟩ ?_
    exact OK_ri okX3_addGot rfl rfl (Or.inl rfl)
  · refine OK_gd (fun g1117 => ?_)
    refine OK_gd (fun g1118 => ?_)
    refine OK_st 20 okX3_addGot (S' := (43, [(0, .ref 32), (1, .int v1), (2, .int v2)], [.int ((I 15) + (1 : Int32))], hp (va_up I 15 ((I 15) + (1 : Int32))) (va_up (va_up F 25 (upd (F 25) (I 15).toNatClampNeg v1)) 26 (upd (F 26) (I 15).toNatClampNeg v2)))) rfl ⟨trivial, trivial, trivial, trivial, trivial, (ab_vo g1117), trivial, trivial, trivial, trivial, trivial, (ab_vo g1118), trivial, rfl, trivial, trivial, trivial, trivial, trivial, trivial, trivial⟩ ?_
    exact OK_ri okX3_addGot rfl rfl (Or.inl rfl)

def f_X9_got (v1 : Int32) (v2 : Int32) (I : AI) (F : AF) : AQ :=
  if v1 < (1 : Int32) then
    some ((-1000000002 : Int32), I, F)
  else
    if (50 : Int32) < v1 then
      some ((-1000000002 : Int32), I, F)
    else
      if v2 < 0 then
        some ((-1000000002 : Int32), I, F)
      else
        if v2 ≤ (9999 : Int32) then
          if (I 15) < (8 : Int32) then
            ab_bd (f_X3_addGot v1 v2 I F) (fun r1119 I1120 F1121 =>
              some (r1119, I1120, F1121))
          else
            some ((-1000000004 : Int32), I, F)
        else
          some ((-1000000002 : Int32), I, F)
set_option maxRecDepth 20000 in
set_option maxHeartbeats 4000000 in
theorem kf_X9_got (v1 : Int32) (v2 : Int32) (I : AI) (F : AF) : OK 1 mX9_got true (f_X9_got v1 v2 I F) (0, [(0, .ref 0), (1, .int v1), (2, .int v2)], [], hp I F) := by
  rw [f_X9_got]
  refine OK_st 3 okX9_got (S' := ((if v1 < (1 : Int32) then 22 else 5), [(0, .ref 0), (1, .int v1), (2, .int v2)], [], hp I F)) rfl ⟨trivial, trivial, trivial, trivial⟩ ?_
  refine OK_if (fun h1111 => ?_) (fun h1111 => ?_)
  · refine OK_st 1 okX9_got (S' := (24, [(0, .ref 0), (1, .int v1), (2, .int v2)], [.int (-1000000002 : Int32)], hp I F)) rfl ⟨trivial, trivial⟩ ?_
    exact OK_ri okX9_got rfl rfl (Or.inl rfl)
  · refine OK_st 3 okX9_got (S' := ((if (50 : Int32) < v1 then 22 else 11), [(0, .ref 0), (1, .int v1), (2, .int v2)], [], hp I F)) rfl ⟨trivial, trivial, trivial, trivial⟩ ?_
    refine OK_if (fun h1112 => ?_) (fun h1112 => ?_)
    · refine OK_st 1 okX9_got (S' := (24, [(0, .ref 0), (1, .int v1), (2, .int v2)], [.int (-1000000002 : Int32)], hp I F)) rfl ⟨trivial, trivial⟩ ?_
      exact OK_ri okX9_got rfl rfl (Or.inl rfl)
    · refine OK_st 2 okX9_got (S' := ((if v2 < 0 then 22 else 15), [(0, .ref 0), (1, .int v1), (2, .int v2)], [], hp I F)) rfl ⟨trivial, trivial, trivial⟩ ?_
      refine OK_if (fun h1113 => ?_) (fun h1113 => ?_)
      · refine OK_st 1 okX9_got (S' := (24, [(0, .ref 0), (1, .int v1), (2, .int v2)], [.int (-1000000002 : Int32)], hp I F)) rfl ⟨trivial, trivial⟩ ?_
        exact OK_ri okX9_got rfl rfl (Or.inl rfl)
      · refine OK_st 3 okX9_got (S' := ((if v2 ≤ (9999 : Int32) then 25 else 22), [(0, .ref 0), (1, .int v1), (2, .int v2)], [], hp I F)) rfl ⟨trivial, trivial, trivial, trivial⟩ ?_
        refine OK_if (fun h1114 => ?_) (fun h1114 => ?_)
        · refine OK_st 5 okX9_got (S' := ((if (I 15) < (8 : Int32) then 40 else 37), [(0, .ref 0), (1, .int v1), (2, .int v2)], [], hp I F)) rfl ⟨trivial, trivial, trivial, trivial, trivial, trivial⟩ ?_
          refine OK_if (fun h1115 => ?_) (fun h1115 => ?_)
          · refine OK_st 4 okX9_got (S' := (46, [(0, .ref 0), (1, .int v1), (2, .int v2)], [.int v2, .int v1, .ref 32], hp I F)) rfl ⟨trivial, trivial, trivial, trivial, trivial⟩ ?_
            refine OK_cv [.int v1, .int v2] [] okX9_got okX3_addGot rfl rfl cl_RX9_305 rfl rfl (Nat.le_of_ble_eq_true rfl) (by decide) (Nat.le_of_ble_eq_true rfl) (kf_X3_addGot v1 v2 I F) (fun r1119 I1120 F1121 => ?_)
            exact OK_ri okX9_got rfl rfl (Or.inl rfl)
          · refine OK_st 1 okX9_got (S' := (39, [(0, .ref 0), (1, .int v1), (2, .int v2)], [.int (-1000000004 : Int32)], hp I F)) rfl ⟨trivial, trivial⟩ ?_
            exact OK_ri okX9_got rfl rfl (Or.inl rfl)
        · refine OK_st 1 okX9_got (S' := (24, [(0, .ref 0), (1, .int v1), (2, .int v2)], [.int (-1000000002 : Int32)], hp I F)) rfl ⟨trivial, trivial⟩ ?_
          exact OK_ri okX9_got rfl rfl (Or.inl rfl)

def f_X3_fitsAll_2 (v1 : Int32) (ko : Int32 → AI → AF → AQ) : Nat → Int32 → AI → AF → AQ
  | 0, _, _, _ => none
  | n + 1, v2, I, F =>
    if (I 15) ≤ v2 then
      ko v2 I F
    else
      bif ab_vin v2 8 then
        bif ab_vin v2 8 then
          if (((F 25) v2.toNatClampNeg) * v1) = ((F 26) v2.toNatClampNeg) then
            f_X3_fitsAll_2 v1 ko n (v2 + (1 : Int32)) I F
          else
            some ((0 : Int32), I, F)
        else none
      else none
set_option maxRecDepth 20000 in
set_option maxHeartbeats 4000000 in
theorem kf_X3_fitsAll_2 (v1 : Int32) (ko : Int32 → AI → AF → AQ) (hko : ∀ v2 I F, OK 0 mX3_fitsAll true (ko v2 I F) (35, [(0, .ref 32), (1, .int v1), (2, .int v2)], [], hp I F)) : ∀ n v2 I F, OK 0 mX3_fitsAll true (f_X3_fitsAll_2 v1 ko n v2 I F) (2, [(0, .ref 32), (1, .int v1), (2, .int v2)], [], hp I F) := by
  intro n
  induction n with
  | zero =>
    intro v2 I F
    exact OK_no
  | succ n ih =>
    intro v2 I F
    rw [f_X3_fitsAll_2]
    refine OK_st 4 okX3_fitsAll (S' := ((if (I 15) ≤ v2 then 35 else 10), [(0, .ref 32), (1, .int v1), (2, .int v2)], [], hp I F)) rfl ⟨trivial, trivial, trivial, trivial, trivial⟩ ?_
    refine OK_if (fun h1126 => ?_) (fun h1126 => ?_)
    · exact hko v2 I F
    · refine OK_gd (fun g1127 => ?_)
      refine OK_gd (fun g1128 => ?_)
      refine OK_st 11 okX3_fitsAll (S' := ((if (((F 25) v2.toNatClampNeg) * v1) = ((F 26) v2.toNatClampNeg) then 29 else 27), [(0, .ref 32), (1, .int v1), (2, .int v2)], [], hp I F)) rfl ⟨trivial, trivial, trivial, (ab_vo g1127), trivial, trivial, trivial, trivial, trivial, (ab_vo g1128), trivial, trivial⟩ ?_
      refine OK_if (fun h1129 => ?_) (fun h1129 => ?_)
      · refine OK_st 2 okX3_fitsAll (S' := (2, [(2, .int (v2 + (1 : Int32))), (0, .ref 32), (1, .int v1)], [], hp I F)) rfl ⟨(by decide), trivial, trivial⟩ ?_
        refine OK_pk [1, 2, 0] rfl ?_
        exact ih (v2 + (1 : Int32)) I F
      · refine OK_st 1 okX3_fitsAll (S' := (28, [(0, .ref 32), (1, .int v1), (2, .int v2)], [.int (0 : Int32)], hp I F)) rfl ⟨trivial, trivial⟩ ?_
        exact OK_ri okX3_fitsAll rfl rfl (Or.inr ⟨rfl, Or.inl rfl⟩)

def f_X3_fitsAll (v1 : Int32) (I : AI) (F : AF) : AQ :=
  f_X3_fitsAll_2 v1 (fun v2_1130 I1131 F1132 =>
    some ((1 : Int32), I1131, F1132)) ab_fu (0 : Int32) I F
set_option maxRecDepth 20000 in
set_option maxHeartbeats 4000000 in
theorem kf_X3_fitsAll (v1 : Int32) (I : AI) (F : AF) : OK 0 mX3_fitsAll true (f_X3_fitsAll v1 I F) (0, [(0, .ref 32), (1, .int v1)], [], hp I F) := by
  rw [f_X3_fitsAll]
  refine OK_st 2 okX3_fitsAll (S' := (2, [(2, .int (0 : Int32)), (0, .ref 32), (1, .int v1)], [], hp I F)) rfl ⟨trivial, (by decide), trivial⟩ ?_
  refine OK_pk [1, 2, 0] rfl ?_
  refine kf_X3_fitsAll_2 v1 _ (fun v2_1130 I1131 F1132 => ?_) ab_fu (0 : Int32) I F
  refine OK_st 1 okX3_fitsAll (S' := (36, [(0, .ref 32), (1, .int v1), (2, .int v2_1130)], [.int (1 : Int32)], hp I1131 F1132)) rfl ⟨trivial, trivial⟩ ?_
  exact OK_ri okX3_fitsAll rfl rfl (Or.inr ⟨rfl, Or.inr rfl⟩)

def f_X3_fitting_5 (ko : Int32 → Int32 → AI → AF → AQ) : Nat → Int32 → Int32 → AI → AF → AQ
  | 0, _, _, _, _ => none
  | n + 1, v3, v4, I, F =>
    if (I 9) ≤ v4 then
      ko v3 v4 I F
    else
      ab_bd (f_X8_measureNow v4 I F) (fun r1123 I1124 F1125 =>
        ab_bd (f_X3_fitsAll r1123 I1124 F1125) (fun r1133 I1134 F1135 =>
          if r1133 = 0 then
            f_X3_fitting_5 ko n v3 (v4 + (1 : Int32)) I1134 F1135
          else
            ab_lt (v3 ||| ((1 : Int32) <<< (v4 &&& 31))) (fun x1137 =>
              f_X3_fitting_5 ko n x1137 (v4 + (1 : Int32)) I1134 F1135)))
set_option maxRecDepth 20000 in
set_option maxHeartbeats 4000000 in
theorem kf_X3_fitting_5 (ko : Int32 → Int32 → AI → AF → AQ) (hko : ∀ v3 v4 I F, OK 4 mX3_fitting true (ko v3 v4 I F) (41, [(0, .ref 32), (1, .ref 16), (2, .ref 27), (3, .int v3), (4, .int v4)], [], hp I F)) : ∀ n v3 v4 I F, OK 4 mX3_fitting true (f_X3_fitting_5 ko n v3 v4 I F) (5, [(0, .ref 32), (1, .ref 16), (2, .ref 27), (3, .int v3), (4, .int v4)], [], hp I F) := by
  intro n
  induction n with
  | zero =>
    intro v3 v4 I F
    exact OK_no
  | succ n ih =>
    intro v3 v4 I F
    rw [f_X3_fitting_5]
    refine OK_st 4 okX3_fitting (S' := ((if (I 9) ≤ v4 then 41 else 14), [(0, .ref 32), (1, .ref 16), (2, .ref 27), (3, .int v3), (4, .int v4)], [], hp I F)) rfl ⟨trivial, trivial, trivial, trivial, trivial⟩ ?_
    refine OK_if (fun h1122 => ?_) (fun h1122 => ?_)
    · exact hko v3 v4 I F
    · refine OK_st 4 okX3_fitting (S' := (19, [(0, .ref 32), (1, .ref 16), (2, .ref 27), (3, .int v3), (4, .int v4)], [.int v4, .ref 16, .ref 27, .ref 32], hp I F)) rfl ⟨trivial, trivial, trivial, trivial, trivial⟩ ?_
      refine OK_cv [.ref 16, .int v4] [.ref 32] okX3_fitting okX8_measureNow rfl rfl cl_RX3_36 rfl rfl (Nat.le_of_ble_eq_true rfl) (by decide) (Nat.le_of_ble_eq_true rfl) (kf_X8_measureNow v4 I F) (fun r1123 I1124 F1125 => ?_)
      refine OK_cv [.int r1123] [] okX3_fitting okX3_fitsAll rfl rfl cl_RX3_42 rfl rfl (Nat.le_of_ble_eq_true rfl) (by decide) (Nat.le_of_ble_eq_true rfl) (kf_X3_fitsAll r1123 I1124 F1125) (fun r1133 I1134 F1135 => ?_)
      refine OK_st 1 okX3_fitting (S' := ((if r1133 = 0 then 35 else 28), [(0, .ref 32), (1, .ref 16), (2, .ref 27), (3, .int v3), (4, .int v4)], [], hp I1134 F1135)) rfl ⟨trivial, trivial⟩ ?_
      refine OK_if (fun h1136 => ?_) (fun h1136 => ?_)
      · refine OK_st 2 okX3_fitting (S' := (5, [(4, .int (v4 + (1 : Int32))), (0, .ref 32), (1, .ref 16), (2, .ref 27), (3, .int v3)], [], hp I1134 F1135)) rfl ⟨(by decide), trivial, trivial⟩ ?_
        refine OK_pk [1, 2, 3, 4, 0] rfl ?_
        exact ih v3 (v4 + (1 : Int32)) I1134 F1135
      · refine OK_st 6 okX3_fitting (S' := (35, [(3, .int (v3 ||| ((1 : Int32) <<< (v4 &&& 31)))), (0, .ref 32), (1, .ref 16), (2, .ref 27), (4, .int v4)], [], hp I1134 F1135)) rfl ⟨trivial, trivial, trivial, trivial, trivial, (by decide), trivial⟩ ?_
        refine OK_lt (fun x1137 => (35, [(3, .int x1137), (0, .ref 32), (1, .ref 16), (2, .ref 27), (4, .int v4)], [], hp I1134 F1135)) (fun x1137 => ?_)
        refine OK_st 2 okX3_fitting (S' := (5, [(4, .int (v4 + (1 : Int32))), (3, .int x1137), (0, .ref 32), (1, .ref 16), (2, .ref 27)], [], hp I1134 F1135)) rfl ⟨(by decide), trivial, trivial⟩ ?_
        refine OK_pk [2, 3, 4, 1, 0] rfl ?_
        exact ih x1137 (v4 + (1 : Int32)) I1134 F1135

def f_X3_fitting (I : AI) (F : AF) : AQ :=
  f_X3_fitting_5 (fun v3_1138 v4_1139 I1140 F1141 =>
    some (v3_1138, I1140, F1141)) ab_fu (0 : Int32) (0 : Int32) I F
set_option maxRecDepth 20000 in
set_option maxHeartbeats 4000000 in
theorem kf_X3_fitting (I : AI) (F : AF) : OK 4 mX3_fitting true (f_X3_fitting I F) (0, [(0, .ref 32), (1, .ref 16), (2, .ref 27)], [], hp I F) := by
  rw [f_X3_fitting]
  refine OK_st 4 okX3_fitting (S' := (5, [(4, .int (0 : Int32)), (3, .int (0 : Int32)), (0, .ref 32), (1, .ref 16), (2, .ref 27)], [], hp I F)) rfl ⟨trivial, (by decide), trivial, (by decide), trivial⟩ ?_
  refine OK_pk [2, 3, 4, 1, 0] rfl ?_
  refine kf_X3_fitting_5 _ (fun v3_1138 v4_1139 I1140 F1141 => ?_) ab_fu (0 : Int32) (0 : Int32) I F
  refine OK_st 1 okX3_fitting (S' := (42, [(0, .ref 32), (1, .ref 16), (2, .ref 27), (3, .int v3_1138), (4, .int v4_1139)], [.int v3_1138], hp I1140 F1141)) rfl ⟨trivial, trivial⟩ ?_
  exact OK_ri okX3_fitting rfl rfl (Or.inl rfl)

def f_X9_used (I : AI) (F : AF) : AQ :=
  ab_bd (f_X3_fitting I F) (fun r1142 I1143 F1144 =>
    some (r1142, I1143, F1144))
set_option maxRecDepth 20000 in
set_option maxHeartbeats 4000000 in
theorem kf_X9_used (I : AI) (F : AF) : OK 5 mX9_used true (f_X9_used I F) (0, [(0, .ref 0)], [], hp I F) := by
  rw [f_X9_used]
  refine OK_st 6 okX9_used (S' := (12, [(0, .ref 0)], [.ref 27, .ref 16, .ref 32], hp I F)) rfl ⟨trivial, trivial, trivial, trivial, trivial, trivial, trivial⟩ ?_
  refine OK_cv [.ref 16, .ref 27] [] okX9_used okX3_fitting rfl rfl cl_RX9_308 rfl rfl (Nat.le_of_ble_eq_true rfl) (by decide) (Nat.le_of_ble_eq_true rfl) (kf_X3_fitting I F) (fun r1142 I1143 F1144 => ?_)
  exact OK_ri okX9_used rfl rfl (Or.inl rfl)

def f_X8_areUnlike_j41_15 (bk ko : Int32 → AI → AF → AQ) (v2 : Int32) (v3 : Int32) (v4 : Int32) (v5 : Int32) (s0 : Int32) (I : AI) (F : AF) : AQ :=
  if s0 = 0 then
    bk (v5 + (1 : Int32)) I F
  else
    ab_bd (f_X8_measure v4 v3 I F) (fun r1160 I1161 F1162 =>
      ab_bd (f_X8_measure v5 v3 I1161 F1162) (fun r1163 I1164 F1165 =>
        if ¬ r1160 = r1163 then
          bk (v5 + (1 : Int32)) I1164 F1165
        else
          some ((0 : Int32), I1164, F1165)))
set_option maxRecDepth 20000 in
set_option maxHeartbeats 4000000 in
theorem kf_X8_areUnlike_j41_15 (bk ko : Int32 → AI → AF → AQ) (v2 : Int32) (v3 : Int32) (v4 : Int32) (v5 : Int32) (hbk : ∀ v5 I F, OK 3 mX8_areUnlike true (bk v5 I F) (15, [(0, .ref 27), (1, .ref 16), (2, .int v2), (3, .int v3), (4, .int v4), (5, .int v5)], [], hp I F)) (hko : ∀ v5 I F, OK 3 mX8_areUnlike true (ko v5 I F) (75, [(0, .ref 27), (1, .ref 16), (2, .int v2), (3, .int v3), (4, .int v4), (5, .int v5)], [], hp I F)) (s0 : Int32) (I : AI) (F : AF) : OK 3 mX8_areUnlike true (f_X8_areUnlike_j41_15 bk ko v2 v3 v4 v5 s0 I F) (41, [(0, .ref 27), (1, .ref 16), (2, .int v2), (3, .int v3), (4, .int v4), (5, .int v5)], [.int s0], hp I F) := by
  rw [f_X8_areUnlike_j41_15]
  refine OK_st 3 okX8_areUnlike (S' := ((if s0 = 0 then 69 else 48), [(6, .int s0), (0, .ref 27), (1, .ref 16), (2, .int v2), (3, .int v3), (4, .int v4), (5, .int v5)], [], hp I F)) rfl ⟨(by decide), trivial, trivial, trivial⟩ ?_
  refine OK_if (fun h1159 => ?_) (fun h1159 => ?_)
  · refine OK_st 2 okX8_areUnlike (S' := (15, [(5, .int (v5 + (1 : Int32))), (6, .int s0), (0, .ref 27), (1, .ref 16), (2, .int v2), (3, .int v3), (4, .int v4)], [], hp I F)) rfl ⟨(by decide), trivial, trivial⟩ ?_
    refine OK_pk [2, 3, 4, 5, 6, 0] rfl ?_
    exact hbk (v5 + (1 : Int32)) I F
  · refine OK_st 4 okX8_areUnlike (S' := (53, [(6, .int s0), (0, .ref 27), (1, .ref 16), (2, .int v2), (3, .int v3), (4, .int v4), (5, .int v5)], [.int v3, .int v4, .ref 16, .ref 27], hp I F)) rfl ⟨trivial, trivial, trivial, trivial, trivial⟩ ?_
    refine OK_cv [.ref 16, .int v4, .int v3] [] okX8_areUnlike okX8_measure rfl rfl cl_RX8_50 rfl rfl (Nat.le_of_ble_eq_true rfl) (by decide) (Nat.le_of_ble_eq_true rfl) (kf_X8_measure v4 v3 I F) (fun r1160 I1161 F1162 => ?_)
    refine OK_st 4 okX8_areUnlike (S' := (61, [(6, .int s0), (0, .ref 27), (1, .ref 16), (2, .int v2), (3, .int v3), (4, .int v4), (5, .int v5)], [.int v3, .int v5, .ref 16, .ref 27, .int r1160], hp I1161 F1162)) rfl ⟨trivial, trivial, trivial, trivial, trivial⟩ ?_
    refine OK_cv [.ref 16, .int v5, .int v3] [.int r1160] okX8_areUnlike okX8_measure rfl rfl cl_RX8_50 rfl rfl (Nat.le_of_ble_eq_true rfl) (by decide) (Nat.le_of_ble_eq_true rfl) (kf_X8_measure v5 v3 I1161 F1162) (fun r1163 I1164 F1165 => ?_)
    refine OK_st 1 okX8_areUnlike (S' := ((if ¬ r1160 = r1163 then 69 else 67), [(6, .int s0), (0, .ref 27), (1, .ref 16), (2, .int v2), (3, .int v3), (4, .int v4), (5, .int v5)], [], hp I1164 F1165)) rfl ⟨trivial, trivial⟩ ?_
    refine OK_if (fun h1166 => ?_) (fun h1166 => ?_)
    · refine OK_st 2 okX8_areUnlike (S' := (15, [(5, .int (v5 + (1 : Int32))), (6, .int s0), (0, .ref 27), (1, .ref 16), (2, .int v2), (3, .int v3), (4, .int v4)], [], hp I1164 F1165)) rfl ⟨(by decide), trivial, trivial⟩ ?_
      refine OK_pk [2, 3, 4, 5, 6, 0] rfl ?_
      exact hbk (v5 + (1 : Int32)) I1164 F1165
    · refine OK_st 1 okX8_areUnlike (S' := (68, [(6, .int s0), (0, .ref 27), (1, .ref 16), (2, .int v2), (3, .int v3), (4, .int v4), (5, .int v5)], [.int (0 : Int32)], hp I1164 F1165)) rfl ⟨trivial, trivial⟩ ?_
      exact OK_ri okX8_areUnlike rfl rfl (Or.inr ⟨rfl, Or.inl rfl⟩)

def f_X8_areUnlike_15 (v2 : Int32) (v3 : Int32) (v4 : Int32) (ko : Int32 → AI → AF → AQ) : Nat → Int32 → AI → AF → AQ
  | 0, _, _, _ => none
  | n + 1, v5, I, F =>
    if v4 ≤ v5 then
      ko v5 I F
    else
      if (((v2 >>> (v4 &&& 31)) &&& (v2 >>> (v5 &&& 31))) &&& (1 : Int32)) = 0 then
        f_X8_areUnlike_j41_15 (f_X8_areUnlike_15 v2 v3 v4 ko n) ko v2 v3 v4 v5 (0 : Int32) I F
      else
        f_X8_areUnlike_j41_15 (f_X8_areUnlike_15 v2 v3 v4 ko n) ko v2 v3 v4 v5 (1 : Int32) I F
set_option maxRecDepth 20000 in
set_option maxHeartbeats 4000000 in
theorem kf_X8_areUnlike_15 (v2 : Int32) (v3 : Int32) (v4 : Int32) (ko : Int32 → AI → AF → AQ) (hko : ∀ v5 I F, OK 3 mX8_areUnlike true (ko v5 I F) (75, [(0, .ref 27), (1, .ref 16), (2, .int v2), (3, .int v3), (4, .int v4), (5, .int v5)], [], hp I F)) : ∀ n v5 I F, OK 3 mX8_areUnlike true (f_X8_areUnlike_15 v2 v3 v4 ko n v5 I F) (15, [(0, .ref 27), (1, .ref 16), (2, .int v2), (3, .int v3), (4, .int v4), (5, .int v5)], [], hp I F) := by
  intro n
  induction n with
  | zero =>
    intro v5 I F
    exact OK_no
  | succ n ih =>
    intro v5 I F
    rw [f_X8_areUnlike_15]
    refine OK_st 3 okX8_areUnlike (S' := ((if v4 ≤ v5 then 75 else 22), [(0, .ref 27), (1, .ref 16), (2, .int v2), (3, .int v3), (4, .int v4), (5, .int v5)], [], hp I F)) rfl ⟨trivial, trivial, trivial, trivial⟩ ?_
    refine OK_if (fun h1157 => ?_) (fun h1157 => ?_)
    · exact hko v5 I F
    · refine OK_st 10 okX8_areUnlike (S' := ((if (((v2 >>> (v4 &&& 31)) &&& (v2 >>> (v5 &&& 31))) &&& (1 : Int32)) = 0 then 40 else 36), [(0, .ref 27), (1, .ref 16), (2, .int v2), (3, .int v3), (4, .int v4), (5, .int v5)], [], hp I F)) rfl ⟨trivial, trivial, trivial, trivial, trivial, trivial, trivial, trivial, trivial, trivial, trivial⟩ ?_
      refine OK_if (fun h1158 => ?_) (fun h1158 => ?_)
      · refine OK_st 1 okX8_areUnlike (S' := (41, [(0, .ref 27), (1, .ref 16), (2, .int v2), (3, .int v3), (4, .int v4), (5, .int v5)], [.int (0 : Int32)], hp I F)) rfl ⟨trivial, trivial⟩ ?_
        exact kf_X8_areUnlike_j41_15 (f_X8_areUnlike_15 v2 v3 v4 ko n) ko v2 v3 v4 v5 ih hko (0 : Int32) I F
      · refine OK_st 2 okX8_areUnlike (S' := (41, [(0, .ref 27), (1, .ref 16), (2, .int v2), (3, .int v3), (4, .int v4), (5, .int v5)], [.int (1 : Int32)], hp I F)) rfl ⟨trivial, trivial, trivial⟩ ?_
        exact kf_X8_areUnlike_j41_15 (f_X8_areUnlike_15 v2 v3 v4 ko n) ko v2 v3 v4 v5 ih hko (1 : Int32) I F

def f_X8_areUnlike_3 (v2 : Int32) (v3 : Int32) (ko : Int32 → AI → AF → AQ) : Nat → Int32 → AI → AF → AQ
  | 0, _, _, _ => none
  | n + 1, v4, I, F =>
    if (I 9) ≤ v4 then
      ko v4 I F
    else
      f_X8_areUnlike_15 v2 v3 v4 (fun v5_1167 I1168 F1169 =>
        f_X8_areUnlike_3 v2 v3 ko n (v4 + (1 : Int32)) I1168 F1169) ab_fu (0 : Int32) I F
set_option maxRecDepth 20000 in
set_option maxHeartbeats 4000000 in
theorem kf_X8_areUnlike_3 (v2 : Int32) (v3 : Int32) (ko : Int32 → AI → AF → AQ) (hko : ∀ v4 I F, OK 3 mX8_areUnlike true (ko v4 I F) (81, [(0, .ref 27), (1, .ref 16), (2, .int v2), (3, .int v3), (4, .int v4)], [], hp I F)) : ∀ n v4 I F, OK 3 mX8_areUnlike true (f_X8_areUnlike_3 v2 v3 ko n v4 I F) (3, [(0, .ref 27), (1, .ref 16), (2, .int v2), (3, .int v3), (4, .int v4)], [], hp I F) := by
  intro n
  induction n with
  | zero =>
    intro v4 I F
    exact OK_no
  | succ n ih =>
    intro v4 I F
    rw [f_X8_areUnlike_3]
    refine OK_st 4 okX8_areUnlike (S' := ((if (I 9) ≤ v4 then 81 else 12), [(0, .ref 27), (1, .ref 16), (2, .int v2), (3, .int v3), (4, .int v4)], [], hp I F)) rfl ⟨trivial, trivial, trivial, trivial, trivial⟩ ?_
    refine OK_if (fun h1156 => ?_) (fun h1156 => ?_)
    · exact hko v4 I F
    · refine OK_st 2 okX8_areUnlike (S' := (15, [(5, .int (0 : Int32)), (0, .ref 27), (1, .ref 16), (2, .int v2), (3, .int v3), (4, .int v4)], [], hp I F)) rfl ⟨trivial, (by decide), trivial⟩ ?_
      refine OK_pk [1, 2, 3, 4, 5, 0] rfl ?_
      refine kf_X8_areUnlike_15 v2 v3 v4 _ (fun v5_1167 I1168 F1169 => ?_) ab_fu (0 : Int32) I F
      refine OK_st 2 okX8_areUnlike (S' := (3, [(4, .int (v4 + (1 : Int32))), (0, .ref 27), (1, .ref 16), (2, .int v2), (3, .int v3), (5, .int v5_1167)], [], hp I1168 F1169)) rfl ⟨(by decide), trivial, trivial⟩ ?_
      refine OK_pk [1, 2, 3, 4, 0] rfl ?_
      exact ih (v4 + (1 : Int32)) I1168 F1169

def f_X8_areUnlike (v2 : Int32) (v3 : Int32) (I : AI) (F : AF) : AQ :=
  f_X8_areUnlike_3 v2 v3 (fun v4_1170 I1171 F1172 =>
    some ((1 : Int32), I1171, F1172)) ab_fu (1 : Int32) I F
set_option maxRecDepth 20000 in
set_option maxHeartbeats 4000000 in
theorem kf_X8_areUnlike (v2 : Int32) (v3 : Int32) (I : AI) (F : AF) : OK 3 mX8_areUnlike true (f_X8_areUnlike v2 v3 I F) (0, [(0, .ref 27), (1, .ref 16), (2, .int v2), (3, .int v3)], [], hp I F) := by
  rw [f_X8_areUnlike]
  refine OK_st 2 okX8_areUnlike (S' := (3, [(4, .int (1 : Int32)), (0, .ref 27), (1, .ref 16), (2, .int v2), (3, .int v3)], [], hp I F)) rfl ⟨trivial, (by decide), trivial⟩ ?_
  refine OK_pk [1, 2, 3, 4, 0] rfl ?_
  refine kf_X8_areUnlike_3 v2 v3 _ (fun v4_1170 I1171 F1172 => ?_) ab_fu (1 : Int32) I F
  refine OK_st 1 okX8_areUnlike (S' := (82, [(0, .ref 27), (1, .ref 16), (2, .int v2), (3, .int v3), (4, .int v4_1170)], [.int (1 : Int32)], hp I1171 F1172)) rfl ⟨trivial, trivial⟩ ?_
  exact OK_ri okX8_areUnlike rfl rfl (Or.inr ⟨rfl, Or.inr rfl⟩)
