/-! methods as functions (by program) -/
def f_X2_isFull (I : AI) (F : AF) : AQ :=
  if (I 5) < (250 : Int32) then
    some ((0 : Int32), I, F)
  else
    some ((1 : Int32), I, F)
set_option maxRecDepth 20000 in
set_option maxHeartbeats 4000000 in
theorem kf_X2_isFull (I : AI) (F : AF) : OK 0 mX2_isFull true (f_X2_isFull I F) (0, [(0, .ref 2)], [], hp I F) := by
  rw [f_X2_isFull]
  refine OK_st 4 okX2_isFull (S' := ((if (I 5) < (250 : Int32) then 14 else 10), [(0, .ref 2)], [], hp I F)) rfl ⟨trivial, trivial, trivial, trivial, trivial⟩ ?_
  refine OK_if (fun h3 => ?_) (fun h3 => ?_)
  · refine OK_st 1 okX2_isFull (S' := (15, [(0, .ref 2)], [.int (0 : Int32)], hp I F)) rfl ⟨trivial, trivial⟩ ?_
    exact OK_ri okX2_isFull rfl rfl (Or.inr ⟨rfl, Or.inl rfl⟩)
  · refine OK_st 2 okX2_isFull (S' := (15, [(0, .ref 2)], [.int (1 : Int32)], hp I F)) rfl ⟨trivial, trivial, trivial⟩ ?_
    exact OK_ri okX2_isFull rfl rfl (Or.inr ⟨rfl, Or.inr rfl⟩)

def f_X2_append (v1 : Int32) (I : AI) (F : AF) : AQ :=
  if (250 : Int32) ≤ (I 5) then
    some ((I 5), I, F)
  else
    bif ab_vin (I 5) 250 then
      some (((I 5) + (1 : Int32)), (va_up I 5 ((I 5) + (1 : Int32))), (va_up F 0 (upd (F 0) (I 5).toNatClampNeg v1)))
    else none
set_option maxRecDepth 20000 in
set_option maxHeartbeats 4000000 in
theorem kf_X2_append (v1 : Int32) (I : AI) (F : AF) : OK 0 mX2_append true (f_X2_append v1 I F) (0, [(0, .ref 2), (1, .int v1)], [], hp I F) := by
  rw [f_X2_append]
  refine OK_st 4 okX2_append (S' := ((if (250 : Int32) ≤ (I 5) then 30 else 10), [(0, .ref 2), (1, .int v1)], [], hp I F)) rfl ⟨trivial, trivial, trivial, trivial, trivial⟩ ?_
  refine OK_if (fun h8 => ?_) (fun h8 => ?_)
  · refine OK_st 2 okX2_append (S' := (34, [(0, .ref 2), (1, .int v1)], [.int (I 5)], hp I F)) rfl ⟨trivial, trivial, trivial⟩ ?_
    exact OK_ri okX2_append rfl rfl (Or.inl rfl)
  · refine OK_gd (fun g9 => ?_)
    refine OK_st 14 okX2_append (S' := (34, [(0, .ref 2), (1, .int v1)], [.int ((I 5) + (1 : Int32))], hp (va_up I 5 ((I 5) + (1 : Int32))) (va_up F 0 (upd (F 0) (I 5).toNatClampNeg v1)))) rfl ⟨trivial, trivial, trivial, trivial, trivial, (ab_vo g9), trivial, rfl, trivial, trivial, trivial, trivial, trivial, trivial, trivial⟩ ?_
    exact OK_ri okX2_append rfl rfl (Or.inl rfl)

def f_X9_feed (v1 : Int32) (I : AI) (F : AF) : AQ :=
  if v1 < 0 then
    some ((-1000000002 : Int32), I, F)
  else
    if v1 ≤ (255 : Int32) then
      ab_bd (f_X2_isFull I F) (fun r4 I5 F6 =>
        if r4 = 0 then
          ab_bd (f_X2_append v1 I5 F6) (fun r10 I11 F12 =>
            some (r10, I11, F12))
        else
          some ((-1000000004 : Int32), I5, F6))
    else
      some ((-1000000002 : Int32), I, F)
set_option maxRecDepth 20000 in
set_option maxHeartbeats 4000000 in
theorem kf_X9_feed (v1 : Int32) (I : AI) (F : AF) : OK 1 mX9_feed true (f_X9_feed v1 I F) (0, [(0, .ref 0), (1, .int v1)], [], hp I F) := by
  rw [f_X9_feed]
  refine OK_st 2 okX9_feed (S' := ((if v1 < 0 then 11 else 4), [(0, .ref 0), (1, .int v1)], [], hp I F)) rfl ⟨trivial, trivial, trivial⟩ ?_
  refine OK_if (fun h1 => ?_) (fun h1 => ?_)
  · refine OK_st 1 okX9_feed (S' := (13, [(0, .ref 0), (1, .int v1)], [.int (-1000000002 : Int32)], hp I F)) rfl ⟨trivial, trivial⟩ ?_
    exact OK_ri okX9_feed rfl rfl (Or.inl rfl)
  · refine OK_st 3 okX9_feed (S' := ((if v1 ≤ (255 : Int32) then 14 else 11), [(0, .ref 0), (1, .int v1)], [], hp I F)) rfl ⟨trivial, trivial, trivial, trivial⟩ ?_
    refine OK_if (fun h2 => ?_) (fun h2 => ?_)
    · refine OK_st 3 okX9_feed (S' := (21, [(0, .ref 0), (1, .int v1)], [.ref 2], hp I F)) rfl ⟨trivial, trivial, trivial, trivial⟩ ?_
      refine OK_cv [] [] okX9_feed okX2_isFull rfl rfl cl_RX9_74 rfl rfl (Nat.le_of_ble_eq_true rfl) (by decide) (Nat.le_of_ble_eq_true rfl) (kf_X2_isFull I F) (fun r4 I5 F6 => ?_)
      refine OK_st 1 okX9_feed (S' := ((if r4 = 0 then 30 else 27), [(0, .ref 0), (1, .int v1)], [], hp I5 F6)) rfl ⟨trivial, trivial⟩ ?_
      refine OK_if (fun h7 => ?_) (fun h7 => ?_)
      · refine OK_st 4 okX9_feed (S' := (38, [(0, .ref 0), (1, .int v1)], [.int v1, .ref 2], hp I5 F6)) rfl ⟨trivial, trivial, trivial, trivial, trivial⟩ ?_
        refine OK_cv [.int v1] [] okX9_feed okX2_append rfl rfl cl_RX9_81 rfl rfl (Nat.le_of_ble_eq_true rfl) (by decide) (Nat.le_of_ble_eq_true rfl) (kf_X2_append v1 I5 F6) (fun r10 I11 F12 => ?_)
        exact OK_ri okX9_feed rfl rfl (Or.inl rfl)
      · refine OK_st 1 okX9_feed (S' := (29, [(0, .ref 0), (1, .int v1)], [.int (-1000000004 : Int32)], hp I5 F6)) rfl ⟨trivial, trivial⟩ ?_
        exact OK_ri okX9_feed rfl rfl (Or.inl rfl)
    · refine OK_st 1 okX9_feed (S' := (13, [(0, .ref 0), (1, .int v1)], [.int (-1000000002 : Int32)], hp I F)) rfl ⟨trivial, trivial⟩ ?_
      exact OK_ri okX9_feed rfl rfl (Or.inl rfl)

def f_X5_clearAll (I : AI) (F : AF) : AQ :=
  some (0, (va_up (va_up (va_up I 6 (0 : Int32)) 7 (0 : Int32)) 8 (0 : Int32)), F)
set_option maxRecDepth 20000 in
set_option maxHeartbeats 4000000 in
theorem kf_X5_clearAll (I : AI) (F : AF) : OK 0 mX5_clearAll false (f_X5_clearAll I F) (0, [(0, .ref 4)], [], hp I F) := by
  rw [f_X5_clearAll]
  refine OK_st 9 okX5_clearAll (S' := (15, [(0, .ref 4)], [], hp (va_up (va_up (va_up I 6 (0 : Int32)) 7 (0 : Int32)) 8 (0 : Int32)) F)) rfl ⟨trivial, trivial, trivial, trivial, trivial, trivial, trivial, trivial, trivial, trivial⟩ ?_
  exact OK_rv okX5_clearAll rfl rfl rfl

def f_X2_at (v1 : Int32) (I : AI) (F : AF) : AQ :=
  if v1 < 0 then
    some ((-1 : Int32), I, F)
  else
    if (I 5) ≤ v1 then
      some ((-1 : Int32), I, F)
    else
      bif ab_vin v1 250 then
        some (((F 0) v1.toNatClampNeg), I, F)
      else none
set_option maxRecDepth 20000 in
set_option maxHeartbeats 4000000 in
theorem kf_X2_at (v1 : Int32) (I : AI) (F : AF) : OK 0 mX2_at true (f_X2_at v1 I F) (0, [(0, .ref 2), (1, .int v1)], [], hp I F) := by
  rw [f_X2_at]
  refine OK_st 2 okX2_at (S' := ((if v1 < 0 then 21 else 4), [(0, .ref 2), (1, .int v1)], [], hp I F)) rfl ⟨trivial, trivial, trivial⟩ ?_
  refine OK_if (fun h20 => ?_) (fun h20 => ?_)
  · refine OK_st 1 okX2_at (S' := (22, [(0, .ref 2), (1, .int v1)], [.int (-1 : Int32)], hp I F)) rfl ⟨trivial, trivial⟩ ?_
    exact OK_ri okX2_at rfl rfl (Or.inl rfl)
  · refine OK_st 4 okX2_at (S' := ((if (I 5) ≤ v1 then 21 else 12), [(0, .ref 2), (1, .int v1)], [], hp I F)) rfl ⟨trivial, trivial, trivial, trivial, trivial⟩ ?_
    refine OK_if (fun h21 => ?_) (fun h21 => ?_)
    · refine OK_st 1 okX2_at (S' := (22, [(0, .ref 2), (1, .int v1)], [.int (-1 : Int32)], hp I F)) rfl ⟨trivial, trivial⟩ ?_
      exact OK_ri okX2_at rfl rfl (Or.inl rfl)
    · refine OK_gd (fun g22 => ?_)
      refine OK_st 5 okX2_at (S' := (22, [(0, .ref 2), (1, .int v1)], [.int ((F 0) v1.toNatClampNeg)], hp I F)) rfl ⟨trivial, trivial, trivial, (ab_vo g22), trivial, trivial⟩ ?_
      exact OK_ri okX2_at rfl rfl (Or.inl rfl)

def f_X6_skipBlanks_2 (ko : Int32 → AI → AF → AQ) : Nat → Int32 → AI → AF → AQ
  | 0, _, _, _ => none
  | n + 1, v1, I, F =>
    if (250 : Int32) ≤ v1 then
      ko v1 I F
    else
      ab_bd (f_X2_at (I 1) I F) (fun r23 I24 F25 =>
        if ¬ r23 = (32 : Int32) then
          ko v1 I24 F25
        else
          ab_lt (va_up I24 1 ((I24 1) + (1 : Int32))) (fun I27 =>
            f_X6_skipBlanks_2 ko n (v1 + (1 : Int32)) I27 F25))
set_option maxRecDepth 20000 in
set_option maxHeartbeats 4000000 in
theorem kf_X6_skipBlanks_2 (ko : Int32 → AI → AF → AQ) (hko : ∀ v1 I F, OK 1 mX6_skipBlanks false (ko v1 I F) (41, [(0, .ref 1), (1, .int v1)], [], hp I F)) : ∀ n v1 I F, OK 1 mX6_skipBlanks false (f_X6_skipBlanks_2 ko n v1 I F) (2, [(0, .ref 1), (1, .int v1)], [], hp I F) := by
  intro n
  induction n with
  | zero =>
    intro v1 I F
    exact OK_no
  | succ n ih =>
    intro v1 I F
    rw [f_X6_skipBlanks_2]
    refine OK_st 3 okX6_skipBlanks (S' := ((if (250 : Int32) ≤ v1 then 41 else 9), [(0, .ref 1), (1, .int v1)], [], hp I F)) rfl ⟨trivial, trivial, trivial, trivial⟩ ?_
    refine OK_if (fun h19 => ?_) (fun h19 => ?_)
    · exact hko v1 I F
    · refine OK_st 4 okX6_skipBlanks (S' := (17, [(0, .ref 1), (1, .int v1)], [.int (I 1), .ref 2], hp I F)) rfl ⟨trivial, trivial, trivial, trivial, trivial⟩ ?_
      refine OK_cv [.int (I 1)] [] okX6_skipBlanks okX2_at rfl rfl cl_RX6_45 rfl rfl (Nat.le_of_ble_eq_true rfl) (by decide) (Nat.le_of_ble_eq_true rfl) (kf_X2_at (I 1) I F) (fun r23 I24 F25 => ?_)
      refine OK_st 2 okX6_skipBlanks (S' := ((if ¬ r23 = (32 : Int32) then 41 else 25), [(0, .ref 1), (1, .int v1)], [], hp I24 F25)) rfl ⟨trivial, trivial, trivial⟩ ?_
      refine OK_if (fun h26 => ?_) (fun h26 => ?_)
      · exact hko v1 I24 F25
      · refine OK_st 8 okX6_skipBlanks (S' := (2, [(1, .int (v1 + (1 : Int32))), (0, .ref 1)], [], hp (va_up I24 1 ((I24 1) + (1 : Int32))) F25)) rfl ⟨trivial, rfl, trivial, trivial, trivial, trivial, (by decide), trivial, trivial⟩ ?_
        refine OK_lt (fun I27 => (2, [(1, .int (v1 + (1 : Int32))), (0, .ref 1)], [], hp I27 F25)) (fun I27 => ?_)
        refine OK_pk [1, 0] rfl ?_
        exact ih (v1 + (1 : Int32)) I27 F25

def f_X6_skipBlanks (I : AI) (F : AF) : AQ :=
  f_X6_skipBlanks_2 (fun v1_28 I29 F30 =>
    some (0, I29, F30)) ab_fu (0 : Int32) I F
set_option maxRecDepth 20000 in
set_option maxHeartbeats 4000000 in
theorem kf_X6_skipBlanks (I : AI) (F : AF) : OK 1 mX6_skipBlanks false (f_X6_skipBlanks I F) (0, [(0, .ref 1)], [], hp I F) := by
  rw [f_X6_skipBlanks]
  refine OK_st 2 okX6_skipBlanks (S' := (2, [(1, .int (0 : Int32)), (0, .ref 1)], [], hp I F)) rfl ⟨trivial, (by decide), trivial⟩ ?_
  refine OK_pk [1, 0] rfl ?_
  refine kf_X6_skipBlanks_2 _ (fun v1_28 I29 F30 => ?_) ab_fu (0 : Int32) I F
  exact OK_rv okX6_skipBlanks rfl rfl rfl

def f_X6_mayStart (v1 : Int32) (I : AI) (F : AF) : AQ :=
  if ¬ v1 = (108 : Int32) then
    if (I 6) ≤ 0 then
      some ((0 : Int32), I, F)
    else
      if v1 = (99 : Int32) then
        some ((1 : Int32), I, F)
      else
        if v1 = (114 : Int32) then
          some ((1 : Int32), I, F)
        else
          if ¬ v1 = (104 : Int32) then
            some ((0 : Int32), I, F)
          else
            some ((1 : Int32), I, F)
  else
    some ((1 : Int32), I, F)
set_option maxRecDepth 20000 in
set_option maxHeartbeats 4000000 in
theorem kf_X6_mayStart (v1 : Int32) (I : AI) (F : AF) : OK 0 mX6_mayStart true (f_X6_mayStart v1 I F) (0, [(0, .ref 1), (1, .int v1)], [], hp I F) := by
  rw [f_X6_mayStart]
  refine OK_st 3 okX6_mayStart (S' := ((if ¬ v1 = (108 : Int32) then 8 else 6), [(0, .ref 1), (1, .int v1)], [], hp I F)) rfl ⟨trivial, trivial, trivial, trivial⟩ ?_
  refine OK_if (fun h41 => ?_) (fun h41 => ?_)
  · refine OK_st 4 okX6_mayStart (S' := ((if (I 6) ≤ 0 then 40 else 18), [(0, .ref 1), (1, .int v1)], [], hp I F)) rfl ⟨trivial, trivial, trivial, trivial, trivial⟩ ?_
    refine OK_if (fun h42 => ?_) (fun h42 => ?_)
    · refine OK_st 1 okX6_mayStart (S' := (41, [(0, .ref 1), (1, .int v1)], [.int (0 : Int32)], hp I F)) rfl ⟨trivial, trivial⟩ ?_
      exact OK_ri okX6_mayStart rfl rfl (Or.inr ⟨rfl, Or.inl rfl⟩)
    · refine OK_st 3 okX6_mayStart (S' := ((if v1 = (99 : Int32) then 36 else 24), [(0, .ref 1), (1, .int v1)], [], hp I F)) rfl ⟨trivial, trivial, trivial, trivial⟩ ?_
      refine OK_if (fun h43 => ?_) (fun h43 => ?_)
      · refine OK_st 2 okX6_mayStart (S' := (41, [(0, .ref 1), (1, .int v1)], [.int (1 : Int32)], hp I F)) rfl ⟨trivial, trivial, trivial⟩ ?_
        exact OK_ri okX6_mayStart rfl rfl (Or.inr ⟨rfl, Or.inr rfl⟩)
      · refine OK_st 3 okX6_mayStart (S' := ((if v1 = (114 : Int32) then 36 else 30), [(0, .ref 1), (1, .int v1)], [], hp I F)) rfl ⟨trivial, trivial, trivial, trivial⟩ ?_
        refine OK_if (fun h44 => ?_) (fun h44 => ?_)
        · refine OK_st 2 okX6_mayStart (S' := (41, [(0, .ref 1), (1, .int v1)], [.int (1 : Int32)], hp I F)) rfl ⟨trivial, trivial, trivial⟩ ?_
          exact OK_ri okX6_mayStart rfl rfl (Or.inr ⟨rfl, Or.inr rfl⟩)
        · refine OK_st 3 okX6_mayStart (S' := ((if ¬ v1 = (104 : Int32) then 40 else 36), [(0, .ref 1), (1, .int v1)], [], hp I F)) rfl ⟨trivial, trivial, trivial, trivial⟩ ?_
          refine OK_if (fun h45 => ?_) (fun h45 => ?_)
          · refine OK_st 1 okX6_mayStart (S' := (41, [(0, .ref 1), (1, .int v1)], [.int (0 : Int32)], hp I F)) rfl ⟨trivial, trivial⟩ ?_
            exact OK_ri okX6_mayStart rfl rfl (Or.inr ⟨rfl, Or.inl rfl⟩)
          · refine OK_st 2 okX6_mayStart (S' := (41, [(0, .ref 1), (1, .int v1)], [.int (1 : Int32)], hp I F)) rfl ⟨trivial, trivial, trivial⟩ ?_
            exact OK_ri okX6_mayStart rfl rfl (Or.inr ⟨rfl, Or.inr rfl⟩)
  · refine OK_st 1 okX6_mayStart (S' := (7, [(0, .ref 1), (1, .int v1)], [.int (1 : Int32)], hp I F)) rfl ⟨trivial, trivial⟩ ?_
    exact OK_ri okX6_mayStart rfl rfl (Or.inr ⟨rfl, Or.inr rfl⟩)

def f_X6_isOneTooMany (v1 : Int32) (I : AI) (F : AF) : AQ :=
  if v1 = (99 : Int32) then
    if (I 7) < (6 : Int32) then
      some ((0 : Int32), I, F)
    else
      some ((1 : Int32), I, F)
  else if v1 = (108 : Int32) then
    if (I 6) < (6 : Int32) then
      some ((0 : Int32), I, F)
    else
      some ((1 : Int32), I, F)
  else if v1 = (114 : Int32) then
    if (I 8) < (8 : Int32) then
      some ((0 : Int32), I, F)
    else
      some ((1 : Int32), I, F)
  else 
    some ((0 : Int32), I, F)
set_option maxRecDepth 20000 in
set_option maxHeartbeats 4000000 in
theorem kf_X6_isOneTooMany (v1 : Int32) (I : AI) (F : AF) : OK 0 mX6_isOneTooMany true (f_X6_isOneTooMany v1 I F) (0, [(0, .ref 1), (1, .int v1)], [], hp I F) := by
  rw [f_X6_isOneTooMany]
  refine OK_st 1 okX6_isOneTooMany (S' := (1, [(0, .ref 1), (1, .int v1)], [.int v1], hp I F)) rfl ⟨trivial, trivial⟩ ?_
  refine OK_ci (fun h50 => ?_) (fun h50 => ?_)
  · subst h50
    refine OK_st 1 okX6_isOneTooMany (S' := (54, [(0, .ref 1), (1, .int (99 : Int32))], [], hp I F)) rfl ⟨(by decide +kernel), trivial⟩ ?_
    refine OK_st 5 okX6_isOneTooMany (S' := ((if (I 7) < (6 : Int32) then 70 else 66), [(0, .ref 1), (1, .int (99 : Int32))], [], hp I F)) rfl ⟨trivial, trivial, trivial, trivial, trivial, trivial⟩ ?_
    refine OK_if (fun h51 => ?_) (fun h51 => ?_)
    · refine OK_st 1 okX6_isOneTooMany (S' := (71, [(0, .ref 1), (1, .int (99 : Int32))], [.int (0 : Int32)], hp I F)) rfl ⟨trivial, trivial⟩ ?_
      exact OK_ri okX6_isOneTooMany rfl rfl (Or.inr ⟨rfl, Or.inl rfl⟩)
    · refine OK_st 2 okX6_isOneTooMany (S' := (71, [(0, .ref 1), (1, .int (99 : Int32))], [.int (1 : Int32)], hp I F)) rfl ⟨trivial, trivial, trivial⟩ ?_
      exact OK_ri okX6_isOneTooMany rfl rfl (Or.inr ⟨rfl, Or.inr rfl⟩)
  · skip
    refine OK_ci (fun h52 => ?_) (fun h52 => ?_)
    · subst h52
      refine OK_st 1 okX6_isOneTooMany (S' := (36, [(0, .ref 1), (1, .int (108 : Int32))], [], hp I F)) rfl ⟨(by decide +kernel), trivial⟩ ?_
      refine OK_st 5 okX6_isOneTooMany (S' := ((if (I 6) < (6 : Int32) then 52 else 48), [(0, .ref 1), (1, .int (108 : Int32))], [], hp I F)) rfl ⟨trivial, trivial, trivial, trivial, trivial, trivial⟩ ?_
      refine OK_if (fun h53 => ?_) (fun h53 => ?_)
      · refine OK_st 1 okX6_isOneTooMany (S' := (53, [(0, .ref 1), (1, .int (108 : Int32))], [.int (0 : Int32)], hp I F)) rfl ⟨trivial, trivial⟩ ?_
        exact OK_ri okX6_isOneTooMany rfl rfl (Or.inr ⟨rfl, Or.inl rfl⟩)
      · refine OK_st 2 okX6_isOneTooMany (S' := (53, [(0, .ref 1), (1, .int (108 : Int32))], [.int (1 : Int32)], hp I F)) rfl ⟨trivial, trivial, trivial⟩ ?_
        exact OK_ri okX6_isOneTooMany rfl rfl (Or.inr ⟨rfl, Or.inr rfl⟩)
    · skip
      refine OK_ci (fun h54 => ?_) (fun h54 => ?_)
      · subst h54
        refine OK_st 1 okX6_isOneTooMany (S' := (72, [(0, .ref 1), (1, .int (114 : Int32))], [], hp I F)) rfl ⟨(by decide +kernel), trivial⟩ ?_
        refine OK_st 5 okX6_isOneTooMany (S' := ((if (I 8) < (8 : Int32) then 88 else 84), [(0, .ref 1), (1, .int (114 : Int32))], [], hp I F)) rfl ⟨trivial, trivial, trivial, trivial, trivial, trivial⟩ ?_
        refine OK_if (fun h55 => ?_) (fun h55 => ?_)
        · refine OK_st 1 okX6_isOneTooMany (S' := (89, [(0, .ref 1), (1, .int (114 : Int32))], [.int (0 : Int32)], hp I F)) rfl ⟨trivial, trivial⟩ ?_
          exact OK_ri okX6_isOneTooMany rfl rfl (Or.inr ⟨rfl, Or.inl rfl⟩)
        · refine OK_st 2 okX6_isOneTooMany (S' := (89, [(0, .ref 1), (1, .int (114 : Int32))], [.int (1 : Int32)], hp I F)) rfl ⟨trivial, trivial, trivial⟩ ?_
          exact OK_ri okX6_isOneTooMany rfl rfl (Or.inr ⟨rfl, Or.inr rfl⟩)
      · skip
        have hof : Op.lookupswitch.offset [(99, 53), (108, 35), (114, 71)] 89 v1.toInt = 89 := by rw [lv_osw (a := 99) h50 rfl, lv_osw (a := 108) h52 rfl, lv_osw (a := 114) h54 rfl]; rfl
        refine OK_st 1 okX6_isOneTooMany (S' := ((((1 : Nat) : Int) + Op.lookupswitch.offset [(99, 53), (108, 35), (114, 71)] 89 v1.toInt).toNat, [(0, .ref 1), (1, .int v1)], [], hp I F)) rfl ⟨by show (0 : Int) ≤ ((1 : Nat) : Int) + Op.lookupswitch.offset [(99, 53), (108, 35), (114, 71)] 89 v1.toInt; rw [hof]; decide, trivial⟩ ?_
        refine OK_pc (pc' := 90) (by rw [hof]; rfl) ?_
        refine OK_st 1 okX6_isOneTooMany (S' := (91, [(0, .ref 1), (1, .int v1)], [.int (0 : Int32)], hp I F)) rfl ⟨trivial, trivial⟩ ?_
        exact OK_ri okX6_isOneTooMany rfl rfl (Or.inr ⟨rfl, Or.inl rfl⟩)

def f_X6_isFigure (v0 : Int32) (I : AI) (F : AF) : AQ :=
  if v0 < (48 : Int32) then
    some ((0 : Int32), I, F)
  else
    if (57 : Int32) < v0 then
      some ((0 : Int32), I, F)
    else
      some ((1 : Int32), I, F)
set_option maxRecDepth 20000 in
set_option maxHeartbeats 4000000 in
theorem kf_X6_isFigure (v0 : Int32) (I : AI) (F : AF) : OK 0 mX6_isFigure true (f_X6_isFigure v0 I F) (0, [(0, .int v0)], [], hp I F) := by
  rw [f_X6_isFigure]
  refine OK_st 3 okX6_isFigure (S' := ((if v0 < (48 : Int32) then 16 else 6), [(0, .int v0)], [], hp I F)) rfl ⟨trivial, trivial, trivial, trivial⟩ ?_
  refine OK_if (fun h70 => ?_) (fun h70 => ?_)
  · refine OK_st 1 okX6_isFigure (S' := (17, [(0, .int v0)], [.int (0 : Int32)], hp I F)) rfl ⟨trivial, trivial⟩ ?_
    exact OK_ri okX6_isFigure rfl rfl (Or.inr ⟨rfl, Or.inl rfl⟩)
  · refine OK_st 3 okX6_isFigure (S' := ((if (57 : Int32) < v0 then 16 else 12), [(0, .int v0)], [], hp I F)) rfl ⟨trivial, trivial, trivial, trivial⟩ ?_
    refine OK_if (fun h71 => ?_) (fun h71 => ?_)
    · refine OK_st 1 okX6_isFigure (S' := (17, [(0, .int v0)], [.int (0 : Int32)], hp I F)) rfl ⟨trivial, trivial⟩ ?_
      exact OK_ri okX6_isFigure rfl rfl (Or.inr ⟨rfl, Or.inl rfl⟩)
    · refine OK_st 2 okX6_isFigure (S' := (17, [(0, .int v0)], [.int (1 : Int32)], hp I F)) rfl ⟨trivial, trivial, trivial⟩ ?_
      exact OK_ri okX6_isFigure rfl rfl (Or.inr ⟨rfl, Or.inr rfl⟩)

def f_X6_readNumber_18 (v1 : Int32) (v2 : Int32) (v3 : Int32) (ko : Int32 → Int32 → AI → AF → AQ) : Nat → Int32 → Int32 → AI → AF → AQ
  | 0, _, _, _, _ => none
  | n + 1, v4, v5, I, F =>
    if (250 : Int32) ≤ v5 then
      ko v4 v5 I F
    else
      ab_bd (f_X2_at (I 1) I F) (fun r67 I68 F69 =>
        ab_bd (f_X6_isFigure r67 I68 F69) (fun r72 I73 F74 =>
          if r72 = 0 then
            ko v4 v5 I73 F74
          else
            ab_bd (f_X2_at (I73 1) I73 F74) (fun r76 I77 F78 =>
              ab_lt (if (((v4 * (10 : Int32)) + r76) - (48 : Int32)) < (1000 : Int32) then (((v4 * (10 : Int32)) + r76) - (48 : Int32)) else (1000 : Int32)) (fun x79 =>
                ab_lt (va_up I77 1 ((I77 1) + (1 : Int32))) (fun I80 =>
                  f_X6_readNumber_18 v1 v2 v3 ko n x79 (v5 + (1 : Int32)) I80 F78)))))
set_option maxRecDepth 20000 in
set_option maxHeartbeats 4000000 in
theorem kf_X6_readNumber_18 (v1 : Int32) (v2 : Int32) (v3 : Int32) (ko : Int32 → Int32 → AI → AF → AQ) (hko : ∀ v4 v5 I F, OK 2 mX6_readNumber true (ko v4 v5 I F) (87, [(0, .ref 1), (1, .int v1), (2, .int v2), (3, .int v3), (4, .int v4), (5, .int v5)], [], hp I F)) : ∀ n v4 v5 I F, OK 2 mX6_readNumber true (f_X6_readNumber_18 v1 v2 v3 ko n v4 v5 I F) (18, [(0, .ref 1), (1, .int v1), (2, .int v2), (3, .int v3), (4, .int v4), (5, .int v5)], [], hp I F) := by
  intro n
  induction n with
  | zero =>
    intro v4 v5 I F
    exact OK_no
  | succ n ih =>
    intro v4 v5 I F
    rw [f_X6_readNumber_18]
    refine OK_st 3 okX6_readNumber (S' := ((if (250 : Int32) ≤ v5 then 87 else 26), [(0, .ref 1), (1, .int v1), (2, .int v2), (3, .int v3), (4, .int v4), (5, .int v5)], [], hp I F)) rfl ⟨trivial, trivial, trivial, trivial⟩ ?_
    refine OK_if (fun h66 => ?_) (fun h66 => ?_)
    · exact hko v4 v5 I F
    · refine OK_st 4 okX6_readNumber (S' := (34, [(0, .ref 1), (1, .int v1), (2, .int v2), (3, .int v3), (4, .int v4), (5, .int v5)], [.int (I 1), .ref 2], hp I F)) rfl ⟨trivial, trivial, trivial, trivial, trivial⟩ ?_
      refine OK_cv [.int (I 1)] [] okX6_readNumber okX2_at rfl rfl cl_RX6_45 rfl rfl (Nat.le_of_ble_eq_true rfl) (by decide) (Nat.le_of_ble_eq_true rfl) (kf_X2_at (I 1) I F) (fun r67 I68 F69 => ?_)
      refine OK_cs [.int r67] [] okX6_readNumber okX6_isFigure rfl rfl cl_RX6_117 (Nat.le_of_ble_eq_true rfl) (by decide) (Nat.le_of_ble_eq_true rfl) (kf_X6_isFigure r67 I68 F69) (fun r72 I73 F74 => ?_)
      refine OK_st 1 okX6_readNumber (S' := ((if r72 = 0 then 87 else 43), [(0, .ref 1), (1, .int v1), (2, .int v2), (3, .int v3), (4, .int v4), (5, .int v5)], [], hp I73 F74)) rfl ⟨trivial, trivial⟩ ?_
      refine OK_if (fun h75 => ?_) (fun h75 => ?_)
      · exact hko v4 v5 I73 F74
      · refine OK_st 8 okX6_readNumber (S' := (59, [(0, .ref 1), (1, .int v1), (2, .int v2), (3, .int v3), (4, .int v4), (5, .int v5)], [.int (I73 1), .ref 2, .int (v4 * (10 : Int32)), .int (1000 : Int32)], hp I73 F74)) rfl ⟨trivial, trivial, trivial, trivial, trivial, trivial, trivial, trivial, trivial⟩ ?_
        refine OK_cv [.int (I73 1)] [.int (v4 * (10 : Int32)), .int (1000 : Int32)] okX6_readNumber okX2_at rfl rfl cl_RX6_45 rfl rfl (Nat.le_of_ble_eq_true rfl) (by decide) (Nat.le_of_ble_eq_true rfl) (kf_X2_at (I73 1) I73 F74) (fun r76 I77 F78 => ?_)
        refine OK_st 5 okX6_readNumber (S' := (71, [(4, .int (if (((v4 * (10 : Int32)) + r76) - (48 : Int32)) < (1000 : Int32) then (((v4 * (10 : Int32)) + r76) - (48 : Int32)) else (1000 : Int32))), (0, .ref 1), (1, .int v1), (2, .int v2), (3, .int v3), (5, .int v5)], [], hp I77 F78)) rfl ⟨trivial, trivial, trivial, (Nat.le_of_ble_eq_true rfl), (by decide), trivial⟩ ?_
        refine OK_lt (fun x79 => (71, [(4, .int x79), (0, .ref 1), (1, .int v1), (2, .int v2), (3, .int v3), (5, .int v5)], [], hp I77 F78)) (fun x79 => ?_)
        refine OK_st 8 okX6_readNumber (S' := (18, [(5, .int (v5 + (1 : Int32))), (4, .int x79), (0, .ref 1), (1, .int v1), (2, .int v2), (3, .int v3)], [], hp (va_up I77 1 ((I77 1) + (1 : Int32))) F78)) rfl ⟨trivial, rfl, trivial, trivial, trivial, trivial, (by decide), trivial, trivial⟩ ?_
        refine OK_lt (fun I80 => (18, [(5, .int (v5 + (1 : Int32))), (4, .int x79), (0, .ref 1), (1, .int v1), (2, .int v2), (3, .int v3)], [], hp I80 F78)) (fun I80 => ?_)
        refine OK_pk [2, 3, 4, 5, 1, 0] rfl ?_
        exact ih x79 (v5 + (1 : Int32)) I80 F78

def f_X6_fail (v1 : Int32) (v2 : Int32) (I : AI) (F : AF) : AQ :=
  some ((0 : Int32), (va_up (va_up I 3 v1) 4 v2), F)
set_option maxRecDepth 20000 in
set_option maxHeartbeats 4000000 in
theorem kf_X6_fail (v1 : Int32) (v2 : Int32) (I : AI) (F : AF) : OK 0 mX6_fail true (f_X6_fail v1 v2 I F) (0, [(0, .ref 1), (1, .int v1), (2, .int v2)], [], hp I F) := by
  rw [f_X6_fail]
  refine OK_st 7 okX6_fail (S' := (11, [(0, .ref 1), (1, .int v1), (2, .int v2)], [.int (0 : Int32)], hp (va_up (va_up I 3 v1) 4 v2) F)) rfl ⟨trivial, trivial, trivial, trivial, trivial, trivial, trivial, trivial⟩ ?_
  exact OK_ri okX6_fail rfl rfl (Or.inr ⟨rfl, Or.inl rfl⟩)

def f_X6_readNumber_j87 (v1 : Int32) (v2 : Int32) (v3 : Int32) (v4 : Int32) (I : AI) (F : AF) : AQ :=
  if ¬ ((I 1) - (I 2)) = 0 then
    if (3 : Int32) < ((I 1) - (I 2)) then
      ab_bd (f_X6_fail (2 : Int32) (I 2) I F) (fun r87 I88 F89 =>
        bif ab_bt r87 then some (r87, I88, F89) else none)
    else
      if v4 < v2 then
        ab_bd (f_X6_fail (2 : Int32) (I 2) I F) (fun r92 I93 F94 =>
          bif ab_bt r92 then some (r92, I93, F94) else none)
      else
        if v4 ≤ v3 then
          bif ab_vin v1 5 then
            some ((1 : Int32), I, (va_up F 11 (upd (F 11) v1.toNatClampNeg v4)))
          else none
        else
          ab_bd (f_X6_fail (2 : Int32) (I 2) I F) (fun r98 I99 F100 =>
            bif ab_bt r98 then some (r98, I99, F100) else none)
  else
    ab_bd (f_X6_fail (1 : Int32) (I 1) I F) (fun r102 I103 F104 =>
      bif ab_bt r102 then some (r102, I103, F104) else none)
set_option maxRecDepth 20000 in
set_option maxHeartbeats 4000000 in
theorem kf_X6_readNumber_j87 (v1 : Int32) (v2 : Int32) (v3 : Int32) (v4 : Int32) (I : AI) (F : AF) : OK 2 mX6_readNumber true (f_X6_readNumber_j87 v1 v2 v3 v4 I F) (87, [(0, .ref 1), (1, .int v1), (2, .int v2), (3, .int v3), (4, .int v4)], [], hp I F) := by
  rw [f_X6_readNumber_j87]
  refine OK_st 8 okX6_readNumber (S' := ((if ¬ ((I 1) - (I 2)) = 0 then 113 else 103), [(5, .int ((I 1) - (I 2))), (0, .ref 1), (1, .int v1), (2, .int v2), (3, .int v3), (4, .int v4)], [], hp I F)) rfl ⟨trivial, trivial, trivial, trivial, trivial, (by decide), trivial, trivial, trivial⟩ ?_
  refine OK_if (fun h85 => ?_) (fun h85 => ?_)
  · refine OK_st 3 okX6_readNumber (S' := ((if (3 : Int32) < ((I 1) - (I 2)) then 131 else 119), [(5, .int ((I 1) - (I 2))), (0, .ref 1), (1, .int v1), (2, .int v2), (3, .int v3), (4, .int v4)], [], hp I F)) rfl ⟨trivial, trivial, trivial, trivial⟩ ?_
    refine OK_if (fun h86 => ?_) (fun h86 => ?_)
    · refine OK_st 4 okX6_readNumber (S' := (137, [(5, .int ((I 1) - (I 2))), (0, .ref 1), (1, .int v1), (2, .int v2), (3, .int v3), (4, .int v4)], [.int (I 2), .int (2 : Int32), .ref 1], hp I F)) rfl ⟨trivial, trivial, trivial, trivial, trivial⟩ ?_
      refine OK_cv [.int (2 : Int32), .int (I 2)] [] okX6_readNumber okX6_fail rfl rfl cl_RX6_57 rfl rfl (Nat.le_of_ble_eq_true rfl) (by decide) (Nat.le_of_ble_eq_true rfl) (kf_X6_fail (2 : Int32) (I 2) I F) (fun r87 I88 F89 => ?_)
      refine OK_gd (fun g90 => ?_)
      exact OK_ri okX6_readNumber rfl rfl (Or.inr ⟨rfl, ab_bto g90⟩)
    · refine OK_st 3 okX6_readNumber (S' := ((if v4 < v2 then 131 else 125), [(5, .int ((I 1) - (I 2))), (0, .ref 1), (1, .int v1), (2, .int v2), (3, .int v3), (4, .int v4)], [], hp I F)) rfl ⟨trivial, trivial, trivial, trivial⟩ ?_
      refine OK_if (fun h91 => ?_) (fun h91 => ?_)
      · refine OK_st 4 okX6_readNumber (S' := (137, [(5, .int ((I 1) - (I 2))), (0, .ref 1), (1, .int v1), (2, .int v2), (3, .int v3), (4, .int v4)], [.int (I 2), .int (2 : Int32), .ref 1], hp I F)) rfl ⟨trivial, trivial, trivial, trivial, trivial⟩ ?_
        refine OK_cv [.int (2 : Int32), .int (I 2)] [] okX6_readNumber okX6_fail rfl rfl cl_RX6_57 rfl rfl (Nat.le_of_ble_eq_true rfl) (by decide) (Nat.le_of_ble_eq_true rfl) (kf_X6_fail (2 : Int32) (I 2) I F) (fun r92 I93 F94 => ?_)
        refine OK_gd (fun g95 => ?_)
        exact OK_ri okX6_readNumber rfl rfl (Or.inr ⟨rfl, ab_bto g95⟩)
      · refine OK_st 3 okX6_readNumber (S' := ((if v4 ≤ v3 then 141 else 131), [(5, .int ((I 1) - (I 2))), (0, .ref 1), (1, .int v1), (2, .int v2), (3, .int v3), (4, .int v4)], [], hp I F)) rfl ⟨trivial, trivial, trivial, trivial⟩ ?_
        refine OK_if (fun h96 => ?_) (fun h96 => ?_)
        · refine OK_gd (fun g97 => ?_)
          refine OK_st 6 okX6_readNumber (S' := (150, [(5, .int ((I 1) - (I 2))), (0, .ref 1), (1, .int v1), (2, .int v2), (3, .int v3), (4, .int v4)], [.int (1 : Int32)], hp I (va_up F 11 (upd (F 11) v1.toNatClampNeg v4)))) rfl ⟨trivial, trivial, trivial, trivial, (ab_vo g97), trivial, trivial⟩ ?_
          exact OK_ri okX6_readNumber rfl rfl (Or.inr ⟨rfl, Or.inr rfl⟩)
        · refine OK_st 4 okX6_readNumber (S' := (137, [(5, .int ((I 1) - (I 2))), (0, .ref 1), (1, .int v1), (2, .int v2), (3, .int v3), (4, .int v4)], [.int (I 2), .int (2 : Int32), .ref 1], hp I F)) rfl ⟨trivial, trivial, trivial, trivial, trivial⟩ ?_
          refine OK_cv [.int (2 : Int32), .int (I 2)] [] okX6_readNumber okX6_fail rfl rfl cl_RX6_57 rfl rfl (Nat.le_of_ble_eq_true rfl) (by decide) (Nat.le_of_ble_eq_true rfl) (kf_X6_fail (2 : Int32) (I 2) I F) (fun r98 I99 F100 => ?_)
          refine OK_gd (fun g101 => ?_)
          exact OK_ri okX6_readNumber rfl rfl (Or.inr ⟨rfl, ab_bto g101⟩)
  · refine OK_st 4 okX6_readNumber (S' := (109, [(5, .int ((I 1) - (I 2))), (0, .ref 1), (1, .int v1), (2, .int v2), (3, .int v3), (4, .int v4)], [.int (I 1), .int (1 : Int32), .ref 1], hp I F)) rfl ⟨trivial, trivial, trivial, trivial, trivial⟩ ?_
    refine OK_cv [.int (1 : Int32), .int (I 1)] [] okX6_readNumber okX6_fail rfl rfl cl_RX6_57 rfl rfl (Nat.le_of_ble_eq_true rfl) (by decide) (Nat.le_of_ble_eq_true rfl) (kf_X6_fail (1 : Int32) (I 1) I F) (fun r102 I103 F104 => ?_)
    refine OK_gd (fun g105 => ?_)
    exact OK_ri okX6_readNumber rfl rfl (Or.inr ⟨rfl, ab_bto g105⟩)

def f_X6_readNumber (v1 : Int32) (v2 : Int32) (v3 : Int32) (I : AI) (F : AF) : AQ :=
  ab_bd (f_X6_skipBlanks I F) (fun r62 I63 F64 =>
    ab_lt (va_up I63 2 (I63 1)) (fun I65 =>
      f_X6_readNumber_18 v1 v2 v3 (fun v4_81 v5_82 I83 F84 =>
        f_X6_readNumber_j87 v1 v2 v3 v4_81 I83 F84) ab_fu (0 : Int32) (0 : Int32) I65 F64))
set_option maxRecDepth 20000 in
set_option maxHeartbeats 4000000 in
theorem kf_X6_readNumber (v1 : Int32) (v2 : Int32) (v3 : Int32) (I : AI) (F : AF) : OK 2 mX6_readNumber true (f_X6_readNumber v1 v2 v3 I F) (0, [(0, .ref 1), (1, .int v1), (2, .int v2), (3, .int v3)], [], hp I F) := by
  rw [f_X6_readNumber]
  refine OK_st 1 okX6_readNumber (S' := (1, [(0, .ref 1), (1, .int v1), (2, .int v2), (3, .int v3)], [.ref 1], hp I F)) rfl ⟨trivial, trivial⟩ ?_
  refine OK_cv [] [] okX6_readNumber okX6_skipBlanks rfl rfl cl_RX6_42 rfl rfl (Nat.le_of_ble_eq_true rfl) (by decide) (Nat.le_of_ble_eq_true rfl) (kf_X6_skipBlanks I F) (fun r62 I63 F64 => ?_)
  refine OK_st 8 okX6_readNumber (S' := (18, [(5, .int (0 : Int32)), (4, .int (0 : Int32)), (0, .ref 1), (1, .int v1), (2, .int v2), (3, .int v3)], [], hp (va_up I63 2 (I63 1)) F64)) rfl ⟨trivial, trivial, trivial, trivial, trivial, (by decide), trivial, (by decide), trivial⟩ ?_
  refine OK_lt (fun I65 => (18, [(5, .int (0 : Int32)), (4, .int (0 : Int32)), (0, .ref 1), (1, .int v1), (2, .int v2), (3, .int v3)], [], hp I65 F64)) (fun I65 => ?_)
  refine OK_pk [2, 3, 4, 5, 1, 0] rfl ?_
  refine kf_X6_readNumber_18 v1 v2 v3 _ (fun v4_81 v5_82 I83 F84 => ?_) ab_fu (0 : Int32) (0 : Int32) I65 F64
  refine OK_pk [0, 1, 2, 3, 4] rfl ?_
  exact kf_X6_readNumber_j87 v1 v2 v3 v4_81 I83 F84

def f_X5_addContract (I : AI) (F : AF) : AQ :=
  if (6 : Int32) ≤ (I 7) then
    some (0, I, F)
  else
    bif ab_vin (I 7) 6 then
      bif ab_vin (I 7) 6 then
        bif ab_vin (I 7) 6 then
          some (0, (va_up I 7 ((I 7) + (1 : Int32))), (va_up (va_up (va_up F 4 (upd (F 4) (I 7).toNatClampNeg ((F 11) 0))) 5 (upd (F 5) (I 7).toNatClampNeg ((F 11) 1))) 6 (upd (F 6) (I 7).toNatClampNeg ((F 11) 2))))
        else none
      else none
    else none
set_option maxRecDepth 20000 in
set_option maxHeartbeats 4000000 in
theorem kf_X5_addContract (I : AI) (F : AF) : OK 0 mX5_addContract false (f_X5_addContract I F) (0, [(0, .ref 4), (1, .ref 15)], [], hp I F) := by
  rw [f_X5_addContract]
  refine OK_st 4 okX5_addContract (S' := ((if (6 : Int32) ≤ (I 7) then 55 else 9), [(0, .ref 4), (1, .ref 15)], [], hp I F)) rfl ⟨trivial, trivial, trivial, trivial, trivial⟩ ?_
  refine OK_if (fun h111 => ?_) (fun h111 => ?_)
  · exact OK_rv okX5_addContract rfl rfl rfl
  · refine OK_gd (fun g112 => ?_)
    refine OK_gd (fun g113 => ?_)
    refine OK_gd (fun g114 => ?_)
    refine OK_st 30 okX5_addContract (S' := (55, [(0, .ref 4), (1, .ref 15)], [], hp (va_up I 7 ((I 7) + (1 : Int32))) (va_up (va_up (va_up F 4 (upd (F 4) (I 7).toNatClampNeg ((F 11) 0))) 5 (upd (F 5) (I 7).toNatClampNeg ((F 11) 1))) 6 (upd (F 6) (I 7).toNatClampNeg ((F 11) 2))))) rfl ⟨trivial, trivial, trivial, trivial, trivial, trivial, (ab_vo (by decide)), (ab_vo g112), trivial, trivial, trivial, trivial, trivial, trivial, (ab_vo (by decide)), (ab_vo g113), trivial, trivial, trivial, trivial, trivial, trivial, (ab_vo (by decide)), (ab_vo g114), trivial, rfl, trivial, trivial, trivial, trivial, trivial⟩ ?_
    exact OK_rv okX5_addContract rfl rfl rfl

def f_X6_readClose (I : AI) (F : AF) : AQ :=
  ab_bd (f_X6_skipBlanks I F) (fun r134 I135 F136 =>
    ab_bd (f_X2_at (I135 1) I135 F136) (fun r137 I138 F139 =>
      if r137 = (59 : Int32) then
        some ((1 : Int32), (va_up I138 1 ((I138 1) + (1 : Int32))), F139)
      else
        ab_bd (f_X6_fail (1 : Int32) (I138 1) I138 F139) (fun r141 I142 F143 =>
          bif ab_bt r141 then some (r141, I142, F143) else none)))
set_option maxRecDepth 20000 in
set_option maxHeartbeats 4000000 in
theorem kf_X6_readClose (I : AI) (F : AF) : OK 2 mX6_readClose true (f_X6_readClose I F) (0, [(0, .ref 1)], [], hp I F) := by
  rw [f_X6_readClose]
  refine OK_st 1 okX6_readClose (S' := (1, [(0, .ref 1)], [.ref 1], hp I F)) rfl ⟨trivial, trivial⟩ ?_
  refine OK_cv [] [] okX6_readClose okX6_skipBlanks rfl rfl cl_RX6_42 rfl rfl (Nat.le_of_ble_eq_true rfl) (by decide) (Nat.le_of_ble_eq_true rfl) (kf_X6_skipBlanks I F) (fun r134 I135 F136 => ?_)
  refine OK_st 4 okX6_readClose (S' := (12, [(0, .ref 1)], [.int (I135 1), .ref 2], hp I135 F136)) rfl ⟨trivial, trivial, trivial, trivial, trivial⟩ ?_
  refine OK_cv [.int (I135 1)] [] okX6_readClose okX2_at rfl rfl cl_RX6_45 rfl rfl (Nat.le_of_ble_eq_true rfl) (by decide) (Nat.le_of_ble_eq_true rfl) (kf_X2_at (I135 1) I135 F136) (fun r137 I138 F139 => ?_)
  refine OK_st 2 okX6_readClose (S' := ((if r137 = (59 : Int32) then 30 else 20), [(0, .ref 1)], [], hp I138 F139)) rfl ⟨trivial, trivial, trivial⟩ ?_
  refine OK_if (fun h140 => ?_) (fun h140 => ?_)
  · refine OK_st 7 okX6_readClose (S' := (41, [(0, .ref 1)], [.int (1 : Int32)], hp (va_up I138 1 ((I138 1) + (1 : Int32))) F139)) rfl ⟨trivial, rfl, trivial, trivial, trivial, trivial, trivial, trivial⟩ ?_
    exact OK_ri okX6_readClose rfl rfl (Or.inr ⟨rfl, Or.inr rfl⟩)
  · refine OK_st 4 okX6_readClose (S' := (26, [(0, .ref 1)], [.int (I138 1), .int (1 : Int32), .ref 1], hp I138 F139)) rfl ⟨trivial, trivial, trivial, trivial, trivial⟩ ?_
    refine OK_cv [.int (1 : Int32), .int (I138 1)] [] okX6_readClose okX6_fail rfl rfl cl_RX6_57 rfl rfl (Nat.le_of_ble_eq_true rfl) (by decide) (Nat.le_of_ble_eq_true rfl) (kf_X6_fail (1 : Int32) (I138 1) I138 F139) (fun r141 I142 F143 => ?_)
    refine OK_gd (fun g144 => ?_)
    exact OK_ri okX6_readClose rfl rfl (Or.inr ⟨rfl, ab_bto g144⟩)

def f_X6_readContract (I : AI) (F : AF) : AQ :=
  ab_bd (f_X6_readNumber (0 : Int32) (0 : Int32) (99 : Int32) I F) (fun r106 I107 F108 =>
    if r106 = 0 then
      if (0 : Int32) = 0 then
        some ((0 : Int32), I107, F108)
      else
        ab_bd (f_X5_addContract I107 F108) (fun r115 I116 F117 =>
          some ((0 : Int32), I116, F117))
    else
      ab_bd (f_X6_readNumber (1 : Int32) (0 : Int32) ((I107 6) - (1 : Int32)) I107 F108) (fun r118 I119 F120 =>
        if r118 = 0 then
          if (0 : Int32) = 0 then
            some ((0 : Int32), I119, F120)
          else
            ab_bd (f_X5_addContract I119 F120) (fun r123 I124 F125 =>
              some ((0 : Int32), I124, F125))
        else
          ab_bd (f_X6_readNumber (2 : Int32) (1 : Int32) (50 : Int32) I119 F120) (fun r126 I127 F128 =>
            if r126 = 0 then
              if (0 : Int32) = 0 then
                some ((0 : Int32), I127, F128)
              else
                ab_bd (f_X5_addContract I127 F128) (fun r131 I132 F133 =>
                  some ((0 : Int32), I132, F133))
            else
              ab_bd (f_X6_readClose I127 F128) (fun r145 I146 F147 =>
                if r145 = 0 then
                  if (0 : Int32) = 0 then
                    some ((0 : Int32), I146, F147)
                  else
                    ab_bd (f_X5_addContract I146 F147) (fun r150 I151 F152 =>
                      some ((0 : Int32), I151, F152))
                else
                  if (1 : Int32) = 0 then
                    some ((1 : Int32), I146, F147)
                  else
                    ab_bd (f_X5_addContract I146 F147) (fun r154 I155 F156 =>
                      some ((1 : Int32), I155, F156))))))
set_option maxRecDepth 20000 in
set_option maxHeartbeats 4000000 in
theorem kf_X6_readContract (I : AI) (F : AF) : OK 3 mX6_readContract true (f_X6_readContract I F) (0, [(0, .ref 1)], [], hp I F) := by
  rw [f_X6_readContract]
  refine OK_st 4 okX6_readContract (S' := (5, [(0, .ref 1)], [.int (99 : Int32), .int (0 : Int32), .int (0 : Int32), .ref 1], hp I F)) rfl ⟨trivial, trivial, trivial, trivial, trivial⟩ ?_
  refine OK_cv [.int (0 : Int32), .int (0 : Int32), .int (99 : Int32)] [] okX6_readContract okX6_readNumber rfl rfl cl_RX6_85 rfl rfl (Nat.le_of_ble_eq_true rfl) (by decide) (Nat.le_of_ble_eq_true rfl) (kf_X6_readNumber (0 : Int32) (0 : Int32) (99 : Int32) I F) (fun r106 I107 F108 => ?_)
  refine OK_st 1 okX6_readContract (S' := ((if r106 = 0 then 51 else 11), [(0, .ref 1)], [], hp I107 F108)) rfl ⟨trivial, trivial⟩ ?_
  refine OK_if (fun h109 => ?_) (fun h109 => ?_)
  · refine OK_st 4 okX6_readContract (S' := ((if (0 : Int32) = 0 then 68 else 57), [(1, .int (0 : Int32)), (0, .ref 1)], [], hp I107 F108)) rfl ⟨trivial, (by decide), trivial, trivial, trivial⟩ ?_
    refine OK_if (fun h110 => ?_) (fun h110 => ?_)
    · refine OK_st 1 okX6_readContract (S' := (69, [(1, .int (0 : Int32)), (0, .ref 1)], [.int (0 : Int32)], hp I107 F108)) rfl ⟨trivial, trivial⟩ ?_
      exact OK_ri okX6_readContract rfl rfl (Or.inr ⟨rfl, Or.inl rfl⟩)
    · refine OK_st 4 okX6_readContract (S' := (65, [(1, .int (0 : Int32)), (0, .ref 1)], [.ref 15, .ref 4], hp I107 F108)) rfl ⟨trivial, trivial, trivial, trivial, trivial⟩ ?_
      refine OK_cv [.ref 15] [] okX6_readContract okX5_addContract rfl rfl cl_RX6_96 rfl rfl (Nat.le_of_ble_eq_true rfl) (by decide) (Nat.le_of_ble_eq_true rfl) (kf_X5_addContract I107 F108) (fun r115 I116 F117 => ?_)
      refine OK_st 1 okX6_readContract (S' := (69, [(1, .int (0 : Int32)), (0, .ref 1)], [.int (0 : Int32)], hp I116 F117)) rfl ⟨trivial, trivial⟩ ?_
      exact OK_ri okX6_readContract rfl rfl (Or.inr ⟨rfl, Or.inl rfl⟩)
  · refine OK_st 8 okX6_readContract (S' := (23, [(0, .ref 1)], [.int ((I107 6) - (1 : Int32)), .int (0 : Int32), .int (1 : Int32), .ref 1], hp I107 F108)) rfl ⟨trivial, trivial, trivial, trivial, trivial, trivial, trivial, trivial, trivial⟩ ?_
    refine OK_cv [.int (1 : Int32), .int (0 : Int32), .int ((I107 6) - (1 : Int32))] [] okX6_readContract okX6_readNumber rfl rfl cl_RX6_85 rfl rfl (Nat.le_of_ble_eq_true rfl) (by decide) (Nat.le_of_ble_eq_true rfl) (kf_X6_readNumber (1 : Int32) (0 : Int32) ((I107 6) - (1 : Int32)) I107 F108) (fun r118 I119 F120 => ?_)
    refine OK_st 1 okX6_readContract (S' := ((if r118 = 0 then 51 else 29), [(0, .ref 1)], [], hp I119 F120)) rfl ⟨trivial, trivial⟩ ?_
    refine OK_if (fun h121 => ?_) (fun h121 => ?_)
    · refine OK_st 4 okX6_readContract (S' := ((if (0 : Int32) = 0 then 68 else 57), [(1, .int (0 : Int32)), (0, .ref 1)], [], hp I119 F120)) rfl ⟨trivial, (by decide), trivial, trivial, trivial⟩ ?_
      refine OK_if (fun h122 => ?_) (fun h122 => ?_)
      · refine OK_st 1 okX6_readContract (S' := (69, [(1, .int (0 : Int32)), (0, .ref 1)], [.int (0 : Int32)], hp I119 F120)) rfl ⟨trivial, trivial⟩ ?_
        exact OK_ri okX6_readContract rfl rfl (Or.inr ⟨rfl, Or.inl rfl⟩)
      · refine OK_st 4 okX6_readContract (S' := (65, [(1, .int (0 : Int32)), (0, .ref 1)], [.ref 15, .ref 4], hp I119 F120)) rfl ⟨trivial, trivial, trivial, trivial, trivial⟩ ?_
        refine OK_cv [.ref 15] [] okX6_readContract okX5_addContract rfl rfl cl_RX6_96 rfl rfl (Nat.le_of_ble_eq_true rfl) (by decide) (Nat.le_of_ble_eq_true rfl) (kf_X5_addContract I119 F120) (fun r123 I124 F125 => ?_)
        refine OK_st 1 okX6_readContract (S' := (69, [(1, .int (0 : Int32)), (0, .ref 1)], [.int (0 : Int32)], hp I124 F125)) rfl ⟨trivial, trivial⟩ ?_
        exact OK_ri okX6_readContract rfl rfl (Or.inr ⟨rfl, Or.inl rfl⟩)
    · refine OK_st 4 okX6_readContract (S' := (34, [(0, .ref 1)], [.int (50 : Int32), .int (1 : Int32), .int (2 : Int32), .ref 1], hp I119 F120)) rfl ⟨trivial, trivial, trivial, trivial, trivial⟩ ?_
      refine OK_cv [.int (2 : Int32), .int (1 : Int32), .int (50 : Int32)] [] okX6_readContract okX6_readNumber rfl rfl cl_RX6_85 rfl rfl (Nat.le_of_ble_eq_true rfl) (by decide) (Nat.le_of_ble_eq_true rfl) (kf_X6_readNumber (2 : Int32) (1 : Int32) (50 : Int32) I119 F120) (fun r126 I127 F128 => ?_)
      refine OK_st 1 okX6_readContract (S' := ((if r126 = 0 then 51 else 40), [(0, .ref 1)], [], hp I127 F128)) rfl ⟨trivial, trivial⟩ ?_
      refine OK_if (fun h129 => ?_) (fun h129 => ?_)
      · refine OK_st 4 okX6_readContract (S' := ((if (0 : Int32) = 0 then 68 else 57), [(1, .int (0 : Int32)), (0, .ref 1)], [], hp I127 F128)) rfl ⟨trivial, (by decide), trivial, trivial, trivial⟩ ?_
        refine OK_if (fun h130 => ?_) (fun h130 => ?_)
        · refine OK_st 1 okX6_readContract (S' := (69, [(1, .int (0 : Int32)), (0, .ref 1)], [.int (0 : Int32)], hp I127 F128)) rfl ⟨trivial, trivial⟩ ?_
          exact OK_ri okX6_readContract rfl rfl (Or.inr ⟨rfl, Or.inl rfl⟩)
        · refine OK_st 4 okX6_readContract (S' := (65, [(1, .int (0 : Int32)), (0, .ref 1)], [.ref 15, .ref 4], hp I127 F128)) rfl ⟨trivial, trivial, trivial, trivial, trivial⟩ ?_
          refine OK_cv [.ref 15] [] okX6_readContract okX5_addContract rfl rfl cl_RX6_96 rfl rfl (Nat.le_of_ble_eq_true rfl) (by decide) (Nat.le_of_ble_eq_true rfl) (kf_X5_addContract I127 F128) (fun r131 I132 F133 => ?_)
          refine OK_st 1 okX6_readContract (S' := (69, [(1, .int (0 : Int32)), (0, .ref 1)], [.int (0 : Int32)], hp I132 F133)) rfl ⟨trivial, trivial⟩ ?_
          exact OK_ri okX6_readContract rfl rfl (Or.inr ⟨rfl, Or.inl rfl⟩)
      · refine OK_st 1 okX6_readContract (S' := (41, [(0, .ref 1)], [.ref 1], hp I127 F128)) rfl ⟨trivial, trivial⟩ ?_
        refine OK_cv [] [] okX6_readContract okX6_readClose rfl rfl cl_RX6_89 rfl rfl (Nat.le_of_ble_eq_true rfl) (by decide) (Nat.le_of_ble_eq_true rfl) (kf_X6_readClose I127 F128) (fun r145 I146 F147 => ?_)
        refine OK_st 1 okX6_readContract (S' := ((if r145 = 0 then 51 else 47), [(0, .ref 1)], [], hp I146 F147)) rfl ⟨trivial, trivial⟩ ?_
        refine OK_if (fun h148 => ?_) (fun h148 => ?_)
        · refine OK_st 4 okX6_readContract (S' := ((if (0 : Int32) = 0 then 68 else 57), [(1, .int (0 : Int32)), (0, .ref 1)], [], hp I146 F147)) rfl ⟨trivial, (by decide), trivial, trivial, trivial⟩ ?_
          refine OK_if (fun h149 => ?_) (fun h149 => ?_)
          · refine OK_st 1 okX6_readContract (S' := (69, [(1, .int (0 : Int32)), (0, .ref 1)], [.int (0 : Int32)], hp I146 F147)) rfl ⟨trivial, trivial⟩ ?_
            exact OK_ri okX6_readContract rfl rfl (Or.inr ⟨rfl, Or.inl rfl⟩)
          · refine OK_st 4 okX6_readContract (S' := (65, [(1, .int (0 : Int32)), (0, .ref 1)], [.ref 15, .ref 4], hp I146 F147)) rfl ⟨trivial, trivial, trivial, trivial, trivial⟩ ?_
            refine OK_cv [.ref 15] [] okX6_readContract okX5_addContract rfl rfl cl_RX6_96 rfl rfl (Nat.le_of_ble_eq_true rfl) (by decide) (Nat.le_of_ble_eq_true rfl) (kf_X5_addContract I146 F147) (fun r150 I151 F152 => ?_)
            refine OK_st 1 okX6_readContract (S' := (69, [(1, .int (0 : Int32)), (0, .ref 1)], [.int (0 : Int32)], hp I151 F152)) rfl ⟨trivial, trivial⟩ ?_
            exact OK_ri okX6_readContract rfl rfl (Or.inr ⟨rfl, Or.inl rfl⟩)
        · refine OK_st 5 okX6_readContract (S' := ((if (1 : Int32) = 0 then 68 else 57), [(1, .int (1 : Int32)), (0, .ref 1)], [], hp I146 F147)) rfl ⟨trivial, trivial, (by decide), trivial, trivial, trivial⟩ ?_
          refine OK_if (fun h153 => ?_) (fun h153 => ?_)
          · refine OK_st 1 okX6_readContract (S' := (69, [(1, .int (1 : Int32)), (0, .ref 1)], [.int (1 : Int32)], hp I146 F147)) rfl ⟨trivial, trivial⟩ ?_
            exact OK_ri okX6_readContract rfl rfl (Or.inr ⟨rfl, Or.inr rfl⟩)
          · refine OK_st 4 okX6_readContract (S' := (65, [(1, .int (1 : Int32)), (0, .ref 1)], [.ref 15, .ref 4], hp I146 F147)) rfl ⟨trivial, trivial, trivial, trivial, trivial⟩ ?_
            refine OK_cv [.ref 15] [] okX6_readContract okX5_addContract rfl rfl cl_RX6_96 rfl rfl (Nat.le_of_ble_eq_true rfl) (by decide) (Nat.le_of_ble_eq_true rfl) (kf_X5_addContract I146 F147) (fun r154 I155 F156 => ?_)
            refine OK_st 1 okX6_readContract (S' := (69, [(1, .int (1 : Int32)), (0, .ref 1)], [.int (1 : Int32)], hp I155 F156)) rfl ⟨trivial, trivial⟩ ?_
            exact OK_ri okX6_readContract rfl rfl (Or.inr ⟨rfl, Or.inr rfl⟩)

def f_X6_readLimb_12 (ko : Int32 → Int32 → AI → AF → AQ) : Nat → Int32 → Int32 → AI → AF → AQ
  | 0, _, _, _, _ => none
  | n + 1, v1, v2, I, F =>
    if (4 : Int32) < v2 then
      ko v1 v2 I F
    else
      if v1 = 0 then
        ko v1 v2 I F
      else
        ab_bd (f_X6_readNumber v2 (0 : Int32) (18 : Int32) I F) (fun r167 I168 F169 =>
          f_X6_readLimb_12 ko n r167 (v2 + (1 : Int32)) I168 F169)
set_option maxRecDepth 20000 in
set_option maxHeartbeats 4000000 in
theorem kf_X6_readLimb_12 (ko : Int32 → Int32 → AI → AF → AQ) (hko : ∀ v1 v2 I F, OK 3 mX6_readLimb true (ko v1 v2 I F) (36, [(0, .ref 1), (1, .int v1), (2, .int v2)], [], hp I F)) : ∀ n v1 v2 I F, OK 3 mX6_readLimb true (f_X6_readLimb_12 ko n v1 v2 I F) (12, [(0, .ref 1), (1, .int v1), (2, .int v2)], [], hp I F) := by
  intro n
  induction n with
  | zero =>
    intro v1 v2 I F
    exact OK_no
  | succ n ih =>
    intro v1 v2 I F
    rw [f_X6_readLimb_12]
    refine OK_st 3 okX6_readLimb (S' := ((if (4 : Int32) < v2 then 36 else 17), [(0, .ref 1), (1, .int v1), (2, .int v2)], [], hp I F)) rfl ⟨trivial, trivial, trivial, trivial⟩ ?_
    refine OK_if (fun h165 => ?_) (fun h165 => ?_)
    · exact hko v1 v2 I F
    · refine OK_st 2 okX6_readLimb (S' := ((if v1 = 0 then 36 else 21), [(0, .ref 1), (1, .int v1), (2, .int v2)], [], hp I F)) rfl ⟨trivial, trivial, trivial⟩ ?_
      refine OK_if (fun h166 => ?_) (fun h166 => ?_)
      · exact hko v1 v2 I F
      · refine OK_st 4 okX6_readLimb (S' := (26, [(0, .ref 1), (1, .int v1), (2, .int v2)], [.int (18 : Int32), .int (0 : Int32), .int v2, .ref 1], hp I F)) rfl ⟨trivial, trivial, trivial, trivial, trivial⟩ ?_
        refine OK_cv [.int v2, .int (0 : Int32), .int (18 : Int32)] [] okX6_readLimb okX6_readNumber rfl rfl cl_RX6_85 rfl rfl (Nat.le_of_ble_eq_true rfl) (by decide) (Nat.le_of_ble_eq_true rfl) (kf_X6_readNumber v2 (0 : Int32) (18 : Int32) I F) (fun r167 I168 F169 => ?_)
        refine OK_st 3 okX6_readLimb (S' := (12, [(2, .int (v2 + (1 : Int32))), (1, .int r167), (0, .ref 1)], [], hp I168 F169)) rfl ⟨(by decide), (by decide), trivial, trivial⟩ ?_
        refine OK_pk [2, 1, 0] rfl ?_
        exact ih r167 (v2 + (1 : Int32)) I168 F169

def f_X5_addLimb (I : AI) (F : AF) : AQ :=
  if (6 : Int32) ≤ (I 6) then
    some (0, I, F)
  else
    bif ab_vin (I 6) 6 then
      bif ab_cg (1 : Int32) ((I 6) * (4 : Int32)) (4 : Int32) 5 24 then
        bif ab_vin (I 6) 6 then
          some (0, (va_up I 6 ((I 6) + (1 : Int32))), (va_up (va_up (va_up F 1 (upd (F 1) (I 6).toNatClampNeg ((F 11) 0))) 2 (va_cpy (F 11) (F 2) 1 ((I 6) * (4 : Int32)).toNatClampNeg 4)) 3 (upd (F 3) (I 6).toNatClampNeg (-1 : Int32))))
        else none
      else none
    else none
set_option maxRecDepth 20000 in
set_option maxHeartbeats 4000000 in
theorem kf_X5_addLimb (I : AI) (F : AF) : OK 0 mX5_addLimb false (f_X5_addLimb I F) (0, [(0, .ref 4), (1, .ref 15)], [], hp I F) := by
  rw [f_X5_addLimb]
  refine OK_st 4 okX5_addLimb (S' := ((if (6 : Int32) ≤ (I 6) then 57 else 9), [(0, .ref 4), (1, .ref 15)], [], hp I F)) rfl ⟨trivial, trivial, trivial, trivial, trivial⟩ ?_
  refine OK_if (fun h176 => ?_) (fun h176 => ?_)
  · exact OK_rv okX5_addLimb rfl rfl rfl
  · refine OK_gd (fun g177 => ?_)
    refine OK_gd (fun g178 => ?_)
    refine OK_gd (fun g179 => ?_)
    refine OK_st 30 okX5_addLimb (S' := (57, [(0, .ref 4), (1, .ref 15)], [], hp (va_up I 6 ((I 6) + (1 : Int32))) (va_up (va_up (va_up F 1 (upd (F 1) (I 6).toNatClampNeg ((F 11) 0))) 2 (va_cpy (F 11) (F 2) 1 ((I 6) * (4 : Int32)).toNatClampNeg 4)) 3 (upd (F 3) (I 6).toNatClampNeg (-1 : Int32))))) rfl ⟨trivial, trivial, trivial, trivial, trivial, trivial, (ab_vo (by decide)), (ab_vo g177), trivial, trivial, trivial, trivial, trivial, trivial, trivial, trivial, trivial, ab_cgo g178 (Nat.le_of_ble_eq_true rfl), trivial, trivial, trivial, trivial, trivial, (ab_vo g179), trivial, rfl, trivial, trivial, trivial, trivial, trivial⟩ ?_
    exact OK_rv okX5_addLimb rfl rfl rfl

def f_X6_readLimb_j36 (v1 : Int32) (I : AI) (F : AF) : AQ :=
  if v1 = 0 then
    if (0 : Int32) = 0 then
      some ((0 : Int32), I, F)
    else
      ab_bd (f_X5_addLimb I F) (fun r180 I181 F182 =>
        some ((0 : Int32), I181, F182))
  else
    ab_bd (f_X6_readClose I F) (fun r183 I184 F185 =>
      if r183 = 0 then
        if (0 : Int32) = 0 then
          some ((0 : Int32), I184, F185)
        else
          ab_bd (f_X5_addLimb I184 F185) (fun r188 I189 F190 =>
            some ((0 : Int32), I189, F190))
      else
        if (1 : Int32) = 0 then
          some ((1 : Int32), I184, F185)
        else
          ab_bd (f_X5_addLimb I184 F185) (fun r192 I193 F194 =>
            some ((1 : Int32), I193, F194)))
set_option maxRecDepth 20000 in
set_option maxHeartbeats 4000000 in
theorem kf_X6_readLimb_j36 (v1 : Int32) (I : AI) (F : AF) : OK 3 mX6_readLimb true (f_X6_readLimb_j36 v1 I F) (36, [(0, .ref 1), (1, .int v1)], [], hp I F) := by
  rw [f_X6_readLimb_j36]
  refine OK_st 2 okX6_readLimb (S' := ((if v1 = 0 then 51 else 40), [(0, .ref 1), (1, .int v1)], [], hp I F)) rfl ⟨trivial, trivial, trivial⟩ ?_
  refine OK_if (fun h174 => ?_) (fun h174 => ?_)
  · refine OK_st 4 okX6_readLimb (S' := ((if (0 : Int32) = 0 then 68 else 57), [(1, .int (0 : Int32)), (0, .ref 1)], [], hp I F)) rfl ⟨trivial, (by decide), trivial, trivial, trivial⟩ ?_
    refine OK_if (fun h175 => ?_) (fun h175 => ?_)
    · refine OK_st 1 okX6_readLimb (S' := (69, [(1, .int (0 : Int32)), (0, .ref 1)], [.int (0 : Int32)], hp I F)) rfl ⟨trivial, trivial⟩ ?_
      exact OK_ri okX6_readLimb rfl rfl (Or.inr ⟨rfl, Or.inl rfl⟩)
    · refine OK_st 4 okX6_readLimb (S' := (65, [(1, .int (0 : Int32)), (0, .ref 1)], [.ref 15, .ref 4], hp I F)) rfl ⟨trivial, trivial, trivial, trivial, trivial⟩ ?_
      refine OK_cv [.ref 15] [] okX6_readLimb okX5_addLimb rfl rfl cl_RX6_92 rfl rfl (Nat.le_of_ble_eq_true rfl) (by decide) (Nat.le_of_ble_eq_true rfl) (kf_X5_addLimb I F) (fun r180 I181 F182 => ?_)
      refine OK_st 1 okX6_readLimb (S' := (69, [(1, .int (0 : Int32)), (0, .ref 1)], [.int (0 : Int32)], hp I181 F182)) rfl ⟨trivial, trivial⟩ ?_
      exact OK_ri okX6_readLimb rfl rfl (Or.inr ⟨rfl, Or.inl rfl⟩)
  · refine OK_st 1 okX6_readLimb (S' := (41, [(0, .ref 1), (1, .int v1)], [.ref 1], hp I F)) rfl ⟨trivial, trivial⟩ ?_
    refine OK_cv [] [] okX6_readLimb okX6_readClose rfl rfl cl_RX6_89 rfl rfl (Nat.le_of_ble_eq_true rfl) (by decide) (Nat.le_of_ble_eq_true rfl) (kf_X6_readClose I F) (fun r183 I184 F185 => ?_)
    refine OK_st 1 okX6_readLimb (S' := ((if r183 = 0 then 51 else 47), [(0, .ref 1), (1, .int v1)], [], hp I184 F185)) rfl ⟨trivial, trivial⟩ ?_
    refine OK_if (fun h186 => ?_) (fun h186 => ?_)
    · refine OK_st 4 okX6_readLimb (S' := ((if (0 : Int32) = 0 then 68 else 57), [(1, .int (0 : Int32)), (0, .ref 1)], [], hp I184 F185)) rfl ⟨trivial, (by decide), trivial, trivial, trivial⟩ ?_
      refine OK_if (fun h187 => ?_) (fun h187 => ?_)
      · refine OK_st 1 okX6_readLimb (S' := (69, [(1, .int (0 : Int32)), (0, .ref 1)], [.int (0 : Int32)], hp I184 F185)) rfl ⟨trivial, trivial⟩ ?_
        exact OK_ri okX6_readLimb rfl rfl (Or.inr ⟨rfl, Or.inl rfl⟩)
      · refine OK_st 4 okX6_readLimb (S' := (65, [(1, .int (0 : Int32)), (0, .ref 1)], [.ref 15, .ref 4], hp I184 F185)) rfl ⟨trivial, trivial, trivial, trivial, trivial⟩ ?_
        refine OK_cv [.ref 15] [] okX6_readLimb okX5_addLimb rfl rfl cl_RX6_92 rfl rfl (Nat.le_of_ble_eq_true rfl) (by decide) (Nat.le_of_ble_eq_true rfl) (kf_X5_addLimb I184 F185) (fun r188 I189 F190 => ?_)
        refine OK_st 1 okX6_readLimb (S' := (69, [(1, .int (0 : Int32)), (0, .ref 1)], [.int (0 : Int32)], hp I189 F190)) rfl ⟨trivial, trivial⟩ ?_
        exact OK_ri okX6_readLimb rfl rfl (Or.inr ⟨rfl, Or.inl rfl⟩)
    · refine OK_st 5 okX6_readLimb (S' := ((if (1 : Int32) = 0 then 68 else 57), [(1, .int (1 : Int32)), (0, .ref 1)], [], hp I184 F185)) rfl ⟨trivial, trivial, (by decide), trivial, trivial, trivial⟩ ?_
      refine OK_if (fun h191 => ?_) (fun h191 => ?_)
      · refine OK_st 1 okX6_readLimb (S' := (69, [(1, .int (1 : Int32)), (0, .ref 1)], [.int (1 : Int32)], hp I184 F185)) rfl ⟨trivial, trivial⟩ ?_
        exact OK_ri okX6_readLimb rfl rfl (Or.inr ⟨rfl, Or.inr rfl⟩)
      · refine OK_st 4 okX6_readLimb (S' := (65, [(1, .int (1 : Int32)), (0, .ref 1)], [.ref 15, .ref 4], hp I184 F185)) rfl ⟨trivial, trivial, trivial, trivial, trivial⟩ ?_
        refine OK_cv [.ref 15] [] okX6_readLimb okX5_addLimb rfl rfl cl_RX6_92 rfl rfl (Nat.le_of_ble_eq_true rfl) (by decide) (Nat.le_of_ble_eq_true rfl) (kf_X5_addLimb I184 F185) (fun r192 I193 F194 => ?_)
        refine OK_st 1 okX6_readLimb (S' := (69, [(1, .int (1 : Int32)), (0, .ref 1)], [.int (1 : Int32)], hp I193 F194)) rfl ⟨trivial, trivial⟩ ?_
        exact OK_ri okX6_readLimb rfl rfl (Or.inr ⟨rfl, Or.inr rfl⟩)

def f_X6_readLimb (I : AI) (F : AF) : AQ :=
  ab_bd (f_X6_readNumber (0 : Int32) (20 : Int32) (99 : Int32) I F) (fun r162 I163 F164 =>
    f_X6_readLimb_12 (fun v1_170 v2_171 I172 F173 =>
      f_X6_readLimb_j36 v1_170 I172 F173) ab_fu r162 (1 : Int32) I163 F164)
set_option maxRecDepth 20000 in
set_option maxHeartbeats 4000000 in
theorem kf_X6_readLimb (I : AI) (F : AF) : OK 3 mX6_readLimb true (f_X6_readLimb I F) (0, [(0, .ref 1)], [], hp I F) := by
  rw [f_X6_readLimb]
  refine OK_st 4 okX6_readLimb (S' := (6, [(0, .ref 1)], [.int (99 : Int32), .int (20 : Int32), .int (0 : Int32), .ref 1], hp I F)) rfl ⟨trivial, trivial, trivial, trivial, trivial⟩ ?_
  refine OK_cv [.int (0 : Int32), .int (20 : Int32), .int (99 : Int32)] [] okX6_readLimb okX6_readNumber rfl rfl cl_RX6_85 rfl rfl (Nat.le_of_ble_eq_true rfl) (by decide) (Nat.le_of_ble_eq_true rfl) (kf_X6_readNumber (0 : Int32) (20 : Int32) (99 : Int32) I F) (fun r162 I163 F164 => ?_)
  refine OK_st 3 okX6_readLimb (S' := (12, [(2, .int (1 : Int32)), (1, .int r162), (0, .ref 1)], [], hp I163 F164)) rfl ⟨(by decide), trivial, (by decide), trivial⟩ ?_
  refine OK_pk [2, 1, 0] rfl ?_
  refine kf_X6_readLimb_12 _ (fun v1_170 v2_171 I172 F173 => ?_) ab_fu r162 (1 : Int32) I163 F164
  refine OK_pk [0, 1] rfl ?_
  exact kf_X6_readLimb_j36 v1_170 I172 F173

def f_X5_addRate (I : AI) (F : AF) : AQ :=
  if (8 : Int32) ≤ (I 8) then
    some (0, I, F)
  else
    bif ab_vin (I 8) 8 then
      bif ab_vin (I 8) 8 then
        bif ab_vin (I 8) 8 then
          bif ab_vin (I 8) 8 then
            some (0, (va_up I 8 ((I 8) + (1 : Int32))), (va_up (va_up (va_up (va_up F 7 (upd (F 7) (I 8).toNatClampNeg ((F 11) 0))) 8 (upd (F 8) (I 8).toNatClampNeg ((F 11) 1))) 9 (upd (F 9) (I 8).toNatClampNeg ((F 11) 2))) 10 (upd (F 10) (I 8).toNatClampNeg ((F 11) 3))))
          else none
        else none
      else none
    else none
set_option maxRecDepth 20000 in
set_option maxHeartbeats 4000000 in
theorem kf_X5_addRate (I : AI) (F : AF) : OK 0 mX5_addRate false (f_X5_addRate I F) (0, [(0, .ref 4), (1, .ref 15)], [], hp I F) := by
  rw [f_X5_addRate]
  refine OK_st 4 okX5_addRate (S' := ((if (8 : Int32) ≤ (I 8) then 67 else 9), [(0, .ref 4), (1, .ref 15)], [], hp I F)) rfl ⟨trivial, trivial, trivial, trivial, trivial⟩ ?_
  refine OK_if (fun h205 => ?_) (fun h205 => ?_)
  · exact OK_rv okX5_addRate rfl rfl rfl
  · refine OK_gd (fun g206 => ?_)
    refine OK_gd (fun g207 => ?_)
    refine OK_gd (fun g208 => ?_)
    refine OK_gd (fun g209 => ?_)
    refine OK_st 38 okX5_addRate (S' := (67, [(0, .ref 4), (1, .ref 15)], [], hp (va_up I 8 ((I 8) + (1 : Int32))) (va_up (va_up (va_up (va_up F 7 (upd (F 7) (I 8).toNatClampNeg ((F 11) 0))) 8 (upd (F 8) (I 8).toNatClampNeg ((F 11) 1))) 9 (upd (F 9) (I 8).toNatClampNeg ((F 11) 2))) 10 (upd (F 10) (I 8).toNatClampNeg ((F 11) 3))))) rfl ⟨trivial, trivial, trivial, trivial, trivial, trivial, (ab_vo (by decide)), (ab_vo g206), trivial, trivial, trivial, trivial, trivial, trivial, (ab_vo (by decide)), (ab_vo g207), trivial, trivial, trivial, trivial, trivial, trivial, (ab_vo (by decide)), (ab_vo g208), trivial, trivial, trivial, trivial, trivial, trivial, (ab_vo (by decide)), (ab_vo g209), trivial, rfl, trivial, trivial, trivial, trivial, trivial⟩ ?_
    exact OK_rv okX5_addRate rfl rfl rfl

def f_X6_isUnlike (I : AI) (F : AF) : AQ :=
  if ¬ ((F 11) 0) = ((F 11) 1) then
    some ((1 : Int32), I, F)
  else
    ab_bd (f_X6_fail (4 : Int32) (I 2) I F) (fun r222 I223 F224 =>
      if r222 = 0 then
        some ((0 : Int32), I223, F224)
      else
        some ((1 : Int32), I223, F224))
set_option maxRecDepth 20000 in
set_option maxHeartbeats 4000000 in
theorem kf_X6_isUnlike (I : AI) (F : AF) : OK 1 mX6_isUnlike true (f_X6_isUnlike I F) (0, [(0, .ref 1)], [], hp I F) := by
  rw [f_X6_isUnlike]
  refine OK_st 9 okX6_isUnlike (S' := ((if ¬ ((F 11) 0) = ((F 11) 1) then 27 else 15), [(0, .ref 1)], [], hp I F)) rfl ⟨trivial, trivial, trivial, (ab_vo (by decide)), trivial, trivial, trivial, (ab_vo (by decide)), trivial, trivial⟩ ?_
  refine OK_if (fun h221 => ?_) (fun h221 => ?_)
  · refine OK_st 2 okX6_isUnlike (S' := (32, [(0, .ref 1)], [.int (1 : Int32)], hp I F)) rfl ⟨trivial, trivial, trivial⟩ ?_
    exact OK_ri okX6_isUnlike rfl rfl (Or.inr ⟨rfl, Or.inr rfl⟩)
  · refine OK_st 4 okX6_isUnlike (S' := (21, [(0, .ref 1)], [.int (I 2), .int (4 : Int32), .ref 1], hp I F)) rfl ⟨trivial, trivial, trivial, trivial, trivial⟩ ?_
    refine OK_cv [.int (4 : Int32), .int (I 2)] [] okX6_isUnlike okX6_fail rfl rfl cl_RX6_57 rfl rfl (Nat.le_of_ble_eq_true rfl) (by decide) (Nat.le_of_ble_eq_true rfl) (kf_X6_fail (4 : Int32) (I 2) I F) (fun r222 I223 F224 => ?_)
    refine OK_st 1 okX6_isUnlike (S' := ((if r222 = 0 then 31 else 27), [(0, .ref 1)], [], hp I223 F224)) rfl ⟨trivial, trivial⟩ ?_
    refine OK_if (fun h225 => ?_) (fun h225 => ?_)
    · refine OK_st 1 okX6_isUnlike (S' := (32, [(0, .ref 1)], [.int (0 : Int32)], hp I223 F224)) rfl ⟨trivial, trivial⟩ ?_
      exact OK_ri okX6_isUnlike rfl rfl (Or.inr ⟨rfl, Or.inl rfl⟩)
    · refine OK_st 2 okX6_isUnlike (S' := (32, [(0, .ref 1)], [.int (1 : Int32)], hp I223 F224)) rfl ⟨trivial, trivial, trivial⟩ ?_
      exact OK_ri okX6_isUnlike rfl rfl (Or.inr ⟨rfl, Or.inr rfl⟩)

def f_X6_readRate (I : AI) (F : AF) : AQ :=
  ab_bd (f_X6_readNumber (0 : Int32) (0 : Int32) ((I 6) - (1 : Int32)) I F) (fun r200 I201 F202 =>
    if r200 = 0 then
      if (0 : Int32) = 0 then
        some ((0 : Int32), I201, F202)
      else
        ab_bd (f_X5_addRate I201 F202) (fun r210 I211 F212 =>
          some ((0 : Int32), I211, F212))
    else
      ab_bd (f_X6_readNumber (1 : Int32) (0 : Int32) ((I201 6) - (1 : Int32)) I201 F202) (fun r213 I214 F215 =>
        if r213 = 0 then
          if (0 : Int32) = 0 then
            some ((0 : Int32), I214, F215)
          else
            ab_bd (f_X5_addRate I214 F215) (fun r218 I219 F220 =>
              some ((0 : Int32), I219, F220))
        else
          ab_bd (f_X6_isUnlike I214 F215) (fun r226 I227 F228 =>
            if r226 = 0 then
              if (0 : Int32) = 0 then
                some ((0 : Int32), I227, F228)
              else
                ab_bd (f_X5_addRate I227 F228) (fun r231 I232 F233 =>
                  some ((0 : Int32), I232, F233))
            else
              ab_bd (f_X6_readNumber (2 : Int32) (1 : Int32) (20 : Int32) I227 F228) (fun r234 I235 F236 =>
                if r234 = 0 then
                  if (0 : Int32) = 0 then
                    some ((0 : Int32), I235, F236)
                  else
                    ab_bd (f_X5_addRate I235 F236) (fun r239 I240 F241 =>
                      some ((0 : Int32), I240, F241))
                else
                  ab_bd (f_X6_readNumber (3 : Int32) (1 : Int32) (20 : Int32) I235 F236) (fun r242 I243 F244 =>
                    if r242 = 0 then
                      if (0 : Int32) = 0 then
                        some ((0 : Int32), I243, F244)
                      else
                        ab_bd (f_X5_addRate I243 F244) (fun r247 I248 F249 =>
                          some ((0 : Int32), I248, F249))
                    else
                      ab_bd (f_X6_readClose I243 F244) (fun r250 I251 F252 =>
                        if r250 = 0 then
                          if (0 : Int32) = 0 then
                            some ((0 : Int32), I251, F252)
                          else
                            ab_bd (f_X5_addRate I251 F252) (fun r255 I256 F257 =>
                              some ((0 : Int32), I256, F257))
                        else
                          if (1 : Int32) = 0 then
                            some ((1 : Int32), I251, F252)
                          else
                            ab_bd (f_X5_addRate I251 F252) (fun r259 I260 F261 =>
                              some ((1 : Int32), I260, F261))))))))
set_option maxRecDepth 20000 in
set_option maxHeartbeats 4000000 in
theorem kf_X6_readRate (I : AI) (F : AF) : OK 3 mX6_readRate true (f_X6_readRate I F) (0, [(0, .ref 1)], [], hp I F) := by
  rw [f_X6_readRate]
  refine OK_st 8 okX6_readRate (S' := (12, [(0, .ref 1)], [.int ((I 6) - (1 : Int32)), .int (0 : Int32), .int (0 : Int32), .ref 1], hp I F)) rfl ⟨trivial, trivial, trivial, trivial, trivial, trivial, trivial, trivial, trivial⟩ ?_
  refine OK_cv [.int (0 : Int32), .int (0 : Int32), .int ((I 6) - (1 : Int32))] [] okX6_readRate okX6_readNumber rfl rfl cl_RX6_85 rfl rfl (Nat.le_of_ble_eq_true rfl) (by decide) (Nat.le_of_ble_eq_true rfl) (kf_X6_readNumber (0 : Int32) (0 : Int32) ((I 6) - (1 : Int32)) I F) (fun r200 I201 F202 => ?_)
  refine OK_st 1 okX6_readRate (S' := ((if r200 = 0 then 76 else 18), [(0, .ref 1)], [], hp I201 F202)) rfl ⟨trivial, trivial⟩ ?_
  refine OK_if (fun h203 => ?_) (fun h203 => ?_)
  · refine OK_st 4 okX6_readRate (S' := ((if (0 : Int32) = 0 then 93 else 82), [(1, .int (0 : Int32)), (0, .ref 1)], [], hp I201 F202)) rfl ⟨trivial, (by decide), trivial, trivial, trivial⟩ ?_
    refine OK_if (fun h204 => ?_) (fun h204 => ?_)
    · refine OK_st 1 okX6_readRate (S' := (94, [(1, .int (0 : Int32)), (0, .ref 1)], [.int (0 : Int32)], hp I201 F202)) rfl ⟨trivial, trivial⟩ ?_
      exact OK_ri okX6_readRate rfl rfl (Or.inr ⟨rfl, Or.inl rfl⟩)
    · refine OK_st 4 okX6_readRate (S' := (90, [(1, .int (0 : Int32)), (0, .ref 1)], [.ref 15, .ref 4], hp I201 F202)) rfl ⟨trivial, trivial, trivial, trivial, trivial⟩ ?_
      refine OK_cv [.ref 15] [] okX6_readRate okX5_addRate rfl rfl cl_RX6_102 rfl rfl (Nat.le_of_ble_eq_true rfl) (by decide) (Nat.le_of_ble_eq_true rfl) (kf_X5_addRate I201 F202) (fun r210 I211 F212 => ?_)
      refine OK_st 1 okX6_readRate (S' := (94, [(1, .int (0 : Int32)), (0, .ref 1)], [.int (0 : Int32)], hp I211 F212)) rfl ⟨trivial, trivial⟩ ?_
      exact OK_ri okX6_readRate rfl rfl (Or.inr ⟨rfl, Or.inl rfl⟩)
  · refine OK_st 8 okX6_readRate (S' := (30, [(0, .ref 1)], [.int ((I201 6) - (1 : Int32)), .int (0 : Int32), .int (1 : Int32), .ref 1], hp I201 F202)) rfl ⟨trivial, trivial, trivial, trivial, trivial, trivial, trivial, trivial, trivial⟩ ?_
    refine OK_cv [.int (1 : Int32), .int (0 : Int32), .int ((I201 6) - (1 : Int32))] [] okX6_readRate okX6_readNumber rfl rfl cl_RX6_85 rfl rfl (Nat.le_of_ble_eq_true rfl) (by decide) (Nat.le_of_ble_eq_true rfl) (kf_X6_readNumber (1 : Int32) (0 : Int32) ((I201 6) - (1 : Int32)) I201 F202) (fun r213 I214 F215 => ?_)
    refine OK_st 1 okX6_readRate (S' := ((if r213 = 0 then 76 else 36), [(0, .ref 1)], [], hp I214 F215)) rfl ⟨trivial, trivial⟩ ?_
    refine OK_if (fun h216 => ?_) (fun h216 => ?_)
    · refine OK_st 4 okX6_readRate (S' := ((if (0 : Int32) = 0 then 93 else 82), [(1, .int (0 : Int32)), (0, .ref 1)], [], hp I214 F215)) rfl ⟨trivial, (by decide), trivial, trivial, trivial⟩ ?_
      refine OK_if (fun h217 => ?_) (fun h217 => ?_)
      · refine OK_st 1 okX6_readRate (S' := (94, [(1, .int (0 : Int32)), (0, .ref 1)], [.int (0 : Int32)], hp I214 F215)) rfl ⟨trivial, trivial⟩ ?_
        exact OK_ri okX6_readRate rfl rfl (Or.inr ⟨rfl, Or.inl rfl⟩)
      · refine OK_st 4 okX6_readRate (S' := (90, [(1, .int (0 : Int32)), (0, .ref 1)], [.ref 15, .ref 4], hp I214 F215)) rfl ⟨trivial, trivial, trivial, trivial, trivial⟩ ?_
        refine OK_cv [.ref 15] [] okX6_readRate okX5_addRate rfl rfl cl_RX6_102 rfl rfl (Nat.le_of_ble_eq_true rfl) (by decide) (Nat.le_of_ble_eq_true rfl) (kf_X5_addRate I214 F215) (fun r218 I219 F220 => ?_)
        refine OK_st 1 okX6_readRate (S' := (94, [(1, .int (0 : Int32)), (0, .ref 1)], [.int (0 : Int32)], hp I219 F220)) rfl ⟨trivial, trivial⟩ ?_
        exact OK_ri okX6_readRate rfl rfl (Or.inr ⟨rfl, Or.inl rfl⟩)
    · refine OK_st 1 okX6_readRate (S' := (37, [(0, .ref 1)], [.ref 1], hp I214 F215)) rfl ⟨trivial, trivial⟩ ?_
      refine OK_cv [] [] okX6_readRate okX6_isUnlike rfl rfl cl_RX6_99 rfl rfl (Nat.le_of_ble_eq_true rfl) (by decide) (Nat.le_of_ble_eq_true rfl) (kf_X6_isUnlike I214 F215) (fun r226 I227 F228 => ?_)
      refine OK_st 1 okX6_readRate (S' := ((if r226 = 0 then 76 else 43), [(0, .ref 1)], [], hp I227 F228)) rfl ⟨trivial, trivial⟩ ?_
      refine OK_if (fun h229 => ?_) (fun h229 => ?_)
      · refine OK_st 4 okX6_readRate (S' := ((if (0 : Int32) = 0 then 93 else 82), [(1, .int (0 : Int32)), (0, .ref 1)], [], hp I227 F228)) rfl ⟨trivial, (by decide), trivial, trivial, trivial⟩ ?_
        refine OK_if (fun h230 => ?_) (fun h230 => ?_)
        · refine OK_st 1 okX6_readRate (S' := (94, [(1, .int (0 : Int32)), (0, .ref 1)], [.int (0 : Int32)], hp I227 F228)) rfl ⟨trivial, trivial⟩ ?_
          exact OK_ri okX6_readRate rfl rfl (Or.inr ⟨rfl, Or.inl rfl⟩)
        · refine OK_st 4 okX6_readRate (S' := (90, [(1, .int (0 : Int32)), (0, .ref 1)], [.ref 15, .ref 4], hp I227 F228)) rfl ⟨trivial, trivial, trivial, trivial, trivial⟩ ?_
          refine OK_cv [.ref 15] [] okX6_readRate okX5_addRate rfl rfl cl_RX6_102 rfl rfl (Nat.le_of_ble_eq_true rfl) (by decide) (Nat.le_of_ble_eq_true rfl) (kf_X5_addRate I227 F228) (fun r231 I232 F233 => ?_)
          refine OK_st 1 okX6_readRate (S' := (94, [(1, .int (0 : Int32)), (0, .ref 1)], [.int (0 : Int32)], hp I232 F233)) rfl ⟨trivial, trivial⟩ ?_
          exact OK_ri okX6_readRate rfl rfl (Or.inr ⟨rfl, Or.inl rfl⟩)
      · refine OK_st 4 okX6_readRate (S' := (48, [(0, .ref 1)], [.int (20 : Int32), .int (1 : Int32), .int (2 : Int32), .ref 1], hp I227 F228)) rfl ⟨trivial, trivial, trivial, trivial, trivial⟩ ?_
        refine OK_cv [.int (2 : Int32), .int (1 : Int32), .int (20 : Int32)] [] okX6_readRate okX6_readNumber rfl rfl cl_RX6_85 rfl rfl (Nat.le_of_ble_eq_true rfl) (by decide) (Nat.le_of_ble_eq_true rfl) (kf_X6_readNumber (2 : Int32) (1 : Int32) (20 : Int32) I227 F228) (fun r234 I235 F236 => ?_)
        refine OK_st 1 okX6_readRate (S' := ((if r234 = 0 then 76 else 54), [(0, .ref 1)], [], hp I235 F236)) rfl ⟨trivial, trivial⟩ ?_
        refine OK_if (fun h237 => ?_) (fun h237 => ?_)
        · refine OK_st 4 okX6_readRate (S' := ((if (0 : Int32) = 0 then 93 else 82), [(1, .int (0 : Int32)), (0, .ref 1)], [], hp I235 F236)) rfl ⟨trivial, (by decide), trivial, trivial, trivial⟩ ?_
          refine OK_if (fun h238 => ?_) (fun h238 => ?_)
          · refine OK_st 1 okX6_readRate (S' := (94, [(1, .int (0 : Int32)), (0, .ref 1)], [.int (0 : Int32)], hp I235 F236)) rfl ⟨trivial, trivial⟩ ?_
            exact OK_ri okX6_readRate rfl rfl (Or.inr ⟨rfl, Or.inl rfl⟩)
          · refine OK_st 4 okX6_readRate (S' := (90, [(1, .int (0 : Int32)), (0, .ref 1)], [.ref 15, .ref 4], hp I235 F236)) rfl ⟨trivial, trivial, trivial, trivial, trivial⟩ ?_
            refine OK_cv [.ref 15] [] okX6_readRate okX5_addRate rfl rfl cl_RX6_102 rfl rfl (Nat.le_of_ble_eq_true rfl) (by decide) (Nat.le_of_ble_eq_true rfl) (kf_X5_addRate I235 F236) (fun r239 I240 F241 => ?_)
            refine OK_st 1 okX6_readRate (S' := (94, [(1, .int (0 : Int32)), (0, .ref 1)], [.int (0 : Int32)], hp I240 F241)) rfl ⟨trivial, trivial⟩ ?_
            exact OK_ri okX6_readRate rfl rfl (Or.inr ⟨rfl, Or.inl rfl⟩)
        · refine OK_st 4 okX6_readRate (S' := (59, [(0, .ref 1)], [.int (20 : Int32), .int (1 : Int32), .int (3 : Int32), .ref 1], hp I235 F236)) rfl ⟨trivial, trivial, trivial, trivial, trivial⟩ ?_
          refine OK_cv [.int (3 : Int32), .int (1 : Int32), .int (20 : Int32)] [] okX6_readRate okX6_readNumber rfl rfl cl_RX6_85 rfl rfl (Nat.le_of_ble_eq_true rfl) (by decide) (Nat.le_of_ble_eq_true rfl) (kf_X6_readNumber (3 : Int32) (1 : Int32) (20 : Int32) I235 F236) (fun r242 I243 F244 => ?_)
          refine OK_st 1 okX6_readRate (S' := ((if r242 = 0 then 76 else 65), [(0, .ref 1)], [], hp I243 F244)) rfl ⟨trivial, trivial⟩ ?_
          refine OK_if (fun h245 => ?_) (fun h245 => ?_)
          · refine OK_st 4 okX6_readRate (S' := ((if (0 : Int32) = 0 then 93 else 82), [(1, .int (0 : Int32)), (0, .ref 1)], [], hp I243 F244)) rfl ⟨trivial, (by decide), trivial, trivial, trivial⟩ ?_
            refine OK_if (fun h246 => ?_) (fun h246 => ?_)
            · refine OK_st 1 okX6_readRate (S' := (94, [(1, .int (0 : Int32)), (0, .ref 1)], [.int (0 : Int32)], hp I243 F244)) rfl ⟨trivial, trivial⟩ ?_
              exact OK_ri okX6_readRate rfl rfl (Or.inr ⟨rfl, Or.inl rfl⟩)
            · refine OK_st 4 okX6_readRate (S' := (90, [(1, .int (0 : Int32)), (0, .ref 1)], [.ref 15, .ref 4], hp I243 F244)) rfl ⟨trivial, trivial, trivial, trivial, trivial⟩ ?_
              refine OK_cv [.ref 15] [] okX6_readRate okX5_addRate rfl rfl cl_RX6_102 rfl rfl (Nat.le_of_ble_eq_true rfl) (by decide) (Nat.le_of_ble_eq_true rfl) (kf_X5_addRate I243 F244) (fun r247 I248 F249 => ?_)
              refine OK_st 1 okX6_readRate (S' := (94, [(1, .int (0 : Int32)), (0, .ref 1)], [.int (0 : Int32)], hp I248 F249)) rfl ⟨trivial, trivial⟩ ?_
              exact OK_ri okX6_readRate rfl rfl (Or.inr ⟨rfl, Or.inl rfl⟩)
          · refine OK_st 1 okX6_readRate (S' := (66, [(0, .ref 1)], [.ref 1], hp I243 F244)) rfl ⟨trivial, trivial⟩ ?_
            refine OK_cv [] [] okX6_readRate okX6_readClose rfl rfl cl_RX6_89 rfl rfl (Nat.le_of_ble_eq_true rfl) (by decide) (Nat.le_of_ble_eq_true rfl) (kf_X6_readClose I243 F244) (fun r250 I251 F252 => ?_)
            refine OK_st 1 okX6_readRate (S' := ((if r250 = 0 then 76 else 72), [(0, .ref 1)], [], hp I251 F252)) rfl ⟨trivial, trivial⟩ ?_
            refine OK_if (fun h253 => ?_) (fun h253 => ?_)
            · refine OK_st 4 okX6_readRate (S' := ((if (0 : Int32) = 0 then 93 else 82), [(1, .int (0 : Int32)), (0, .ref 1)], [], hp I251 F252)) rfl ⟨trivial, (by decide), trivial, trivial, trivial⟩ ?_
              refine OK_if (fun h254 => ?_) (fun h254 => ?_)
              · refine OK_st 1 okX6_readRate (S' := (94, [(1, .int (0 : Int32)), (0, .ref 1)], [.int (0 : Int32)], hp I251 F252)) rfl ⟨trivial, trivial⟩ ?_
                exact OK_ri okX6_readRate rfl rfl (Or.inr ⟨rfl, Or.inl rfl⟩)
              · refine OK_st 4 okX6_readRate (S' := (90, [(1, .int (0 : Int32)), (0, .ref 1)], [.ref 15, .ref 4], hp I251 F252)) rfl ⟨trivial, trivial, trivial, trivial, trivial⟩ ?_
                refine OK_cv [.ref 15] [] okX6_readRate okX5_addRate rfl rfl cl_RX6_102 rfl rfl (Nat.le_of_ble_eq_true rfl) (by decide) (Nat.le_of_ble_eq_true rfl) (kf_X5_addRate I251 F252) (fun r255 I256 F257 => ?_)
                refine OK_st 1 okX6_readRate (S' := (94, [(1, .int (0 : Int32)), (0, .ref 1)], [.int (0 : Int32)], hp I256 F257)) rfl ⟨trivial, trivial⟩ ?_
                exact OK_ri okX6_readRate rfl rfl (Or.inr ⟨rfl, Or.inl rfl⟩)
            · refine OK_st 5 okX6_readRate (S' := ((if (1 : Int32) = 0 then 93 else 82), [(1, .int (1 : Int32)), (0, .ref 1)], [], hp I251 F252)) rfl ⟨trivial, trivial, (by decide), trivial, trivial, trivial⟩ ?_
              refine OK_if (fun h258 => ?_) (fun h258 => ?_)
              · refine OK_st 1 okX6_readRate (S' := (94, [(1, .int (1 : Int32)), (0, .ref 1)], [.int (1 : Int32)], hp I251 F252)) rfl ⟨trivial, trivial⟩ ?_
                exact OK_ri okX6_readRate rfl rfl (Or.inr ⟨rfl, Or.inr rfl⟩)
              · refine OK_st 4 okX6_readRate (S' := (90, [(1, .int (1 : Int32)), (0, .ref 1)], [.ref 15, .ref 4], hp I251 F252)) rfl ⟨trivial, trivial, trivial, trivial, trivial⟩ ?_
                refine OK_cv [.ref 15] [] okX6_readRate okX5_addRate rfl rfl cl_RX6_102 rfl rfl (Nat.le_of_ble_eq_true rfl) (by decide) (Nat.le_of_ble_eq_true rfl) (kf_X5_addRate I251 F252) (fun r259 I260 F261 => ?_)
                refine OK_st 1 okX6_readRate (S' := (94, [(1, .int (1 : Int32)), (0, .ref 1)], [.int (1 : Int32)], hp I260 F261)) rfl ⟨trivial, trivial⟩ ?_
                exact OK_ri okX6_readRate rfl rfl (Or.inr ⟨rfl, Or.inr rfl⟩)

def f_X5_addHeir (I : AI) (F : AF) : AQ :=
  bif ab_vin ((F 11) 0) 6 then
    some (0, I, (va_up F 3 (upd (F 3) ((F 11) 0).toNatClampNeg ((F 11) 1))))
  else none
set_option maxRecDepth 20000 in
set_option maxHeartbeats 4000000 in
theorem kf_X5_addHeir (I : AI) (F : AF) : OK 0 mX5_addHeir false (f_X5_addHeir I F) (0, [(0, .ref 4), (1, .ref 15)], [], hp I F) := by
  rw [f_X5_addHeir]
  refine OK_gd (fun g271 => ?_)
  refine OK_st 9 okX5_addHeir (S' := (11, [(0, .ref 4), (1, .ref 15)], [], hp I (va_up F 3 (upd (F 3) ((F 11) 0).toNatClampNeg ((F 11) 1))))) rfl ⟨trivial, trivial, trivial, trivial, (ab_vo (by decide)), trivial, trivial, (ab_vo (by decide)), (ab_vo g271), trivial⟩ ?_
  exact OK_rv okX5_addHeir rfl rfl rfl

def f_X6_isWithoutHeir (I : AI) (F : AF) : AQ :=
  bif ab_vin ((F 11) 0) 6 then
    if ((F 3) ((F 11) 0).toNatClampNeg) = (-1 : Int32) then
      some ((1 : Int32), I, F)
    else
      ab_bd (f_X6_fail (4 : Int32) (I 2) I F) (fun r277 I278 F279 =>
        if r277 = 0 then
          some ((0 : Int32), I278, F279)
        else
          some ((1 : Int32), I278, F279))
  else none
set_option maxRecDepth 20000 in
set_option maxHeartbeats 4000000 in
theorem kf_X6_isWithoutHeir (I : AI) (F : AF) : OK 1 mX6_isWithoutHeir true (f_X6_isWithoutHeir I F) (0, [(0, .ref 1)], [], hp I F) := by
  rw [f_X6_isWithoutHeir]
  refine OK_gd (fun g275 => ?_)
  refine OK_st 10 okX6_isWithoutHeir (S' := ((if ((F 3) ((F 11) 0).toNatClampNeg) = (-1 : Int32) then 30 else 18), [(0, .ref 1)], [], hp I F)) rfl ⟨trivial, trivial, trivial, trivial, trivial, trivial, (ab_vo (by decide)), (ab_vo g275), trivial, trivial, trivial⟩ ?_
  refine OK_if (fun h276 => ?_) (fun h276 => ?_)
  · refine OK_st 2 okX6_isWithoutHeir (S' := (35, [(0, .ref 1)], [.int (1 : Int32)], hp I F)) rfl ⟨trivial, trivial, trivial⟩ ?_
    exact OK_ri okX6_isWithoutHeir rfl rfl (Or.inr ⟨rfl, Or.inr rfl⟩)
  · refine OK_st 4 okX6_isWithoutHeir (S' := (24, [(0, .ref 1)], [.int (I 2), .int (4 : Int32), .ref 1], hp I F)) rfl ⟨trivial, trivial, trivial, trivial, trivial⟩ ?_
    refine OK_cv [.int (4 : Int32), .int (I 2)] [] okX6_isWithoutHeir okX6_fail rfl rfl cl_RX6_57 rfl rfl (Nat.le_of_ble_eq_true rfl) (by decide) (Nat.le_of_ble_eq_true rfl) (kf_X6_fail (4 : Int32) (I 2) I F) (fun r277 I278 F279 => ?_)
    refine OK_st 1 okX6_isWithoutHeir (S' := ((if r277 = 0 then 34 else 30), [(0, .ref 1)], [], hp I278 F279)) rfl ⟨trivial, trivial⟩ ?_
    refine OK_if (fun h280 => ?_) (fun h280 => ?_)
    · refine OK_st 1 okX6_isWithoutHeir (S' := (35, [(0, .ref 1)], [.int (0 : Int32)], hp I278 F279)) rfl ⟨trivial, trivial⟩ ?_
      exact OK_ri okX6_isWithoutHeir rfl rfl (Or.inr ⟨rfl, Or.inl rfl⟩)
    · refine OK_st 2 okX6_isWithoutHeir (S' := (35, [(0, .ref 1)], [.int (1 : Int32)], hp I278 F279)) rfl ⟨trivial, trivial, trivial⟩ ?_
      exact OK_ri okX6_isWithoutHeir rfl rfl (Or.inr ⟨rfl, Or.inr rfl⟩)

def f_X6_readHeir (I : AI) (F : AF) : AQ :=
  ab_bd (f_X6_readNumber (0 : Int32) (0 : Int32) ((I 6) - (1 : Int32)) I F) (fun r266 I267 F268 =>
    if r266 = 0 then
      if (0 : Int32) = 0 then
        some ((0 : Int32), I267, F268)
      else
        ab_bd (f_X5_addHeir I267 F268) (fun r272 I273 F274 =>
          some ((0 : Int32), I273, F274))
    else
      ab_bd (f_X6_isWithoutHeir I267 F268) (fun r281 I282 F283 =>
        if r281 = 0 then
          if (0 : Int32) = 0 then
            some ((0 : Int32), I282, F283)
          else
            ab_bd (f_X5_addHeir I282 F283) (fun r286 I287 F288 =>
              some ((0 : Int32), I287, F288))
        else
          ab_bd (f_X6_readNumber (1 : Int32) (0 : Int32) ((I282 6) - (1 : Int32)) I282 F283) (fun r289 I290 F291 =>
            if r289 = 0 then
              if (0 : Int32) = 0 then
                some ((0 : Int32), I290, F291)
              else
                ab_bd (f_X5_addHeir I290 F291) (fun r294 I295 F296 =>
                  some ((0 : Int32), I295, F296))
            else
              ab_bd (f_X6_isUnlike I290 F291) (fun r297 I298 F299 =>
                if r297 = 0 then
                  if (0 : Int32) = 0 then
                    some ((0 : Int32), I298, F299)
                  else
                    ab_bd (f_X5_addHeir I298 F299) (fun r302 I303 F304 =>
                      some ((0 : Int32), I303, F304))
                else
                  ab_bd (f_X6_readClose I298 F299) (fun r305 I306 F307 =>
                    if r305 = 0 then
                      if (0 : Int32) = 0 then
                        some ((0 : Int32), I306, F307)
                      else
                        ab_bd (f_X5_addHeir I306 F307) (fun r310 I311 F312 =>
                          some ((0 : Int32), I311, F312))
                    else
                      if (1 : Int32) = 0 then
                        some ((1 : Int32), I306, F307)
                      else
                        ab_bd (f_X5_addHeir I306 F307) (fun r314 I315 F316 =>
                          some ((1 : Int32), I315, F316)))))))
set_option maxRecDepth 20000 in
set_option maxHeartbeats 4000000 in
theorem kf_X6_readHeir (I : AI) (F : AF) : OK 3 mX6_readHeir true (f_X6_readHeir I F) (0, [(0, .ref 1)], [], hp I F) := by
  rw [f_X6_readHeir]
  refine OK_st 8 okX6_readHeir (S' := (12, [(0, .ref 1)], [.int ((I 6) - (1 : Int32)), .int (0 : Int32), .int (0 : Int32), .ref 1], hp I F)) rfl ⟨trivial, trivial, trivial, trivial, trivial, trivial, trivial, trivial, trivial⟩ ?_
  refine OK_cv [.int (0 : Int32), .int (0 : Int32), .int ((I 6) - (1 : Int32))] [] okX6_readHeir okX6_readNumber rfl rfl cl_RX6_85 rfl rfl (Nat.le_of_ble_eq_true rfl) (by decide) (Nat.le_of_ble_eq_true rfl) (kf_X6_readNumber (0 : Int32) (0 : Int32) ((I 6) - (1 : Int32)) I F) (fun r266 I267 F268 => ?_)
  refine OK_st 1 okX6_readHeir (S' := ((if r266 = 0 then 61 else 18), [(0, .ref 1)], [], hp I267 F268)) rfl ⟨trivial, trivial⟩ ?_
  refine OK_if (fun h269 => ?_) (fun h269 => ?_)
  · refine OK_st 4 okX6_readHeir (S' := ((if (0 : Int32) = 0 then 78 else 67), [(1, .int (0 : Int32)), (0, .ref 1)], [], hp I267 F268)) rfl ⟨trivial, (by decide), trivial, trivial, trivial⟩ ?_
    refine OK_if (fun h270 => ?_) (fun h270 => ?_)
    · refine OK_st 1 okX6_readHeir (S' := (79, [(1, .int (0 : Int32)), (0, .ref 1)], [.int (0 : Int32)], hp I267 F268)) rfl ⟨trivial, trivial⟩ ?_
      exact OK_ri okX6_readHeir rfl rfl (Or.inr ⟨rfl, Or.inl rfl⟩)
    · refine OK_st 4 okX6_readHeir (S' := (75, [(1, .int (0 : Int32)), (0, .ref 1)], [.ref 15, .ref 4], hp I267 F268)) rfl ⟨trivial, trivial, trivial, trivial, trivial⟩ ?_
      refine OK_cv [.ref 15] [] okX6_readHeir okX5_addHeir rfl rfl cl_RX6_108 rfl rfl (Nat.le_of_ble_eq_true rfl) (by decide) (Nat.le_of_ble_eq_true rfl) (kf_X5_addHeir I267 F268) (fun r272 I273 F274 => ?_)
      refine OK_st 1 okX6_readHeir (S' := (79, [(1, .int (0 : Int32)), (0, .ref 1)], [.int (0 : Int32)], hp I273 F274)) rfl ⟨trivial, trivial⟩ ?_
      exact OK_ri okX6_readHeir rfl rfl (Or.inr ⟨rfl, Or.inl rfl⟩)
  · refine OK_st 1 okX6_readHeir (S' := (19, [(0, .ref 1)], [.ref 1], hp I267 F268)) rfl ⟨trivial, trivial⟩ ?_
    refine OK_cv [] [] okX6_readHeir okX6_isWithoutHeir rfl rfl cl_RX6_105 rfl rfl (Nat.le_of_ble_eq_true rfl) (by decide) (Nat.le_of_ble_eq_true rfl) (kf_X6_isWithoutHeir I267 F268) (fun r281 I282 F283 => ?_)
    refine OK_st 1 okX6_readHeir (S' := ((if r281 = 0 then 61 else 25), [(0, .ref 1)], [], hp I282 F283)) rfl ⟨trivial, trivial⟩ ?_
    refine OK_if (fun h284 => ?_) (fun h284 => ?_)
    · refine OK_st 4 okX6_readHeir (S' := ((if (0 : Int32) = 0 then 78 else 67), [(1, .int (0 : Int32)), (0, .ref 1)], [], hp I282 F283)) rfl ⟨trivial, (by decide), trivial, trivial, trivial⟩ ?_
      refine OK_if (fun h285 => ?_) (fun h285 => ?_)
      · refine OK_st 1 okX6_readHeir (S' := (79, [(1, .int (0 : Int32)), (0, .ref 1)], [.int (0 : Int32)], hp I282 F283)) rfl ⟨trivial, trivial⟩ ?_
        exact OK_ri okX6_readHeir rfl rfl (Or.inr ⟨rfl, Or.inl rfl⟩)
      · refine OK_st 4 okX6_readHeir (S' := (75, [(1, .int (0 : Int32)), (0, .ref 1)], [.ref 15, .ref 4], hp I282 F283)) rfl ⟨trivial, trivial, trivial, trivial, trivial⟩ ?_
        refine OK_cv [.ref 15] [] okX6_readHeir okX5_addHeir rfl rfl cl_RX6_108 rfl rfl (Nat.le_of_ble_eq_true rfl) (by decide) (Nat.le_of_ble_eq_true rfl) (kf_X5_addHeir I282 F283) (fun r286 I287 F288 => ?_)
        refine OK_st 1 okX6_readHeir (S' := (79, [(1, .int (0 : Int32)), (0, .ref 1)], [.int (0 : Int32)], hp I287 F288)) rfl ⟨trivial, trivial⟩ ?_
        exact OK_ri okX6_readHeir rfl rfl (Or.inr ⟨rfl, Or.inl rfl⟩)
    · refine OK_st 8 okX6_readHeir (S' := (37, [(0, .ref 1)], [.int ((I282 6) - (1 : Int32)), .int (0 : Int32), .int (1 : Int32), .ref 1], hp I282 F283)) rfl ⟨trivial, trivial, trivial, trivial, trivial, trivial, trivial, trivial, trivial⟩ ?_
      refine OK_cv [.int (1 : Int32), .int (0 : Int32), .int ((I282 6) - (1 : Int32))] [] okX6_readHeir okX6_readNumber rfl rfl cl_RX6_85 rfl rfl (Nat.le_of_ble_eq_true rfl) (by decide) (Nat.le_of_ble_eq_true rfl) (kf_X6_readNumber (1 : Int32) (0 : Int32) ((I282 6) - (1 : Int32)) I282 F283) (fun r289 I290 F291 => ?_)
      refine OK_st 1 okX6_readHeir (S' := ((if r289 = 0 then 61 else 43), [(0, .ref 1)], [], hp I290 F291)) rfl ⟨trivial, trivial⟩ ?_
      refine OK_if (fun h292 => ?_) (fun h292 => ?_)
      · refine OK_st 4 okX6_readHeir (S' := ((if (0 : Int32) = 0 then 78 else 67), [(1, .int (0 : Int32)), (0, .ref 1)], [], hp I290 F291)) rfl ⟨trivial, (by decide), trivial, trivial, trivial⟩ ?_
        refine OK_if (fun h293 => ?_) (fun h293 => ?_)
        · refine OK_st 1 okX6_readHeir (S' := (79, [(1, .int (0 : Int32)), (0, .ref 1)], [.int (0 : Int32)], hp I290 F291)) rfl ⟨trivial, trivial⟩ ?_
          exact OK_ri okX6_readHeir rfl rfl (Or.inr ⟨rfl, Or.inl rfl⟩)
        · refine OK_st 4 okX6_readHeir (S' := (75, [(1, .int (0 : Int32)), (0, .ref 1)], [.ref 15, .ref 4], hp I290 F291)) rfl ⟨trivial, trivial, trivial, trivial, trivial⟩ ?_
          refine OK_cv [.ref 15] [] okX6_readHeir okX5_addHeir rfl rfl cl_RX6_108 rfl rfl (Nat.le_of_ble_eq_true rfl) (by decide) (Nat.le_of_ble_eq_true rfl) (kf_X5_addHeir I290 F291) (fun r294 I295 F296 => ?_)
          refine OK_st 1 okX6_readHeir (S' := (79, [(1, .int (0 : Int32)), (0, .ref 1)], [.int (0 : Int32)], hp I295 F296)) rfl ⟨trivial, trivial⟩ ?_
          exact OK_ri okX6_readHeir rfl rfl (Or.inr ⟨rfl, Or.inl rfl⟩)
      · refine OK_st 1 okX6_readHeir (S' := (44, [(0, .ref 1)], [.ref 1], hp I290 F291)) rfl ⟨trivial, trivial⟩ ?_
        refine OK_cv [] [] okX6_readHeir okX6_isUnlike rfl rfl cl_RX6_99 rfl rfl (Nat.le_of_ble_eq_true rfl) (by decide) (Nat.le_of_ble_eq_true rfl) (kf_X6_isUnlike I290 F291) (fun r297 I298 F299 => ?_)
        refine OK_st 1 okX6_readHeir (S' := ((if r297 = 0 then 61 else 50), [(0, .ref 1)], [], hp I298 F299)) rfl ⟨trivial, trivial⟩ ?_
        refine OK_if (fun h300 => ?_) (fun h300 => ?_)
        · refine OK_st 4 okX6_readHeir (S' := ((if (0 : Int32) = 0 then 78 else 67), [(1, .int (0 : Int32)), (0, .ref 1)], [], hp I298 F299)) rfl ⟨trivial, (by decide), trivial, trivial, trivial⟩ ?_
          refine OK_if (fun h301 => ?_) (fun h301 => ?_)
          · refine OK_st 1 okX6_readHeir (S' := (79, [(1, .int (0 : Int32)), (0, .ref 1)], [.int (0 : Int32)], hp I298 F299)) rfl ⟨trivial, trivial⟩ ?_
            exact OK_ri okX6_readHeir rfl rfl (Or.inr ⟨rfl, Or.inl rfl⟩)
          · refine OK_st 4 okX6_readHeir (S' := (75, [(1, .int (0 : Int32)), (0, .ref 1)], [.ref 15, .ref 4], hp I298 F299)) rfl ⟨trivial, trivial, trivial, trivial, trivial⟩ ?_
            refine OK_cv [.ref 15] [] okX6_readHeir okX5_addHeir rfl rfl cl_RX6_108 rfl rfl (Nat.le_of_ble_eq_true rfl) (by decide) (Nat.le_of_ble_eq_true rfl) (kf_X5_addHeir I298 F299) (fun r302 I303 F304 => ?_)
            refine OK_st 1 okX6_readHeir (S' := (79, [(1, .int (0 : Int32)), (0, .ref 1)], [.int (0 : Int32)], hp I303 F304)) rfl ⟨trivial, trivial⟩ ?_
            exact OK_ri okX6_readHeir rfl rfl (Or.inr ⟨rfl, Or.inl rfl⟩)
        · refine OK_st 1 okX6_readHeir (S' := (51, [(0, .ref 1)], [.ref 1], hp I298 F299)) rfl ⟨trivial, trivial⟩ ?_
          refine OK_cv [] [] okX6_readHeir okX6_readClose rfl rfl cl_RX6_89 rfl rfl (Nat.le_of_ble_eq_true rfl) (by decide) (Nat.le_of_ble_eq_true rfl) (kf_X6_readClose I298 F299) (fun r305 I306 F307 => ?_)
          refine OK_st 1 okX6_readHeir (S' := ((if r305 = 0 then 61 else 57), [(0, .ref 1)], [], hp I306 F307)) rfl ⟨trivial, trivial⟩ ?_
          refine OK_if (fun h308 => ?_) (fun h308 => ?_)
          · refine OK_st 4 okX6_readHeir (S' := ((if (0 : Int32) = 0 then 78 else 67), [(1, .int (0 : Int32)), (0, .ref 1)], [], hp I306 F307)) rfl ⟨trivial, (by decide), trivial, trivial, trivial⟩ ?_
            refine OK_if (fun h309 => ?_) (fun h309 => ?_)
            · refine OK_st 1 okX6_readHeir (S' := (79, [(1, .int (0 : Int32)), (0, .ref 1)], [.int (0 : Int32)], hp I306 F307)) rfl ⟨trivial, trivial⟩ ?_
              exact OK_ri okX6_readHeir rfl rfl (Or.inr ⟨rfl, Or.inl rfl⟩)
            · refine OK_st 4 okX6_readHeir (S' := (75, [(1, .int (0 : Int32)), (0, .ref 1)], [.ref 15, .ref 4], hp I306 F307)) rfl ⟨trivial, trivial, trivial, trivial, trivial⟩ ?_
              refine OK_cv [.ref 15] [] okX6_readHeir okX5_addHeir rfl rfl cl_RX6_108 rfl rfl (Nat.le_of_ble_eq_true rfl) (by decide) (Nat.le_of_ble_eq_true rfl) (kf_X5_addHeir I306 F307) (fun r310 I311 F312 => ?_)
              refine OK_st 1 okX6_readHeir (S' := (79, [(1, .int (0 : Int32)), (0, .ref 1)], [.int (0 : Int32)], hp I311 F312)) rfl ⟨trivial, trivial⟩ ?_
              exact OK_ri okX6_readHeir rfl rfl (Or.inr ⟨rfl, Or.inl rfl⟩)
          · refine OK_st 5 okX6_readHeir (S' := ((if (1 : Int32) = 0 then 78 else 67), [(1, .int (1 : Int32)), (0, .ref 1)], [], hp I306 F307)) rfl ⟨trivial, trivial, (by decide), trivial, trivial, trivial⟩ ?_
            refine OK_if (fun h313 => ?_) (fun h313 => ?_)
            · refine OK_st 1 okX6_readHeir (S' := (79, [(1, .int (1 : Int32)), (0, .ref 1)], [.int (1 : Int32)], hp I306 F307)) rfl ⟨trivial, trivial⟩ ?_
              exact OK_ri okX6_readHeir rfl rfl (Or.inr ⟨rfl, Or.inr rfl⟩)
            · refine OK_st 4 okX6_readHeir (S' := (75, [(1, .int (1 : Int32)), (0, .ref 1)], [.ref 15, .ref 4], hp I306 F307)) rfl ⟨trivial, trivial, trivial, trivial, trivial⟩ ?_
              refine OK_cv [.ref 15] [] okX6_readHeir okX5_addHeir rfl rfl cl_RX6_108 rfl rfl (Nat.le_of_ble_eq_true rfl) (by decide) (Nat.le_of_ble_eq_true rfl) (kf_X5_addHeir I306 F307) (fun r314 I315 F316 => ?_)
              refine OK_st 1 okX6_readHeir (S' := (79, [(1, .int (1 : Int32)), (0, .ref 1)], [.int (1 : Int32)], hp I315 F316)) rfl ⟨trivial, trivial⟩ ?_
              exact OK_ri okX6_readHeir rfl rfl (Or.inr ⟨rfl, Or.inr rfl⟩)
