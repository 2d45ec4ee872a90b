/-! methods as functions (by program) -/
def f_X2_isFull (I : AI) (F : AF) : AQ :=
  if (I 5) < (nI 250) then
    some ((0 : Int32), I, F)
  else
    some ((1 : Int32), I, F)
set_option maxRecDepth 20000 in
set_option maxHeartbeats 4000000 in
theorem kf_X2_isFull (I : AI) (F : AF) : OK 0 mX2_isFull true (f_X2_isFull I F) (0, [(0, .ref 2)], [], hp I F) := by
  rw [f_X2_isFull]
  refine OK_st 4 okX2_isFull (S' := ((if (I 5) < (nI 250) then 14 else 10), [(0, .ref 2)], [], hp I F)) rfl ⟨trivial, trivial, trivial, trivial, trivial⟩ ?_
  refine OK_if (fun h3 => ?_) (fun h3 => ?_)
  · refine OK_st 1 okX2_isFull (S' := (15, [(0, .ref 2)], [.int (0 : Int32)], hp I F)) rfl ⟨trivial, trivial⟩ ?_
    exact OK_ri okX2_isFull rfl rfl (Or.inr ⟨rfl, Or.inl rfl⟩)
  · refine OK_st 2 okX2_isFull (S' := (15, [(0, .ref 2)], [.int (1 : Int32)], hp I F)) rfl ⟨trivial, trivial, trivial⟩ ?_
    exact OK_ri okX2_isFull rfl rfl (Or.inr ⟨rfl, Or.inr rfl⟩)

def f_X2_append (v1 : Int32) (I : AI) (F : AF) : AQ :=
  if (nI 250) ≤ (I 5) then
    some ((I 5), I, F)
  else
    bif ab_vin (I 5) 250 then
      some (((I 5) + (1 : Int32)), (va_up I 5 ((I 5) + (1 : Int32))), (va_up F 0 (upd (F 0) (I 5).toNatClampNeg v1)))
    else none
set_option maxRecDepth 20000 in
set_option maxHeartbeats 4000000 in
theorem kf_X2_append (v1 : Int32) (I : AI) (F : AF) : OK 0 mX2_append true (f_X2_append v1 I F) (0, [(0, .ref 2), (1, .int v1)], [], hp I F) := by
  rw [f_X2_append]
  refine OK_st 4 okX2_append (S' := ((if (nI 250) ≤ (I 5) then 30 else 10), [(0, .ref 2), (1, .int v1)], [], hp I F)) rfl ⟨trivial, trivial, trivial, trivial, trivial⟩ ?_
  refine OK_if (fun h8 => ?_) (fun h8 => ?_)
  · refine OK_st 2 okX2_append (S' := (34, [(0, .ref 2), (1, .int v1)], [.int (I 5)], hp I F)) rfl ⟨trivial, trivial, trivial⟩ ?_
    exact OK_ri okX2_append rfl rfl (Or.inl rfl)
  · refine OK_gd (fun g9 => ?_)
    refine OK_st 14 okX2_append (S' := (34, [(0, .ref 2), (1, .int v1)], [.int ((I 5) + (1 : Int32))], hp (va_up I 5 ((I 5) + (1 : Int32))) (va_up F 0 (upd (F 0) (I 5).toNatClampNeg v1)))) rfl ⟨trivial, trivial, trivial, trivial, trivial, (ab_vo g9), trivial, rfl, trivial, trivial, trivial, trivial, trivial, trivial, trivial⟩ ?_
    exact OK_ri okX2_append rfl rfl (Or.inl rfl)

def f_X9_feed (v1 : Int32) (I : AI) (F : AF) : AQ :=
  if v1 < 0 then
    some ((-1000000002 : Int32), I, F)
  else
    if v1 ≤ (nI 255) then
      ab_bd (f_X2_isFull I F) (fun r4 I5 F6 =>
        if r4 = 0 then
          ab_bd (f_X2_append v1 I5 F6) (fun r10 I11 F12 =>
            some (r10, I11, F12))
        else
          some ((-1000000004 : Int32), I5, F6))
    else
      some ((-1000000002 : Int32), I, F)
set_option maxRecDepth 20000 in
set_option maxHeartbeats 4000000 in
theorem kf_X9_feed (v1 : Int32) (I : AI) (F : AF) : OK 1 mX9_feed true (f_X9_feed v1 I F) (0, [(0, .ref 0), (1, .int v1)], [], hp I F) := by
  rw [f_X9_feed]
  refine OK_st 2 okX9_feed (S' := ((if v1 < 0 then 11 else 4), [(0, .ref 0), (1, .int v1)], [], hp I F)) rfl ⟨trivial, trivial, trivial⟩ ?_
  refine OK_if (fun h1 => ?_) (fun h1 => ?_)
  · refine OK_st 1 okX9_feed (S' := (13, [(0, .ref 0), (1, .int v1)], [.int (-1000000002 : Int32)], hp I F)) rfl ⟨trivial, trivial⟩ ?_
    exact OK_ri okX9_feed rfl rfl (Or.inl rfl)
  · refine OK_st 3 okX9_feed (S' := ((if v1 ≤ (nI 255) then 14 else 11), [(0, .ref 0), (1, .int v1)], [], hp I F)) rfl ⟨trivial, trivial, trivial, trivial⟩ ?_
    refine OK_if (fun h2 => ?_) (fun h2 => ?_)
    · refine OK_st 3 okX9_feed (S' := (21, [(0, .ref 0), (1, .int v1)], [.ref 2], hp I F)) rfl ⟨trivial, trivial, trivial, trivial⟩ ?_
      refine OK_cv [] [] okX9_feed okX2_isFull rfl rfl cl_RX9_74 rfl rfl (Nat.le_of_ble_eq_true rfl) (by decide) (Nat.le_of_ble_eq_true rfl) (kf_X2_isFull I F) (fun r4 I5 F6 => ?_)
      refine OK_st 1 okX9_feed (S' := ((if r4 = 0 then 30 else 27), [(0, .ref 0), (1, .int v1)], [], hp I5 F6)) rfl ⟨trivial, trivial⟩ ?_
      refine OK_if (fun h7 => ?_) (fun h7 => ?_)
      · refine OK_st 4 okX9_feed (S' := (38, [(0, .ref 0), (1, .int v1)], [.int v1, .ref 2], hp I5 F6)) rfl ⟨trivial, trivial, trivial, trivial, trivial⟩ ?_
        refine OK_cv [.int v1] [] okX9_feed okX2_append rfl rfl cl_RX9_81 rfl rfl (Nat.le_of_ble_eq_true rfl) (by decide) (Nat.le_of_ble_eq_true rfl) (kf_X2_append v1 I5 F6) (fun r10 I11 F12 => ?_)
        exact OK_ri okX9_feed rfl rfl (Or.inl rfl)
      · refine OK_st 1 okX9_feed (S' := (29, [(0, .ref 0), (1, .int v1)], [.int (-1000000004 : Int32)], hp I5 F6)) rfl ⟨trivial, trivial⟩ ?_
        exact OK_ri okX9_feed rfl rfl (Or.inl rfl)
    · refine OK_st 1 okX9_feed (S' := (13, [(0, .ref 0), (1, .int v1)], [.int (-1000000002 : Int32)], hp I F)) rfl ⟨trivial, trivial⟩ ?_
      exact OK_ri okX9_feed rfl rfl (Or.inl rfl)

def f_X5_clearAll (I : AI) (F : AF) : AQ :=
  ab_lt (va_up (va_up (va_up I 6 (0 : Int32)) 7 (0 : Int32)) 8 (0 : Int32)) (fun I14 =>
    some (0, I14, F))
set_option maxRecDepth 20000 in
set_option maxHeartbeats 4000000 in
theorem kf_X5_clearAll (I : AI) (F : AF) : OK 0 mX5_clearAll false (f_X5_clearAll I F) (0, [(0, .ref 4)], [], hp I F) := by
  rw [f_X5_clearAll]
  refine OK_st 9 okX5_clearAll (S' := (15, [(0, .ref 4)], [], hp (va_up (va_up (va_up I 6 (0 : Int32)) 7 (0 : Int32)) 8 (0 : Int32)) F)) rfl ⟨trivial, trivial, trivial, trivial, trivial, trivial, trivial, trivial, trivial, trivial⟩ ?_
  refine OK_lt (fun I14 => (15, [(0, .ref 4)], [], hp I14 F)) (fun I14 => ?_)
  exact OK_rv okX5_clearAll rfl rfl rfl

def f_X2_at (v1 : Int32) (I : AI) (F : AF) : AQ :=
  if v1 < 0 then
    some ((-1 : Int32), I, F)
  else
    if (I 5) ≤ v1 then
      some ((-1 : Int32), I, F)
    else
      bif ab_vin v1 250 then
        some (((F 0) v1.toNatClampNeg), I, F)
      else none
set_option maxRecDepth 20000 in
set_option maxHeartbeats 4000000 in
theorem kf_X2_at (v1 : Int32) (I : AI) (F : AF) : OK 0 mX2_at true (f_X2_at v1 I F) (0, [(0, .ref 2), (1, .int v1)], [], hp I F) := by
  rw [f_X2_at]
  refine OK_st 2 okX2_at (S' := ((if v1 < 0 then 21 else 4), [(0, .ref 2), (1, .int v1)], [], hp I F)) rfl ⟨trivial, trivial, trivial⟩ ?_
  refine OK_if (fun h21 => ?_) (fun h21 => ?_)
  · refine OK_st 1 okX2_at (S' := (22, [(0, .ref 2), (1, .int v1)], [.int (-1 : Int32)], hp I F)) rfl ⟨trivial, trivial⟩ ?_
    exact OK_ri okX2_at rfl rfl (Or.inl rfl)
  · refine OK_st 4 okX2_at (S' := ((if (I 5) ≤ v1 then 21 else 12), [(0, .ref 2), (1, .int v1)], [], hp I F)) rfl ⟨trivial, trivial, trivial, trivial, trivial⟩ ?_
    refine OK_if (fun h22 => ?_) (fun h22 => ?_)
    · refine OK_st 1 okX2_at (S' := (22, [(0, .ref 2), (1, .int v1)], [.int (-1 : Int32)], hp I F)) rfl ⟨trivial, trivial⟩ ?_
      exact OK_ri okX2_at rfl rfl (Or.inl rfl)
    · refine OK_gd (fun g23 => ?_)
      refine OK_st 5 okX2_at (S' := (22, [(0, .ref 2), (1, .int v1)], [.int ((F 0) v1.toNatClampNeg)], hp I F)) rfl ⟨trivial, trivial, trivial, (ab_vo g23), trivial, trivial⟩ ?_
      exact OK_ri okX2_at rfl rfl (Or.inl rfl)

def f_X6_skipBlanks_2 (ko : Int32 → AI → AF → AQ) : Nat → Int32 → AI → AF → AQ
  | 0, _, _, _ => none
  | n + 1, v1, I, F =>
    if (nI 250) ≤ v1 then
      ko v1 I F
    else
      ab_bd (f_X2_at (I 1) I F) (fun r24 I25 F26 =>
        if ¬ r24 = (nI 32) then
          ko v1 I25 F26
        else
          ab_lt (va_up I25 1 ((I25 1) + (1 : Int32))) (fun I28 =>
            f_X6_skipBlanks_2 ko n (v1 + (1 : Int32)) I28 F26))
set_option maxRecDepth 20000 in
set_option maxHeartbeats 4000000 in
theorem kf_X6_skipBlanks_2 (ko : Int32 → AI → AF → AQ) (hko : ∀ v1 I F, OK 1 mX6_skipBlanks false (ko v1 I F) (41, [(0, .ref 1), (1, .int v1)], [], hp I F)) : ∀ n v1 I F, OK 1 mX6_skipBlanks false (f_X6_skipBlanks_2 ko n v1 I F) (2, [(0, .ref 1), (1, .int v1)], [], hp I F) := by
  intro n
  induction n with
  | zero =>
    intro v1 I F
    exact OK_no
  | succ n ih =>
    intro v1 I F
    rw [f_X6_skipBlanks_2]
    refine OK_st 3 okX6_skipBlanks (S' := ((if (nI 250) ≤ v1 then 41 else 9), [(0, .ref 1), (1, .int v1)], [], hp I F)) rfl ⟨trivial, trivial, trivial, trivial⟩ ?_
    refine OK_if (fun h20 => ?_) (fun h20 => ?_)
    · exact hko v1 I F
    · refine OK_st 4 okX6_skipBlanks (S' := (17, [(0, .ref 1), (1, .int v1)], [.int (I 1), .ref 2], hp I F)) rfl ⟨trivial, trivial, trivial, trivial, trivial⟩ ?_
      refine OK_cv [.int (I 1)] [] okX6_skipBlanks okX2_at rfl rfl cl_RX6_45 rfl rfl (Nat.le_of_ble_eq_true rfl) (by decide) (Nat.le_of_ble_eq_true rfl) (kf_X2_at (I 1) I F) (fun r24 I25 F26 => ?_)
      refine OK_st 2 okX6_skipBlanks (S' := ((if ¬ r24 = (nI 32) then 41 else 25), [(0, .ref 1), (1, .int v1)], [], hp I25 F26)) rfl ⟨trivial, trivial, trivial⟩ ?_
      refine OK_if (fun h27 => ?_) (fun h27 => ?_)
      · exact hko v1 I25 F26
      · refine OK_st 8 okX6_skipBlanks (S' := (2, [(1, .int (v1 + (1 : Int32))), (0, .ref 1)], [], hp (va_up I25 1 ((I25 1) + (1 : Int32))) F26)) rfl ⟨trivial, rfl, trivial, trivial, trivial, trivial, (by decide), trivial, trivial⟩ ?_
        refine OK_lt (fun I28 => (2, [(1, .int (v1 + (1 : Int32))), (0, .ref 1)], [], hp I28 F26)) (fun I28 => ?_)
        refine OK_pk [1, 0] rfl ?_
        exact ih (v1 + (1 : Int32)) I28 F26

def f_X6_skipBlanks (I : AI) (F : AF) : AQ :=
  f_X6_skipBlanks_2 (fun v1_29 I30 F31 =>
    some (0, I30, F31)) ab_fu (0 : Int32) I F
set_option maxRecDepth 20000 in
set_option maxHeartbeats 4000000 in
theorem kf_X6_skipBlanks (I : AI) (F : AF) : OK 1 mX6_skipBlanks false (f_X6_skipBlanks I F) (0, [(0, .ref 1)], [], hp I F) := by
  rw [f_X6_skipBlanks]
  refine OK_st 2 okX6_skipBlanks (S' := (2, [(1, .int (0 : Int32)), (0, .ref 1)], [], hp I F)) rfl ⟨trivial, (by decide), trivial⟩ ?_
  refine OK_pk [1, 0] rfl ?_
  refine kf_X6_skipBlanks_2 _ (fun v1_29 I30 F31 => ?_) ab_fu (0 : Int32) I F
  exact OK_rv okX6_skipBlanks rfl rfl rfl

def f_X6_mayStart (v1 : Int32) (I : AI) (F : AF) : AQ :=
  if ¬ v1 = (nI 108) then
    if (I 6) ≤ 0 then
      some ((0 : Int32), I, F)
    else
      if v1 = (nI 99) then
        some ((1 : Int32), I, F)
      else
        if v1 = (nI 114) then
          some ((1 : Int32), I, F)
        else
          if ¬ v1 = (nI 104) then
            some ((0 : Int32), I, F)
          else
            some ((1 : Int32), I, F)
  else
    some ((1 : Int32), I, F)
set_option maxRecDepth 20000 in
set_option maxHeartbeats 4000000 in
theorem kf_X6_mayStart (v1 : Int32) (I : AI) (F : AF) : OK 0 mX6_mayStart true (f_X6_mayStart v1 I F) (0, [(0, .ref 1), (1, .int v1)], [], hp I F) := by
  rw [f_X6_mayStart]
  refine OK_st 3 okX6_mayStart (S' := ((if ¬ v1 = (nI 108) then 8 else 6), [(0, .ref 1), (1, .int v1)], [], hp I F)) rfl ⟨trivial, trivial, trivial, trivial⟩ ?_
  refine OK_if (fun h42 => ?_) (fun h42 => ?_)
  · refine OK_st 4 okX6_mayStart (S' := ((if (I 6) ≤ 0 then 40 else 18), [(0, .ref 1), (1, .int v1)], [], hp I F)) rfl ⟨trivial, trivial, trivial, trivial, trivial⟩ ?_
    refine OK_if (fun h43 => ?_) (fun h43 => ?_)
    · refine OK_st 1 okX6_mayStart (S' := (41, [(0, .ref 1), (1, .int v1)], [.int (0 : Int32)], hp I F)) rfl ⟨trivial, trivial⟩ ?_
      exact OK_ri okX6_mayStart rfl rfl (Or.inr ⟨rfl, Or.inl rfl⟩)
    · refine OK_st 3 okX6_mayStart (S' := ((if v1 = (nI 99) then 36 else 24), [(0, .ref 1), (1, .int v1)], [], hp I F)) rfl ⟨trivial, trivial, trivial, trivial⟩ ?_
      refine OK_if (fun h44 => ?_) (fun h44 => ?_)
      · refine OK_st 2 okX6_mayStart (S' := (41, [(0, .ref 1), (1, .int v1)], [.int (1 : Int32)], hp I F)) rfl ⟨trivial, trivial, trivial⟩ ?_
        exact OK_ri okX6_mayStart rfl rfl (Or.inr ⟨rfl, Or.inr rfl⟩)
      · refine OK_st 3 okX6_mayStart (S' := ((if v1 = (nI 114) then 36 else 30), [(0, .ref 1), (1, .int v1)], [], hp I F)) rfl ⟨trivial, trivial, trivial, trivial⟩ ?_
        refine OK_if (fun h45 => ?_) (fun h45 => ?_)
        · refine OK_st 2 okX6_mayStart (S' := (41, [(0, .ref 1), (1, .int v1)], [.int (1 : Int32)], hp I F)) rfl ⟨trivial, trivial, trivial⟩ ?_
          exact OK_ri okX6_mayStart rfl rfl (Or.inr ⟨rfl, Or.inr rfl⟩)
        · refine OK_st 3 okX6_mayStart (S' := ((if ¬ v1 = (nI 104) then 40 else 36), [(0, .ref 1), (1, .int v1)], [], hp I F)) rfl ⟨trivial, trivial, trivial, trivial⟩ ?_
          refine OK_if (fun h46 => ?_) (fun h46 => ?_)
          · refine OK_st 1 okX6_mayStart (S' := (41, [(0, .ref 1), (1, .int v1)], [.int (0 : Int32)], hp I F)) rfl ⟨trivial, trivial⟩ ?_
            exact OK_ri okX6_mayStart rfl rfl (Or.inr ⟨rfl, Or.inl rfl⟩)
          · refine OK_st 2 okX6_mayStart (S' := (41, [(0, .ref 1), (1, .int v1)], [.int (1 : Int32)], hp I F)) rfl ⟨trivial, trivial, trivial⟩ ?_
            exact OK_ri okX6_mayStart rfl rfl (Or.inr ⟨rfl, Or.inr rfl⟩)
  · refine OK_st 1 okX6_mayStart (S' := (7, [(0, .ref 1), (1, .int v1)], [.int (1 : Int32)], hp I F)) rfl ⟨trivial, trivial⟩ ?_
    exact OK_ri okX6_mayStart rfl rfl (Or.inr ⟨rfl, Or.inr rfl⟩)

def f_X6_isOneTooMany (v1 : Int32) (I : AI) (F : AF) : AQ :=
  if v1 = (nI 99) then
    if (I 7) < (nI 6) then
      some ((0 : Int32), I, F)
    else
      some ((1 : Int32), I, F)
  else if v1 = (nI 108) then
    if (I 6) < (nI 6) then
      some ((0 : Int32), I, F)
    else
      some ((1 : Int32), I, F)
  else if v1 = (nI 114) then
    if (I 8) < (nI 8) then
      some ((0 : Int32), I, F)
    else
      some ((1 : Int32), I, F)
  else 
    some ((0 : Int32), I, F)
set_option maxRecDepth 20000 in
set_option maxHeartbeats 4000000 in
theorem kf_X6_isOneTooMany (v1 : Int32) (I : AI) (F : AF) : OK 0 mX6_isOneTooMany true (f_X6_isOneTooMany v1 I F) (0, [(0, .ref 1), (1, .int v1)], [], hp I F) := by
  rw [f_X6_isOneTooMany]
  refine OK_st 1 okX6_isOneTooMany (S' := (1, [(0, .ref 1), (1, .int v1)], [.int v1], hp I F)) rfl ⟨trivial, trivial⟩ ?_
  refine OK_ci (fun h51 => ?_) (fun h51 => ?_)
  · subst h51
    refine OK_st 1 okX6_isOneTooMany (S' := (54, [(0, .ref 1), (1, .int (nI 99))], [], hp I F)) rfl ⟨(by decide +kernel), trivial⟩ ?_
    refine OK_st 5 okX6_isOneTooMany (S' := ((if (I 7) < (nI 6) then 70 else 66), [(0, .ref 1), (1, .int (nI 99))], [], hp I F)) rfl ⟨trivial, trivial, trivial, trivial, trivial, trivial⟩ ?_
    refine OK_if (fun h52 => ?_) (fun h52 => ?_)
    · refine OK_st 1 okX6_isOneTooMany (S' := (71, [(0, .ref 1), (1, .int (nI 99))], [.int (0 : Int32)], hp I F)) rfl ⟨trivial, trivial⟩ ?_
      exact OK_ri okX6_isOneTooMany rfl rfl (Or.inr ⟨rfl, Or.inl rfl⟩)
    · refine OK_st 2 okX6_isOneTooMany (S' := (71, [(0, .ref 1), (1, .int (nI 99))], [.int (1 : Int32)], hp I F)) rfl ⟨trivial, trivial, trivial⟩ ?_
      exact OK_ri okX6_isOneTooMany rfl rfl (Or.inr ⟨rfl, Or.inr rfl⟩)
  · skip
    refine OK_ci (fun h53 => ?_) (fun h53 => ?_)
    · subst h53
      refine OK_st 1 okX6_isOneTooMany (S' := (36, [(0, .ref 1), (1, .int (nI 108))], [], hp I F)) rfl ⟨(by decide +kernel), trivial⟩ ?_
      refine OK_st 5 okX6_isOneTooMany (S' := ((if (I 6) < (nI 6) then 52 else 48), [(0, .ref 1), (1, .int (nI 108))], [], hp I F)) rfl ⟨trivial, trivial, trivial, trivial, trivial, trivial⟩ ?_
      refine OK_if (fun h54 => ?_) (fun h54 => ?_)
      · refine OK_st 1 okX6_isOneTooMany (S' := (53, [(0, .ref 1), (1, .int (nI 108))], [.int (0 : Int32)], hp I F)) rfl ⟨trivial, trivial⟩ ?_
        exact OK_ri okX6_isOneTooMany rfl rfl (Or.inr ⟨rfl, Or.inl rfl⟩)
      · refine OK_st 2 okX6_isOneTooMany (S' := (53, [(0, .ref 1), (1, .int (nI 108))], [.int (1 : Int32)], hp I F)) rfl ⟨trivial, trivial, trivial⟩ ?_
        exact OK_ri okX6_isOneTooMany rfl rfl (Or.inr ⟨rfl, Or.inr rfl⟩)
    · skip
      refine OK_ci (fun h55 => ?_) (fun h55 => ?_)
      · subst h55
        refine OK_st 1 okX6_isOneTooMany (S' := (72, [(0, .ref 1), (1, .int (nI 114))], [], hp I F)) rfl ⟨(by decide +kernel), trivial⟩ ?_
        refine OK_st 5 okX6_isOneTooMany (S' := ((if (I 8) < (nI 8) then 88 else 84), [(0, .ref 1), (1, .int (nI 114))], [], hp I F)) rfl ⟨trivial, trivial, trivial, trivial, trivial, trivial⟩ ?_
        refine OK_if (fun h56 => ?_) (fun h56 => ?_)
        · refine OK_st 1 okX6_isOneTooMany (S' := (89, [(0, .ref 1), (1, .int (nI 114))], [.int (0 : Int32)], hp I F)) rfl ⟨trivial, trivial⟩ ?_
          exact OK_ri okX6_isOneTooMany rfl rfl (Or.inr ⟨rfl, Or.inl rfl⟩)
        · refine OK_st 2 okX6_isOneTooMany (S' := (89, [(0, .ref 1), (1, .int (nI 114))], [.int (1 : Int32)], hp I F)) rfl ⟨trivial, trivial, trivial⟩ ?_
          exact OK_ri okX6_isOneTooMany rfl rfl (Or.inr ⟨rfl, Or.inr rfl⟩)
      · skip
        have hof : Op.lookupswitch.offset [(99, 53), (108, 35), (114, 71)] 89 v1.toInt = 89 := by rw [lv_osw (a := 99) h51 rfl, lv_osw (a := 108) h53 rfl, lv_osw (a := 114) h55 rfl]; rfl
        refine OK_st 1 okX6_isOneTooMany (S' := ((((1 : Nat) : Int) + Op.lookupswitch.offset [(99, 53), (108, 35), (114, 71)] 89 v1.toInt).toNat, [(0, .ref 1), (1, .int v1)], [], hp I F)) rfl ⟨by show (0 : Int) ≤ ((1 : Nat) : Int) + Op.lookupswitch.offset [(99, 53), (108, 35), (114, 71)] 89 v1.toInt; rw [hof]; decide, trivial⟩ ?_
        refine OK_pc (pc' := 90) (by rw [hof]; rfl) ?_
        refine OK_st 1 okX6_isOneTooMany (S' := (91, [(0, .ref 1), (1, .int v1)], [.int (0 : Int32)], hp I F)) rfl ⟨trivial, trivial⟩ ?_
        exact OK_ri okX6_isOneTooMany rfl rfl (Or.inr ⟨rfl, Or.inl rfl⟩)

def f_X6_isFigure (v0 : Int32) (I : AI) (F : AF) : AQ :=
  if v0 < (nI 48) then
    some ((0 : Int32), I, F)
  else
    if (nI 57) < v0 then
      some ((0 : Int32), I, F)
    else
      some ((1 : Int32), I, F)
set_option maxRecDepth 20000 in
set_option maxHeartbeats 4000000 in
theorem kf_X6_isFigure (v0 : Int32) (I : AI) (F : AF) : OK 0 mX6_isFigure true (f_X6_isFigure v0 I F) (0, [(0, .int v0)], [], hp I F) := by
  rw [f_X6_isFigure]
  refine OK_st 3 okX6_isFigure (S' := ((if v0 < (nI 48) then 16 else 6), [(0, .int v0)], [], hp I F)) rfl ⟨trivial, trivial, trivial, trivial⟩ ?_
  refine OK_if (fun h71 => ?_) (fun h71 => ?_)
  · refine OK_st 1 okX6_isFigure (S' := (17, [(0, .int v0)], [.int (0 : Int32)], hp I F)) rfl ⟨trivial, trivial⟩ ?_
    exact OK_ri okX6_isFigure rfl rfl (Or.inr ⟨rfl, Or.inl rfl⟩)
  · refine OK_st 3 okX6_isFigure (S' := ((if (nI 57) < v0 then 16 else 12), [(0, .int v0)], [], hp I F)) rfl ⟨trivial, trivial, trivial, trivial⟩ ?_
    refine OK_if (fun h72 => ?_) (fun h72 => ?_)
    · refine OK_st 1 okX6_isFigure (S' := (17, [(0, .int v0)], [.int (0 : Int32)], hp I F)) rfl ⟨trivial, trivial⟩ ?_
      exact OK_ri okX6_isFigure rfl rfl (Or.inr ⟨rfl, Or.inl rfl⟩)
    · refine OK_st 2 okX6_isFigure (S' := (17, [(0, .int v0)], [.int (1 : Int32)], hp I F)) rfl ⟨trivial, trivial, trivial⟩ ?_
      exact OK_ri okX6_isFigure rfl rfl (Or.inr ⟨rfl, Or.inr rfl⟩)

def f_X6_readNumber_18 (v1 : Int32) (v2 : Int32) (v3 : Int32) (ko : Int32 → Int32 → AI → AF → AQ) : Nat → Int32 → Int32 → AI → AF → AQ
  | 0, _, _, _, _ => none
  | n + 1, v4, v5, I, F =>
    if (nI 250) ≤ v5 then
      ko v4 v5 I F
    else
      ab_bd (f_X2_at (I 1) I F) (fun r68 I69 F70 =>
        ab_bd (f_X6_isFigure r68 I69 F70) (fun r73 I74 F75 =>
          if r73 = 0 then
            ko v4 v5 I74 F75
          else
            ab_bd (f_X2_at (I74 1) I74 F75) (fun r77 I78 F79 =>
              ab_lt (if (((v4 * (nI 10)) + r77) - (nI 48)) < (nI 1000) then (((v4 * (nI 10)) + r77) - (nI 48)) else (nI 1000)) (fun x80 =>
                ab_lt (va_up I78 1 ((I78 1) + (1 : Int32))) (fun I81 =>
                  f_X6_readNumber_18 v1 v2 v3 ko n x80 (v5 + (1 : Int32)) I81 F79)))))
set_option maxRecDepth 20000 in
set_option maxHeartbeats 4000000 in
theorem kf_X6_readNumber_18 (v1 : Int32) (v2 : Int32) (v3 : Int32) (ko : Int32 → Int32 → AI → AF → AQ) (hko : ∀ v4 v5 I F, OK 2 mX6_readNumber true (ko v4 v5 I F) (87, [(0, .ref 1), (1, .int v1), (2, .int v2), (3, .int v3), (4, .int v4), (5, .int v5)], [], hp I F)) : ∀ n v4 v5 I F, OK 2 mX6_readNumber true (f_X6_readNumber_18 v1 v2 v3 ko n v4 v5 I F) (18, [(0, .ref 1), (1, .int v1), (2, .int v2), (3, .int v3), (4, .int v4), (5, .int v5)], [], hp I F) := by
  intro n
  induction n with
  | zero =>
    intro v4 v5 I F
    exact OK_no
  | succ n ih =>
    intro v4 v5 I F
    rw [f_X6_readNumber_18]
    refine OK_st 3 okX6_readNumber (S' := ((if (nI 250) ≤ v5 then 87 else 26), [(0, .ref 1), (1, .int v1), (2, .int v2), (3, .int v3), (4, .int v4), (5, .int v5)], [], hp I F)) rfl ⟨trivial, trivial, trivial, trivial⟩ ?_
    refine OK_if (fun h67 => ?_) (fun h67 => ?_)
    · exact hko v4 v5 I F
    · refine OK_st 4 okX6_readNumber (S' := (34, [(0, .ref 1), (1, .int v1), (2, .int v2), (3, .int v3), (4, .int v4), (5, .int v5)], [.int (I 1), .ref 2], hp I F)) rfl ⟨trivial, trivial, trivial, trivial, trivial⟩ ?_
      refine OK_cv [.int (I 1)] [] okX6_readNumber okX2_at rfl rfl cl_RX6_45 rfl rfl (Nat.le_of_ble_eq_true rfl) (by decide) (Nat.le_of_ble_eq_true rfl) (kf_X2_at (I 1) I F) (fun r68 I69 F70 => ?_)
      refine OK_cs [.int r68] [] okX6_readNumber okX6_isFigure rfl rfl cl_RX6_117 (Nat.le_of_ble_eq_true rfl) (by decide) (Nat.le_of_ble_eq_true rfl) (kf_X6_isFigure r68 I69 F70) (fun r73 I74 F75 => ?_)
      refine OK_st 1 okX6_readNumber (S' := ((if r73 = 0 then 87 else 43), [(0, .ref 1), (1, .int v1), (2, .int v2), (3, .int v3), (4, .int v4), (5, .int v5)], [], hp I74 F75)) rfl ⟨trivial, trivial⟩ ?_
      refine OK_if (fun h76 => ?_) (fun h76 => ?_)
      · exact hko v4 v5 I74 F75
      · refine OK_st 8 okX6_readNumber (S' := (59, [(0, .ref 1), (1, .int v1), (2, .int v2), (3, .int v3), (4, .int v4), (5, .int v5)], [.int (I74 1), .ref 2, .int (v4 * (nI 10)), .int (nI 1000)], hp I74 F75)) rfl ⟨trivial, trivial, trivial, trivial, trivial, trivial, trivial, trivial, trivial⟩ ?_
        refine OK_cv [.int (I74 1)] [.int (v4 * (nI 10)), .int (nI 1000)] okX6_readNumber okX2_at rfl rfl cl_RX6_45 rfl rfl (Nat.le_of_ble_eq_true rfl) (by decide) (Nat.le_of_ble_eq_true rfl) (kf_X2_at (I74 1) I74 F75) (fun r77 I78 F79 => ?_)
        refine OK_st 5 okX6_readNumber (S' := (71, [(4, .int (if (((v4 * (nI 10)) + r77) - (nI 48)) < (nI 1000) then (((v4 * (nI 10)) + r77) - (nI 48)) else (nI 1000))), (0, .ref 1), (1, .int v1), (2, .int v2), (3, .int v3), (5, .int v5)], [], hp I78 F79)) rfl ⟨trivial, trivial, trivial, (Nat.le_of_ble_eq_true rfl), (by decide), trivial⟩ ?_
        refine OK_lt (fun x80 => (71, [(4, .int x80), (0, .ref 1), (1, .int v1), (2, .int v2), (3, .int v3), (5, .int v5)], [], hp I78 F79)) (fun x80 => ?_)
        refine OK_st 8 okX6_readNumber (S' := (18, [(5, .int (v5 + (1 : Int32))), (4, .int x80), (0, .ref 1), (1, .int v1), (2, .int v2), (3, .int v3)], [], hp (va_up I78 1 ((I78 1) + (1 : Int32))) F79)) rfl ⟨trivial, rfl, trivial, trivial, trivial, trivial, (by decide), trivial, trivial⟩ ?_
        refine OK_lt (fun I81 => (18, [(5, .int (v5 + (1 : Int32))), (4, .int x80), (0, .ref 1), (1, .int v1), (2, .int v2), (3, .int v3)], [], hp I81 F79)) (fun I81 => ?_)
        refine OK_pk [2, 3, 4, 5, 1, 0] rfl ?_
        exact ih x80 (v5 + (1 : Int32)) I81 F79

def f_X6_fail (v1 : Int32) (v2 : Int32) (I : AI) (F : AF) : AQ :=
  some ((0 : Int32), (va_up (va_up I 3 v1) 4 v2), F)
set_option maxRecDepth 20000 in
set_option maxHeartbeats 4000000 in
theorem kf_X6_fail (v1 : Int32) (v2 : Int32) (I : AI) (F : AF) : OK 0 mX6_fail true (f_X6_fail v1 v2 I F) (0, [(0, .ref 1), (1, .int v1), (2, .int v2)], [], hp I F) := by
  rw [f_X6_fail]
  refine OK_st 7 okX6_fail (S' := (11, [(0, .ref 1), (1, .int v1), (2, .int v2)], [.int (0 : Int32)], hp (va_up (va_up I 3 v1) 4 v2) F)) rfl ⟨trivial, trivial, trivial, trivial, trivial, trivial, trivial, trivial⟩ ?_
  exact OK_ri okX6_fail rfl rfl (Or.inr ⟨rfl, Or.inl rfl⟩)

def f_X6_readNumber_j87 (v1 : Int32) (v2 : Int32) (v3 : Int32) (v4 : Int32) (I : AI) (F : AF) : AQ :=
  if ¬ ((I 1) - (I 2)) = 0 then
    if (nI 3) < ((I 1) - (I 2)) then
      ab_bd (f_X6_fail (nI 2) (I 2) I F) (fun r88 I89 F90 =>
        bif ab_bt r88 then some (r88, I89, F90) else none)
    else
      if v4 < v2 then
        ab_bd (f_X6_fail (nI 2) (I 2) I F) (fun r93 I94 F95 =>
          bif ab_bt r93 then some (r93, I94, F95) else none)
      else
        if v4 ≤ v3 then
          bif ab_vin v1 5 then
            some ((1 : Int32), I, (va_up F 11 (upd (F 11) v1.toNatClampNeg v4)))
          else none
        else
          ab_bd (f_X6_fail (nI 2) (I 2) I F) (fun r99 I100 F101 =>
            bif ab_bt r99 then some (r99, I100, F101) else none)
  else
    ab_bd (f_X6_fail (1 : Int32) (I 1) I F) (fun r103 I104 F105 =>
      bif ab_bt r103 then some (r103, I104, F105) else none)
set_option maxRecDepth 20000 in
set_option maxHeartbeats 4000000 in
theorem kf_X6_readNumber_j87 (v1 : Int32) (v2 : Int32) (v3 : Int32) (v4 : Int32) (I : AI) (F : AF) : OK 2 mX6_readNumber true (f_X6_readNumber_j87 v1 v2 v3 v4 I F) (87, [(0, .ref 1), (1, .int v1), (2, .int v2), (3, .int v3), (4, .int v4)], [], hp I F) := by
  rw [f_X6_readNumber_j87]
  refine OK_st 8 okX6_readNumber (S' := ((if ¬ ((I 1) - (I 2)) = 0 then 113 else 103), [(5, .int ((I 1) - (I 2))), (0, .ref 1), (1, .int v1), (2, .int v2), (3, .int v3), (4, .int v4)], [], hp I F)) rfl ⟨trivial, trivial, trivial, trivial, trivial, (by decide), trivial, trivial, trivial⟩ ?_
  refine OK_if (fun h86 => ?_) (fun h86 => ?_)
  · refine OK_st 3 okX6_readNumber (S' := ((if (nI 3) < ((I 1) - (I 2)) then 131 else 119), [(5, .int ((I 1) - (I 2))), (0, .ref 1), (1, .int v1), (2, .int v2), (3, .int v3), (4, .int v4)], [], hp I F)) rfl ⟨trivial, trivial, trivial, trivial⟩ ?_
    refine OK_if (fun h87 => ?_) (fun h87 => ?_)
    · refine OK_st 4 okX6_readNumber (S' := (137, [(5, .int ((I 1) - (I 2))), (0, .ref 1), (1, .int v1), (2, .int v2), (3, .int v3), (4, .int v4)], [.int (I 2), .int (nI 2), .ref 1], hp I F)) rfl ⟨trivial, trivial, trivial, trivial, trivial⟩ ?_
      refine OK_cv [.int (nI 2), .int (I 2)] [] okX6_readNumber okX6_fail rfl rfl cl_RX6_57 rfl rfl (Nat.le_of_ble_eq_true rfl) (by decide) (Nat.le_of_ble_eq_true rfl) (kf_X6_fail (nI 2) (I 2) I F) (fun r88 I89 F90 => ?_)
      refine OK_gd (fun g91 => ?_)
      exact OK_ri okX6_readNumber rfl rfl (Or.inr ⟨rfl, ab_bto g91⟩)
    · refine OK_st 3 okX6_readNumber (S' := ((if v4 < v2 then 131 else 125), [(5, .int ((I 1) - (I 2))), (0, .ref 1), (1, .int v1), (2, .int v2), (3, .int v3), (4, .int v4)], [], hp I F)) rfl ⟨trivial, trivial, trivial, trivial⟩ ?_
      refine OK_if (fun h92 => ?_) (fun h92 => ?_)
      · refine OK_st 4 okX6_readNumber (S' := (137, [(5, .int ((I 1) - (I 2))), (0, .ref 1), (1, .int v1), (2, .int v2), (3, .int v3), (4, .int v4)], [.int (I 2), .int (nI 2), .ref 1], hp I F)) rfl ⟨trivial, trivial, trivial, trivial, trivial⟩ ?_
        refine OK_cv [.int (nI 2), .int (I 2)] [] okX6_readNumber okX6_fail rfl rfl cl_RX6_57 rfl rfl (Nat.le_of_ble_eq_true rfl) (by decide) (Nat.le_of_ble_eq_true rfl) (kf_X6_fail (nI 2) (I 2) I F) (fun r93 I94 F95 => ?_)
        refine OK_gd (fun g96 => ?_)
        exact OK_ri okX6_readNumber rfl rfl (Or.inr ⟨rfl, ab_bto g96⟩)
      · refine OK_st 3 okX6_readNumber (S' := ((if v4 ≤ v3 then 141 else 131), [(5, .int ((I 1) - (I 2))), (0, .ref 1), (1, .int v1), (2, .int v2), (3, .int v3), (4, .int v4)], [], hp I F)) rfl ⟨trivial, trivial, trivial, trivial⟩ ?_
        refine OK_if (fun h97 => ?_) (fun h97 => ?_)
        · refine OK_gd (fun g98 => ?_)
          refine OK_st 6 okX6_readNumber (S' := (150, [(5, .int ((I 1) - (I 2))), (0, .ref 1), (1, .int v1), (2, .int v2), (3, .int v3), (4, .int v4)], [.int (1 : Int32)], hp I (va_up F 11 (upd (F 11) v1.toNatClampNeg v4)))) rfl ⟨trivial, trivial, trivial, trivial, (ab_vo g98), trivial, trivial⟩ ?_
          exact OK_ri okX6_readNumber rfl rfl (Or.inr ⟨rfl, Or.inr rfl⟩)
        · refine OK_st 4 okX6_readNumber (S' := (137, [(5, .int ((I 1) - (I 2))), (0, .ref 1), (1, .int v1), (2, .int v2), (3, .int v3), (4, .int v4)], [.int (I 2), .int (nI 2), .ref 1], hp I F)) rfl ⟨trivial, trivial, trivial, trivial, trivial⟩ ?_
          refine OK_cv [.int (nI 2), .int (I 2)] [] okX6_readNumber okX6_fail rfl rfl cl_RX6_57 rfl rfl (Nat.le_of_ble_eq_true rfl) (by decide) (Nat.le_of_ble_eq_true rfl) (kf_X6_fail (nI 2) (I 2) I F) (fun r99 I100 F101 => ?_)
          refine OK_gd (fun g102 => ?_)
          exact OK_ri okX6_readNumber rfl rfl (Or.inr ⟨rfl, ab_bto g102⟩)
  · refine OK_st 4 okX6_readNumber (S' := (109, [(5, .int ((I 1) - (I 2))), (0, .ref 1), (1, .int v1), (2, .int v2), (3, .int v3), (4, .int v4)], [.int (I 1), .int (1 : Int32), .ref 1], hp I F)) rfl ⟨trivial, trivial, trivial, trivial, trivial⟩ ?_
    refine OK_cv [.int (1 : Int32), .int (I 1)] [] okX6_readNumber okX6_fail rfl rfl cl_RX6_57 rfl rfl (Nat.le_of_ble_eq_true rfl) (by decide) (Nat.le_of_ble_eq_true rfl) (kf_X6_fail (1 : Int32) (I 1) I F) (fun r103 I104 F105 => ?_)
    refine OK_gd (fun g106 => ?_)
    exact OK_ri okX6_readNumber rfl rfl (Or.inr ⟨rfl, ab_bto g106⟩)

def f_X6_readNumber (v1 : Int32) (v2 : Int32) (v3 : Int32) (I : AI) (F : AF) : AQ :=
  ab_bd (f_X6_skipBlanks I F) (fun r63 I64 F65 =>
    ab_lt (va_up I64 2 (I64 1)) (fun I66 =>
      f_X6_readNumber_18 v1 v2 v3 (fun v4_82 v5_83 I84 F85 =>
        f_X6_readNumber_j87 v1 v2 v3 v4_82 I84 F85) ab_fu (0 : Int32) (0 : Int32) I66 F65))
set_option maxRecDepth 20000 in
set_option maxHeartbeats 4000000 in
theorem kf_X6_readNumber (v1 : Int32) (v2 : Int32) (v3 : Int32) (I : AI) (F : AF) : OK 2 mX6_readNumber true (f_X6_readNumber v1 v2 v3 I F) (0, [(0, .ref 1), (1, .int v1), (2, .int v2), (3, .int v3)], [], hp I F) := by
  rw [f_X6_readNumber]
  refine OK_st 1 okX6_readNumber (S' := (1, [(0, .ref 1), (1, .int v1), (2, .int v2), (3, .int v3)], [.ref 1], hp I F)) rfl ⟨trivial, trivial⟩ ?_
  refine OK_cv [] [] okX6_readNumber okX6_skipBlanks rfl rfl cl_RX6_42 rfl rfl (Nat.le_of_ble_eq_true rfl) (by decide) (Nat.le_of_ble_eq_true rfl) (kf_X6_skipBlanks I F) (fun r63 I64 F65 => ?_)
  refine OK_st 8 okX6_readNumber (S' := (18, [(5, .int (0 : Int32)), (4, .int (0 : Int32)), (0, .ref 1), (1, .int v1), (2, .int v2), (3, .int v3)], [], hp (va_up I64 2 (I64 1)) F65)) rfl ⟨trivial, trivial, trivial, trivial, trivial, (by decide), trivial, (by decide), trivial⟩ ?_
  refine OK_lt (fun I66 => (18, [(5, .int (0 : Int32)), (4, .int (0 : Int32)), (0, .ref 1), (1, .int v1), (2, .int v2), (3, .int v3)], [], hp I66 F65)) (fun I66 => ?_)
  refine OK_pk [2, 3, 4, 5, 1, 0] rfl ?_
  refine kf_X6_readNumber_18 v1 v2 v3 _ (fun v4_82 v5_83 I84 F85 => ?_) ab_fu (0 : Int32) (0 : Int32) I66 F65
  refine OK_pk [0, 1, 2, 3, 4] rfl ?_
  exact kf_X6_readNumber_j87 v1 v2 v3 v4_82 I84 F85

def f_X5_addContract (I : AI) (F : AF) : AQ :=
  if (nI 6) ≤ (I 7) then
    some (0, I, F)
  else
    bif ab_vin (I 7) 6 then
      bif ab_vin (I 7) 6 then
        bif ab_vin (I 7) 6 then
          ab_lt (va_up (va_up (va_up F 4 (upd (F 4) (I 7).toNatClampNeg ((F 11) 0))) 5 (upd (F 5) (I 7).toNatClampNeg ((F 11) 1))) 6 (upd (F 6) (I 7).toNatClampNeg ((F 11) 2))) (fun F116 =>
            some (0, (va_up I 7 ((I 7) + (1 : Int32))), F116))
        else none
      else none
    else none
set_option maxRecDepth 20000 in
set_option maxHeartbeats 4000000 in
theorem kf_X5_addContract (I : AI) (F : AF) : OK 0 mX5_addContract false (f_X5_addContract I F) (0, [(0, .ref 4), (1, .ref 15)], [], hp I F) := by
  rw [f_X5_addContract]
  refine OK_st 4 okX5_addContract (S' := ((if (nI 6) ≤ (I 7) then 55 else 9), [(0, .ref 4), (1, .ref 15)], [], hp I F)) rfl ⟨trivial, trivial, trivial, trivial, trivial⟩ ?_
  refine OK_if (fun h112 => ?_) (fun h112 => ?_)
  · exact OK_rv okX5_addContract rfl rfl rfl
  · refine OK_gd (fun g113 => ?_)
    refine OK_gd (fun g114 => ?_)
    refine OK_gd (fun g115 => ?_)
    refine OK_st 24 okX5_addContract (S' := (45, [(0, .ref 4), (1, .ref 15)], [], hp I (va_up (va_up (va_up F 4 (upd (F 4) (I 7).toNatClampNeg ((F 11) 0))) 5 (upd (F 5) (I 7).toNatClampNeg ((F 11) 1))) 6 (upd (F 6) (I 7).toNatClampNeg ((F 11) 2))))) rfl ⟨trivial, trivial, trivial, trivial, trivial, trivial, (ab_vo (by decide)), (ab_vo g113), trivial, trivial, trivial, trivial, trivial, trivial, (ab_vo (by decide)), (ab_vo g114), trivial, trivial, trivial, trivial, trivial, trivial, (ab_vo (by decide)), (ab_vo g115), trivial⟩ ?_
    refine OK_lt (fun F116 => (45, [(0, .ref 4), (1, .ref 15)], [], hp I F116)) (fun F116 => ?_)
    refine OK_st 6 okX5_addContract (S' := (55, [(0, .ref 4), (1, .ref 15)], [], hp (va_up I 7 ((I 7) + (1 : Int32))) F116)) rfl ⟨trivial, rfl, trivial, trivial, trivial, trivial, trivial⟩ ?_
    exact OK_rv okX5_addContract rfl rfl rfl

def f_X6_readClose (I : AI) (F : AF) : AQ :=
  ab_bd (f_X6_skipBlanks I F) (fun r136 I137 F138 =>
    ab_bd (f_X2_at (I137 1) I137 F138) (fun r139 I140 F141 =>
      if r139 = (nI 59) then
        some ((1 : Int32), (va_up I140 1 ((I140 1) + (1 : Int32))), F141)
      else
        ab_bd (f_X6_fail (1 : Int32) (I140 1) I140 F141) (fun r143 I144 F145 =>
          bif ab_bt r143 then some (r143, I144, F145) else none)))
set_option maxRecDepth 20000 in
set_option maxHeartbeats 4000000 in
theorem kf_X6_readClose (I : AI) (F : AF) : OK 2 mX6_readClose true (f_X6_readClose I F) (0, [(0, .ref 1)], [], hp I F) := by
  rw [f_X6_readClose]
  refine OK_st 1 okX6_readClose (S' := (1, [(0, .ref 1)], [.ref 1], hp I F)) rfl ⟨trivial, trivial⟩ ?_
  refine OK_cv [] [] okX6_readClose okX6_skipBlanks rfl rfl cl_RX6_42 rfl rfl (Nat.le_of_ble_eq_true rfl) (by decide) (Nat.le_of_ble_eq_true rfl) (kf_X6_skipBlanks I F) (fun r136 I137 F138 => ?_)
  refine OK_st 4 okX6_readClose (S' := (12, [(0, .ref 1)], [.int (I137 1), .ref 2], hp I137 F138)) rfl ⟨trivial, trivial, trivial, trivial, trivial⟩ ?_
  refine OK_cv [.int (I137 1)] [] okX6_readClose okX2_at rfl rfl cl_RX6_45 rfl rfl (Nat.le_of_ble_eq_true rfl) (by decide) (Nat.le_of_ble_eq_true rfl) (kf_X2_at (I137 1) I137 F138) (fun r139 I140 F141 => ?_)
  refine OK_st 2 okX6_readClose (S' := ((if r139 = (nI 59) then 30 else 20), [(0, .ref 1)], [], hp I140 F141)) rfl ⟨trivial, trivial, trivial⟩ ?_
  refine OK_if (fun h142 => ?_) (fun h142 => ?_)
  · refine OK_st 7 okX6_readClose (S' := (41, [(0, .ref 1)], [.int (1 : Int32)], hp (va_up I140 1 ((I140 1) + (1 : Int32))) F141)) rfl ⟨trivial, rfl, trivial, trivial, trivial, trivial, trivial, trivial⟩ ?_
    exact OK_ri okX6_readClose rfl rfl (Or.inr ⟨rfl, Or.inr rfl⟩)
  · refine OK_st 4 okX6_readClose (S' := (26, [(0, .ref 1)], [.int (I140 1), .int (1 : Int32), .ref 1], hp I140 F141)) rfl ⟨trivial, trivial, trivial, trivial, trivial⟩ ?_
    refine OK_cv [.int (1 : Int32), .int (I140 1)] [] okX6_readClose okX6_fail rfl rfl cl_RX6_57 rfl rfl (Nat.le_of_ble_eq_true rfl) (by decide) (Nat.le_of_ble_eq_true rfl) (kf_X6_fail (1 : Int32) (I140 1) I140 F141) (fun r143 I144 F145 => ?_)
    refine OK_gd (fun g146 => ?_)
    exact OK_ri okX6_readClose rfl rfl (Or.inr ⟨rfl, ab_bto g146⟩)

def f_X6_readContract (I : AI) (F : AF) : AQ :=
  ab_bd (f_X6_readNumber (0 : Int32) (0 : Int32) (nI 99) I F) (fun r107 I108 F109 =>
    if r107 = 0 then
      if (0 : Int32) = 0 then
        some ((0 : Int32), I108, F109)
      else
        ab_bd (f_X5_addContract I108 F109) (fun r117 I118 F119 =>
          some ((0 : Int32), I118, F119))
    else
      ab_bd (f_X6_readNumber (1 : Int32) (0 : Int32) ((I108 6) - (1 : Int32)) I108 F109) (fun r120 I121 F122 =>
        if r120 = 0 then
          if (0 : Int32) = 0 then
            some ((0 : Int32), I121, F122)
          else
            ab_bd (f_X5_addContract I121 F122) (fun r125 I126 F127 =>
              some ((0 : Int32), I126, F127))
        else
          ab_bd (f_X6_readNumber (nI 2) (1 : Int32) (nI 50) I121 F122) (fun r128 I129 F130 =>
            if r128 = 0 then
              if (0 : Int32) = 0 then
                some ((0 : Int32), I129, F130)
              else
                ab_bd (f_X5_addContract I129 F130) (fun r133 I134 F135 =>
                  some ((0 : Int32), I134, F135))
            else
              ab_bd (f_X6_readClose I129 F130) (fun r147 I148 F149 =>
                if r147 = 0 then
                  if (0 : Int32) = 0 then
                    some ((0 : Int32), I148, F149)
                  else
                    ab_bd (f_X5_addContract I148 F149) (fun r152 I153 F154 =>
                      some ((0 : Int32), I153, F154))
                else
                  if (1 : Int32) = 0 then
                    some ((1 : Int32), I148, F149)
                  else
                    ab_bd (f_X5_addContract I148 F149) (fun r156 I157 F158 =>
                      some ((1 : Int32), I157, F158))))))
set_option maxRecDepth 20000 in
set_option maxHeartbeats 4000000 in
theorem kf_X6_readContract (I : AI) (F : AF) : OK 3 mX6_readContract true (f_X6_readContract I F) (0, [(0, .ref 1)], [], hp I F) := by
  rw [f_X6_readContract]
  refine OK_st 4 okX6_readContract (S' := (5, [(0, .ref 1)], [.int (nI 99), .int (0 : Int32), .int (0 : Int32), .ref 1], hp I F)) rfl ⟨trivial, trivial, trivial, trivial, trivial⟩ ?_
  refine OK_cv [.int (0 : Int32), .int (0 : Int32), .int (nI 99)] [] okX6_readContract okX6_readNumber rfl rfl cl_RX6_85 rfl rfl (Nat.le_of_ble_eq_true rfl) (by decide) (Nat.le_of_ble_eq_true rfl) (kf_X6_readNumber (0 : Int32) (0 : Int32) (nI 99) I F) (fun r107 I108 F109 => ?_)
  refine OK_st 1 okX6_readContract (S' := ((if r107 = 0 then 51 else 11), [(0, .ref 1)], [], hp I108 F109)) rfl ⟨trivial, trivial⟩ ?_
  refine OK_if (fun h110 => ?_) (fun h110 => ?_)
  · refine OK_st 4 okX6_readContract (S' := ((if (0 : Int32) = 0 then 68 else 57), [(1, .int (0 : Int32)), (0, .ref 1)], [], hp I108 F109)) rfl ⟨trivial, (by decide), trivial, trivial, trivial⟩ ?_
    refine OK_if (fun h111 => ?_) (fun h111 => ?_)
    · refine OK_st 1 okX6_readContract (S' := (69, [(1, .int (0 : Int32)), (0, .ref 1)], [.int (0 : Int32)], hp I108 F109)) rfl ⟨trivial, trivial⟩ ?_
      exact OK_ri okX6_readContract rfl rfl (Or.inr ⟨rfl, Or.inl rfl⟩)
    · refine OK_st 4 okX6_readContract (S' := (65, [(1, .int (0 : Int32)), (0, .ref 1)], [.ref 15, .ref 4], hp I108 F109)) rfl ⟨trivial, trivial, trivial, trivial, trivial⟩ ?_
      refine OK_cv [.ref 15] [] okX6_readContract okX5_addContract rfl rfl cl_RX6_96 rfl rfl (Nat.le_of_ble_eq_true rfl) (by decide) (Nat.le_of_ble_eq_true rfl) (kf_X5_addContract I108 F109) (fun r117 I118 F119 => ?_)
      refine OK_st 1 okX6_readContract (S' := (69, [(1, .int (0 : Int32)), (0, .ref 1)], [.int (0 : Int32)], hp I118 F119)) rfl ⟨trivial, trivial⟩ ?_
      exact OK_ri okX6_readContract rfl rfl (Or.inr ⟨rfl, Or.inl rfl⟩)
  · refine OK_st 8 okX6_readContract (S' := (23, [(0, .ref 1)], [.int ((I108 6) - (1 : Int32)), .int (0 : Int32), .int (1 : Int32), .ref 1], hp I108 F109)) rfl ⟨trivial, trivial, trivial, trivial, trivial, trivial, trivial, trivial, trivial⟩ ?_
    refine OK_cv [.int (1 : Int32), .int (0 : Int32), .int ((I108 6) - (1 : Int32))] [] okX6_readContract okX6_readNumber rfl rfl cl_RX6_85 rfl rfl (Nat.le_of_ble_eq_true rfl) (by decide) (Nat.le_of_ble_eq_true rfl) (kf_X6_readNumber (1 : Int32) (0 : Int32) ((I108 6) - (1 : Int32)) I108 F109) (fun r120 I121 F122 => ?_)
    refine OK_st 1 okX6_readContract (S' := ((if r120 = 0 then 51 else 29), [(0, .ref 1)], [], hp I121 F122)) rfl ⟨trivial, trivial⟩ ?_
    refine OK_if (fun h123 => ?_) (fun h123 => ?_)
    · refine OK_st 4 okX6_readContract (S' := ((if (0 : Int32) = 0 then 68 else 57), [(1, .int (0 : Int32)), (0, .ref 1)], [], hp I121 F122)) rfl ⟨trivial, (by decide), trivial, trivial, trivial⟩ ?_
      refine OK_if (fun h124 => ?_) (fun h124 => ?_)
      · refine OK_st 1 okX6_readContract (S' := (69, [(1, .int (0 : Int32)), (0, .ref 1)], [.int (0 : Int32)], hp I121 F122)) rfl ⟨trivial, trivial⟩ ?_
        exact OK_ri okX6_readContract rfl rfl (Or.inr ⟨rfl, Or.inl rfl⟩)
      · refine OK_st 4 okX6_readContract (S' := (65, [(1, .int (0 : Int32)), (0, .ref 1)], [.ref 15, .ref 4], hp I121 F122)) rfl ⟨trivial, trivial, trivial, trivial, trivial⟩ ?_
        refine OK_cv [.ref 15] [] okX6_readContract okX5_addContract rfl rfl cl_RX6_96 rfl rfl (Nat.le_of_ble_eq_true rfl) (by decide) (Nat.le_of_ble_eq_true rfl) (kf_X5_addContract I121 F122) (fun r125 I126 F127 => ?_)
        refine OK_st 1 okX6_readContract (S' := (69, [(1, .int (0 : Int32)), (0, .ref 1)], [.int (0 : Int32)], hp I126 F127)) rfl ⟨trivial, trivial⟩ ?_
        exact OK_ri okX6_readContract rfl rfl (Or.inr ⟨rfl, Or.inl rfl⟩)
    · refine OK_st 4 okX6_readContract (S' := (34, [(0, .ref 1)], [.int (nI 50), .int (1 : Int32), .int (nI 2), .ref 1], hp I121 F122)) rfl ⟨trivial, trivial, trivial, trivial, trivial⟩ ?_
      refine OK_cv [.int (nI 2), .int (1 : Int32), .int (nI 50)] [] okX6_readContract okX6_readNumber rfl rfl cl_RX6_85 rfl rfl (Nat.le_of_ble_eq_true rfl) (by decide) (Nat.le_of_ble_eq_true rfl) (kf_X6_readNumber (nI 2) (1 : Int32) (nI 50) I121 F122) (fun r128 I129 F130 => ?_)
      refine OK_st 1 okX6_readContract (S' := ((if r128 = 0 then 51 else 40), [(0, .ref 1)], [], hp I129 F130)) rfl ⟨trivial, trivial⟩ ?_
      refine OK_if (fun h131 => ?_) (fun h131 => ?_)
      · refine OK_st 4 okX6_readContract (S' := ((if (0 : Int32) = 0 then 68 else 57), [(1, .int (0 : Int32)), (0, .ref 1)], [], hp I129 F130)) rfl ⟨trivial, (by decide), trivial, trivial, trivial⟩ ?_
        refine OK_if (fun h132 => ?_) (fun h132 => ?_)
        · refine OK_st 1 okX6_readContract (S' := (69, [(1, .int (0 : Int32)), (0, .ref 1)], [.int (0 : Int32)], hp I129 F130)) rfl ⟨trivial, trivial⟩ ?_
          exact OK_ri okX6_readContract rfl rfl (Or.inr ⟨rfl, Or.inl rfl⟩)
        · refine OK_st 4 okX6_readContract (S' := (65, [(1, .int (0 : Int32)), (0, .ref 1)], [.ref 15, .ref 4], hp I129 F130)) rfl ⟨trivial, trivial, trivial, trivial, trivial⟩ ?_
          refine OK_cv [.ref 15] [] okX6_readContract okX5_addContract rfl rfl cl_RX6_96 rfl rfl (Nat.le_of_ble_eq_true rfl) (by decide) (Nat.le_of_ble_eq_true rfl) (kf_X5_addContract I129 F130) (fun r133 I134 F135 => ?_)
          refine OK_st 1 okX6_readContract (S' := (69, [(1, .int (0 : Int32)), (0, .ref 1)], [.int (0 : Int32)], hp I134 F135)) rfl ⟨trivial, trivial⟩ ?_
          exact OK_ri okX6_readContract rfl rfl (Or.inr ⟨rfl, Or.inl rfl⟩)
      · refine OK_st 1 okX6_readContract (S' := (41, [(0, .ref 1)], [.ref 1], hp I129 F130)) rfl ⟨trivial, trivial⟩ ?_
        refine OK_cv [] [] okX6_readContract okX6_readClose rfl rfl cl_RX6_89 rfl rfl (Nat.le_of_ble_eq_true rfl) (by decide) (Nat.le_of_ble_eq_true rfl) (kf_X6_readClose I129 F130) (fun r147 I148 F149 => ?_)
        refine OK_st 1 okX6_readContract (S' := ((if r147 = 0 then 51 else 47), [(0, .ref 1)], [], hp I148 F149)) rfl ⟨trivial, trivial⟩ ?_
        refine OK_if (fun h150 => ?_) (fun h150 => ?_)
        · refine OK_st 4 okX6_readContract (S' := ((if (0 : Int32) = 0 then 68 else 57), [(1, .int (0 : Int32)), (0, .ref 1)], [], hp I148 F149)) rfl ⟨trivial, (by decide), trivial, trivial, trivial⟩ ?_
          refine OK_if (fun h151 => ?_) (fun h151 => ?_)
          · refine OK_st 1 okX6_readContract (S' := (69, [(1, .int (0 : Int32)), (0, .ref 1)], [.int (0 : Int32)], hp I148 F149)) rfl ⟨trivial, trivial⟩ ?_
            exact OK_ri okX6_readContract rfl rfl (Or.inr ⟨rfl, Or.inl rfl⟩)
          · refine OK_st 4 okX6_readContract (S' := (65, [(1, .int (0 : Int32)), (0, .ref 1)], [.ref 15, .ref 4], hp I148 F149)) rfl ⟨trivial, trivial, trivial, trivial, trivial⟩ ?_
            refine OK_cv [.ref 15] [] okX6_readContract okX5_addContract rfl rfl cl_RX6_96 rfl rfl (Nat.le_of_ble_eq_true rfl) (by decide) (Nat.le_of_ble_eq_true rfl) (kf_X5_addContract I148 F149) (fun r152 I153 F154 => ?_)
            refine OK_st 1 okX6_readContract (S' := (69, [(1, .int (0 : Int32)), (0, .ref 1)], [.int (0 : Int32)], hp I153 F154)) rfl ⟨trivial, trivial⟩ ?_
            exact OK_ri okX6_readContract rfl rfl (Or.inr ⟨rfl, Or.inl rfl⟩)
        · refine OK_st 5 okX6_readContract (S' := ((if (1 : Int32) = 0 then 68 else 57), [(1, .int (1 : Int32)), (0, .ref 1)], [], hp I148 F149)) rfl ⟨trivial, trivial, (by decide), trivial, trivial, trivial⟩ ?_
          refine OK_if (fun h155 => ?_) (fun h155 => ?_)
          · refine OK_st 1 okX6_readContract (S' := (69, [(1, .int (1 : Int32)), (0, .ref 1)], [.int (1 : Int32)], hp I148 F149)) rfl ⟨trivial, trivial⟩ ?_
            exact OK_ri okX6_readContract rfl rfl (Or.inr ⟨rfl, Or.inr rfl⟩)
          · refine OK_st 4 okX6_readContract (S' := (65, [(1, .int (1 : Int32)), (0, .ref 1)], [.ref 15, .ref 4], hp I148 F149)) rfl ⟨trivial, trivial, trivial, trivial, trivial⟩ ?_
            refine OK_cv [.ref 15] [] okX6_readContract okX5_addContract rfl rfl cl_RX6_96 rfl rfl (Nat.le_of_ble_eq_true rfl) (by decide) (Nat.le_of_ble_eq_true rfl) (kf_X5_addContract I148 F149) (fun r156 I157 F158 => ?_)
            refine OK_st 1 okX6_readContract (S' := (69, [(1, .int (1 : Int32)), (0, .ref 1)], [.int (1 : Int32)], hp I157 F158)) rfl ⟨trivial, trivial⟩ ?_
            exact OK_ri okX6_readContract rfl rfl (Or.inr ⟨rfl, Or.inr rfl⟩)

def f_X6_readLimb_12 (ko : Int32 → Int32 → AI → AF → AQ) : Nat → Int32 → Int32 → AI → AF → AQ
  | 0, _, _, _, _ => none
  | n + 1, v1, v2, I, F =>
    if (nI 4) < v2 then
      ko v1 v2 I F
    else
      if v1 = 0 then
        ko v1 v2 I F
      else
        ab_bd (f_X6_readNumber v2 (0 : Int32) (nI 18) I F) (fun r169 I170 F171 =>
          f_X6_readLimb_12 ko n r169 (v2 + (1 : Int32)) I170 F171)
set_option maxRecDepth 20000 in
set_option maxHeartbeats 4000000 in
theorem kf_X6_readLimb_12 (ko : Int32 → Int32 → AI → AF → AQ) (hko : ∀ v1 v2 I F, OK 3 mX6_readLimb true (ko v1 v2 I F) (36, [(0, .ref 1), (1, .int v1), (2, .int v2)], [], hp I F)) : ∀ n v1 v2 I F, OK 3 mX6_readLimb true (f_X6_readLimb_12 ko n v1 v2 I F) (12, [(0, .ref 1), (1, .int v1), (2, .int v2)], [], hp I F) := by
  intro n
  induction n with
  | zero =>
    intro v1 v2 I F
    exact OK_no
  | succ n ih =>
    intro v1 v2 I F
    rw [f_X6_readLimb_12]
    refine OK_st 3 okX6_readLimb (S' := ((if (nI 4) < v2 then 36 else 17), [(0, .ref 1), (1, .int v1), (2, .int v2)], [], hp I F)) rfl ⟨trivial, trivial, trivial, trivial⟩ ?_
    refine OK_if (fun h167 => ?_) (fun h167 => ?_)
    · exact hko v1 v2 I F
    · refine OK_st 2 okX6_readLimb (S' := ((if v1 = 0 then 36 else 21), [(0, .ref 1), (1, .int v1), (2, .int v2)], [], hp I F)) rfl ⟨trivial, trivial, trivial⟩ ?_
      refine OK_if (fun h168 => ?_) (fun h168 => ?_)
      · exact hko v1 v2 I F
      · refine OK_st 4 okX6_readLimb (S' := (26, [(0, .ref 1), (1, .int v1), (2, .int v2)], [.int (nI 18), .int (0 : Int32), .int v2, .ref 1], hp I F)) rfl ⟨trivial, trivial, trivial, trivial, trivial⟩ ?_
        refine OK_cv [.int v2, .int (0 : Int32), .int (nI 18)] [] okX6_readLimb okX6_readNumber rfl rfl cl_RX6_85 rfl rfl (Nat.le_of_ble_eq_true rfl) (by decide) (Nat.le_of_ble_eq_true rfl) (kf_X6_readNumber v2 (0 : Int32) (nI 18) I F) (fun r169 I170 F171 => ?_)
        refine OK_st 3 okX6_readLimb (S' := (12, [(2, .int (v2 + (1 : Int32))), (1, .int r169), (0, .ref 1)], [], hp I170 F171)) rfl ⟨(by decide), (by decide), trivial, trivial⟩ ?_
        refine OK_pk [2, 1, 0] rfl ?_
        exact ih r169 (v2 + (1 : Int32)) I170 F171

def f_X5_addLimb (I : AI) (F : AF) : AQ :=
  if (nI 6) ≤ (I 6) then
    some (0, I, F)
  else
    bif ab_vin (I 6) 6 then
      bif ab_cg (1 : Int32) ((I 6) * (nI 4)) (nI 4) 5 24 then
        ab_lt (va_up (va_up F 1 (upd (F 1) (I 6).toNatClampNeg ((F 11) 0))) 2 (va_cpy (F 11) (F 2) 1 ((I 6) * (nI 4)).toNatClampNeg 4)) (fun F181 =>
          bif ab_vin (I 6) 6 then
            some (0, (va_up I 6 ((I 6) + (1 : Int32))), (va_up F181 3 (upd (F181 3) (I 6).toNatClampNeg (-1 : Int32))))
          else none)
      else none
    else none
set_option maxRecDepth 20000 in
set_option maxHeartbeats 4000000 in
theorem kf_X5_addLimb (I : AI) (F : AF) : OK 0 mX5_addLimb false (f_X5_addLimb I F) (0, [(0, .ref 4), (1, .ref 15)], [], hp I F) := by
  rw [f_X5_addLimb]
  refine OK_st 4 okX5_addLimb (S' := ((if (nI 6) ≤ (I 6) then 57 else 9), [(0, .ref 4), (1, .ref 15)], [], hp I F)) rfl ⟨trivial, trivial, trivial, trivial, trivial⟩ ?_
  refine OK_if (fun h178 => ?_) (fun h178 => ?_)
  · exact OK_rv okX5_addLimb rfl rfl rfl
  · refine OK_gd (fun g179 => ?_)
    refine OK_gd (fun g180 => ?_)
    refine OK_st 18 okX5_addLimb (S' := (37, [(0, .ref 4), (1, .ref 15)], [], hp I (va_up (va_up F 1 (upd (F 1) (I 6).toNatClampNeg ((F 11) 0))) 2 (va_cpy (F 11) (F 2) 1 ((I 6) * (nI 4)).toNatClampNeg 4)))) rfl ⟨trivial, trivial, trivial, trivial, trivial, trivial, (ab_vo (by decide)), (ab_vo g179), trivial, trivial, trivial, trivial, trivial, trivial, trivial, trivial, trivial, ab_cgo g180 (Nat.le_of_ble_eq_true rfl), trivial⟩ ?_
    refine OK_lt (fun F181 => (37, [(0, .ref 4), (1, .ref 15)], [], hp I F181)) (fun F181 => ?_)
    refine OK_gd (fun g182 => ?_)
    refine OK_st 12 okX5_addLimb (S' := (57, [(0, .ref 4), (1, .ref 15)], [], hp (va_up I 6 ((I 6) + (1 : Int32))) (va_up F181 3 (upd (F181 3) (I 6).toNatClampNeg (-1 : Int32))))) rfl ⟨trivial, trivial, trivial, trivial, trivial, (ab_vo g182), trivial, rfl, trivial, trivial, trivial, trivial, trivial⟩ ?_
    exact OK_rv okX5_addLimb rfl rfl rfl

def f_X6_readLimb_j36 (v1 : Int32) (I : AI) (F : AF) : AQ :=
  if v1 = 0 then
    if (0 : Int32) = 0 then
      some ((0 : Int32), I, F)
    else
      ab_bd (f_X5_addLimb I F) (fun r183 I184 F185 =>
        some ((0 : Int32), I184, F185))
  else
    ab_bd (f_X6_readClose I F) (fun r186 I187 F188 =>
      if r186 = 0 then
        if (0 : Int32) = 0 then
          some ((0 : Int32), I187, F188)
        else
          ab_bd (f_X5_addLimb I187 F188) (fun r191 I192 F193 =>
            some ((0 : Int32), I192, F193))
      else
        if (1 : Int32) = 0 then
          some ((1 : Int32), I187, F188)
        else
          ab_bd (f_X5_addLimb I187 F188) (fun r195 I196 F197 =>
            some ((1 : Int32), I196, F197)))
set_option maxRecDepth 20000 in
set_option maxHeartbeats 4000000 in
theorem kf_X6_readLimb_j36 (v1 : Int32) (I : AI) (F : AF) : OK 3 mX6_readLimb true (f_X6_readLimb_j36 v1 I F) (36, [(0, .ref 1), (1, .int v1)], [], hp I F) := by
  rw [f_X6_readLimb_j36]
  refine OK_st 2 okX6_readLimb (S' := ((if v1 = 0 then 51 else 40), [(0, .ref 1), (1, .int v1)], [], hp I F)) rfl ⟨trivial, trivial, trivial⟩ ?_
  refine OK_if (fun h176 => ?_) (fun h176 => ?_)
  · refine OK_st 4 okX6_readLimb (S' := ((if (0 : Int32) = 0 then 68 else 57), [(1, .int (0 : Int32)), (0, .ref 1)], [], hp I F)) rfl ⟨trivial, (by decide), trivial, trivial, trivial⟩ ?_
    refine OK_if (fun h177 => ?_) (fun h177 => ?_)
    · refine OK_st 1 okX6_readLimb (S' := (69, [(1, .int (0 : Int32)), (0, .ref 1)], [.int (0 : Int32)], hp I F)) rfl ⟨trivial, trivial⟩ ?_
      exact OK_ri okX6_readLimb rfl rfl (Or.inr ⟨rfl, Or.inl rfl⟩)
    · refine OK_st 4 okX6_readLimb (S' := (65, [(1, .int (0 : Int32)), (0, .ref 1)], [.ref 15, .ref 4], hp I F)) rfl ⟨trivial, trivial, trivial, trivial, trivial⟩ ?_
      refine OK_cv [.ref 15] [] okX6_readLimb okX5_addLimb rfl rfl cl_RX6_92 rfl rfl (Nat.le_of_ble_eq_true rfl) (by decide) (Nat.le_of_ble_eq_true rfl) (kf_X5_addLimb I F) (fun r183 I184 F185 => ?_)
      refine OK_st 1 okX6_readLimb (S' := (69, [(1, .int (0 : Int32)), (0, .ref 1)], [.int (0 : Int32)], hp I184 F185)) rfl ⟨trivial, trivial⟩ ?_
      exact OK_ri okX6_readLimb rfl rfl (Or.inr ⟨rfl, Or.inl rfl⟩)
  · refine OK_st 1 okX6_readLimb (S' := (41, [(0, .ref 1), (1, .int v1)], [.ref 1], hp I F)) rfl ⟨trivial, trivial⟩ ?_
    refine OK_cv [] [] okX6_readLimb okX6_readClose rfl rfl cl_RX6_89 rfl rfl (Nat.le_of_ble_eq_true rfl) (by decide) (Nat.le_of_ble_eq_true rfl) (kf_X6_readClose I F) (fun r186 I187 F188 => ?_)
    refine OK_st 1 okX6_readLimb (S' := ((if r186 = 0 then 51 else 47), [(0, .ref 1), (1, .int v1)], [], hp I187 F188)) rfl ⟨trivial, trivial⟩ ?_
    refine OK_if (fun h189 => ?_) (fun h189 => ?_)
    · refine OK_st 4 okX6_readLimb (S' := ((if (0 : Int32) = 0 then 68 else 57), [(1, .int (0 : Int32)), (0, .ref 1)], [], hp I187 F188)) rfl ⟨trivial, (by decide), trivial, trivial, trivial⟩ ?_
      refine OK_if (fun h190 => ?_) (fun h190 => ?_)
      · refine OK_st 1 okX6_readLimb (S' := (69, [(1, .int (0 : Int32)), (0, .ref 1)], [.int (0 : Int32)], hp I187 F188)) rfl ⟨trivial, trivial⟩ ?_
        exact OK_ri okX6_readLimb rfl rfl (Or.inr ⟨rfl, Or.inl rfl⟩)
      · refine OK_st 4 okX6_readLimb (S' := (65, [(1, .int (0 : Int32)), (0, .ref 1)], [.ref 15, .ref 4], hp I187 F188)) rfl ⟨trivial, trivial, trivial, trivial, trivial⟩ ?_
        refine OK_cv [.ref 15] [] okX6_readLimb okX5_addLimb rfl rfl cl_RX6_92 rfl rfl (Nat.le_of_ble_eq_true rfl) (by decide) (Nat.le_of_ble_eq_true rfl) (kf_X5_addLimb I187 F188) (fun r191 I192 F193 => ?_)
        refine OK_st 1 okX6_readLimb (S' := (69, [(1, .int (0 : Int32)), (0, .ref 1)], [.int (0 : Int32)], hp I192 F193)) rfl ⟨trivial, trivial⟩ ?_
        exact OK_ri okX6_readLimb rfl rfl (Or.inr ⟨rfl, Or.inl rfl⟩)
    · refine OK_st 5 okX6_readLimb (S' := ((if (1 : Int32) = 0 then 68 else 57), [(1, .int (1 : Int32)), (0, .ref 1)], [], hp I187 F188)) rfl ⟨trivial, trivial, (by decide), trivial, trivial, trivial⟩ ?_
      refine OK_if (fun h194 => ?_) (fun h194 => ?_)
      · refine OK_st 1 okX6_readLimb (S' := (69, [(1, .int (1 : Int32)), (0, .ref 1)], [.int (1 : Int32)], hp I187 F188)) rfl ⟨trivial, trivial⟩ ?_
        exact OK_ri okX6_readLimb rfl rfl (Or.inr ⟨rfl, Or.inr rfl⟩)
      · refine OK_st 4 okX6_readLimb (S' := (65, [(1, .int (1 : Int32)), (0, .ref 1)], [.ref 15, .ref 4], hp I187 F188)) rfl ⟨trivial, trivial, trivial, trivial, trivial⟩ ?_
        refine OK_cv [.ref 15] [] okX6_readLimb okX5_addLimb rfl rfl cl_RX6_92 rfl rfl (Nat.le_of_ble_eq_true rfl) (by decide) (Nat.le_of_ble_eq_true rfl) (kf_X5_addLimb I187 F188) (fun r195 I196 F197 => ?_)
        refine OK_st 1 okX6_readLimb (S' := (69, [(1, .int (1 : Int32)), (0, .ref 1)], [.int (1 : Int32)], hp I196 F197)) rfl ⟨trivial, trivial⟩ ?_
        exact OK_ri okX6_readLimb rfl rfl (Or.inr ⟨rfl, Or.inr rfl⟩)

def f_X6_readLimb (I : AI) (F : AF) : AQ :=
  ab_bd (f_X6_readNumber (0 : Int32) (nI 20) (nI 99) I F) (fun r164 I165 F166 =>
    f_X6_readLimb_12 (fun v1_172 v2_173 I174 F175 =>
      f_X6_readLimb_j36 v1_172 I174 F175) ab_fu r164 (1 : Int32) I165 F166)
set_option maxRecDepth 20000 in
set_option maxHeartbeats 4000000 in
theorem kf_X6_readLimb (I : AI) (F : AF) : OK 3 mX6_readLimb true (f_X6_readLimb I F) (0, [(0, .ref 1)], [], hp I F) := by
  rw [f_X6_readLimb]
  refine OK_st 4 okX6_readLimb (S' := (6, [(0, .ref 1)], [.int (nI 99), .int (nI 20), .int (0 : Int32), .ref 1], hp I F)) rfl ⟨trivial, trivial, trivial, trivial, trivial⟩ ?_
  refine OK_cv [.int (0 : Int32), .int (nI 20), .int (nI 99)] [] okX6_readLimb okX6_readNumber rfl rfl cl_RX6_85 rfl rfl (Nat.le_of_ble_eq_true rfl) (by decide) (Nat.le_of_ble_eq_true rfl) (kf_X6_readNumber (0 : Int32) (nI 20) (nI 99) I F) (fun r164 I165 F166 => ?_)
  refine OK_st 3 okX6_readLimb (S' := (12, [(2, .int (1 : Int32)), (1, .int r164), (0, .ref 1)], [], hp I165 F166)) rfl ⟨(by decide), trivial, (by decide), trivial⟩ ?_
  refine OK_pk [2, 1, 0] rfl ?_
  refine kf_X6_readLimb_12 _ (fun v1_172 v2_173 I174 F175 => ?_) ab_fu r164 (1 : Int32) I165 F166
  refine OK_pk [0, 1] rfl ?_
  exact kf_X6_readLimb_j36 v1_172 I174 F175

def f_X5_addRate (I : AI) (F : AF) : AQ :=
  if (nI 8) ≤ (I 8) then
    some (0, I, F)
  else
    bif ab_vin (I 8) 8 then
      bif ab_vin (I 8) 8 then
        bif ab_vin (I 8) 8 then
          ab_lt (va_up (va_up (va_up F 7 (upd (F 7) (I 8).toNatClampNeg ((F 11) 0))) 8 (upd (F 8) (I 8).toNatClampNeg ((F 11) 1))) 9 (upd (F 9) (I 8).toNatClampNeg ((F 11) 2))) (fun F212 =>
            bif ab_vin (I 8) 8 then
              some (0, (va_up I 8 ((I 8) + (1 : Int32))), (va_up F212 10 (upd (F212 10) (I 8).toNatClampNeg ((F212 11) 3))))
            else none)
        else none
      else none
    else none
set_option maxRecDepth 20000 in
set_option maxHeartbeats 4000000 in
theorem kf_X5_addRate (I : AI) (F : AF) : OK 0 mX5_addRate false (f_X5_addRate I F) (0, [(0, .ref 4), (1, .ref 15)], [], hp I F) := by
  rw [f_X5_addRate]
  refine OK_st 4 okX5_addRate (S' := ((if (nI 8) ≤ (I 8) then 67 else 9), [(0, .ref 4), (1, .ref 15)], [], hp I F)) rfl ⟨trivial, trivial, trivial, trivial, trivial⟩ ?_
  refine OK_if (fun h208 => ?_) (fun h208 => ?_)
  · exact OK_rv okX5_addRate rfl rfl rfl
  · refine OK_gd (fun g209 => ?_)
    refine OK_gd (fun g210 => ?_)
    refine OK_gd (fun g211 => ?_)
    refine OK_st 24 okX5_addRate (S' := (45, [(0, .ref 4), (1, .ref 15)], [], hp I (va_up (va_up (va_up F 7 (upd (F 7) (I 8).toNatClampNeg ((F 11) 0))) 8 (upd (F 8) (I 8).toNatClampNeg ((F 11) 1))) 9 (upd (F 9) (I 8).toNatClampNeg ((F 11) 2))))) rfl ⟨trivial, trivial, trivial, trivial, trivial, trivial, (ab_vo (by decide)), (ab_vo g209), trivial, trivial, trivial, trivial, trivial, trivial, (ab_vo (by decide)), (ab_vo g210), trivial, trivial, trivial, trivial, trivial, trivial, (ab_vo (by decide)), (ab_vo g211), trivial⟩ ?_
    refine OK_lt (fun F212 => (45, [(0, .ref 4), (1, .ref 15)], [], hp I F212)) (fun F212 => ?_)
    refine OK_gd (fun g213 => ?_)
    refine OK_st 14 okX5_addRate (S' := (67, [(0, .ref 4), (1, .ref 15)], [], hp (va_up I 8 ((I 8) + (1 : Int32))) (va_up F212 10 (upd (F212 10) (I 8).toNatClampNeg ((F212 11) 3))))) rfl ⟨trivial, trivial, trivial, trivial, trivial, trivial, (ab_vo (by decide)), (ab_vo g213), trivial, rfl, trivial, trivial, trivial, trivial, trivial⟩ ?_
    exact OK_rv okX5_addRate rfl rfl rfl

def f_X6_isUnlike (I : AI) (F : AF) : AQ :=
  if ¬ ((F 11) 0) = ((F 11) 1) then
    some ((1 : Int32), I, F)
  else
    ab_bd (f_X6_fail (nI 4) (I 2) I F) (fun r226 I227 F228 =>
      if r226 = 0 then
        some ((0 : Int32), I227, F228)
      else
        some ((1 : Int32), I227, F228))
set_option maxRecDepth 20000 in
set_option maxHeartbeats 4000000 in
theorem kf_X6_isUnlike (I : AI) (F : AF) : OK 1 mX6_isUnlike true (f_X6_isUnlike I F) (0, [(0, .ref 1)], [], hp I F) := by
  rw [f_X6_isUnlike]
  refine OK_st 9 okX6_isUnlike (S' := ((if ¬ ((F 11) 0) = ((F 11) 1) then 27 else 15), [(0, .ref 1)], [], hp I F)) rfl ⟨trivial, trivial, trivial, (ab_vo (by decide)), trivial, trivial, trivial, (ab_vo (by decide)), trivial, trivial⟩ ?_
  refine OK_if (fun h225 => ?_) (fun h225 => ?_)
  · refine OK_st 2 okX6_isUnlike (S' := (32, [(0, .ref 1)], [.int (1 : Int32)], hp I F)) rfl ⟨trivial, trivial, trivial⟩ ?_
    exact OK_ri okX6_isUnlike rfl rfl (Or.inr ⟨rfl, Or.inr rfl⟩)
  · refine OK_st 4 okX6_isUnlike (S' := (21, [(0, .ref 1)], [.int (I 2), .int (nI 4), .ref 1], hp I F)) rfl ⟨trivial, trivial, trivial, trivial, trivial⟩ ?_
    refine OK_cv [.int (nI 4), .int (I 2)] [] okX6_isUnlike okX6_fail rfl rfl cl_RX6_57 rfl rfl (Nat.le_of_ble_eq_true rfl) (by decide) (Nat.le_of_ble_eq_true rfl) (kf_X6_fail (nI 4) (I 2) I F) (fun r226 I227 F228 => ?_)
    refine OK_st 1 okX6_isUnlike (S' := ((if r226 = 0 then 31 else 27), [(0, .ref 1)], [], hp I227 F228)) rfl ⟨trivial, trivial⟩ ?_
    refine OK_if (fun h229 => ?_) (fun h229 => ?_)
    · refine OK_st 1 okX6_isUnlike (S' := (32, [(0, .ref 1)], [.int (0 : Int32)], hp I227 F228)) rfl ⟨trivial, trivial⟩ ?_
      exact OK_ri okX6_isUnlike rfl rfl (Or.inr ⟨rfl, Or.inl rfl⟩)
    · refine OK_st 2 okX6_isUnlike (S' := (32, [(0, .ref 1)], [.int (1 : Int32)], hp I227 F228)) rfl ⟨trivial, trivial, trivial⟩ ?_
      exact OK_ri okX6_isUnlike rfl rfl (Or.inr ⟨rfl, Or.inr rfl⟩)

def f_X6_readRate (I : AI) (F : AF) : AQ :=
  ab_bd (f_X6_readNumber (0 : Int32) (0 : Int32) ((I 6) - (1 : Int32)) I F) (fun r203 I204 F205 =>
    if r203 = 0 then
      if (0 : Int32) = 0 then
        some ((0 : Int32), I204, F205)
      else
        ab_bd (f_X5_addRate I204 F205) (fun r214 I215 F216 =>
          some ((0 : Int32), I215, F216))
    else
      ab_bd (f_X6_readNumber (1 : Int32) (0 : Int32) ((I204 6) - (1 : Int32)) I204 F205) (fun r217 I218 F219 =>
        if r217 = 0 then
          if (0 : Int32) = 0 then
            some ((0 : Int32), I218, F219)
          else
            ab_bd (f_X5_addRate I218 F219) (fun r222 I223 F224 =>
              some ((0 : Int32), I223, F224))
        else
          ab_bd (f_X6_isUnlike I218 F219) (fun r230 I231 F232 =>
            if r230 = 0 then
              if (0 : Int32) = 0 then
                some ((0 : Int32), I231, F232)
              else
                ab_bd (f_X5_addRate I231 F232) (fun r235 I236 F237 =>
                  some ((0 : Int32), I236, F237))
            else
              ab_bd (f_X6_readNumber (nI 2) (1 : Int32) (nI 20) I231 F232) (fun r238 I239 F240 =>
                if r238 = 0 then
                  if (0 : Int32) = 0 then
                    some ((0 : Int32), I239, F240)
                  else
                    ab_bd (f_X5_addRate I239 F240) (fun r243 I244 F245 =>
                      some ((0 : Int32), I244, F245))
                else
                  ab_bd (f_X6_readNumber (nI 3) (1 : Int32) (nI 20) I239 F240) (fun r246 I247 F248 =>
                    if r246 = 0 then
                      if (0 : Int32) = 0 then
                        some ((0 : Int32), I247, F248)
                      else
                        ab_bd (f_X5_addRate I247 F248) (fun r251 I252 F253 =>
                          some ((0 : Int32), I252, F253))
                    else
                      ab_bd (f_X6_readClose I247 F248) (fun r254 I255 F256 =>
                        if r254 = 0 then
                          if (0 : Int32) = 0 then
                            some ((0 : Int32), I255, F256)
                          else
                            ab_bd (f_X5_addRate I255 F256) (fun r259 I260 F261 =>
                              some ((0 : Int32), I260, F261))
                        else
                          if (1 : Int32) = 0 then
                            some ((1 : Int32), I255, F256)
                          else
                            ab_bd (f_X5_addRate I255 F256) (fun r263 I264 F265 =>
                              some ((1 : Int32), I264, F265))))))))
set_option maxRecDepth 20000 in
set_option maxHeartbeats 4000000 in
theorem kf_X6_readRate (I : AI) (F : AF) : OK 3 mX6_readRate true (f_X6_readRate I F) (0, [(0, .ref 1)], [], hp I F) := by
  rw [f_X6_readRate]
  refine OK_st 8 okX6_readRate (S' := (12, [(0, .ref 1)], [.int ((I 6) - (1 : Int32)), .int (0 : Int32), .int (0 : Int32), .ref 1], hp I F)) rfl ⟨trivial, trivial, trivial, trivial, trivial, trivial, trivial, trivial, trivial⟩ ?_
  refine OK_cv [.int (0 : Int32), .int (0 : Int32), .int ((I 6) - (1 : Int32))] [] okX6_readRate okX6_readNumber rfl rfl cl_RX6_85 rfl rfl (Nat.le_of_ble_eq_true rfl) (by decide) (Nat.le_of_ble_eq_true rfl) (kf_X6_readNumber (0 : Int32) (0 : Int32) ((I 6) - (1 : Int32)) I F) (fun r203 I204 F205 => ?_)
  refine OK_st 1 okX6_readRate (S' := ((if r203 = 0 then 76 else 18), [(0, .ref 1)], [], hp I204 F205)) rfl ⟨trivial, trivial⟩ ?_
  refine OK_if (fun h206 => ?_) (fun h206 => ?_)
  · refine OK_st 4 okX6_readRate (S' := ((if (0 : Int32) = 0 then 93 else 82), [(1, .int (0 : Int32)), (0, .ref 1)], [], hp I204 F205)) rfl ⟨trivial, (by decide), trivial, trivial, trivial⟩ ?_
    refine OK_if (fun h207 => ?_) (fun h207 => ?_)
    · refine OK_st 1 okX6_readRate (S' := (94, [(1, .int (0 : Int32)), (0, .ref 1)], [.int (0 : Int32)], hp I204 F205)) rfl ⟨trivial, trivial⟩ ?_
      exact OK_ri okX6_readRate rfl rfl (Or.inr ⟨rfl, Or.inl rfl⟩)
    · refine OK_st 4 okX6_readRate (S' := (90, [(1, .int (0 : Int32)), (0, .ref 1)], [.ref 15, .ref 4], hp I204 F205)) rfl ⟨trivial, trivial, trivial, trivial, trivial⟩ ?_
      refine OK_cv [.ref 15] [] okX6_readRate okX5_addRate rfl rfl cl_RX6_102 rfl rfl (Nat.le_of_ble_eq_true rfl) (by decide) (Nat.le_of_ble_eq_true rfl) (kf_X5_addRate I204 F205) (fun r214 I215 F216 => ?_)
      refine OK_st 1 okX6_readRate (S' := (94, [(1, .int (0 : Int32)), (0, .ref 1)], [.int (0 : Int32)], hp I215 F216)) rfl ⟨trivial, trivial⟩ ?_
      exact OK_ri okX6_readRate rfl rfl (Or.inr ⟨rfl, Or.inl rfl⟩)
  · refine OK_st 8 okX6_readRate (S' := (30, [(0, .ref 1)], [.int ((I204 6) - (1 : Int32)), .int (0 : Int32), .int (1 : Int32), .ref 1], hp I204 F205)) rfl ⟨trivial, trivial, trivial, trivial, trivial, trivial, trivial, trivial, trivial⟩ ?_
    refine OK_cv [.int (1 : Int32), .int (0 : Int32), .int ((I204 6) - (1 : Int32))] [] okX6_readRate okX6_readNumber rfl rfl cl_RX6_85 rfl rfl (Nat.le_of_ble_eq_true rfl) (by decide) (Nat.le_of_ble_eq_true rfl) (kf_X6_readNumber (1 : Int32) (0 : Int32) ((I204 6) - (1 : Int32)) I204 F205) (fun r217 I218 F219 => ?_)
    refine OK_st 1 okX6_readRate (S' := ((if r217 = 0 then 76 else 36), [(0, .ref 1)], [], hp I218 F219)) rfl ⟨trivial, trivial⟩ ?_
    refine OK_if (fun h220 => ?_) (fun h220 => ?_)
    · refine OK_st 4 okX6_readRate (S' := ((if (0 : Int32) = 0 then 93 else 82), [(1, .int (0 : Int32)), (0, .ref 1)], [], hp I218 F219)) rfl ⟨trivial, (by decide), trivial, trivial, trivial⟩ ?_
      refine OK_if (fun h221 => ?_) (fun h221 => ?_)
      · refine OK_st 1 okX6_readRate (S' := (94, [(1, .int (0 : Int32)), (0, .ref 1)], [.int (0 : Int32)], hp I218 F219)) rfl ⟨trivial, trivial⟩ ?_
        exact OK_ri okX6_readRate rfl rfl (Or.inr ⟨rfl, Or.inl rfl⟩)
      · refine OK_st 4 okX6_readRate (S' := (90, [(1, .int (0 : Int32)), (0, .ref 1)], [.ref 15, .ref 4], hp I218 F219)) rfl ⟨trivial, trivial, trivial, trivial, trivial⟩ ?_
        refine OK_cv [.ref 15] [] okX6_readRate okX5_addRate rfl rfl cl_RX6_102 rfl rfl (Nat.le_of_ble_eq_true rfl) (by decide) (Nat.le_of_ble_eq_true rfl) (kf_X5_addRate I218 F219) (fun r222 I223 F224 => ?_)
        refine OK_st 1 okX6_readRate (S' := (94, [(1, .int (0 : Int32)), (0, .ref 1)], [.int (0 : Int32)], hp I223 F224)) rfl ⟨trivial, trivial⟩ ?_
        exact OK_ri okX6_readRate rfl rfl (Or.inr ⟨rfl, Or.inl rfl⟩)
    · refine OK_st 1 okX6_readRate (S' := (37, [(0, .ref 1)], [.ref 1], hp I218 F219)) rfl ⟨trivial, trivial⟩ ?_
      refine OK_cv [] [] okX6_readRate okX6_isUnlike rfl rfl cl_RX6_99 rfl rfl (Nat.le_of_ble_eq_true rfl) (by decide) (Nat.le_of_ble_eq_true rfl) (kf_X6_isUnlike I218 F219) (fun r230 I231 F232 => ?_)
      refine OK_st 1 okX6_readRate (S' := ((if r230 = 0 then 76 else 43), [(0, .ref 1)], [], hp I231 F232)) rfl ⟨trivial, trivial⟩ ?_
      refine OK_if (fun h233 => ?_) (fun h233 => ?_)
      · refine OK_st 4 okX6_readRate (S' := ((if (0 : Int32) = 0 then 93 else 82), [(1, .int (0 : Int32)), (0, .ref 1)], [], hp I231 F232)) rfl ⟨trivial, (by decide), trivial, trivial, trivial⟩ ?_
        refine OK_if (fun h234 => ?_) (fun h234 => ?_)
        · refine OK_st 1 okX6_readRate (S' := (94, [(1, .int (0 : Int32)), (0, .ref 1)], [.int (0 : Int32)], hp I231 F232)) rfl ⟨trivial, trivial⟩ ?_
          exact OK_ri okX6_readRate rfl rfl (Or.inr ⟨rfl, Or.inl rfl⟩)
        · refine OK_st 4 okX6_readRate (S' := (90, [(1, .int (0 : Int32)), (0, .ref 1)], [.ref 15, .ref 4], hp I231 F232)) rfl ⟨trivial, trivial, trivial, trivial, trivial⟩ ?_
          refine OK_cv [.ref 15] [] okX6_readRate okX5_addRate rfl rfl cl_RX6_102 rfl rfl (Nat.le_of_ble_eq_true rfl) (by decide) (Nat.le_of_ble_eq_true rfl) (kf_X5_addRate I231 F232) (fun r235 I236 F237 => ?_)
          refine OK_st 1 okX6_readRate (S' := (94, [(1, .int (0 : Int32)), (0, .ref 1)], [.int (0 : Int32)], hp I236 F237)) rfl ⟨trivial, trivial⟩ ?_
          exact OK_ri okX6_readRate rfl rfl (Or.inr ⟨rfl, Or.inl rfl⟩)
      · refine OK_st 4 okX6_readRate (S' := (48, [(0, .ref 1)], [.int (nI 20), .int (1 : Int32), .int (nI 2), .ref 1], hp I231 F232)) rfl ⟨trivial, trivial, trivial, trivial, trivial⟩ ?_
        refine OK_cv [.int (nI 2), .int (1 : Int32), .int (nI 20)] [] okX6_readRate okX6_readNumber rfl rfl cl_RX6_85 rfl rfl (Nat.le_of_ble_eq_true rfl) (by decide) (Nat.le_of_ble_eq_true rfl) (kf_X6_readNumber (nI 2) (1 : Int32) (nI 20) I231 F232) (fun r238 I239 F240 => ?_)
        refine OK_st 1 okX6_readRate (S' := ((if r238 = 0 then 76 else 54), [(0, .ref 1)], [], hp I239 F240)) rfl ⟨trivial, trivial⟩ ?_
        refine OK_if (fun h241 => ?_) (fun h241 => ?_)
        · refine OK_st 4 okX6_readRate (S' := ((if (0 : Int32) = 0 then 93 else 82), [(1, .int (0 : Int32)), (0, .ref 1)], [], hp I239 F240)) rfl ⟨trivial, (by decide), trivial, trivial, trivial⟩ ?_
          refine OK_if (fun h242 => ?_) (fun h242 => ?_)
          · refine OK_st 1 okX6_readRate (S' := (94, [(1, .int (0 : Int32)), (0, .ref 1)], [.int (0 : Int32)], hp I239 F240)) rfl ⟨trivial, trivial⟩ ?_
            exact OK_ri okX6_readRate rfl rfl (Or.inr ⟨rfl, Or.inl rfl⟩)
          · refine OK_st 4 okX6_readRate (S' := (90, [(1, .int (0 : Int32)), (0, .ref 1)], [.ref 15, .ref 4], hp I239 F240)) rfl ⟨trivial, trivial, trivial, trivial, trivial⟩ ?_
            refine OK_cv [.ref 15] [] okX6_readRate okX5_addRate rfl rfl cl_RX6_102 rfl rfl (Nat.le_of_ble_eq_true rfl) (by decide) (Nat.le_of_ble_eq_true rfl) (kf_X5_addRate I239 F240) (fun r243 I244 F245 => ?_)
            refine OK_st 1 okX6_readRate (S' := (94, [(1, .int (0 : Int32)), (0, .ref 1)], [.int (0 : Int32)], hp I244 F245)) rfl ⟨trivial, trivial⟩ ?_
            exact OK_ri okX6_readRate rfl rfl (Or.inr ⟨rfl, Or.inl rfl⟩)
        · refine OK_st 4 okX6_readRate (S' := (59, [(0, .ref 1)], [.int (nI 20), .int (1 : Int32), .int (nI 3), .ref 1], hp I239 F240)) rfl ⟨trivial, trivial, trivial, trivial, trivial⟩ ?_
          refine OK_cv [.int (nI 3), .int (1 : Int32), .int (nI 20)] [] okX6_readRate okX6_readNumber rfl rfl cl_RX6_85 rfl rfl (Nat.le_of_ble_eq_true rfl) (by decide) (Nat.le_of_ble_eq_true rfl) (kf_X6_readNumber (nI 3) (1 : Int32) (nI 20) I239 F240) (fun r246 I247 F248 => ?_)
          refine OK_st 1 okX6_readRate (S' := ((if r246 = 0 then 76 else 65), [(0, .ref 1)], [], hp I247 F248)) rfl ⟨trivial, trivial⟩ ?_
          refine OK_if (fun h249 => ?_) (fun h249 => ?_)
          · refine OK_st 4 okX6_readRate (S' := ((if (0 : Int32) = 0 then 93 else 82), [(1, .int (0 : Int32)), (0, .ref 1)], [], hp I247 F248)) rfl ⟨trivial, (by decide), trivial, trivial, trivial⟩ ?_
            refine OK_if (fun h250 => ?_) (fun h250 => ?_)
            · refine OK_st 1 okX6_readRate (S' := (94, [(1, .int (0 : Int32)), (0, .ref 1)], [.int (0 : Int32)], hp I247 F248)) rfl ⟨trivial, trivial⟩ ?_
              exact OK_ri okX6_readRate rfl rfl (Or.inr ⟨rfl, Or.inl rfl⟩)
            · refine OK_st 4 okX6_readRate (S' := (90, [(1, .int (0 : Int32)), (0, .ref 1)], [.ref 15, .ref 4], hp I247 F248)) rfl ⟨trivial, trivial, trivial, trivial, trivial⟩ ?_
              refine OK_cv [.ref 15] [] okX6_readRate okX5_addRate rfl rfl cl_RX6_102 rfl rfl (Nat.le_of_ble_eq_true rfl) (by decide) (Nat.le_of_ble_eq_true rfl) (kf_X5_addRate I247 F248) (fun r251 I252 F253 => ?_)
              refine OK_st 1 okX6_readRate (S' := (94, [(1, .int (0 : Int32)), (0, .ref 1)], [.int (0 : Int32)], hp I252 F253)) rfl ⟨trivial, trivial⟩ ?_
              exact OK_ri okX6_readRate rfl rfl (Or.inr ⟨rfl, Or.inl rfl⟩)
          · refine OK_st 1 okX6_readRate (S' := (66, [(0, .ref 1)], [.ref 1], hp I247 F248)) rfl ⟨trivial, trivial⟩ ?_
            refine OK_cv [] [] okX6_readRate okX6_readClose rfl rfl cl_RX6_89 rfl rfl (Nat.le_of_ble_eq_true rfl) (by decide) (Nat.le_of_ble_eq_true rfl) (kf_X6_readClose I247 F248) (fun r254 I255 F256 => ?_)
            refine OK_st 1 okX6_readRate (S' := ((if r254 = 0 then 76 else 72), [(0, .ref 1)], [], hp I255 F256)) rfl ⟨trivial, trivial⟩ ?_
            refine OK_if (fun h257 => ?_) (fun h257 => ?_)
            · refine OK_st 4 okX6_readRate (S' := ((if (0 : Int32) = 0 then 93 else 82), [(1, .int (0 : Int32)), (0, .ref 1)], [], hp I255 F256)) rfl ⟨trivial, (by decide), trivial, trivial, trivial⟩ ?_
              refine OK_if (fun h258 => ?_) (fun h258 => ?_)
              · refine OK_st 1 okX6_readRate (S' := (94, [(1, .int (0 : Int32)), (0, .ref 1)], [.int (0 : Int32)], hp I255 F256)) rfl ⟨trivial, trivial⟩ ?_
                exact OK_ri okX6_readRate rfl rfl (Or.inr ⟨rfl, Or.inl rfl⟩)
              · refine OK_st 4 okX6_readRate (S' := (90, [(1, .int (0 : Int32)), (0, .ref 1)], [.ref 15, .ref 4], hp I255 F256)) rfl ⟨trivial, trivial, trivial, trivial, trivial⟩ ?_
                refine OK_cv [.ref 15] [] okX6_readRate okX5_addRate rfl rfl cl_RX6_102 rfl rfl (Nat.le_of_ble_eq_true rfl) (by decide) (Nat.le_of_ble_eq_true rfl) (kf_X5_addRate I255 F256) (fun r259 I260 F261 => ?_)
                refine OK_st 1 okX6_readRate (S' := (94, [(1, .int (0 : Int32)), (0, .ref 1)], [.int (0 : Int32)], hp I260 F261)) rfl ⟨trivial, trivial⟩ ?_
                exact OK_ri okX6_readRate rfl rfl (Or.inr ⟨rfl, Or.inl rfl⟩)
            · refine OK_st 5 okX6_readRate (S' := ((if (1 : Int32) = 0 then 93 else 82), [(1, .int (1 : Int32)), (0, .ref 1)], [], hp I255 F256)) rfl ⟨trivial, trivial, (by decide), trivial, trivial, trivial⟩ ?_
              refine OK_if (fun h262 => ?_) (fun h262 => ?_)
              · refine OK_st 1 okX6_readRate (S' := (94, [(1, .int (1 : Int32)), (0, .ref 1)], [.int (1 : Int32)], hp I255 F256)) rfl ⟨trivial, trivial⟩ ?_
                exact OK_ri okX6_readRate rfl rfl (Or.inr ⟨rfl, Or.inr rfl⟩)
              · refine OK_st 4 okX6_readRate (S' := (90, [(1, .int (1 : Int32)), (0, .ref 1)], [.ref 15, .ref 4], hp I255 F256)) rfl ⟨trivial, trivial, trivial, trivial, trivial⟩ ?_
                refine OK_cv [.ref 15] [] okX6_readRate okX5_addRate rfl rfl cl_RX6_102 rfl rfl (Nat.le_of_ble_eq_true rfl) (by decide) (Nat.le_of_ble_eq_true rfl) (kf_X5_addRate I255 F256) (fun r263 I264 F265 => ?_)
                refine OK_st 1 okX6_readRate (S' := (94, [(1, .int (1 : Int32)), (0, .ref 1)], [.int (1 : Int32)], hp I264 F265)) rfl ⟨trivial, trivial⟩ ?_
                exact OK_ri okX6_readRate rfl rfl (Or.inr ⟨rfl, Or.inr rfl⟩)

def f_X5_addHeir (I : AI) (F : AF) : AQ :=
  bif ab_vin ((F 11) 0) 6 then
    some (0, I, (va_up F 3 (upd (F 3) ((F 11) 0).toNatClampNeg ((F 11) 1))))
  else none
set_option maxRecDepth 20000 in
set_option maxHeartbeats 4000000 in
theorem kf_X5_addHeir (I : AI) (F : AF) : OK 0 mX5_addHeir false (f_X5_addHeir I F) (0, [(0, .ref 4), (1, .ref 15)], [], hp I F) := by
  rw [f_X5_addHeir]
  refine OK_gd (fun g275 => ?_)
  refine OK_st 9 okX5_addHeir (S' := (11, [(0, .ref 4), (1, .ref 15)], [], hp I (va_up F 3 (upd (F 3) ((F 11) 0).toNatClampNeg ((F 11) 1))))) rfl ⟨trivial, trivial, trivial, trivial, (ab_vo (by decide)), trivial, trivial, (ab_vo (by decide)), (ab_vo g275), trivial⟩ ?_
  exact OK_rv okX5_addHeir rfl rfl rfl

def f_X6_isWithoutHeir (I : AI) (F : AF) : AQ :=
  bif ab_vin ((F 11) 0) 6 then
    if ((F 3) ((F 11) 0).toNatClampNeg) = (-1 : Int32) then
      some ((1 : Int32), I, F)
    else
      ab_bd (f_X6_fail (nI 4) (I 2) I F) (fun r281 I282 F283 =>
        if r281 = 0 then
          some ((0 : Int32), I282, F283)
        else
          some ((1 : Int32), I282, F283))
  else none
set_option maxRecDepth 20000 in
set_option maxHeartbeats 4000000 in
theorem kf_X6_isWithoutHeir (I : AI) (F : AF) : OK 1 mX6_isWithoutHeir true (f_X6_isWithoutHeir I F) (0, [(0, .ref 1)], [], hp I F) := by
  rw [f_X6_isWithoutHeir]
  refine OK_gd (fun g279 => ?_)
  refine OK_st 10 okX6_isWithoutHeir (S' := ((if ((F 3) ((F 11) 0).toNatClampNeg) = (-1 : Int32) then 30 else 18), [(0, .ref 1)], [], hp I F)) rfl ⟨trivial, trivial, trivial, trivial, trivial, trivial, (ab_vo (by decide)), (ab_vo g279), trivial, trivial, trivial⟩ ?_
  refine OK_if (fun h280 => ?_) (fun h280 => ?_)
  · refine OK_st 2 okX6_isWithoutHeir (S' := (35, [(0, .ref 1)], [.int (1 : Int32)], hp I F)) rfl ⟨trivial, trivial, trivial⟩ ?_
    exact OK_ri okX6_isWithoutHeir rfl rfl (Or.inr ⟨rfl, Or.inr rfl⟩)
  · refine OK_st 4 okX6_isWithoutHeir (S' := (24, [(0, .ref 1)], [.int (I 2), .int (nI 4), .ref 1], hp I F)) rfl ⟨trivial, trivial, trivial, trivial, trivial⟩ ?_
    refine OK_cv [.int (nI 4), .int (I 2)] [] okX6_isWithoutHeir okX6_fail rfl rfl cl_RX6_57 rfl rfl (Nat.le_of_ble_eq_true rfl) (by decide) (Nat.le_of_ble_eq_true rfl) (kf_X6_fail (nI 4) (I 2) I F) (fun r281 I282 F283 => ?_)
    refine OK_st 1 okX6_isWithoutHeir (S' := ((if r281 = 0 then 34 else 30), [(0, .ref 1)], [], hp I282 F283)) rfl ⟨trivial, trivial⟩ ?_
    refine OK_if (fun h284 => ?_) (fun h284 => ?_)
    · refine OK_st 1 okX6_isWithoutHeir (S' := (35, [(0, .ref 1)], [.int (0 : Int32)], hp I282 F283)) rfl ⟨trivial, trivial⟩ ?_
      exact OK_ri okX6_isWithoutHeir rfl rfl (Or.inr ⟨rfl, Or.inl rfl⟩)
    · refine OK_st 2 okX6_isWithoutHeir (S' := (35, [(0, .ref 1)], [.int (1 : Int32)], hp I282 F283)) rfl ⟨trivial, trivial, trivial⟩ ?_
      exact OK_ri okX6_isWithoutHeir rfl rfl (Or.inr ⟨rfl, Or.inr rfl⟩)

def f_X6_readHeir (I : AI) (F : AF) : AQ :=
  ab_bd (f_X6_readNumber (0 : Int32) (0 : Int32) ((I 6) - (1 : Int32)) I F) (fun r270 I271 F272 =>
    if r270 = 0 then
      if (0 : Int32) = 0 then
        some ((0 : Int32), I271, F272)
      else
        ab_bd (f_X5_addHeir I271 F272) (fun r276 I277 F278 =>
          some ((0 : Int32), I277, F278))
    else
      ab_bd (f_X6_isWithoutHeir I271 F272) (fun r285 I286 F287 =>
        if r285 = 0 then
          if (0 : Int32) = 0 then
            some ((0 : Int32), I286, F287)
          else
            ab_bd (f_X5_addHeir I286 F287) (fun r290 I291 F292 =>
              some ((0 : Int32), I291, F292))
        else
          ab_bd (f_X6_readNumber (1 : Int32) (0 : Int32) ((I286 6) - (1 : Int32)) I286 F287) (fun r293 I294 F295 =>
            if r293 = 0 then
              if (0 : Int32) = 0 then
                some ((0 : Int32), I294, F295)
              else
                ab_bd (f_X5_addHeir I294 F295) (fun r298 I299 F300 =>
                  some ((0 : Int32), I299, F300))
            else
              ab_bd (f_X6_isUnlike I294 F295) (fun r301 I302 F303 =>
                if r301 = 0 then
                  if (0 : Int32) = 0 then
                    some ((0 : Int32), I302, F303)
                  else
                    ab_bd (f_X5_addHeir I302 F303) (fun r306 I307 F308 =>
                      some ((0 : Int32), I307, F308))
                else
                  ab_bd (f_X6_readClose I302 F303) (fun r309 I310 F311 =>
                    if r309 = 0 then
                      if (0 : Int32) = 0 then
                        some ((0 : Int32), I310, F311)
                      else
                        ab_bd (f_X5_addHeir I310 F311) (fun r314 I315 F316 =>
                          some ((0 : Int32), I315, F316))
                    else
                      if (1 : Int32) = 0 then
                        some ((1 : Int32), I310, F311)
                      else
                        ab_bd (f_X5_addHeir I310 F311) (fun r318 I319 F320 =>
                          some ((1 : Int32), I319, F320)))))))
set_option maxRecDepth 20000 in
set_option maxHeartbeats 4000000 in
theorem kf_X6_readHeir (I : AI) (F : AF) : OK 3 mX6_readHeir true (f_X6_readHeir I F) (0, [(0, .ref 1)], [], hp I F) := by
  rw [f_X6_readHeir]
  refine OK_st 8 okX6_readHeir (S' := (12, [(0, .ref 1)], [.int ((I 6) - (1 : Int32)), .int (0 : Int32), .int (0 : Int32), .ref 1], hp I F)) rfl ⟨trivial, trivial, trivial, trivial, trivial, trivial, trivial, trivial, trivial⟩ ?_
  refine OK_cv [.int (0 : Int32), .int (0 : Int32), .int ((I 6) - (1 : Int32))] [] okX6_readHeir okX6_readNumber rfl rfl cl_RX6_85 rfl rfl (Nat.le_of_ble_eq_true rfl) (by decide) (Nat.le_of_ble_eq_true rfl) (kf_X6_readNumber (0 : Int32) (0 : Int32) ((I 6) - (1 : Int32)) I F) (fun r270 I271 F272 => ?_)
  refine OK_st 1 okX6_readHeir (S' := ((if r270 = 0 then 61 else 18), [(0, .ref 1)], [], hp I271 F272)) rfl ⟨trivial, trivial⟩ ?_
  refine OK_if (fun h273 => ?_) (fun h273 => ?_)
  · refine OK_st 4 okX6_readHeir (S' := ((if (0 : Int32) = 0 then 78 else 67), [(1, .int (0 : Int32)), (0, .ref 1)], [], hp I271 F272)) rfl ⟨trivial, (by decide), trivial, trivial, trivial⟩ ?_
    refine OK_if (fun h274 => ?_) (fun h274 => ?_)
    · refine OK_st 1 okX6_readHeir (S' := (79, [(1, .int (0 : Int32)), (0, .ref 1)], [.int (0 : Int32)], hp I271 F272)) rfl ⟨trivial, trivial⟩ ?_
      exact OK_ri okX6_readHeir rfl rfl (Or.inr ⟨rfl, Or.inl rfl⟩)
    · refine OK_st 4 okX6_readHeir (S' := (75, [(1, .int (0 : Int32)), (0, .ref 1)], [.ref 15, .ref 4], hp I271 F272)) rfl ⟨trivial, trivial, trivial, trivial, trivial⟩ ?_
      refine OK_cv [.ref 15] [] okX6_readHeir okX5_addHeir rfl rfl cl_RX6_108 rfl rfl (Nat.le_of_ble_eq_true rfl) (by decide) (Nat.le_of_ble_eq_true rfl) (kf_X5_addHeir I271 F272) (fun r276 I277 F278 => ?_)
      refine OK_st 1 okX6_readHeir (S' := (79, [(1, .int (0 : Int32)), (0, .ref 1)], [.int (0 : Int32)], hp I277 F278)) rfl ⟨trivial, trivial⟩ ?_
      exact OK_ri okX6_readHeir rfl rfl (Or.inr ⟨rfl, Or.inl rfl⟩)
  · refine OK_st 1 okX6_readHeir (S' := (19, [(0, .ref 1)], [.ref 1], hp I271 F272)) rfl ⟨trivial, trivial⟩ ?_
    refine OK_cv [] [] okX6_readHeir okX6_isWithoutHeir rfl rfl cl_RX6_105 rfl rfl (Nat.le_of_ble_eq_true rfl) (by decide) (Nat.le_of_ble_eq_true rfl) (kf_X6_isWithoutHeir I271 F272) (fun r285 I286 F287 => ?_)
    refine OK_st 1 okX6_readHeir (S' := ((if r285 = 0 then 61 else 25), [(0, .ref 1)], [], hp I286 F287)) rfl ⟨trivial, trivial⟩ ?_
    refine OK_if (fun h288 => ?_) (fun h288 => ?_)
    · refine OK_st 4 okX6_readHeir (S' := ((if (0 : Int32) = 0 then 78 else 67), [(1, .int (0 : Int32)), (0, .ref 1)], [], hp I286 F287)) rfl ⟨trivial, (by decide), trivial, trivial, trivial⟩ ?_
      refine OK_if (fun h289 => ?_) (fun h289 => ?_)
      · refine OK_st 1 okX6_readHeir (S' := (79, [(1, .int (0 : Int32)), (0, .ref 1)], [.int (0 : Int32)], hp I286 F287)) rfl ⟨trivial, trivial⟩ ?_
        exact OK_ri okX6_readHeir rfl rfl (Or.inr ⟨rfl, Or.inl rfl⟩)
      · refine OK_st 4 okX6_readHeir (S' := (75, [(1, .int (0 : Int32)), (0, .ref 1)], [.ref 15, .ref 4], hp I286 F287)) rfl ⟨trivial, trivial, trivial, trivial, trivial⟩ ?_
        refine OK_cv [.ref 15] [] okX6_readHeir okX5_addHeir rfl rfl cl_RX6_108 rfl rfl (Nat.le_of_ble_eq_true rfl) (by decide) (Nat.le_of_ble_eq_true rfl) (kf_X5_addHeir I286 F287) (fun r290 I291 F292 => ?_)
        refine OK_st 1 okX6_readHeir (S' := (79, [(1, .int (0 : Int32)), (0, .ref 1)], [.int (0 : Int32)], hp I291 F292)) rfl ⟨trivial, trivial⟩ ?_
        exact OK_ri okX6_readHeir rfl rfl (Or.inr ⟨rfl, Or.inl rfl⟩)
    · refine OK_st 8 okX6_readHeir (S' := (37, [(0, .ref 1)], [.int ((I286 6) - (1 : Int32)), .int (0 : Int32), .int (1 : Int32), .ref 1], hp I286 F287)) rfl ⟨trivial, trivial, trivial, trivial, trivial, trivial, trivial, trivial, trivial⟩ ?_
      refine OK_cv [.int (1 : Int32), .int (0 : Int32), .int ((I286 6) - (1 : Int32))] [] okX6_readHeir okX6_readNumber rfl rfl cl_RX6_85 rfl rfl (Nat.le_of_ble_eq_true rfl) (by decide) (Nat.le_of_ble_eq_true rfl) (kf_X6_readNumber (1 : Int32) (0 : Int32) ((I286 6) - (1 : Int32)) I286 F287) (fun r293 I294 F295 => ?_)
      refine OK_st 1 okX6_readHeir (S' := ((if r293 = 0 then 61 else 43), [(0, .ref 1)], [], hp I294 F295)) rfl ⟨trivial, trivial⟩ ?_
      refine OK_if (fun h296 => ?_) (fun h296 => ?_)
      · refine OK_st 4 okX6_readHeir (S' := ((if (0 : Int32) = 0 then 78 else 67), [(1, .int (0 : Int32)), (0, .ref 1)], [], hp I294 F295)) rfl ⟨trivial, (by decide), trivial, trivial, trivial⟩ ?_
        refine OK_if (fun h297 => ?_) (fun h297 => ?_)
        · refine OK_st 1 okX6_readHeir (S' := (79, [(1, .int (0 : Int32)), (0, .ref 1)], [.int (0 : Int32)], hp I294 F295)) rfl ⟨trivial, trivial⟩ ?_
          exact OK_ri okX6_readHeir rfl rfl (Or.inr ⟨rfl, Or.inl rfl⟩)
        · refine OK_st 4 okX6_readHeir (S' := (75, [(1, .int (0 : Int32)), (0, .ref 1)], [.ref 15, .ref 4], hp I294 F295)) rfl ⟨trivial, trivial, trivial, trivial, trivial⟩ ?_
          refine OK_cv [.ref 15] [] okX6_readHeir okX5_addHeir rfl rfl cl_RX6_108 rfl rfl (Nat.le_of_ble_eq_true rfl) (by decide) (Nat.le_of_ble_eq_true rfl) (kf_X5_addHeir I294 F295) (fun r298 I299 F300 => ?_)
          refine OK_st 1 okX6_readHeir (S' := (79, [(1, .int (0 : Int32)), (0, .ref 1)], [.int (0 : Int32)], hp I299 F300)) rfl ⟨trivial, trivial⟩ ?_
          exact OK_ri okX6_readHeir rfl rfl (Or.inr ⟨rfl, Or.inl rfl⟩)
      · refine OK_st 1 okX6_readHeir (S' := (44, [(0, .ref 1)], [.ref 1], hp I294 F295)) rfl ⟨trivial, trivial⟩ ?_
        refine OK_cv [] [] okX6_readHeir okX6_isUnlike rfl rfl cl_RX6_99 rfl rfl (Nat.le_of_ble_eq_true rfl) (by decide) (Nat.le_of_ble_eq_true rfl) (kf_X6_isUnlike I294 F295) (fun r301 I302 F303 => ?_)
        refine OK_st 1 okX6_readHeir (S' := ((if r301 = 0 then 61 else 50), [(0, .ref 1)], [], hp I302 F303)) rfl ⟨trivial, trivial⟩ ?_
        refine OK_if (fun h304 => ?_) (fun h304 => ?_)
        · refine OK_st 4 okX6_readHeir (S' := ((if (0 : Int32) = 0 then 78 else 67), [(1, .int (0 : Int32)), (0, .ref 1)], [], hp I302 F303)) rfl ⟨trivial, (by decide), trivial, trivial, trivial⟩ ?_
          refine OK_if (fun h305 => ?_) (fun h305 => ?_)
          · refine OK_st 1 okX6_readHeir (S' := (79, [(1, .int (0 : Int32)), (0, .ref 1)], [.int (0 : Int32)], hp I302 F303)) rfl ⟨trivial, trivial⟩ ?_
            exact OK_ri okX6_readHeir rfl rfl (Or.inr ⟨rfl, Or.inl rfl⟩)
          · refine OK_st 4 okX6_readHeir (S' := (75, [(1, .int (0 : Int32)), (0, .ref 1)], [.ref 15, .ref 4], hp I302 F303)) rfl ⟨trivial, trivial, trivial, trivial, trivial⟩ ?_
            refine OK_cv [.ref 15] [] okX6_readHeir okX5_addHeir rfl rfl cl_RX6_108 rfl rfl (Nat.le_of_ble_eq_true rfl) (by decide) (Nat.le_of_ble_eq_true rfl) (kf_X5_addHeir I302 F303) (fun r306 I307 F308 => ?_)
            refine OK_st 1 okX6_readHeir (S' := (79, [(1, .int (0 : Int32)), (0, .ref 1)], [.int (0 : Int32)], hp I307 F308)) rfl ⟨trivial, trivial⟩ ?_
            exact OK_ri okX6_readHeir rfl rfl (Or.inr ⟨rfl, Or.inl rfl⟩)
        · refine OK_st 1 okX6_readHeir (S' := (51, [(0, .ref 1)], [.ref 1], hp I302 F303)) rfl ⟨trivial, trivial⟩ ?_
          refine OK_cv [] [] okX6_readHeir okX6_readClose rfl rfl cl_RX6_89 rfl rfl (Nat.le_of_ble_eq_true rfl) (by decide) (Nat.le_of_ble_eq_true rfl) (kf_X6_readClose I302 F303) (fun r309 I310 F311 => ?_)
          refine OK_st 1 okX6_readHeir (S' := ((if r309 = 0 then 61 else 57), [(0, .ref 1)], [], hp I310 F311)) rfl ⟨trivial, trivial⟩ ?_
          refine OK_if (fun h312 => ?_) (fun h312 => ?_)
          · refine OK_st 4 okX6_readHeir (S' := ((if (0 : Int32) = 0 then 78 else 67), [(1, .int (0 : Int32)), (0, .ref 1)], [], hp I310 F311)) rfl ⟨trivial, (by decide), trivial, trivial, trivial⟩ ?_
            refine OK_if (fun h313 => ?_) (fun h313 => ?_)
            · refine OK_st 1 okX6_readHeir (S' := (79, [(1, .int (0 : Int32)), (0, .ref 1)], [.int (0 : Int32)], hp I310 F311)) rfl ⟨trivial, trivial⟩ ?_
              exact OK_ri okX6_readHeir rfl rfl (Or.inr ⟨rfl, Or.inl rfl⟩)
            · refine OK_st 4 okX6_readHeir (S' := (75, [(1, .int (0 : Int32)), (0, .ref 1)], [.ref 15, .ref 4], hp I310 F311)) rfl ⟨trivial, trivial, trivial, trivial, trivial⟩ ?_
              refine OK_cv [.ref 15] [] okX6_readHeir okX5_addHeir rfl rfl cl_RX6_108 rfl rfl (Nat.le_of_ble_eq_true rfl) (by decide) (Nat.le_of_ble_eq_true rfl) (kf_X5_addHeir I310 F311) (fun r314 I315 F316 => ?_)
              refine OK_st 1 okX6_readHeir (S' := (79, [(1, .int (0 : Int32)), (0, .ref 1)], [.int (0 : Int32)], hp I315 F316)) rfl ⟨trivial, trivial⟩ ?_
              exact OK_ri okX6_readHeir rfl rfl (Or.inr ⟨rfl, Or.inl rfl⟩)
          · refine OK_st 5 okX6_readHeir (S' := ((if (1 : Int32) = 0 then 78 else 67), [(1, .int (1 : Int32)), (0, .ref 1)], [], hp I310 F311)) rfl ⟨trivial, trivial, (by decide), trivial, trivial, trivial⟩ ?_
            refine OK_if (fun h317 => ?_) (fun h317 => ?_)
            · refine OK_st 1 okX6_readHeir (S' := (79, [(1, .int (1 : Int32)), (0, .ref 1)], [.int (1 : Int32)], hp I310 F311)) rfl ⟨trivial, trivial⟩ ?_
              exact OK_ri okX6_readHeir rfl rfl (Or.inr ⟨rfl, Or.inr rfl⟩)
            · refine OK_st 4 okX6_readHeir (S' := (75, [(1, .int (1 : Int32)), (0, .ref 1)], [.ref 15, .ref 4], hp I310 F311)) rfl ⟨trivial, trivial, trivial, trivial, trivial⟩ ?_
              refine OK_cv [.ref 15] [] okX6_readHeir okX5_addHeir rfl rfl cl_RX6_108 rfl rfl (Nat.le_of_ble_eq_true rfl) (by decide) (Nat.le_of_ble_eq_true rfl) (kf_X5_addHeir I310 F311) (fun r318 I319 F320 => ?_)
              refine OK_st 1 okX6_readHeir (S' := (79, [(1, .int (1 : Int32)), (0, .ref 1)], [.int (1 : Int32)], hp I319 F320)) rfl ⟨trivial, trivial⟩ ?_
              exact OK_ri okX6_readHeir rfl rfl (Or.inr ⟨rfl, Or.inr rfl⟩)
