/-! methods as functions (by program) -/
def f_X8_paidOf (v1 : Int32) (I : AI) (F : AF) : AQ :=
  bif ab_vin ((nI 12) + v1) 21 then
    some (((F 22) ((nI 12) + v1).toNatClampNeg), I, F)
  else none
set_option maxRecDepth 20000 in
set_option maxHeartbeats 4000000 in
theorem kf_X8_paidOf (v1 : Int32) (I : AI) (F : AF) : OK 0 mX8_paidOf true (f_X8_paidOf v1 I F) (0, [(0, .ref 27), (1, .int v1)], [], hp I F) := by
  rw [f_X8_paidOf]
  refine OK_gd (fun g510 => ?_)
  refine OK_st 6 okX8_paidOf (S' := (9, [(0, .ref 27), (1, .int v1)], [.int ((F 22) ((nI 12) + v1).toNatClampNeg)], hp I F)) rfl ⟨trivial, trivial, trivial, trivial, trivial, (ab_vo g510), trivial⟩ ?_
  exact OK_ri okX8_paidOf rfl rfl (Or.inl rfl)

def f_X9_contract (v1 : Int32) (v2 : Int32) (I : AI) (F : AF) : AQ :=
  ab_bd (f_X5_hasContract v1 I F) (fun r499 I500 F501 =>
    if ¬ r499 = 0 then
      if v2 = (0 : Int32) then
        bif ab_vin v1 6 then
          some (((F501 15) v1.toNatClampNeg), I500, F501)
        else none
      else if v2 = (1 : Int32) then
        bif ab_vin v1 6 then
          some (((F501 16) v1.toNatClampNeg), I500, F501)
        else none
      else if v2 = (nI 2) then
        bif ab_vin v1 6 then
          some (((F501 17) v1.toNatClampNeg), I500, F501)
        else none
      else if v2 = (nI 3) then
        ab_bd (f_X8_paidOf v1 I500 F501) (fun r511 I512 F513 =>
          some (r511, I512, F513))
      else 
        some ((-1000000002 : Int32), I500, F501)
    else
      some ((-1000000001 : Int32), I500, F501))
set_option maxRecDepth 20000 in
set_option maxHeartbeats 4000000 in
theorem kf_X9_contract (v1 : Int32) (v2 : Int32) (I : AI) (F : AF) : OK 1 mX9_contract true (f_X9_contract v1 v2 I F) (0, [(0, .ref 0), (1, .int v1), (2, .int v2)], [], hp I F) := by
  rw [f_X9_contract]
  refine OK_st 3 okX9_contract (S' := (5, [(0, .ref 0), (1, .int v1), (2, .int v2)], [.int v1, .ref 16], hp I F)) rfl ⟨trivial, trivial, trivial, trivial⟩ ?_
  refine OK_cv [.int v1] [] okX9_contract okX5_hasContract rfl rfl cl_RX9_177 rfl rfl (Nat.le_of_ble_eq_true rfl) (by decide) (Nat.le_of_ble_eq_true rfl) (kf_X5_hasContract v1 I F) (fun r499 I500 F501 => ?_)
  refine OK_st 1 okX9_contract (S' := ((if ¬ r499 = 0 then 14 else 11), [(0, .ref 0), (1, .int v1), (2, .int v2)], [], hp I500 F501)) rfl ⟨trivial, trivial⟩ ?_
  refine OK_if (fun h502 => ?_) (fun h502 => ?_)
  · refine OK_st 1 okX9_contract (S' := (15, [(0, .ref 0), (1, .int v1), (2, .int v2)], [.int v2], hp I500 F501)) rfl ⟨trivial, trivial⟩ ?_
    refine OK_ci (fun h503 => ?_) (fun h503 => ?_)
    · subst h503
      refine OK_st 1 okX9_contract (S' := (44, [(0, .ref 0), (1, .int v1), (2, .int (0 : Int32))], [], hp I500 F501)) rfl ⟨trivial, trivial⟩ ?_
      refine OK_gd (fun g504 => ?_)
      refine OK_st 5 okX9_contract (S' := (53, [(0, .ref 0), (1, .int v1), (2, .int (0 : Int32))], [.int ((F501 15) v1.toNatClampNeg)], hp I500 F501)) rfl ⟨trivial, trivial, trivial, trivial, (ab_vo g504), trivial⟩ ?_
      exact OK_ri okX9_contract rfl rfl (Or.inl rfl)
    · skip
      refine OK_ci (fun h505 => ?_) (fun h505 => ?_)
      · subst h505
        refine OK_st 1 okX9_contract (S' := (54, [(0, .ref 0), (1, .int v1), (2, .int (1 : Int32))], [], hp I500 F501)) rfl ⟨trivial, trivial⟩ ?_
        refine OK_gd (fun g506 => ?_)
        refine OK_st 5 okX9_contract (S' := (63, [(0, .ref 0), (1, .int v1), (2, .int (1 : Int32))], [.int ((F501 16) v1.toNatClampNeg)], hp I500 F501)) rfl ⟨trivial, trivial, trivial, trivial, (ab_vo g506), trivial⟩ ?_
        exact OK_ri okX9_contract rfl rfl (Or.inl rfl)
      · skip
        refine OK_ci (fun h507 => ?_) (fun h507 => ?_)
        · subst h507
          refine OK_st 1 okX9_contract (S' := (64, [(0, .ref 0), (1, .int v1), (2, .int (nI 2))], [], hp I500 F501)) rfl ⟨trivial, trivial⟩ ?_
          refine OK_gd (fun g508 => ?_)
          refine OK_st 5 okX9_contract (S' := (73, [(0, .ref 0), (1, .int v1), (2, .int (nI 2))], [.int ((F501 17) v1.toNatClampNeg)], hp I500 F501)) rfl ⟨trivial, trivial, trivial, trivial, (ab_vo g508), trivial⟩ ?_
          exact OK_ri okX9_contract rfl rfl (Or.inl rfl)
        · skip
          refine OK_ci (fun h509 => ?_) (fun h509 => ?_)
          · subst h509
            refine OK_st 1 okX9_contract (S' := (74, [(0, .ref 0), (1, .int v1), (2, .int (nI 3))], [], hp I500 F501)) rfl ⟨trivial, trivial⟩ ?_
            refine OK_st 3 okX9_contract (S' := (79, [(0, .ref 0), (1, .int v1), (2, .int (nI 3))], [.int v1, .ref 27], hp I500 F501)) rfl ⟨trivial, trivial, trivial, trivial⟩ ?_
            refine OK_cv [.int v1] [] okX9_contract okX8_paidOf rfl rfl cl_RX9_189 rfl rfl (Nat.le_of_ble_eq_true rfl) (by decide) (Nat.le_of_ble_eq_true rfl) (kf_X8_paidOf v1 I500 F501) (fun r511 I512 F513 => ?_)
            exact OK_ri okX9_contract rfl rfl (Or.inl rfl)
          · skip
            refine OK_st 1 okX9_contract (S' := (ab_tsw 15 68 0 3 #[29, 39, 49, 59] v2, [(0, .ref 0), (1, .int v1), (2, .int v2)], [], hp I500 F501)) rfl ⟨trivial, trivial⟩ ?_
            refine OK_pc (pc' := 83) (if_pos (by
              have qh503 := lv_neT h503 (show (0 : Int32).toInt = 0 from rfl)
              have qh505 := lv_neT h505 (show (1 : Int32).toInt = 1 from rfl)
              have qh507 := lv_neT h507 (show (2 : Int32).toInt = 2 from rfl)
              have qh509 := lv_neT h509 (show (3 : Int32).toInt = 3 from rfl)
              omega)) ?_
            refine OK_st 1 okX9_contract (S' := (85, [(0, .ref 0), (1, .int v1), (2, .int v2)], [.int (-1000000002 : Int32)], hp I500 F501)) rfl ⟨trivial, trivial⟩ ?_
            exact OK_ri okX9_contract rfl rfl (Or.inl rfl)
  · refine OK_st 1 okX9_contract (S' := (13, [(0, .ref 0), (1, .int v1), (2, .int v2)], [.int (-1000000001 : Int32)], hp I500 F501)) rfl ⟨trivial, trivial⟩ ?_
    exact OK_ri okX9_contract rfl rfl (Or.inl rfl)

def f_X5_hasRate (v1 : Int32) (I : AI) (F : AF) : AQ :=
  if v1 < 0 then
    some ((0 : Int32), I, F)
  else
    if (I 11) ≤ v1 then
      some ((0 : Int32), I, F)
    else
      some ((1 : Int32), I, F)
set_option maxRecDepth 20000 in
set_option maxHeartbeats 4000000 in
theorem kf_X5_hasRate (v1 : Int32) (I : AI) (F : AF) : OK 0 mX5_hasRate true (f_X5_hasRate v1 I F) (0, [(0, .ref 16), (1, .int v1)], [], hp I F) := by
  rw [f_X5_hasRate]
  refine OK_st 2 okX5_hasRate (S' := ((if v1 < 0 then 16 else 4), [(0, .ref 16), (1, .int v1)], [], hp I F)) rfl ⟨trivial, trivial, trivial⟩ ?_
  refine OK_if (fun h514 => ?_) (fun h514 => ?_)
  · refine OK_st 1 okX5_hasRate (S' := (17, [(0, .ref 16), (1, .int v1)], [.int (0 : Int32)], hp I F)) rfl ⟨trivial, trivial⟩ ?_
    exact OK_ri okX5_hasRate rfl rfl (Or.inr ⟨rfl, Or.inl rfl⟩)
  · refine OK_st 4 okX5_hasRate (S' := ((if (I 11) ≤ v1 then 16 else 12), [(0, .ref 16), (1, .int v1)], [], hp I F)) rfl ⟨trivial, trivial, trivial, trivial, trivial⟩ ?_
    refine OK_if (fun h515 => ?_) (fun h515 => ?_)
    · refine OK_st 1 okX5_hasRate (S' := (17, [(0, .ref 16), (1, .int v1)], [.int (0 : Int32)], hp I F)) rfl ⟨trivial, trivial⟩ ?_
      exact OK_ri okX5_hasRate rfl rfl (Or.inr ⟨rfl, Or.inl rfl⟩)
    · refine OK_st 2 okX5_hasRate (S' := (17, [(0, .ref 16), (1, .int v1)], [.int (1 : Int32)], hp I F)) rfl ⟨trivial, trivial, trivial⟩ ?_
      exact OK_ri okX5_hasRate rfl rfl (Or.inr ⟨rfl, Or.inr rfl⟩)

def f_X9_rate (v1 : Int32) (v2 : Int32) (I : AI) (F : AF) : AQ :=
  ab_bd (f_X5_hasRate v1 I F) (fun r516 I517 F518 =>
    if ¬ r516 = 0 then
      if v2 = (0 : Int32) then
        bif ab_vin v1 8 then
          some (((F518 18) v1.toNatClampNeg), I517, F518)
        else none
      else if v2 = (1 : Int32) then
        bif ab_vin v1 8 then
          some (((F518 19) v1.toNatClampNeg), I517, F518)
        else none
      else if v2 = (nI 2) then
        bif ab_vin v1 8 then
          some (((F518 20) v1.toNatClampNeg), I517, F518)
        else none
      else if v2 = (nI 3) then
        bif ab_vin v1 8 then
          some (((F518 21) v1.toNatClampNeg), I517, F518)
        else none
      else 
        some ((-1000000002 : Int32), I517, F518)
    else
      some ((-1000000001 : Int32), I517, F518))
set_option maxRecDepth 20000 in
set_option maxHeartbeats 4000000 in
theorem kf_X9_rate (v1 : Int32) (v2 : Int32) (I : AI) (F : AF) : OK 1 mX9_rate true (f_X9_rate v1 v2 I F) (0, [(0, .ref 0), (1, .int v1), (2, .int v2)], [], hp I F) := by
  rw [f_X9_rate]
  refine OK_st 3 okX9_rate (S' := (5, [(0, .ref 0), (1, .int v1), (2, .int v2)], [.int v1, .ref 16], hp I F)) rfl ⟨trivial, trivial, trivial, trivial⟩ ?_
  refine OK_cv [.int v1] [] okX9_rate okX5_hasRate rfl rfl cl_RX9_192 rfl rfl (Nat.le_of_ble_eq_true rfl) (by decide) (Nat.le_of_ble_eq_true rfl) (kf_X5_hasRate v1 I F) (fun r516 I517 F518 => ?_)
  refine OK_st 1 okX9_rate (S' := ((if ¬ r516 = 0 then 14 else 11), [(0, .ref 0), (1, .int v1), (2, .int v2)], [], hp I517 F518)) rfl ⟨trivial, trivial⟩ ?_
  refine OK_if (fun h519 => ?_) (fun h519 => ?_)
  · refine OK_st 1 okX9_rate (S' := (15, [(0, .ref 0), (1, .int v1), (2, .int v2)], [.int v2], hp I517 F518)) rfl ⟨trivial, trivial⟩ ?_
    refine OK_ci (fun h520 => ?_) (fun h520 => ?_)
    · subst h520
      refine OK_st 1 okX9_rate (S' := (44, [(0, .ref 0), (1, .int v1), (2, .int (0 : Int32))], [], hp I517 F518)) rfl ⟨trivial, trivial⟩ ?_
      refine OK_gd (fun g521 => ?_)
      refine OK_st 5 okX9_rate (S' := (53, [(0, .ref 0), (1, .int v1), (2, .int (0 : Int32))], [.int ((F518 18) v1.toNatClampNeg)], hp I517 F518)) rfl ⟨trivial, trivial, trivial, trivial, (ab_vo g521), trivial⟩ ?_
      exact OK_ri okX9_rate rfl rfl (Or.inl rfl)
    · skip
      refine OK_ci (fun h522 => ?_) (fun h522 => ?_)
      · subst h522
        refine OK_st 1 okX9_rate (S' := (54, [(0, .ref 0), (1, .int v1), (2, .int (1 : Int32))], [], hp I517 F518)) rfl ⟨trivial, trivial⟩ ?_
        refine OK_gd (fun g523 => ?_)
        refine OK_st 5 okX9_rate (S' := (63, [(0, .ref 0), (1, .int v1), (2, .int (1 : Int32))], [.int ((F518 19) v1.toNatClampNeg)], hp I517 F518)) rfl ⟨trivial, trivial, trivial, trivial, (ab_vo g523), trivial⟩ ?_
        exact OK_ri okX9_rate rfl rfl (Or.inl rfl)
      · skip
        refine OK_ci (fun h524 => ?_) (fun h524 => ?_)
        · subst h524
          refine OK_st 1 okX9_rate (S' := (64, [(0, .ref 0), (1, .int v1), (2, .int (nI 2))], [], hp I517 F518)) rfl ⟨trivial, trivial⟩ ?_
          refine OK_gd (fun g525 => ?_)
          refine OK_st 5 okX9_rate (S' := (73, [(0, .ref 0), (1, .int v1), (2, .int (nI 2))], [.int ((F518 20) v1.toNatClampNeg)], hp I517 F518)) rfl ⟨trivial, trivial, trivial, trivial, (ab_vo g525), trivial⟩ ?_
          exact OK_ri okX9_rate rfl rfl (Or.inl rfl)
        · skip
          refine OK_ci (fun h526 => ?_) (fun h526 => ?_)
          · subst h526
            refine OK_st 1 okX9_rate (S' := (74, [(0, .ref 0), (1, .int v1), (2, .int (nI 3))], [], hp I517 F518)) rfl ⟨trivial, trivial⟩ ?_
            refine OK_gd (fun g527 => ?_)
            refine OK_st 5 okX9_rate (S' := (83, [(0, .ref 0), (1, .int v1), (2, .int (nI 3))], [.int ((F518 21) v1.toNatClampNeg)], hp I517 F518)) rfl ⟨trivial, trivial, trivial, trivial, (ab_vo g527), trivial⟩ ?_
            exact OK_ri okX9_rate rfl rfl (Or.inl rfl)
          · skip
            refine OK_st 1 okX9_rate (S' := (ab_tsw 15 69 0 3 #[29, 39, 49, 59] v2, [(0, .ref 0), (1, .int v1), (2, .int v2)], [], hp I517 F518)) rfl ⟨trivial, trivial⟩ ?_
            refine OK_pc (pc' := 84) (if_pos (by
              have qh520 := lv_neT h520 (show (0 : Int32).toInt = 0 from rfl)
              have qh522 := lv_neT h522 (show (1 : Int32).toInt = 1 from rfl)
              have qh524 := lv_neT h524 (show (2 : Int32).toInt = 2 from rfl)
              have qh526 := lv_neT h526 (show (3 : Int32).toInt = 3 from rfl)
              omega)) ?_
            refine OK_st 1 okX9_rate (S' := (86, [(0, .ref 0), (1, .int v1), (2, .int v2)], [.int (-1000000002 : Int32)], hp I517 F518)) rfl ⟨trivial, trivial⟩ ?_
            exact OK_ri okX9_rate rfl rfl (Or.inl rfl)
  · refine OK_st 1 okX9_rate (S' := (13, [(0, .ref 0), (1, .int v1), (2, .int v2)], [.int (-1000000001 : Int32)], hp I517 F518)) rfl ⟨trivial, trivial⟩ ?_
    exact OK_ri okX9_rate rfl rfl (Or.inl rfl)

def f_X9_refusalOfSeasons (v1 : Int32) (I : AI) (F : AF) : AQ :=
  if v1 < (1 : Int32) then
    some ((-1000000002 : Int32), I, F)
  else
    if v1 ≤ (nI 40) then
      if ¬ (I 9) = 0 then
        ab_bd (f_X8_seasons I F) (fun r531 I532 F533 =>
          if r531 ≤ (nI 9000) then
            some ((0 : Int32), I532, F533)
          else
            some ((-1000000004 : Int32), I532, F533))
      else
        some ((-1000000003 : Int32), I, F)
    else
      some ((-1000000002 : Int32), I, F)
set_option maxRecDepth 20000 in
set_option maxHeartbeats 4000000 in
theorem kf_X9_refusalOfSeasons (v1 : Int32) (I : AI) (F : AF) : OK 1 mX9_refusalOfSeasons true (f_X9_refusalOfSeasons v1 I F) (0, [(0, .ref 0), (1, .int v1)], [], hp I F) := by
  rw [f_X9_refusalOfSeasons]
  refine OK_st 3 okX9_refusalOfSeasons (S' := ((if v1 < (1 : Int32) then 11 else 5), [(0, .ref 0), (1, .int v1)], [], hp I F)) rfl ⟨trivial, trivial, trivial, trivial⟩ ?_
  refine OK_if (fun h528 => ?_) (fun h528 => ?_)
  · refine OK_st 1 okX9_refusalOfSeasons (S' := (13, [(0, .ref 0), (1, .int v1)], [.int (-1000000002 : Int32)], hp I F)) rfl ⟨trivial, trivial⟩ ?_
    exact OK_ri okX9_refusalOfSeasons rfl rfl (Or.inl rfl)
  · refine OK_st 3 okX9_refusalOfSeasons (S' := ((if v1 ≤ (nI 40) then 14 else 11), [(0, .ref 0), (1, .int v1)], [], hp I F)) rfl ⟨trivial, trivial, trivial, trivial⟩ ?_
    refine OK_if (fun h529 => ?_) (fun h529 => ?_)
    · refine OK_st 4 okX9_refusalOfSeasons (S' := ((if ¬ (I 9) = 0 then 27 else 24), [(0, .ref 0), (1, .int v1)], [], hp I F)) rfl ⟨trivial, trivial, trivial, trivial, trivial⟩ ?_
      refine OK_if (fun h530 => ?_) (fun h530 => ?_)
      · refine OK_st 2 okX9_refusalOfSeasons (S' := (31, [(0, .ref 0), (1, .int v1)], [.ref 27], hp I F)) rfl ⟨trivial, trivial, trivial⟩ ?_
        refine OK_cv [] [] okX9_refusalOfSeasons okX8_seasons rfl rfl cl_RX9_126 rfl rfl (Nat.le_of_ble_eq_true rfl) (by decide) (Nat.le_of_ble_eq_true rfl) (kf_X8_seasons I F) (fun r531 I532 F533 => ?_)
        refine OK_st 2 okX9_refusalOfSeasons (S' := ((if r531 ≤ (nI 9000) then 45 else 40), [(0, .ref 0), (1, .int v1)], [], hp I532 F533)) rfl ⟨trivial, trivial, trivial⟩ ?_
        refine OK_if (fun h534 => ?_) (fun h534 => ?_)
        · refine OK_st 1 okX9_refusalOfSeasons (S' := (46, [(0, .ref 0), (1, .int v1)], [.int (0 : Int32)], hp I532 F533)) rfl ⟨trivial, trivial⟩ ?_
          exact OK_ri okX9_refusalOfSeasons rfl rfl (Or.inl rfl)
        · refine OK_st 2 okX9_refusalOfSeasons (S' := (46, [(0, .ref 0), (1, .int v1)], [.int (-1000000004 : Int32)], hp I532 F533)) rfl ⟨trivial, trivial, trivial⟩ ?_
          exact OK_ri okX9_refusalOfSeasons rfl rfl (Or.inl rfl)
      · refine OK_st 1 okX9_refusalOfSeasons (S' := (26, [(0, .ref 0), (1, .int v1)], [.int (-1000000003 : Int32)], hp I F)) rfl ⟨trivial, trivial⟩ ?_
        exact OK_ri okX9_refusalOfSeasons rfl rfl (Or.inl rfl)
    · refine OK_st 1 okX9_refusalOfSeasons (S' := (13, [(0, .ref 0), (1, .int v1)], [.int (-1000000002 : Int32)], hp I F)) rfl ⟨trivial, trivial⟩ ?_
      exact OK_ri okX9_refusalOfSeasons rfl rfl (Or.inl rfl)

def f_X4_latestPlace (I : AI) (F : AF) : AQ :=
  some ((((((I 12) + (I 13)) - (1 : Int32)) - (((I 12) + (I 13)) - (1 : Int32)) / (nI 20) * (nI 20)) * (nI 20)), I, F)
set_option maxRecDepth 20000 in
set_option maxHeartbeats 4000000 in
theorem kf_X4_latestPlace (I : AI) (F : AF) : OK 0 mX4_latestPlace true (f_X4_latestPlace I F) (0, [(0, .ref 29)], [], hp I F) := by
  rw [f_X4_latestPlace]
  refine OK_st 11 okX4_latestPlace (S' := (17, [(0, .ref 29)], [.int (((((I 12) + (I 13)) - (1 : Int32)) - (((I 12) + (I 13)) - (1 : Int32)) / (nI 20) * (nI 20)) * (nI 20))], hp I F)) rfl ⟨trivial, trivial, trivial, trivial, trivial, trivial, trivial, trivial, (by decide), trivial, trivial, trivial⟩ ?_
  exact OK_ri okX4_latestPlace rfl rfl (Or.inl rfl)

def f_X4_remember (I : AI) (F : AF) : AQ :=
  if ¬ (I 13) = (nI 20) then
    ab_lt (va_up I 13 ((I 13) + (1 : Int32))) (fun I540 =>
      ab_bd (f_X4_latestPlace I540 F) (fun r541 I542 F543 =>
        bif ab_cg (0 : Int32) r541 (nI 20) 21 400 then
          some (0, I542, (va_up F543 23 (va_cpy (F543 22) (F543 23) 0 r541.toNatClampNeg 20)))
        else none))
  else
    ab_lt (va_up I 12 (((I 12) + (1 : Int32)) - ((I 12) + (1 : Int32)) / (nI 20) * (nI 20))) (fun I545 =>
      ab_bd (f_X4_latestPlace I545 F) (fun r546 I547 F548 =>
        bif ab_cg (0 : Int32) r546 (nI 20) 21 400 then
          some (0, I547, (va_up F548 23 (va_cpy (F548 22) (F548 23) 0 r546.toNatClampNeg 20)))
        else none))
set_option maxRecDepth 20000 in
set_option maxHeartbeats 4000000 in
theorem kf_X4_remember (I : AI) (F : AF) : OK 1 mX4_remember false (f_X4_remember I F) (0, [(0, .ref 29), (1, .ref 27)], [], hp I F) := by
  rw [f_X4_remember]
  refine OK_st 4 okX4_remember (S' := ((if ¬ (I 13) = (nI 20) then 25 else 9), [(0, .ref 29), (1, .ref 27)], [], hp I F)) rfl ⟨trivial, trivial, trivial, trivial, trivial⟩ ?_
  refine OK_if (fun h539 => ?_) (fun h539 => ?_)
  · refine OK_st 12 okX4_remember (S' := (45, [(0, .ref 29), (1, .ref 27)], [.ref 29, .ref 30, .int (0 : Int32), .ref 28], hp (va_up I 13 ((I 13) + (1 : Int32))) F)) rfl ⟨trivial, rfl, trivial, trivial, trivial, trivial, trivial, trivial, trivial, trivial, trivial, trivial, trivial⟩ ?_
    refine OK_lt (fun I540 => (45, [(0, .ref 29), (1, .ref 27)], [.ref 29, .ref 30, .int (0 : Int32), .ref 28], hp I540 F)) (fun I540 => ?_)
    refine OK_cv [] [.ref 30, .int (0 : Int32), .ref 28] okX4_remember okX4_latestPlace rfl rfl cl_RX4_30 rfl rfl (Nat.le_of_ble_eq_true rfl) (by decide) (Nat.le_of_ble_eq_true rfl) (kf_X4_latestPlace I540 F) (fun r541 I542 F543 => ?_)
    refine OK_gd (fun g544 => ?_)
    refine OK_st 2 okX4_remember (S' := (53, [(0, .ref 29), (1, .ref 27)], [], hp I542 (va_up F543 23 (va_cpy (F543 22) (F543 23) 0 r541.toNatClampNeg 20)))) rfl ⟨trivial, ab_cgo g544 (Nat.le_of_ble_eq_true rfl), trivial⟩ ?_
    exact OK_rv okX4_remember rfl rfl rfl
  · refine OK_st 15 okX4_remember (S' := (45, [(0, .ref 29), (1, .ref 27)], [.ref 29, .ref 30, .int (0 : Int32), .ref 28], hp (va_up I 12 (((I 12) + (1 : Int32)) - ((I 12) + (1 : Int32)) / (nI 20) * (nI 20))) F)) rfl ⟨trivial, trivial, trivial, trivial, trivial, trivial, (by decide), trivial, trivial, trivial, trivial, trivial, trivial, trivial, trivial, trivial⟩ ?_
    refine OK_lt (fun I545 => (45, [(0, .ref 29), (1, .ref 27)], [.ref 29, .ref 30, .int (0 : Int32), .ref 28], hp I545 F)) (fun I545 => ?_)
    refine OK_cv [] [.ref 30, .int (0 : Int32), .ref 28] okX4_remember okX4_latestPlace rfl rfl cl_RX4_30 rfl rfl (Nat.le_of_ble_eq_true rfl) (by decide) (Nat.le_of_ble_eq_true rfl) (kf_X4_latestPlace I545 F) (fun r546 I547 F548 => ?_)
    refine OK_gd (fun g549 => ?_)
    refine OK_st 2 okX4_remember (S' := (53, [(0, .ref 29), (1, .ref 27)], [], hp I547 (va_up F548 23 (va_cpy (F548 22) (F548 23) 0 r546.toNatClampNeg 20)))) rfl ⟨trivial, ab_cgo g549 (Nat.le_of_ble_eq_true rfl), trivial⟩ ?_
    exact OK_rv okX4_remember rfl rfl rfl

def f_X8_payment (v2 : Int32) (v3 : Int32) (I : AI) (F : AF) : AQ :=
  bif ab_vin v2 6 then
    bif ab_vin v2 6 then
      ab_bd (f_X8_measure ((F 16) v2.toNatClampNeg) v3 I F) (fun r559 I560 F561 =>
        some ((((F 17) v2.toNatClampNeg) * r559), I560, F561))
    else none
  else none
set_option maxRecDepth 20000 in
set_option maxHeartbeats 4000000 in
theorem kf_X8_payment (v2 : Int32) (v3 : Int32) (I : AI) (F : AF) : OK 3 mX8_payment true (f_X8_payment v2 v3 I F) (0, [(0, .ref 27), (1, .ref 16), (2, .int v2), (3, .int v3)], [], hp I F) := by
  rw [f_X8_payment]
  refine OK_gd (fun g557 => ?_)
  refine OK_gd (fun g558 => ?_)
  refine OK_st 11 okX8_payment (S' := (15, [(0, .ref 27), (1, .ref 16), (2, .int v2), (3, .int v3)], [.int v3, .int ((F 16) v2.toNatClampNeg), .ref 16, .ref 27, .int ((F 17) v2.toNatClampNeg)], hp I F)) rfl ⟨trivial, trivial, trivial, (ab_vo g557), trivial, trivial, trivial, trivial, trivial, (ab_vo g558), trivial, trivial⟩ ?_
  refine OK_cv [.ref 16, .int ((F 16) v2.toNatClampNeg), .int v3] [.int ((F 17) v2.toNatClampNeg)] okX8_payment okX8_measure rfl rfl cl_RX8_50 rfl rfl (Nat.le_of_ble_eq_true rfl) (by decide) (Nat.le_of_ble_eq_true rfl) (kf_X8_measure ((F 16) v2.toNatClampNeg) v3 I F) (fun r559 I560 F561 => ?_)
  refine OK_st 1 okX8_payment (S' := (19, [(0, .ref 27), (1, .ref 16), (2, .int v2), (3, .int v3)], [.int (((F 17) v2.toNatClampNeg) * r559)], hp I560 F561)) rfl ⟨trivial, trivial⟩ ?_
  exact OK_ri okX8_payment rfl rfl (Or.inl rfl)

def f_X8_passSeason_2 (ko : Int32 → AI → AF → AQ) : Nat → Int32 → AI → AF → AQ
  | 0, _, _, _ => none
  | n + 1, v2, I, F =>
    if (I 10) ≤ v2 then
      ko v2 I F
    else
      bif ab_vin v2 6 then
        if ¬ ((F 15) v2.toNatClampNeg) = ((F 22) 19) then
          f_X8_passSeason_2 ko n (v2 + (1 : Int32)) I F
        else
          ab_bd (f_X8_payment v2 ((F 22) 19) I F) (fun r562 I563 F564 =>
            bif ab_vin ((nI 12) + v2) 21 then
              ab_lt (va_up F564 22 (upd (F564 22) ((nI 12) + v2).toNatClampNeg r562)) (fun F566 =>
                f_X8_passSeason_2 ko n (v2 + (1 : Int32)) I563 F566)
            else none)
      else none
set_option maxRecDepth 20000 in
set_option maxHeartbeats 4000000 in
theorem kf_X8_passSeason_2 (ko : Int32 → AI → AF → AQ) (hko : ∀ v2 I F, OK 4 mX8_passSeason false (ko v2 I F) (54, [(0, .ref 27), (1, .ref 16), (2, .int v2)], [], hp I F)) : ∀ n v2 I F, OK 4 mX8_passSeason false (f_X8_passSeason_2 ko n v2 I F) (2, [(0, .ref 27), (1, .ref 16), (2, .int v2)], [], hp I F) := by
  intro n
  induction n with
  | zero =>
    intro v2 I F
    exact OK_no
  | succ n ih =>
    intro v2 I F
    rw [f_X8_passSeason_2]
    refine OK_st 4 okX8_passSeason (S' := ((if (I 10) ≤ v2 then 54 else 10), [(0, .ref 27), (1, .ref 16), (2, .int v2)], [], hp I F)) rfl ⟨trivial, trivial, trivial, trivial, trivial⟩ ?_
    refine OK_if (fun h554 => ?_) (fun h554 => ?_)
    · exact hko v2 I F
    · refine OK_gd (fun g555 => ?_)
      refine OK_st 9 okX8_passSeason (S' := ((if ¬ ((F 15) v2.toNatClampNeg) = ((F 22) 19) then 48 else 26), [(0, .ref 27), (1, .ref 16), (2, .int v2)], [], hp I F)) rfl ⟨trivial, trivial, trivial, (ab_vo g555), trivial, trivial, trivial, (ab_vo (by decide)), trivial, trivial⟩ ?_
      refine OK_if (fun h556 => ?_) (fun h556 => ?_)
      · refine OK_st 2 okX8_passSeason (S' := (2, [(2, .int (v2 + (1 : Int32))), (0, .ref 27), (1, .ref 16)], [], hp I F)) rfl ⟨(by decide), trivial, trivial⟩ ?_
        refine OK_pk [1, 2, 0] rfl ?_
        exact ih (v2 + (1 : Int32)) I F
      · refine OK_st 12 okX8_passSeason (S' := (44, [(0, .ref 27), (1, .ref 16), (2, .int v2)], [.int ((F 22) 19), .int v2, .ref 16, .ref 27, .int ((nI 12) + v2), .ref 28], hp I F)) rfl ⟨trivial, trivial, trivial, trivial, trivial, trivial, trivial, trivial, trivial, trivial, trivial, (ab_vo (by decide)), trivial⟩ ?_
        refine OK_cv [.ref 16, .int v2, .int ((F 22) 19)] [.int ((nI 12) + v2), .ref 28] okX8_passSeason okX8_payment rfl rfl cl_RX8_69 rfl rfl (Nat.le_of_ble_eq_true rfl) (by decide) (Nat.le_of_ble_eq_true rfl) (kf_X8_payment v2 ((F 22) 19) I F) (fun r562 I563 F564 => ?_)
        refine OK_gd (fun g565 => ?_)
        refine OK_st 3 okX8_passSeason (S' := (2, [(2, .int (v2 + (1 : Int32))), (0, .ref 27), (1, .ref 16)], [], hp I563 (va_up F564 22 (upd (F564 22) ((nI 12) + v2).toNatClampNeg r562)))) rfl ⟨(ab_vo g565), (by decide), trivial, trivial⟩ ?_
        refine OK_lt (fun F566 => (2, [(2, .int (v2 + (1 : Int32))), (0, .ref 27), (1, .ref 16)], [], hp I563 F566)) (fun F566 => ?_)
        refine OK_pk [1, 2, 0] rfl ?_
        exact ih (v2 + (1 : Int32)) I563 F566

def f_X8_passSeason (I : AI) (F : AF) : AQ :=
  f_X8_passSeason_2 (fun v2_567 I568 F569 =>
    some (0, I568, (va_up F569 22 (upd (F569 22) 19 (((F569 22) 19) + (1 : Int32)))))) ab_fu (0 : Int32) I F
set_option maxRecDepth 20000 in
set_option maxHeartbeats 4000000 in
theorem kf_X8_passSeason (I : AI) (F : AF) : OK 4 mX8_passSeason false (f_X8_passSeason I F) (0, [(0, .ref 27), (1, .ref 16)], [], hp I F) := by
  rw [f_X8_passSeason]
  refine OK_st 2 okX8_passSeason (S' := (2, [(2, .int (0 : Int32)), (0, .ref 27), (1, .ref 16)], [], hp I F)) rfl ⟨trivial, (by decide), trivial⟩ ?_
  refine OK_pk [1, 2, 0] rfl ?_
  refine kf_X8_passSeason_2 _ (fun v2_567 I568 F569 => ?_) ab_fu (0 : Int32) I F
  refine OK_st 8 okX8_passSeason (S' := (65, [(0, .ref 27), (1, .ref 16), (2, .int v2_567)], [], hp I568 (va_up F569 22 (upd (F569 22) 19 (((F569 22) 19) + (1 : Int32)))))) rfl ⟨trivial, trivial, trivial, ⟨rfl, rfl⟩, (ab_vo (by decide)), trivial, trivial, (ab_vo (by decide)), trivial⟩ ?_
  exact OK_rv okX8_passSeason rfl rfl rfl

def f_X9_season_25 (v1 : Int32) (ko : Int32 → AI → AF → AQ) : Nat → Int32 → AI → AF → AQ
  | 0, _, _, _ => none
  | n + 1, v3, I, F =>
    if v1 ≤ v3 then
      ko v3 I F
    else
      ab_bd (f_X8_passSeason I F) (fun r570 I571 F572 =>
        f_X9_season_25 v1 ko n (v3 + (1 : Int32)) I571 F572)
set_option maxRecDepth 20000 in
set_option maxHeartbeats 4000000 in
theorem kf_X9_season_25 (v1 : Int32) (ko : Int32 → AI → AF → AQ) (hko : ∀ v3 I F, OK 5 mX9_season true (ko v3 I F) (47, [(0, .ref 0), (1, .int v1), (3, .int v3)], [], hp I F)) : ∀ n v3 I F, OK 5 mX9_season true (f_X9_season_25 v1 ko n v3 I F) (25, [(0, .ref 0), (1, .int v1), (3, .int v3)], [], hp I F) := by
  intro n
  induction n with
  | zero =>
    intro v3 I F
    exact OK_no
  | succ n ih =>
    intro v3 I F
    rw [f_X9_season_25]
    refine OK_st 3 okX9_season (S' := ((if v1 ≤ v3 then 47 else 30), [(0, .ref 0), (1, .int v1), (3, .int v3)], [], hp I F)) rfl ⟨trivial, trivial, trivial, trivial⟩ ?_
    refine OK_if (fun h553 => ?_) (fun h553 => ?_)
    · exact hko v3 I F
    · refine OK_st 4 okX9_season (S' := (38, [(0, .ref 0), (1, .int v1), (3, .int v3)], [.ref 16, .ref 27], hp I F)) rfl ⟨trivial, trivial, trivial, trivial, trivial⟩ ?_
      refine OK_cv [.ref 16] [] okX9_season okX8_passSeason rfl rfl cl_RX9_214 rfl rfl (Nat.le_of_ble_eq_true rfl) (by decide) (Nat.le_of_ble_eq_true rfl) (kf_X8_passSeason I F) (fun r570 I571 F572 => ?_)
      refine OK_st 2 okX9_season (S' := (25, [(3, .int (v3 + (1 : Int32))), (0, .ref 0), (1, .int v1)], [], hp I571 F572)) rfl ⟨(by decide), trivial, trivial⟩ ?_
      refine OK_pk [1, 2, 0] rfl ?_
      exact ih (v3 + (1 : Int32)) I571 F572

def f_X9_season (v1 : Int32) (I : AI) (F : AF) : AQ :=
  ab_bd (f_X9_refusalOfSeasons v1 I F) (fun r535 I536 F537 =>
    if r535 = 0 then
      ab_bd (f_X4_remember I536 F537) (fun r550 I551 F552 =>
        f_X9_season_25 v1 (fun v3_573 I574 F575 =>
          ab_bd (f_X8_seasons I574 F575) (fun r576 I577 F578 =>
            some (r576, I577, F578))) ab_fu (0 : Int32) I551 F552)
    else
      some (r535, I536, F537))
set_option maxRecDepth 20000 in
set_option maxHeartbeats 4000000 in
theorem kf_X9_season (v1 : Int32) (I : AI) (F : AF) : OK 5 mX9_season true (f_X9_season v1 I F) (0, [(0, .ref 0), (1, .int v1)], [], hp I F) := by
  rw [f_X9_season]
  refine OK_st 2 okX9_season (S' := (2, [(0, .ref 0), (1, .int v1)], [.int v1, .ref 0], hp I F)) rfl ⟨trivial, trivial, trivial⟩ ?_
  refine OK_cv [.int v1] [] okX9_season okX9_refusalOfSeasons rfl rfl cl_RX9_207 rfl rfl (Nat.le_of_ble_eq_true rfl) (by decide) (Nat.le_of_ble_eq_true rfl) (kf_X9_refusalOfSeasons v1 I F) (fun r535 I536 F537 => ?_)
  refine OK_st 3 okX9_season (S' := ((if r535 = 0 then 12 else 10), [(2, .int r535), (0, .ref 0), (1, .int v1)], [], hp I536 F537)) rfl ⟨(by decide), trivial, trivial, trivial⟩ ?_
  refine OK_if (fun h538 => ?_) (fun h538 => ?_)
  · refine OK_st 4 okX9_season (S' := (20, [(2, .int r535), (0, .ref 0), (1, .int v1)], [.ref 27, .ref 29], hp I536 F537)) rfl ⟨trivial, trivial, trivial, trivial, trivial⟩ ?_
    refine OK_cv [.ref 27] [] okX9_season okX4_remember rfl rfl cl_RX9_210 rfl rfl (Nat.le_of_ble_eq_true rfl) (by decide) (Nat.le_of_ble_eq_true rfl) (kf_X4_remember I536 F537) (fun r550 I551 F552 => ?_)
    refine OK_st 2 okX9_season (S' := (25, [(3, .int (0 : Int32)), (2, .int r535), (0, .ref 0), (1, .int v1)], [], hp I551 F552)) rfl ⟨trivial, (by decide), trivial⟩ ?_
    refine OK_pk [2, 3, 0] rfl ?_
    refine kf_X9_season_25 v1 _ (fun v3_573 I574 F575 => ?_) ab_fu (0 : Int32) I551 F552
    refine OK_st 2 okX9_season (S' := (51, [(0, .ref 0), (1, .int v1), (3, .int v3_573)], [.ref 27], hp I574 F575)) rfl ⟨trivial, trivial, trivial⟩ ?_
    refine OK_cv [] [] okX9_season okX8_seasons rfl rfl cl_RX9_126 rfl rfl (Nat.le_of_ble_eq_true rfl) (by decide) (Nat.le_of_ble_eq_true rfl) (kf_X8_seasons I574 F575) (fun r576 I577 F578 => ?_)
    exact OK_ri okX9_season rfl rfl (Or.inl rfl)
  · refine OK_st 1 okX9_season (S' := (11, [(2, .int r535), (0, .ref 0), (1, .int v1)], [.int r535], hp I536 F537)) rfl ⟨trivial, trivial⟩ ?_
    exact OK_ri okX9_season rfl rfl (Or.inl rfl)

def f_X8_swell (v1 : Int32) (v2 : Int32) (I : AI) (F : AF) : AQ :=
  bif ab_vin ((0 : Int32) + v1) 21 then
    bif ab_vin ((0 : Int32) + v1) 21 then
      some (0, I, (va_up F 22 (upd (F 22) ((0 : Int32) + v1).toNatClampNeg (if (((F 22) ((0 : Int32) + v1).toNatClampNeg) + v2) < (nI 140) then (((F 22) ((0 : Int32) + v1).toNatClampNeg) + v2) else (nI 140)))))
    else none
  else none
set_option maxRecDepth 20000 in
set_option maxHeartbeats 4000000 in
theorem kf_X8_swell (v1 : Int32) (v2 : Int32) (I : AI) (F : AF) : OK 0 mX8_swell false (f_X8_swell v1 v2 I F) (0, [(0, .ref 27), (1, .int v1), (2, .int v2)], [], hp I F) := by
  rw [f_X8_swell]
  refine OK_gd (fun g592 => ?_)
  refine OK_gd (fun g593 => ?_)
  refine OK_st 16 okX8_swell (S' := (24, [(0, .ref 27), (1, .int v1), (2, .int v2)], [], hp I (va_up F 22 (upd (F 22) ((0 : Int32) + v1).toNatClampNeg (if (((F 22) ((0 : Int32) + v1).toNatClampNeg) + v2) < (nI 140) then (((F 22) ((0 : Int32) + v1).toNatClampNeg) + v2) else (nI 140)))))) rfl ⟨trivial, trivial, trivial, trivial, trivial, trivial, trivial, trivial, trivial, trivial, trivial, (ab_vo g592), trivial, trivial, (Nat.le_of_ble_eq_true rfl), (ab_vo g593), trivial⟩ ?_
  exact OK_rv okX8_swell rfl rfl rfl

def f_X9_gout (v1 : Int32) (v2 : Int32) (I : AI) (F : AF) : AQ :=
  ab_bd (f_X5_hasLimb v1 I F) (fun r579 I580 F581 =>
    if ¬ r579 = 0 then
      if v2 < (1 : Int32) then
        some ((-1000000002 : Int32), I580, F581)
      else
        if v2 ≤ (nI 20) then
          ab_bd (f_X8_lives v1 I580 F581) (fun r585 I586 F587 =>
            if ¬ r585 = 0 then
              ab_bd (f_X4_remember I586 F587) (fun r589 I590 F591 =>
                ab_bd (f_X8_swell v1 v2 I590 F591) (fun r594 I595 F596 =>
                  ab_bd (f_X8_lengthOf v1 I595 F596) (fun r597 I598 F599 =>
                    some (r597, I598, F599))))
            else
              some ((-1000000003 : Int32), I586, F587))
        else
          some ((-1000000002 : Int32), I580, F581)
    else
      some ((-1000000001 : Int32), I580, F581))
set_option maxRecDepth 20000 in
set_option maxHeartbeats 4000000 in
theorem kf_X9_gout (v1 : Int32) (v2 : Int32) (I : AI) (F : AF) : OK 2 mX9_gout true (f_X9_gout v1 v2 I F) (0, [(0, .ref 0), (1, .int v1), (2, .int v2)], [], hp I F) := by
  rw [f_X9_gout]
  refine OK_st 3 okX9_gout (S' := (5, [(0, .ref 0), (1, .int v1), (2, .int v2)], [.int v1, .ref 16], hp I F)) rfl ⟨trivial, trivial, trivial, trivial⟩ ?_
  refine OK_cv [.int v1] [] okX9_gout okX5_hasLimb rfl rfl cl_RX9_151 rfl rfl (Nat.le_of_ble_eq_true rfl) (by decide) (Nat.le_of_ble_eq_true rfl) (kf_X5_hasLimb v1 I F) (fun r579 I580 F581 => ?_)
  refine OK_st 1 okX9_gout (S' := ((if ¬ r579 = 0 then 14 else 11), [(0, .ref 0), (1, .int v1), (2, .int v2)], [], hp I580 F581)) rfl ⟨trivial, trivial⟩ ?_
  refine OK_if (fun h582 => ?_) (fun h582 => ?_)
  · refine OK_st 3 okX9_gout (S' := ((if v2 < (1 : Int32) then 25 else 19), [(0, .ref 0), (1, .int v1), (2, .int v2)], [], hp I580 F581)) rfl ⟨trivial, trivial, trivial, trivial⟩ ?_
    refine OK_if (fun h583 => ?_) (fun h583 => ?_)
    · refine OK_st 1 okX9_gout (S' := (27, [(0, .ref 0), (1, .int v1), (2, .int v2)], [.int (-1000000002 : Int32)], hp I580 F581)) rfl ⟨trivial, trivial⟩ ?_
      exact OK_ri okX9_gout rfl rfl (Or.inl rfl)
    · refine OK_st 3 okX9_gout (S' := ((if v2 ≤ (nI 20) then 28 else 25), [(0, .ref 0), (1, .int v1), (2, .int v2)], [], hp I580 F581)) rfl ⟨trivial, trivial, trivial, trivial⟩ ?_
      refine OK_if (fun h584 => ?_) (fun h584 => ?_)
      · refine OK_st 3 okX9_gout (S' := (33, [(0, .ref 0), (1, .int v1), (2, .int v2)], [.int v1, .ref 27], hp I580 F581)) rfl ⟨trivial, trivial, trivial, trivial⟩ ?_
        refine OK_cv [.int v1] [] okX9_gout okX8_lives rfl rfl cl_RX9_167 rfl rfl (Nat.le_of_ble_eq_true rfl) (by decide) (Nat.le_of_ble_eq_true rfl) (kf_X8_lives v1 I580 F581) (fun r585 I586 F587 => ?_)
        refine OK_st 1 okX9_gout (S' := ((if ¬ r585 = 0 then 42 else 39), [(0, .ref 0), (1, .int v1), (2, .int v2)], [], hp I586 F587)) rfl ⟨trivial, trivial⟩ ?_
        refine OK_if (fun h588 => ?_) (fun h588 => ?_)
        · refine OK_st 4 okX9_gout (S' := (50, [(0, .ref 0), (1, .int v1), (2, .int v2)], [.ref 27, .ref 29], hp I586 F587)) rfl ⟨trivial, trivial, trivial, trivial, trivial⟩ ?_
          refine OK_cv [.ref 27] [] okX9_gout okX4_remember rfl rfl cl_RX9_210 rfl rfl (Nat.le_of_ble_eq_true rfl) (by decide) (Nat.le_of_ble_eq_true rfl) (kf_X4_remember I586 F587) (fun r589 I590 F591 => ?_)
          refine OK_st 4 okX9_gout (S' := (59, [(0, .ref 0), (1, .int v1), (2, .int v2)], [.int v2, .int v1, .ref 27], hp I590 F591)) rfl ⟨trivial, trivial, trivial, trivial, trivial⟩ ?_
          refine OK_cv [.int v1, .int v2] [] okX9_gout okX8_swell rfl rfl cl_RX9_218 rfl rfl (Nat.le_of_ble_eq_true rfl) (by decide) (Nat.le_of_ble_eq_true rfl) (kf_X8_swell v1 v2 I590 F591) (fun r594 I595 F596 => ?_)
          refine OK_st 3 okX9_gout (S' := (67, [(0, .ref 0), (1, .int v1), (2, .int v2)], [.int v1, .ref 27], hp I595 F596)) rfl ⟨trivial, trivial, trivial, trivial⟩ ?_
          refine OK_cv [.int v1] [] okX9_gout okX8_lengthOf rfl rfl cl_RX9_156 rfl rfl (Nat.le_of_ble_eq_true rfl) (by decide) (Nat.le_of_ble_eq_true rfl) (kf_X8_lengthOf v1 I595 F596) (fun r597 I598 F599 => ?_)
          exact OK_ri okX9_gout rfl rfl (Or.inl rfl)
        · refine OK_st 1 okX9_gout (S' := (41, [(0, .ref 0), (1, .int v1), (2, .int v2)], [.int (-1000000003 : Int32)], hp I586 F587)) rfl ⟨trivial, trivial⟩ ?_
          exact OK_ri okX9_gout rfl rfl (Or.inl rfl)
      · refine OK_st 1 okX9_gout (S' := (27, [(0, .ref 0), (1, .int v1), (2, .int v2)], [.int (-1000000002 : Int32)], hp I580 F581)) rfl ⟨trivial, trivial⟩ ?_
        exact OK_ri okX9_gout rfl rfl (Or.inl rfl)
  · refine OK_st 1 okX9_gout (S' := (13, [(0, .ref 0), (1, .int v1), (2, .int v2)], [.int (-1000000001 : Int32)], hp I580 F581)) rfl ⟨trivial, trivial⟩ ?_
    exact OK_ri okX9_gout rfl rfl (Or.inl rfl)

def f_X9_refusalOfLiving (v1 : Int32) (I : AI) (F : AF) : AQ :=
  ab_bd (f_X5_hasLimb v1 I F) (fun r600 I601 F602 =>
    if ¬ r600 = 0 then
      ab_bd (f_X8_lives v1 I601 F602) (fun r604 I605 F606 =>
        if r604 = 0 then
          some ((-1000000003 : Int32), I605, F606)
        else
          some ((0 : Int32), I605, F606))
    else
      some ((-1000000001 : Int32), I601, F602))
set_option maxRecDepth 20000 in
set_option maxHeartbeats 4000000 in
theorem kf_X9_refusalOfLiving (v1 : Int32) (I : AI) (F : AF) : OK 1 mX9_refusalOfLiving true (f_X9_refusalOfLiving v1 I F) (0, [(0, .ref 0), (1, .int v1)], [], hp I F) := by
  rw [f_X9_refusalOfLiving]
  refine OK_st 3 okX9_refusalOfLiving (S' := (5, [(0, .ref 0), (1, .int v1)], [.int v1, .ref 16], hp I F)) rfl ⟨trivial, trivial, trivial, trivial⟩ ?_
  refine OK_cv [.int v1] [] okX9_refusalOfLiving okX5_hasLimb rfl rfl cl_RX9_151 rfl rfl (Nat.le_of_ble_eq_true rfl) (by decide) (Nat.le_of_ble_eq_true rfl) (kf_X5_hasLimb v1 I F) (fun r600 I601 F602 => ?_)
  refine OK_st 1 okX9_refusalOfLiving (S' := ((if ¬ r600 = 0 then 14 else 11), [(0, .ref 0), (1, .int v1)], [], hp I601 F602)) rfl ⟨trivial, trivial⟩ ?_
  refine OK_if (fun h603 => ?_) (fun h603 => ?_)
  · refine OK_st 3 okX9_refusalOfLiving (S' := (19, [(0, .ref 0), (1, .int v1)], [.int v1, .ref 27], hp I601 F602)) rfl ⟨trivial, trivial, trivial, trivial⟩ ?_
    refine OK_cv [.int v1] [] okX9_refusalOfLiving okX8_lives rfl rfl cl_RX9_167 rfl rfl (Nat.le_of_ble_eq_true rfl) (by decide) (Nat.le_of_ble_eq_true rfl) (kf_X8_lives v1 I601 F602) (fun r604 I605 F606 => ?_)
    refine OK_st 1 okX9_refusalOfLiving (S' := ((if r604 = 0 then 29 else 25), [(0, .ref 0), (1, .int v1)], [], hp I605 F606)) rfl ⟨trivial, trivial⟩ ?_
    refine OK_if (fun h607 => ?_) (fun h607 => ?_)
    · refine OK_st 1 okX9_refusalOfLiving (S' := (31, [(0, .ref 0), (1, .int v1)], [.int (-1000000003 : Int32)], hp I605 F606)) rfl ⟨trivial, trivial⟩ ?_
      exact OK_ri okX9_refusalOfLiving rfl rfl (Or.inl rfl)
    · refine OK_st 2 okX9_refusalOfLiving (S' := (31, [(0, .ref 0), (1, .int v1)], [.int (0 : Int32)], hp I605 F606)) rfl ⟨trivial, trivial, trivial⟩ ?_
      exact OK_ri okX9_refusalOfLiving rfl rfl (Or.inl rfl)
  · refine OK_st 1 okX9_refusalOfLiving (S' := (13, [(0, .ref 0), (1, .int v1)], [.int (-1000000001 : Int32)], hp I601 F602)) rfl ⟨trivial, trivial⟩ ?_
    exact OK_ri okX9_refusalOfLiving rfl rfl (Or.inl rfl)

def f_X8_shorten (v1 : Int32) (I : AI) (F : AF) : AQ :=
  bif ab_vin ((0 : Int32) + v1) 21 then
    bif ab_vin ((0 : Int32) + v1) 21 then
      some (0, I, (va_up F 22 (upd (F 22) ((0 : Int32) + v1).toNatClampNeg (if (1 : Int32) < (((F 22) ((0 : Int32) + v1).toNatClampNeg) - (nI 3)) then (((F 22) ((0 : Int32) + v1).toNatClampNeg) - (nI 3)) else (1 : Int32)))))
    else none
  else none
set_option maxRecDepth 20000 in
set_option maxHeartbeats 4000000 in
theorem kf_X8_shorten (v1 : Int32) (I : AI) (F : AF) : OK 0 mX8_shorten false (f_X8_shorten v1 I F) (0, [(0, .ref 27), (1, .int v1)], [], hp I F) := by
  rw [f_X8_shorten]
  refine OK_gd (fun g615 => ?_)
  refine OK_gd (fun g616 => ?_)
  refine OK_st 16 okX8_shorten (S' := (22, [(0, .ref 27), (1, .int v1)], [], hp I (va_up F 22 (upd (F 22) ((0 : Int32) + v1).toNatClampNeg (if (1 : Int32) < (((F 22) ((0 : Int32) + v1).toNatClampNeg) - (nI 3)) then (((F 22) ((0 : Int32) + v1).toNatClampNeg) - (nI 3)) else (1 : Int32)))))) rfl ⟨trivial, trivial, trivial, trivial, trivial, trivial, trivial, trivial, trivial, trivial, trivial, (ab_vo g615), trivial, trivial, (Nat.le_of_ble_eq_true rfl), (ab_vo g616), trivial⟩ ?_
  exact OK_rv okX8_shorten rfl rfl rfl

def f_X9_stub (v1 : Int32) (I : AI) (F : AF) : AQ :=
  ab_bd (f_X9_refusalOfLiving v1 I F) (fun r608 I609 F610 =>
    if r608 = 0 then
      ab_bd (f_X4_remember I609 F610) (fun r612 I613 F614 =>
        ab_bd (f_X8_shorten v1 I613 F614) (fun r617 I618 F619 =>
          ab_bd (f_X8_lengthOf v1 I618 F619) (fun r620 I621 F622 =>
            some (r620, I621, F622))))
    else
      some (r608, I609, F610))
set_option maxRecDepth 20000 in
set_option maxHeartbeats 4000000 in
theorem kf_X9_stub (v1 : Int32) (I : AI) (F : AF) : OK 2 mX9_stub true (f_X9_stub v1 I F) (0, [(0, .ref 0), (1, .int v1)], [], hp I F) := by
  rw [f_X9_stub]
  refine OK_st 2 okX9_stub (S' := (2, [(0, .ref 0), (1, .int v1)], [.int v1, .ref 0], hp I F)) rfl ⟨trivial, trivial, trivial⟩ ?_
  refine OK_cv [.int v1] [] okX9_stub okX9_refusalOfLiving rfl rfl cl_RX9_222 rfl rfl (Nat.le_of_ble_eq_true rfl) (by decide) (Nat.le_of_ble_eq_true rfl) (kf_X9_refusalOfLiving v1 I F) (fun r608 I609 F610 => ?_)
  refine OK_st 3 okX9_stub (S' := ((if r608 = 0 then 12 else 10), [(2, .int r608), (0, .ref 0), (1, .int v1)], [], hp I609 F610)) rfl ⟨(by decide), trivial, trivial, trivial⟩ ?_
  refine OK_if (fun h611 => ?_) (fun h611 => ?_)
  · refine OK_st 4 okX9_stub (S' := (20, [(2, .int r608), (0, .ref 0), (1, .int v1)], [.ref 27, .ref 29], hp I609 F610)) rfl ⟨trivial, trivial, trivial, trivial, trivial⟩ ?_
    refine OK_cv [.ref 27] [] okX9_stub okX4_remember rfl rfl cl_RX9_210 rfl rfl (Nat.le_of_ble_eq_true rfl) (by decide) (Nat.le_of_ble_eq_true rfl) (kf_X4_remember I609 F610) (fun r612 I613 F614 => ?_)
    refine OK_st 3 okX9_stub (S' := (28, [(2, .int r608), (0, .ref 0), (1, .int v1)], [.int v1, .ref 27], hp I613 F614)) rfl ⟨trivial, trivial, trivial, trivial⟩ ?_
    refine OK_cv [.int v1] [] okX9_stub okX8_shorten rfl rfl cl_RX9_225 rfl rfl (Nat.le_of_ble_eq_true rfl) (by decide) (Nat.le_of_ble_eq_true rfl) (kf_X8_shorten v1 I613 F614) (fun r617 I618 F619 => ?_)
    refine OK_st 3 okX9_stub (S' := (36, [(2, .int r608), (0, .ref 0), (1, .int v1)], [.int v1, .ref 27], hp I618 F619)) rfl ⟨trivial, trivial, trivial, trivial⟩ ?_
    refine OK_cv [.int v1] [] okX9_stub okX8_lengthOf rfl rfl cl_RX9_156 rfl rfl (Nat.le_of_ble_eq_true rfl) (by decide) (Nat.le_of_ble_eq_true rfl) (kf_X8_lengthOf v1 I618 F619) (fun r620 I621 F622 => ?_)
    exact OK_ri okX9_stub rfl rfl (Or.inl rfl)
  · refine OK_st 1 okX9_stub (S' := (11, [(2, .int r608), (0, .ref 0), (1, .int v1)], [.int r608], hp I609 F610)) rfl ⟨trivial, trivial⟩ ?_
    exact OK_ri okX9_stub rfl rfl (Or.inl rfl)

def f_X8_bury (v1 : Int32) (I : AI) (F : AF) : AQ :=
  some (0, I, (va_up F 22 (upd (F 22) 18 (((F 22) 18) &&& (((1 : Int32) <<< (v1 &&& 31)) ^^^ (-1 : Int32))))))
set_option maxRecDepth 20000 in
set_option maxHeartbeats 4000000 in
theorem kf_X8_bury (v1 : Int32) (I : AI) (F : AF) : OK 0 mX8_bury false (f_X8_bury v1 I F) (0, [(0, .ref 27), (1, .int v1)], [], hp I F) := by
  rw [f_X8_bury]
  refine OK_st 12 okX8_bury (S' := (15, [(0, .ref 27), (1, .int v1)], [], hp I (va_up F 22 (upd (F 22) 18 (((F 22) 18) &&& (((1 : Int32) <<< (v1 &&& 31)) ^^^ (-1 : Int32))))))) rfl ⟨trivial, trivial, trivial, ⟨rfl, rfl⟩, (ab_vo (by decide)), trivial, trivial, trivial, trivial, trivial, trivial, (ab_vo (by decide)), trivial⟩ ?_
  exact OK_rv okX8_bury rfl rfl rfl

def f_X9_dies (v1 : Int32) (I : AI) (F : AF) : AQ :=
  ab_bd (f_X9_refusalOfLiving v1 I F) (fun r623 I624 F625 =>
    if r623 = 0 then
      ab_bd (f_X4_remember I624 F625) (fun r627 I628 F629 =>
        ab_bd (f_X8_bury v1 I628 F629) (fun r630 I631 F632 =>
          ab_bd (f_X8_measureNow v1 I631 F632) (fun r633 I634 F635 =>
            some (r633, I634, F635))))
    else
      some (r623, I624, F625))
set_option maxRecDepth 20000 in
set_option maxHeartbeats 4000000 in
theorem kf_X9_dies (v1 : Int32) (I : AI) (F : AF) : OK 4 mX9_dies true (f_X9_dies v1 I F) (0, [(0, .ref 0), (1, .int v1)], [], hp I F) := by
  rw [f_X9_dies]
  refine OK_st 2 okX9_dies (S' := (2, [(0, .ref 0), (1, .int v1)], [.int v1, .ref 0], hp I F)) rfl ⟨trivial, trivial, trivial⟩ ?_
  refine OK_cv [.int v1] [] okX9_dies okX9_refusalOfLiving rfl rfl cl_RX9_222 rfl rfl (Nat.le_of_ble_eq_true rfl) (by decide) (Nat.le_of_ble_eq_true rfl) (kf_X9_refusalOfLiving v1 I F) (fun r623 I624 F625 => ?_)
  refine OK_st 3 okX9_dies (S' := ((if r623 = 0 then 12 else 10), [(2, .int r623), (0, .ref 0), (1, .int v1)], [], hp I624 F625)) rfl ⟨(by decide), trivial, trivial, trivial⟩ ?_
  refine OK_if (fun h626 => ?_) (fun h626 => ?_)
  · refine OK_st 4 okX9_dies (S' := (20, [(2, .int r623), (0, .ref 0), (1, .int v1)], [.ref 27, .ref 29], hp I624 F625)) rfl ⟨trivial, trivial, trivial, trivial, trivial⟩ ?_
    refine OK_cv [.ref 27] [] okX9_dies okX4_remember rfl rfl cl_RX9_210 rfl rfl (Nat.le_of_ble_eq_true rfl) (by decide) (Nat.le_of_ble_eq_true rfl) (kf_X4_remember I624 F625) (fun r627 I628 F629 => ?_)
    refine OK_st 3 okX9_dies (S' := (28, [(2, .int r623), (0, .ref 0), (1, .int v1)], [.int v1, .ref 27], hp I628 F629)) rfl ⟨trivial, trivial, trivial, trivial⟩ ?_
    refine OK_cv [.int v1] [] okX9_dies okX8_bury rfl rfl cl_RX9_229 rfl rfl (Nat.le_of_ble_eq_true rfl) (by decide) (Nat.le_of_ble_eq_true rfl) (kf_X8_bury v1 I628 F629) (fun r630 I631 F632 => ?_)
    refine OK_st 5 okX9_dies (S' := (40, [(2, .int r623), (0, .ref 0), (1, .int v1)], [.int v1, .ref 16, .ref 27], hp I631 F632)) rfl ⟨trivial, trivial, trivial, trivial, trivial, trivial⟩ ?_
    refine OK_cv [.ref 16, .int v1] [] okX9_dies okX8_measureNow rfl rfl cl_RX9_159 rfl rfl (Nat.le_of_ble_eq_true rfl) (by decide) (Nat.le_of_ble_eq_true rfl) (kf_X8_measureNow v1 I631 F632) (fun r633 I634 F635 => ?_)
    exact OK_ri okX9_dies rfl rfl (Or.inl rfl)
  · refine OK_st 1 okX9_dies (S' := (11, [(2, .int r623), (0, .ref 0), (1, .int v1)], [.int r623], hp I624 F625)) rfl ⟨trivial, trivial⟩ ?_
    exact OK_ri okX9_dies rfl rfl (Or.inl rfl)

def f_X8_carve (v2 : Int32) (I : AI) (F : AF) : AQ :=
  ab_bd (f_X8_ownMeasure v2 ((F 22) 19) I F) (fun r643 I644 F645 =>
    bif ab_vin ((nI 6) + v2) 21 then
      some (0, I644, (va_up F645 22 (upd (F645 22) ((nI 6) + v2).toNatClampNeg r643)))
    else none)
set_option maxRecDepth 20000 in
set_option maxHeartbeats 4000000 in
theorem kf_X8_carve (v2 : Int32) (I : AI) (F : AF) : OK 2 mX8_carve false (f_X8_carve v2 I F) (0, [(0, .ref 27), (1, .ref 16), (2, .int v2)], [], hp I F) := by
  rw [f_X8_carve]
  refine OK_st 12 okX8_carve (S' := (18, [(0, .ref 27), (1, .ref 16), (2, .int v2)], [.int ((F 22) 19), .int v2, .ref 16, .ref 27, .int ((nI 6) + v2), .ref 28], hp I F)) rfl ⟨trivial, trivial, trivial, trivial, trivial, trivial, trivial, trivial, trivial, trivial, trivial, (ab_vo (by decide)), trivial⟩ ?_
  refine OK_cv [.ref 16, .int v2, .int ((F 22) 19)] [.int ((nI 6) + v2), .ref 28] okX8_carve okX8_ownMeasure rfl rfl cl_RX8_43 rfl rfl (Nat.le_of_ble_eq_true rfl) (by decide) (Nat.le_of_ble_eq_true rfl) (kf_X8_ownMeasure v2 ((F 22) 19) I F) (fun r643 I644 F645 => ?_)
  refine OK_gd (fun g646 => ?_)
  refine OK_st 1 okX8_carve (S' := (22, [(0, .ref 27), (1, .ref 16), (2, .int v2)], [], hp I644 (va_up F645 22 (upd (F645 22) ((nI 6) + v2).toNatClampNeg r643)))) rfl ⟨(ab_vo g646), trivial⟩ ?_
  exact OK_rv okX8_carve rfl rfl rfl

def f_X9_copy (v1 : Int32) (I : AI) (F : AF) : AQ :=
  ab_bd (f_X9_refusalOfLiving v1 I F) (fun r636 I637 F638 =>
    if r636 = 0 then
      ab_bd (f_X4_remember I637 F638) (fun r640 I641 F642 =>
        ab_bd (f_X8_carve v1 I641 F642) (fun r647 I648 F649 =>
          ab_bd (f_X8_copyOf v1 I648 F649) (fun r650 I651 F652 =>
            some (r650, I651, F652))))
    else
      some (r636, I637, F638))
set_option maxRecDepth 20000 in
set_option maxHeartbeats 4000000 in
theorem kf_X9_copy (v1 : Int32) (I : AI) (F : AF) : OK 3 mX9_copy true (f_X9_copy v1 I F) (0, [(0, .ref 0), (1, .int v1)], [], hp I F) := by
  rw [f_X9_copy]
  refine OK_st 2 okX9_copy (S' := (2, [(0, .ref 0), (1, .int v1)], [.int v1, .ref 0], hp I F)) rfl ⟨trivial, trivial, trivial⟩ ?_
  refine OK_cv [.int v1] [] okX9_copy okX9_refusalOfLiving rfl rfl cl_RX9_222 rfl rfl (Nat.le_of_ble_eq_true rfl) (by decide) (Nat.le_of_ble_eq_true rfl) (kf_X9_refusalOfLiving v1 I F) (fun r636 I637 F638 => ?_)
  refine OK_st 3 okX9_copy (S' := ((if r636 = 0 then 12 else 10), [(2, .int r636), (0, .ref 0), (1, .int v1)], [], hp I637 F638)) rfl ⟨(by decide), trivial, trivial, trivial⟩ ?_
  refine OK_if (fun h639 => ?_) (fun h639 => ?_)
  · refine OK_st 4 okX9_copy (S' := (20, [(2, .int r636), (0, .ref 0), (1, .int v1)], [.ref 27, .ref 29], hp I637 F638)) rfl ⟨trivial, trivial, trivial, trivial, trivial⟩ ?_
    refine OK_cv [.ref 27] [] okX9_copy okX4_remember rfl rfl cl_RX9_210 rfl rfl (Nat.le_of_ble_eq_true rfl) (by decide) (Nat.le_of_ble_eq_true rfl) (kf_X4_remember I637 F638) (fun r640 I641 F642 => ?_)
    refine OK_st 5 okX9_copy (S' := (32, [(2, .int r636), (0, .ref 0), (1, .int v1)], [.int v1, .ref 16, .ref 27], hp I641 F642)) rfl ⟨trivial, trivial, trivial, trivial, trivial, trivial⟩ ?_
    refine OK_cv [.ref 16, .int v1] [] okX9_copy okX8_carve rfl rfl cl_RX9_232 rfl rfl (Nat.le_of_ble_eq_true rfl) (by decide) (Nat.le_of_ble_eq_true rfl) (kf_X8_carve v1 I641 F642) (fun r647 I648 F649 => ?_)
    refine OK_st 3 okX9_copy (S' := (40, [(2, .int r636), (0, .ref 0), (1, .int v1)], [.int v1, .ref 27], hp I648 F649)) rfl ⟨trivial, trivial, trivial, trivial⟩ ?_
    refine OK_cv [.int v1] [] okX9_copy okX8_copyOf rfl rfl cl_RX9_170 rfl rfl (Nat.le_of_ble_eq_true rfl) (by decide) (Nat.le_of_ble_eq_true rfl) (kf_X8_copyOf v1 I648 F649) (fun r650 I651 F652 => ?_)
    exact OK_ri okX9_copy rfl rfl (Or.inl rfl)
  · refine OK_st 1 okX9_copy (S' := (11, [(2, .int r636), (0, .ref 0), (1, .int v1)], [.int r636], hp I637 F638)) rfl ⟨trivial, trivial⟩ ?_
    exact OK_ri okX9_copy rfl rfl (Or.inl rfl)

def f_X8_nextDraw (v1 : Int32) (I : AI) (F : AF) : AQ :=
  ab_lt (va_up F 22 (upd (F 22) 20 (((((((F 22) 20).toInt64) * (1103515245 : Int64)) + (12345 : Int64)) &&& (2147483647 : Int64)).toInt32))) (fun F661 =>
    if v1 ≤ 0 then
      some ((0 : Int32), I, F661)
    else
      bif ab_nz v1 then
        some (((((F661 22) 20) / (nI 65536)) - (((F661 22) 20) / (nI 65536)) / v1 * v1), I, F661)
      else none)
set_option maxRecDepth 20000 in
set_option maxHeartbeats 4000000 in
theorem kf_X8_nextDraw (v1 : Int32) (I : AI) (F : AF) : OK 0 mX8_nextDraw true (f_X8_nextDraw v1 I F) (0, [(0, .ref 27), (1, .int v1)], [], hp I F) := by
  rw [f_X8_nextDraw]
  refine OK_st 20 okX8_nextDraw (S' := ((if v1 ≤ 0 then 49 else 34), [(2, .long (((((F 22) 20).toInt64) * (1103515245 : Int64)) + (12345 : Int64))), (0, .ref 27), (1, .int v1)], [], hp I (va_up F 22 (upd (F 22) 20 (((((((F 22) 20).toInt64) * (1103515245 : Int64)) + (12345 : Int64)) &&& (2147483647 : Int64)).toInt32))))) rfl ⟨trivial, trivial, trivial, (ab_vo (by decide)), trivial, trivial, trivial, trivial, trivial, (by decide), trivial, trivial, trivial, trivial, trivial, trivial, trivial, (ab_vo (by decide)), trivial, trivial, trivial⟩ ?_
  refine OK_lt (fun F661 => ((if v1 ≤ 0 then 49 else 34), [(2, .long (((((F 22) 20).toInt64) * (1103515245 : Int64)) + (12345 : Int64))), (0, .ref 27), (1, .int v1)], [], hp I F661)) (fun F661 => ?_)
  refine OK_if (fun h662 => ?_) (fun h662 => ?_)
  · refine OK_st 1 okX8_nextDraw (S' := (50, [(2, .long (((((F 22) 20).toInt64) * (1103515245 : Int64)) + (12345 : Int64))), (0, .ref 27), (1, .int v1)], [.int (0 : Int32)], hp I F661)) rfl ⟨trivial, trivial⟩ ?_
    exact OK_ri okX8_nextDraw rfl rfl (Or.inl rfl)
  · refine OK_gd (fun g663 => ?_)
    refine OK_st 9 okX8_nextDraw (S' := (50, [(2, .long (((((F 22) 20).toInt64) * (1103515245 : Int64)) + (12345 : Int64))), (0, .ref 27), (1, .int v1)], [.int ((((F661 22) 20) / (nI 65536)) - (((F661 22) 20) / (nI 65536)) / v1 * v1)], hp I F661)) rfl ⟨trivial, trivial, trivial, (ab_vo (by decide)), trivial, (by decide), trivial, (ab_nzo g663), trivial, trivial⟩ ?_
    exact OK_ri okX8_nextDraw rfl rfl (Or.inl rfl)

def f_X8_sufferByDraws (I : AI) (F : AF) : AQ :=
  ab_bd (f_X8_nextDraw (nI 6) I F) (fun r664 I665 F666 =>
    if ¬ r664 = 0 then
      if ¬ r664 = (1 : Int32) then
        some (0, I665, F666)
      else
        ab_bd (f_X8_nextDraw (I665 9) I665 F666) (fun r669 I670 F671 =>
          ab_bd (f_X8_lives r669 I670 F671) (fun r672 I673 F674 =>
            if r672 = 0 then
              some (0, I673, F674)
            else
              ab_bd (f_X8_shorten r669 I673 F674) (fun r676 I677 F678 =>
                some (0, I677, F678))))
    else
      ab_bd (f_X8_nextDraw (I665 9) I665 F666) (fun r679 I680 F681 =>
        ab_bd (f_X8_nextDraw (nI 20) I680 F681) (fun r682 I683 F684 =>
          ab_bd (f_X8_lives r679 I683 F684) (fun r685 I686 F687 =>
            if r685 = 0 then
              some (0, I686, F687)
            else
              ab_bd (f_X8_swell r679 (r682 + (1 : Int32)) I686 F687) (fun r689 I690 F691 =>
                some (0, I690, F691))))))
set_option maxRecDepth 20000 in
set_option maxHeartbeats 4000000 in
theorem kf_X8_sufferByDraws (I : AI) (F : AF) : OK 1 mX8_sufferByDraws false (f_X8_sufferByDraws I F) (0, [(0, .ref 27), (1, .ref 16)], [], hp I F) := by
  rw [f_X8_sufferByDraws]
  refine OK_st 2 okX8_sufferByDraws (S' := (3, [(0, .ref 27), (1, .ref 16)], [.int (nI 6), .ref 27], hp I F)) rfl ⟨trivial, trivial, trivial⟩ ?_
  refine OK_cv [.int (nI 6)] [] okX8_sufferByDraws okX8_nextDraw rfl rfl cl_RX8_75 rfl rfl (Nat.le_of_ble_eq_true rfl) (by decide) (Nat.le_of_ble_eq_true rfl) (kf_X8_nextDraw (nI 6) I F) (fun r664 I665 F666 => ?_)
  refine OK_st 3 okX8_sufferByDraws (S' := ((if ¬ r664 = 0 then 48 else 11), [(2, .int r664), (0, .ref 27), (1, .ref 16)], [], hp I665 F666)) rfl ⟨(by decide), trivial, trivial, trivial⟩ ?_
  refine OK_if (fun h667 => ?_) (fun h667 => ?_)
  · refine OK_st 3 okX8_sufferByDraws (S' := ((if ¬ r664 = (1 : Int32) then 75 else 53), [(2, .int r664), (0, .ref 27), (1, .ref 16)], [], hp I665 F666)) rfl ⟨trivial, trivial, trivial, trivial⟩ ?_
    refine OK_if (fun h668 => ?_) (fun h668 => ?_)
    · exact OK_rv okX8_sufferByDraws rfl rfl rfl
    · refine OK_st 3 okX8_sufferByDraws (S' := (58, [(2, .int r664), (0, .ref 27), (1, .ref 16)], [.int (I665 9), .ref 27], hp I665 F666)) rfl ⟨trivial, trivial, trivial, trivial⟩ ?_
      refine OK_cv [.int (I665 9)] [] okX8_sufferByDraws okX8_nextDraw rfl rfl cl_RX8_75 rfl rfl (Nat.le_of_ble_eq_true rfl) (by decide) (Nat.le_of_ble_eq_true rfl) (kf_X8_nextDraw (I665 9) I665 F666) (fun r669 I670 F671 => ?_)
      refine OK_st 3 okX8_sufferByDraws (S' := (64, [(3, .int r669), (2, .int r664), (0, .ref 27), (1, .ref 16)], [.int r669, .ref 27], hp I670 F671)) rfl ⟨(by decide), trivial, trivial, trivial⟩ ?_
      refine OK_cv [.int r669] [] okX8_sufferByDraws okX8_lives rfl rfl cl_RX8_39 rfl rfl (Nat.le_of_ble_eq_true rfl) (by decide) (Nat.le_of_ble_eq_true rfl) (kf_X8_lives r669 I670 F671) (fun r672 I673 F674 => ?_)
      refine OK_st 1 okX8_sufferByDraws (S' := ((if r672 = 0 then 75 else 70), [(3, .int r669), (2, .int r664), (0, .ref 27), (1, .ref 16)], [], hp I673 F674)) rfl ⟨trivial, trivial⟩ ?_
      refine OK_if (fun h675 => ?_) (fun h675 => ?_)
      · exact OK_rv okX8_sufferByDraws rfl rfl rfl
      · refine OK_st 2 okX8_sufferByDraws (S' := (72, [(3, .int r669), (2, .int r664), (0, .ref 27), (1, .ref 16)], [.int r669, .ref 27], hp I673 F674)) rfl ⟨trivial, trivial, trivial⟩ ?_
        refine OK_cv [.int r669] [] okX8_sufferByDraws okX8_shorten rfl rfl cl_RX8_82 rfl rfl (Nat.le_of_ble_eq_true rfl) (by decide) (Nat.le_of_ble_eq_true rfl) (kf_X8_shorten r669 I673 F674) (fun r676 I677 F678 => ?_)
        exact OK_rv okX8_sufferByDraws rfl rfl rfl
  · refine OK_st 3 okX8_sufferByDraws (S' := (16, [(2, .int r664), (0, .ref 27), (1, .ref 16)], [.int (I665 9), .ref 27], hp I665 F666)) rfl ⟨trivial, trivial, trivial, trivial⟩ ?_
    refine OK_cv [.int (I665 9)] [] okX8_sufferByDraws okX8_nextDraw rfl rfl cl_RX8_75 rfl rfl (Nat.le_of_ble_eq_true rfl) (by decide) (Nat.le_of_ble_eq_true rfl) (kf_X8_nextDraw (I665 9) I665 F666) (fun r679 I680 F681 => ?_)
    refine OK_st 3 okX8_sufferByDraws (S' := (23, [(3, .int r679), (2, .int r664), (0, .ref 27), (1, .ref 16)], [.int (nI 20), .ref 27], hp I680 F681)) rfl ⟨(by decide), trivial, trivial, trivial⟩ ?_
    refine OK_cv [.int (nI 20)] [] okX8_sufferByDraws okX8_nextDraw rfl rfl cl_RX8_75 rfl rfl (Nat.le_of_ble_eq_true rfl) (by decide) (Nat.le_of_ble_eq_true rfl) (kf_X8_nextDraw (nI 20) I680 F681) (fun r682 I683 F684 => ?_)
    refine OK_st 5 okX8_sufferByDraws (S' := (32, [(4, .int (r682 + (1 : Int32))), (3, .int r679), (2, .int r664), (0, .ref 27), (1, .ref 16)], [.int r679, .ref 27], hp I683 F684)) rfl ⟨trivial, trivial, (by decide), trivial, trivial, trivial⟩ ?_
    refine OK_cv [.int r679] [] okX8_sufferByDraws okX8_lives rfl rfl cl_RX8_39 rfl rfl (Nat.le_of_ble_eq_true rfl) (by decide) (Nat.le_of_ble_eq_true rfl) (kf_X8_lives r679 I683 F684) (fun r685 I686 F687 => ?_)
    refine OK_st 1 okX8_sufferByDraws (S' := ((if r685 = 0 then 45 else 38), [(4, .int (r682 + (1 : Int32))), (3, .int r679), (2, .int r664), (0, .ref 27), (1, .ref 16)], [], hp I686 F687)) rfl ⟨trivial, trivial⟩ ?_
    refine OK_if (fun h688 => ?_) (fun h688 => ?_)
    · refine OK_st 1 okX8_sufferByDraws (S' := (75, [(4, .int (r682 + (1 : Int32))), (3, .int r679), (2, .int r664), (0, .ref 27), (1, .ref 16)], [], hp I686 F687)) rfl ⟨trivial, trivial⟩ ?_
      exact OK_rv okX8_sufferByDraws rfl rfl rfl
    · refine OK_st 3 okX8_sufferByDraws (S' := (42, [(4, .int (r682 + (1 : Int32))), (3, .int r679), (2, .int r664), (0, .ref 27), (1, .ref 16)], [.int (r682 + (1 : Int32)), .int r679, .ref 27], hp I686 F687)) rfl ⟨trivial, trivial, trivial, trivial⟩ ?_
      refine OK_cv [.int r679, .int (r682 + (1 : Int32))] [] okX8_sufferByDraws okX8_swell rfl rfl cl_RX8_78 rfl rfl (Nat.le_of_ble_eq_true rfl) (by decide) (Nat.le_of_ble_eq_true rfl) (kf_X8_swell r679 (r682 + (1 : Int32)) I686 F687) (fun r689 I690 F691 => ?_)
      refine OK_st 1 okX8_sufferByDraws (S' := (75, [(4, .int (r682 + (1 : Int32))), (3, .int r679), (2, .int r664), (0, .ref 27), (1, .ref 16)], [], hp I690 F691)) rfl ⟨trivial, trivial⟩ ?_
      exact OK_rv okX8_sufferByDraws rfl rfl rfl

def f_X9_drift_25 (v1 : Int32) (ko : Int32 → AI → AF → AQ) : Nat → Int32 → AI → AF → AQ
  | 0, _, _, _ => none
  | n + 1, v3, I, F =>
    if v1 ≤ v3 then
      ko v3 I F
    else
      ab_bd (f_X8_sufferByDraws I F) (fun r692 I693 F694 =>
        ab_bd (f_X8_passSeason I693 F694) (fun r695 I696 F697 =>
          f_X9_drift_25 v1 ko n (v3 + (1 : Int32)) I696 F697))
set_option maxRecDepth 20000 in
set_option maxHeartbeats 4000000 in
theorem kf_X9_drift_25 (v1 : Int32) (ko : Int32 → AI → AF → AQ) (hko : ∀ v3 I F, OK 5 mX9_drift true (ko v3 I F) (58, [(0, .ref 0), (1, .int v1), (3, .int v3)], [], hp I F)) : ∀ n v3 I F, OK 5 mX9_drift true (f_X9_drift_25 v1 ko n v3 I F) (25, [(0, .ref 0), (1, .int v1), (3, .int v3)], [], hp I F) := by
  intro n
  induction n with
  | zero =>
    intro v3 I F
    exact OK_no
  | succ n ih =>
    intro v3 I F
    rw [f_X9_drift_25]
    refine OK_st 3 okX9_drift (S' := ((if v1 ≤ v3 then 58 else 30), [(0, .ref 0), (1, .int v1), (3, .int v3)], [], hp I F)) rfl ⟨trivial, trivial, trivial, trivial⟩ ?_
    refine OK_if (fun h660 => ?_) (fun h660 => ?_)
    · exact hko v3 I F
    · refine OK_st 4 okX9_drift (S' := (38, [(0, .ref 0), (1, .int v1), (3, .int v3)], [.ref 16, .ref 27], hp I F)) rfl ⟨trivial, trivial, trivial, trivial, trivial⟩ ?_
      refine OK_cv [.ref 16] [] okX9_drift okX8_sufferByDraws rfl rfl cl_RX9_236 rfl rfl (Nat.le_of_ble_eq_true rfl) (by decide) (Nat.le_of_ble_eq_true rfl) (kf_X8_sufferByDraws I F) (fun r692 I693 F694 => ?_)
      refine OK_st 4 okX9_drift (S' := (49, [(0, .ref 0), (1, .int v1), (3, .int v3)], [.ref 16, .ref 27], hp I693 F694)) rfl ⟨trivial, trivial, trivial, trivial, trivial⟩ ?_
      refine OK_cv [.ref 16] [] okX9_drift okX8_passSeason rfl rfl cl_RX9_214 rfl rfl (Nat.le_of_ble_eq_true rfl) (by decide) (Nat.le_of_ble_eq_true rfl) (kf_X8_passSeason I693 F694) (fun r695 I696 F697 => ?_)
      refine OK_st 2 okX9_drift (S' := (25, [(3, .int (v3 + (1 : Int32))), (0, .ref 0), (1, .int v1)], [], hp I696 F697)) rfl ⟨(by decide), trivial, trivial⟩ ?_
      refine OK_pk [1, 2, 0] rfl ?_
      exact ih (v3 + (1 : Int32)) I696 F697

def f_X9_drift (v1 : Int32) (I : AI) (F : AF) : AQ :=
  ab_bd (f_X9_refusalOfSeasons v1 I F) (fun r653 I654 F655 =>
    if r653 = 0 then
      ab_bd (f_X4_remember I654 F655) (fun r657 I658 F659 =>
        f_X9_drift_25 v1 (fun v3_698 I699 F700 =>
          ab_bd (f_X8_seasons I699 F700) (fun r701 I702 F703 =>
            some (r701, I702, F703))) ab_fu (0 : Int32) I658 F659)
    else
      some (r653, I654, F655))
set_option maxRecDepth 20000 in
set_option maxHeartbeats 4000000 in
theorem kf_X9_drift (v1 : Int32) (I : AI) (F : AF) : OK 5 mX9_drift true (f_X9_drift v1 I F) (0, [(0, .ref 0), (1, .int v1)], [], hp I F) := by
  rw [f_X9_drift]
  refine OK_st 2 okX9_drift (S' := (2, [(0, .ref 0), (1, .int v1)], [.int v1, .ref 0], hp I F)) rfl ⟨trivial, trivial, trivial⟩ ?_
  refine OK_cv [.int v1] [] okX9_drift okX9_refusalOfSeasons rfl rfl cl_RX9_207 rfl rfl (Nat.le_of_ble_eq_true rfl) (by decide) (Nat.le_of_ble_eq_true rfl) (kf_X9_refusalOfSeasons v1 I F) (fun r653 I654 F655 => ?_)
  refine OK_st 3 okX9_drift (S' := ((if r653 = 0 then 12 else 10), [(2, .int r653), (0, .ref 0), (1, .int v1)], [], hp I654 F655)) rfl ⟨(by decide), trivial, trivial, trivial⟩ ?_
  refine OK_if (fun h656 => ?_) (fun h656 => ?_)
  · refine OK_st 4 okX9_drift (S' := (20, [(2, .int r653), (0, .ref 0), (1, .int v1)], [.ref 27, .ref 29], hp I654 F655)) rfl ⟨trivial, trivial, trivial, trivial, trivial⟩ ?_
    refine OK_cv [.ref 27] [] okX9_drift okX4_remember rfl rfl cl_RX9_210 rfl rfl (Nat.le_of_ble_eq_true rfl) (by decide) (Nat.le_of_ble_eq_true rfl) (kf_X4_remember I654 F655) (fun r657 I658 F659 => ?_)
    refine OK_st 2 okX9_drift (S' := (25, [(3, .int (0 : Int32)), (2, .int r653), (0, .ref 0), (1, .int v1)], [], hp I658 F659)) rfl ⟨trivial, (by decide), trivial⟩ ?_
    refine OK_pk [2, 3, 0] rfl ?_
    refine kf_X9_drift_25 v1 _ (fun v3_698 I699 F700 => ?_) ab_fu (0 : Int32) I658 F659
    refine OK_st 2 okX9_drift (S' := (62, [(0, .ref 0), (1, .int v1), (3, .int v3_698)], [.ref 27], hp I699 F700)) rfl ⟨trivial, trivial, trivial⟩ ?_
    refine OK_cv [] [] okX9_drift okX8_seasons rfl rfl cl_RX9_126 rfl rfl (Nat.le_of_ble_eq_true rfl) (by decide) (Nat.le_of_ble_eq_true rfl) (kf_X8_seasons I699 F700) (fun r701 I702 F703 => ?_)
    exact OK_ri okX9_drift rfl rfl (Or.inl rfl)
  · refine OK_st 1 okX9_drift (S' := (11, [(2, .int r653), (0, .ref 0), (1, .int v1)], [.int r653], hp I654 F655)) rfl ⟨trivial, trivial⟩ ?_
    exact OK_ri okX9_drift rfl rfl (Or.inl rfl)

def f_X4_restoreLatest (I : AI) (F : AF) : AQ :=
  if (I 13) ≤ 0 then
    some (0, I, F)
  else
    ab_bd (f_X4_latestPlace I F) (fun r706 I707 F708 =>
      bif ab_cg r706 (0 : Int32) (nI 20) 400 21 then
        some (0, (va_up I707 13 ((I707 13) - (1 : Int32))), (va_up F708 22 (va_cpy (F708 23) (F708 22) r706.toNatClampNeg 0 20)))
      else none)
set_option maxRecDepth 20000 in
set_option maxHeartbeats 4000000 in
theorem kf_X4_restoreLatest (I : AI) (F : AF) : OK 1 mX4_restoreLatest false (f_X4_restoreLatest I F) (0, [(0, .ref 29), (1, .ref 27)], [], hp I F) := by
  rw [f_X4_restoreLatest]
  refine OK_st 3 okX4_restoreLatest (S' := ((if (I 13) ≤ 0 then 35 else 7), [(0, .ref 29), (1, .ref 27)], [], hp I F)) rfl ⟨trivial, trivial, trivial, trivial⟩ ?_
  refine OK_if (fun h705 => ?_) (fun h705 => ?_)
  · exact OK_rv okX4_restoreLatest rfl rfl rfl
  · refine OK_st 3 okX4_restoreLatest (S' := (12, [(0, .ref 29), (1, .ref 27)], [.ref 29, .ref 30], hp I F)) rfl ⟨trivial, trivial, trivial, trivial⟩ ?_
    refine OK_cv [] [.ref 30] okX4_restoreLatest okX4_latestPlace rfl rfl cl_RX4_30 rfl rfl (Nat.le_of_ble_eq_true rfl) (by decide) (Nat.le_of_ble_eq_true rfl) (kf_X4_latestPlace I F) (fun r706 I707 F708 => ?_)
    refine OK_gd (fun g709 => ?_)
    refine OK_st 11 okX4_restoreLatest (S' := (35, [(0, .ref 29), (1, .ref 27)], [], hp (va_up I707 13 ((I707 13) - (1 : Int32))) (va_up F708 22 (va_cpy (F708 23) (F708 22) r706.toNatClampNeg 0 20)))) rfl ⟨trivial, trivial, trivial, trivial, ab_cgo g709 (Nat.le_of_ble_eq_true rfl), trivial, rfl, trivial, trivial, trivial, trivial, trivial⟩ ?_
    exact OK_rv okX4_restoreLatest rfl rfl rfl

def f_X9_undo (I : AI) (F : AF) : AQ :=
  if ¬ (I 13) = 0 then
    ab_bd (f_X4_restoreLatest I F) (fun r710 I711 F712 =>
      some ((I711 13), I711, F712))
  else
    some ((-1000000003 : Int32), I, F)
set_option maxRecDepth 20000 in
set_option maxHeartbeats 4000000 in
theorem kf_X9_undo (I : AI) (F : AF) : OK 2 mX9_undo true (f_X9_undo I F) (0, [(0, .ref 0)], [], hp I F) := by
  rw [f_X9_undo]
  refine OK_st 4 okX9_undo (S' := ((if ¬ (I 13) = 0 then 13 else 10), [(0, .ref 0)], [], hp I F)) rfl ⟨trivial, trivial, trivial, trivial, trivial⟩ ?_
  refine OK_if (fun h704 => ?_) (fun h704 => ?_)
  · refine OK_st 4 okX9_undo (S' := (21, [(0, .ref 0)], [.ref 27, .ref 29], hp I F)) rfl ⟨trivial, trivial, trivial, trivial, trivial⟩ ?_
    refine OK_cv [.ref 27] [] okX9_undo okX4_restoreLatest rfl rfl cl_RX9_239 rfl rfl (Nat.le_of_ble_eq_true rfl) (by decide) (Nat.le_of_ble_eq_true rfl) (kf_X4_restoreLatest I F) (fun r710 I711 F712 => ?_)
    refine OK_st 3 okX9_undo (S' := (31, [(0, .ref 0)], [.int (I711 13)], hp I711 F712)) rfl ⟨trivial, trivial, trivial, trivial⟩ ?_
    exact OK_ri okX9_undo rfl rfl (Or.inl rfl)
  · refine OK_st 1 okX9_undo (S' := (12, [(0, .ref 0)], [.int (-1000000003 : Int32)], hp I F)) rfl ⟨trivial, trivial⟩ ?_
    exact OK_ri okX9_undo rfl rfl (Or.inl rfl)

def f_X9_firstNought_j48_4 (bk ko : Int32 → Int32 → AI → AF → AQ) (v1 : Int32) (v2 : Int32) (v3 : Int32) (s0 : Int32) (I : AI) (F : AF) : AQ :=
  ab_bd (f_X8_seasons I F) (fun r716 I717 F718 =>
    if v3 < r716 then
      bk v1 (v2 + (1 : Int32)) I717 F718
    else
      if s0 = 0 then
        bk v1 (v2 + (1 : Int32)) I717 F718
      else
        ab_bd (f_X8_payment v2 v3 I717 F718) (fun r721 I722 F723 =>
          if ¬ r721 = 0 then
            bk v1 (v2 + (1 : Int32)) I722 F723
          else
            bk v2 (v2 + (1 : Int32)) I722 F723))
set_option maxRecDepth 20000 in
set_option maxHeartbeats 4000000 in
theorem kf_X9_firstNought_j48_4 (bk ko : Int32 → Int32 → AI → AF → AQ) (v1 : Int32) (v2 : Int32) (v3 : Int32) (hbk : ∀ v1 v2 I F, OK 4 mX9_firstNought true (bk v1 v2 I F) (4, [(0, .ref 0), (1, .int v1), (2, .int v2)], [], hp I F)) (hko : ∀ v1 v2 I F, OK 4 mX9_firstNought true (ko v1 v2 I F) (90, [(0, .ref 0), (1, .int v1), (2, .int v2)], [], hp I F)) (s0 : Int32) (I : AI) (F : AF) : OK 4 mX9_firstNought true (f_X9_firstNought_j48_4 bk ko v1 v2 v3 s0 I F) (48, [(0, .ref 0), (1, .int v1), (2, .int v2), (3, .int v3)], [.int s0], hp I F) := by
  rw [f_X9_firstNought_j48_4]
  refine OK_st 4 okX9_firstNought (S' := (55, [(4, .int s0), (0, .ref 0), (1, .int v1), (2, .int v2), (3, .int v3)], [.ref 27, .int v3], hp I F)) rfl ⟨(by decide), trivial, trivial, trivial, trivial⟩ ?_
  refine OK_cv [] [.int v3] okX9_firstNought okX8_seasons rfl rfl cl_RX9_126 rfl rfl (Nat.le_of_ble_eq_true rfl) (by decide) (Nat.le_of_ble_eq_true rfl) (kf_X8_seasons I F) (fun r716 I717 F718 => ?_)
  refine OK_st 1 okX9_firstNought (S' := ((if v3 < r716 then 84 else 61), [(4, .int s0), (0, .ref 0), (1, .int v1), (2, .int v2), (3, .int v3)], [], hp I717 F718)) rfl ⟨trivial, trivial⟩ ?_
  refine OK_if (fun h719 => ?_) (fun h719 => ?_)
  · refine OK_st 2 okX9_firstNought (S' := (4, [(2, .int (v2 + (1 : Int32))), (4, .int s0), (0, .ref 0), (1, .int v1), (3, .int v3)], [], hp I717 F718)) rfl ⟨(by decide), trivial, trivial⟩ ?_
    refine OK_pk [2, 3, 0] rfl ?_
    exact hbk v1 (v2 + (1 : Int32)) I717 F718
  · refine OK_st 2 okX9_firstNought (S' := ((if s0 = 0 then 84 else 66), [(4, .int s0), (0, .ref 0), (1, .int v1), (2, .int v2), (3, .int v3)], [], hp I717 F718)) rfl ⟨trivial, trivial, trivial⟩ ?_
    refine OK_if (fun h720 => ?_) (fun h720 => ?_)
    · refine OK_st 2 okX9_firstNought (S' := (4, [(2, .int (v2 + (1 : Int32))), (4, .int s0), (0, .ref 0), (1, .int v1), (3, .int v3)], [], hp I717 F718)) rfl ⟨(by decide), trivial, trivial⟩ ?_
      refine OK_pk [2, 3, 0] rfl ?_
      exact hbk v1 (v2 + (1 : Int32)) I717 F718
    · refine OK_st 6 okX9_firstNought (S' := (76, [(4, .int s0), (0, .ref 0), (1, .int v1), (2, .int v2), (3, .int v3)], [.int v3, .int v2, .ref 16, .ref 27], hp I717 F718)) rfl ⟨trivial, trivial, trivial, trivial, trivial, trivial, trivial⟩ ?_
      refine OK_cv [.ref 16, .int v2, .int v3] [] okX9_firstNought okX8_payment rfl rfl cl_RX9_242 rfl rfl (Nat.le_of_ble_eq_true rfl) (by decide) (Nat.le_of_ble_eq_true rfl) (kf_X8_payment v2 v3 I717 F718) (fun r721 I722 F723 => ?_)
      refine OK_st 1 okX9_firstNought (S' := ((if ¬ r721 = 0 then 84 else 82), [(4, .int s0), (0, .ref 0), (1, .int v1), (2, .int v2), (3, .int v3)], [], hp I722 F723)) rfl ⟨trivial, trivial⟩ ?_
      refine OK_if (fun h724 => ?_) (fun h724 => ?_)
      · refine OK_st 2 okX9_firstNought (S' := (4, [(2, .int (v2 + (1 : Int32))), (4, .int s0), (0, .ref 0), (1, .int v1), (3, .int v3)], [], hp I722 F723)) rfl ⟨(by decide), trivial, trivial⟩ ?_
        refine OK_pk [2, 3, 0] rfl ?_
        exact hbk v1 (v2 + (1 : Int32)) I722 F723
      · refine OK_st 4 okX9_firstNought (S' := (4, [(2, .int (v2 + (1 : Int32))), (1, .int v2), (4, .int s0), (0, .ref 0), (3, .int v3)], [], hp I722 F723)) rfl ⟨trivial, (by decide), (by decide), trivial, trivial⟩ ?_
        refine OK_pk [3, 1, 0] rfl ?_
        exact hbk v2 (v2 + (1 : Int32)) I722 F723

def f_X9_firstNought_j43_4 (bk ko : Int32 → Int32 → AI → AF → AQ) (v1 : Int32) (v2 : Int32) (v3 : Int32) (I : AI) (F : AF) : AQ :=
  f_X9_firstNought_j48_4 (bk) ko v1 v2 v3 (1 : Int32) I F
set_option maxRecDepth 20000 in
set_option maxHeartbeats 4000000 in
theorem kf_X9_firstNought_j43_4 (bk ko : Int32 → Int32 → AI → AF → AQ) (v1 : Int32) (v2 : Int32) (v3 : Int32) (hbk : ∀ v1 v2 I F, OK 4 mX9_firstNought true (bk v1 v2 I F) (4, [(0, .ref 0), (1, .int v1), (2, .int v2)], [], hp I F)) (hko : ∀ v1 v2 I F, OK 4 mX9_firstNought true (ko v1 v2 I F) (90, [(0, .ref 0), (1, .int v1), (2, .int v2)], [], hp I F)) (I : AI) (F : AF) : OK 4 mX9_firstNought true (f_X9_firstNought_j43_4 bk ko v1 v2 v3 I F) (43, [(0, .ref 0), (1, .int v1), (2, .int v2), (3, .int v3)], [], hp I F) := by
  rw [f_X9_firstNought_j43_4]
  refine OK_st 2 okX9_firstNought (S' := (48, [(0, .ref 0), (1, .int v1), (2, .int v2), (3, .int v3)], [.int (1 : Int32)], hp I F)) rfl ⟨trivial, trivial, trivial⟩ ?_
  exact kf_X9_firstNought_j48_4 (bk) ko v1 v2 v3 hbk hko (1 : Int32) I F

def f_X9_firstNought_4 (ko : Int32 → Int32 → AI → AF → AQ) : Nat → Int32 → Int32 → AI → AF → AQ
  | 0, _, _, _, _ => none
  | n + 1, v1, v2, I, F =>
    if (I 10) ≤ v2 then
      ko v1 v2 I F
    else
      bif ab_vin v2 6 then
        if v1 = (-1 : Int32) then
          f_X9_firstNought_j43_4 (f_X9_firstNought_4 ko n) ko v1 v2 ((F 15) v2.toNatClampNeg) I F
        else
          bif ab_vin v1 6 then
            if ((F 15) v1.toNatClampNeg) ≤ ((F 15) v2.toNatClampNeg) then
              f_X9_firstNought_j48_4 (f_X9_firstNought_4 ko n) ko v1 v2 ((F 15) v2.toNatClampNeg) (0 : Int32) I F
            else
              f_X9_firstNought_j43_4 (f_X9_firstNought_4 ko n) ko v1 v2 ((F 15) v2.toNatClampNeg) I F
          else none
      else none
set_option maxRecDepth 20000 in
set_option maxHeartbeats 4000000 in
theorem kf_X9_firstNought_4 (ko : Int32 → Int32 → AI → AF → AQ) (hko : ∀ v1 v2 I F, OK 4 mX9_firstNought true (ko v1 v2 I F) (90, [(0, .ref 0), (1, .int v1), (2, .int v2)], [], hp I F)) : ∀ n v1 v2 I F, OK 4 mX9_firstNought true (f_X9_firstNought_4 ko n v1 v2 I F) (4, [(0, .ref 0), (1, .int v1), (2, .int v2)], [], hp I F) := by
  intro n
  induction n with
  | zero =>
    intro v1 v2 I F
    exact OK_no
  | succ n ih =>
    intro v1 v2 I F
    rw [f_X9_firstNought_4]
    refine OK_st 5 okX9_firstNought (S' := ((if (I 10) ≤ v2 then 90 else 15), [(0, .ref 0), (1, .int v1), (2, .int v2)], [], hp I F)) rfl ⟨trivial, trivial, trivial, trivial, trivial, trivial⟩ ?_
    refine OK_if (fun h713 => ?_) (fun h713 => ?_)
    · exact hko v1 v2 I F
    · refine OK_gd (fun g714 => ?_)
      refine OK_st 9 okX9_firstNought (S' := ((if v1 = (-1 : Int32) then 43 else 30), [(3, .int ((F 15) v2.toNatClampNeg)), (0, .ref 0), (1, .int v1), (2, .int v2)], [], hp I F)) rfl ⟨trivial, trivial, trivial, trivial, (ab_vo g714), (by decide), trivial, trivial, trivial, trivial⟩ ?_
      refine OK_if (fun h715 => ?_) (fun h715 => ?_)
      · refine OK_pk [1, 2, 3, 0] rfl ?_
        exact kf_X9_firstNought_j43_4 (f_X9_firstNought_4 ko n) ko v1 v2 ((F 15) v2.toNatClampNeg) ih hko I F
      · refine OK_gd (fun g725 => ?_)
        refine OK_st 7 okX9_firstNought (S' := ((if ((F 15) v1.toNatClampNeg) ≤ ((F 15) v2.toNatClampNeg) then 47 else 43), [(3, .int ((F 15) v2.toNatClampNeg)), (0, .ref 0), (1, .int v1), (2, .int v2)], [], hp I F)) rfl ⟨trivial, trivial, trivial, trivial, trivial, (ab_vo g725), trivial, trivial⟩ ?_
        refine OK_if (fun h726 => ?_) (fun h726 => ?_)
        · refine OK_st 1 okX9_firstNought (S' := (48, [(3, .int ((F 15) v2.toNatClampNeg)), (0, .ref 0), (1, .int v1), (2, .int v2)], [.int (0 : Int32)], hp I F)) rfl ⟨trivial, trivial⟩ ?_
          refine OK_pk [1, 2, 3, 0] rfl ?_
          exact kf_X9_firstNought_j48_4 (f_X9_firstNought_4 ko n) ko v1 v2 ((F 15) v2.toNatClampNeg) ih hko (0 : Int32) I F
        · refine OK_pk [1, 2, 3, 0] rfl ?_
          exact kf_X9_firstNought_j43_4 (f_X9_firstNought_4 ko n) ko v1 v2 ((F 15) v2.toNatClampNeg) ih hko I F

def f_X9_firstNought (I : AI) (F : AF) : AQ :=
  f_X9_firstNought_4 (fun v1_727 v2_728 I729 F730 =>
    some (v1_727, I729, F730)) ab_fu (-1 : Int32) (0 : Int32) I F
set_option maxRecDepth 20000 in
set_option maxHeartbeats 4000000 in
theorem kf_X9_firstNought (I : AI) (F : AF) : OK 4 mX9_firstNought true (f_X9_firstNought I F) (0, [(0, .ref 0)], [], hp I F) := by
  rw [f_X9_firstNought]
  refine OK_st 4 okX9_firstNought (S' := (4, [(2, .int (0 : Int32)), (1, .int (-1 : Int32)), (0, .ref 0)], [], hp I F)) rfl ⟨trivial, (by decide), trivial, (by decide), trivial⟩ ?_
  refine OK_pk [2, 1, 0] rfl ?_
  refine kf_X9_firstNought_4 _ (fun v1_727 v2_728 I729 F730 => ?_) ab_fu (-1 : Int32) (0 : Int32) I F
  refine OK_st 1 okX9_firstNought (S' := (91, [(0, .ref 0), (1, .int v1_727), (2, .int v2_728)], [.int v1_727], hp I729 F730)) rfl ⟨trivial, trivial⟩ ?_
  exact OK_ri okX9_firstNought rfl rfl (Or.inl rfl)

def f_X9_means (v1 : Int32) (v2 : Int32) (I : AI) (F : AF) : AQ :=
  ab_bd (f_X5_hasContract v1 I F) (fun r731 I732 F733 =>
    if ¬ r731 = 0 then
      if v2 < 0 then
        some ((-1000000002 : Int32), I732, F733)
      else
        if v2 ≤ (nI 99) then
          ab_bd (f_X8_payment v1 v2 I732 F733) (fun r737 I738 F739 =>
            some (r737, I738, F739))
        else
          some ((-1000000002 : Int32), I732, F733)
    else
      some ((-1000000001 : Int32), I732, F733))
set_option maxRecDepth 20000 in
set_option maxHeartbeats 4000000 in
theorem kf_X9_means (v1 : Int32) (v2 : Int32) (I : AI) (F : AF) : OK 4 mX9_means true (f_X9_means v1 v2 I F) (0, [(0, .ref 0), (1, .int v1), (2, .int v2)], [], hp I F) := by
  rw [f_X9_means]
  refine OK_st 3 okX9_means (S' := (5, [(0, .ref 0), (1, .int v1), (2, .int v2)], [.int v1, .ref 16], hp I F)) rfl ⟨trivial, trivial, trivial, trivial⟩ ?_
  refine OK_cv [.int v1] [] okX9_means okX5_hasContract rfl rfl cl_RX9_177 rfl rfl (Nat.le_of_ble_eq_true rfl) (by decide) (Nat.le_of_ble_eq_true rfl) (kf_X5_hasContract v1 I F) (fun r731 I732 F733 => ?_)
  refine OK_st 1 okX9_means (S' := ((if ¬ r731 = 0 then 14 else 11), [(0, .ref 0), (1, .int v1), (2, .int v2)], [], hp I732 F733)) rfl ⟨trivial, trivial⟩ ?_
  refine OK_if (fun h734 => ?_) (fun h734 => ?_)
  · refine OK_st 2 okX9_means (S' := ((if v2 < 0 then 24 else 18), [(0, .ref 0), (1, .int v1), (2, .int v2)], [], hp I732 F733)) rfl ⟨trivial, trivial, trivial⟩ ?_
    refine OK_if (fun h735 => ?_) (fun h735 => ?_)
    · refine OK_st 1 okX9_means (S' := (26, [(0, .ref 0), (1, .int v1), (2, .int v2)], [.int (-1000000002 : Int32)], hp I732 F733)) rfl ⟨trivial, trivial⟩ ?_
      exact OK_ri okX9_means rfl rfl (Or.inl rfl)
    · refine OK_st 3 okX9_means (S' := ((if v2 ≤ (nI 99) then 27 else 24), [(0, .ref 0), (1, .int v1), (2, .int v2)], [], hp I732 F733)) rfl ⟨trivial, trivial, trivial, trivial⟩ ?_
      refine OK_if (fun h736 => ?_) (fun h736 => ?_)
      · refine OK_st 6 okX9_means (S' := (37, [(0, .ref 0), (1, .int v1), (2, .int v2)], [.int v2, .int v1, .ref 16, .ref 27], hp I732 F733)) rfl ⟨trivial, trivial, trivial, trivial, trivial, trivial, trivial⟩ ?_
        refine OK_cv [.ref 16, .int v1, .int v2] [] okX9_means okX8_payment rfl rfl cl_RX9_242 rfl rfl (Nat.le_of_ble_eq_true rfl) (by decide) (Nat.le_of_ble_eq_true rfl) (kf_X8_payment v1 v2 I732 F733) (fun r737 I738 F739 => ?_)
        exact OK_ri okX9_means rfl rfl (Or.inl rfl)
      · refine OK_st 1 okX9_means (S' := (26, [(0, .ref 0), (1, .int v1), (2, .int v2)], [.int (-1000000002 : Int32)], hp I732 F733)) rfl ⟨trivial, trivial⟩ ?_
        exact OK_ri okX9_means rfl rfl (Or.inl rfl)
  · refine OK_st 1 okX9_means (S' := (13, [(0, .ref 0), (1, .int v1), (2, .int v2)], [.int (-1000000001 : Int32)], hp I732 F733)) rfl ⟨trivial, trivial⟩ ?_
    exact OK_ri okX9_means rfl rfl (Or.inl rfl)

def f_X0_search_31 (ko : Int32 → AI → AF → AQ) : Nat → Int32 → AI → AF → AQ
  | 0, _, _, _ => none
  | n + 1, v3, I, F =>
    if (I 19) ≤ v3 then
      ko v3 I F
    else
      ab_bd (f_X8_measure v3 (0 : Int32) I F) (fun r750 I751 F752 =>
        ab_bd (f_X8_measure v3 (1 : Int32) I751 F752) (fun r753 I754 F755 =>
          bif ab_vin v3 6 then
            ab_lt (va_up F755 29 (upd (F755 29) v3.toNatClampNeg (r753 - r750))) (fun F757 =>
              ab_bd (f_X8_measure v3 (nI 2) I754 F757) (fun r758 I759 F760 =>
                bif ab_vin v3 6 then
                  ab_lt (va_up F760 30 (upd (F760 30) v3.toNatClampNeg (r758 - r750))) (fun F762 =>
                    ab_bd (f_X8_measure v3 (nI 3) I759 F762) (fun r763 I764 F765 =>
                      bif ab_vin v3 6 then
                        bif ab_vin v3 6 then
                          ab_lt (va_up (va_up F765 31 (upd (F765 31) v3.toNatClampNeg (r763 - r750))) 32 (upd (F765 32) v3.toNatClampNeg (0 : Int32))) (fun F768 =>
                            f_X0_search_31 ko n (v3 + (1 : Int32)) I764 F768)
                        else none
                      else none))
                else none))
          else none))
set_option maxRecDepth 20000 in
set_option maxHeartbeats 4000000 in
theorem kf_X0_search_31 (ko : Int32 → AI → AF → AQ) (hko : ∀ v3 I F, OK 10 mX0_search false (ko v3 I F) (109, [(0, .ref 37), (1, .ref 16), (2, .ref 27), (3, .int v3)], [], hp I F)) : ∀ n v3 I F, OK 10 mX0_search false (f_X0_search_31 ko n v3 I F) (31, [(0, .ref 37), (1, .ref 16), (2, .ref 27), (3, .int v3)], [], hp I F) := by
  intro n
  induction n with
  | zero =>
    intro v3 I F
    exact OK_no
  | succ n ih =>
    intro v3 I F
    rw [f_X0_search_31]
    refine OK_st 4 okX0_search (S' := ((if (I 19) ≤ v3 then 109 else 39), [(0, .ref 37), (1, .ref 16), (2, .ref 27), (3, .int v3)], [], hp I F)) rfl ⟨trivial, trivial, trivial, trivial, trivial⟩ ?_
    refine OK_if (fun h749 => ?_) (fun h749 => ?_)
    · exact hko v3 I F
    · refine OK_st 4 okX0_search (S' := (43, [(0, .ref 37), (1, .ref 16), (2, .ref 27), (3, .int v3)], [.int (0 : Int32), .int v3, .ref 16, .ref 27], hp I F)) rfl ⟨trivial, trivial, trivial, trivial, trivial⟩ ?_
      refine OK_cv [.ref 16, .int v3, .int (0 : Int32)] [] okX0_search okX8_measure rfl rfl cl_RX0_49 rfl rfl (Nat.le_of_ble_eq_true rfl) (by decide) (Nat.le_of_ble_eq_true rfl) (kf_X8_measure v3 (0 : Int32) I F) (fun r750 I751 F752 => ?_)
      refine OK_st 8 okX0_search (S' := (57, [(4, .int r750), (0, .ref 37), (1, .ref 16), (2, .ref 27), (3, .int v3)], [.int (1 : Int32), .int v3, .ref 16, .ref 27, .int v3, .ref 38], hp I751 F752)) rfl ⟨(by decide), trivial, trivial, trivial, trivial, trivial, trivial, trivial, trivial⟩ ?_
      refine OK_cv [.ref 16, .int v3, .int (1 : Int32)] [.int v3, .ref 38] okX0_search okX8_measure rfl rfl cl_RX0_49 rfl rfl (Nat.le_of_ble_eq_true rfl) (by decide) (Nat.le_of_ble_eq_true rfl) (kf_X8_measure v3 (1 : Int32) I751 F752) (fun r753 I754 F755 => ?_)
      refine OK_gd (fun g756 => ?_)
      refine OK_st 10 okX0_search (S' := (73, [(4, .int r750), (0, .ref 37), (1, .ref 16), (2, .ref 27), (3, .int v3)], [.int (nI 2), .int v3, .ref 16, .ref 27, .int v3, .ref 39], hp I754 (va_up F755 29 (upd (F755 29) v3.toNatClampNeg (r753 - r750))))) rfl ⟨trivial, trivial, (ab_vo g756), trivial, trivial, trivial, trivial, trivial, trivial, trivial, trivial⟩ ?_
      refine OK_lt (fun F757 => (73, [(4, .int r750), (0, .ref 37), (1, .ref 16), (2, .ref 27), (3, .int v3)], [.int (nI 2), .int v3, .ref 16, .ref 27, .int v3, .ref 39], hp I754 F757)) (fun F757 => ?_)
      refine OK_cv [.ref 16, .int v3, .int (nI 2)] [.int v3, .ref 39] okX0_search okX8_measure rfl rfl cl_RX0_49 rfl rfl (Nat.le_of_ble_eq_true rfl) (by decide) (Nat.le_of_ble_eq_true rfl) (kf_X8_measure v3 (nI 2) I754 F757) (fun r758 I759 F760 => ?_)
      refine OK_gd (fun g761 => ?_)
      refine OK_st 10 okX0_search (S' := (89, [(4, .int r750), (0, .ref 37), (1, .ref 16), (2, .ref 27), (3, .int v3)], [.int (nI 3), .int v3, .ref 16, .ref 27, .int v3, .ref 40], hp I759 (va_up F760 30 (upd (F760 30) v3.toNatClampNeg (r758 - r750))))) rfl ⟨trivial, trivial, (ab_vo g761), trivial, trivial, trivial, trivial, trivial, trivial, trivial, trivial⟩ ?_
      refine OK_lt (fun F762 => (89, [(4, .int r750), (0, .ref 37), (1, .ref 16), (2, .ref 27), (3, .int v3)], [.int (nI 3), .int v3, .ref 16, .ref 27, .int v3, .ref 40], hp I759 F762)) (fun F762 => ?_)
      refine OK_cv [.ref 16, .int v3, .int (nI 3)] [.int v3, .ref 40] okX0_search okX8_measure rfl rfl cl_RX0_49 rfl rfl (Nat.le_of_ble_eq_true rfl) (by decide) (Nat.le_of_ble_eq_true rfl) (kf_X8_measure v3 (nI 3) I759 F762) (fun r763 I764 F765 => ?_)
      refine OK_gd (fun g766 => ?_)
      refine OK_gd (fun g767 => ?_)
      refine OK_st 10 okX0_search (S' := (31, [(3, .int (v3 + (1 : Int32))), (4, .int r750), (0, .ref 37), (1, .ref 16), (2, .ref 27)], [], hp I764 (va_up (va_up F765 31 (upd (F765 31) v3.toNatClampNeg (r763 - r750))) 32 (upd (F765 32) v3.toNatClampNeg (0 : Int32))))) rfl ⟨trivial, trivial, (ab_vo g766), trivial, trivial, trivial, trivial, (ab_vo g767), (by decide), trivial, trivial⟩ ?_
      refine OK_lt (fun F768 => (31, [(3, .int (v3 + (1 : Int32))), (4, .int r750), (0, .ref 37), (1, .ref 16), (2, .ref 27)], [], hp I764 F768)) (fun F768 => ?_)
      refine OK_pk [2, 3, 4, 0] rfl ?_
      exact ih (v3 + (1 : Int32)) I764 F768
