/-! methods as functions (by program) -/
def f_X9_contract (v1 : Int32) (v2 : Int32) (I : AI) (F : AF) : AQ :=
  ab_bd (f_X5_hasContract v1 I F) (fun r489 I490 F491 =>
    if ¬ r489 = 0 then
      if v2 = (0 : Int32) then
        bif ab_vin v1 6 then
          some (((F491 15) v1.toNatClampNeg), I490, F491)
        else none
      else if v2 = (1 : Int32) then
        bif ab_vin v1 6 then
          some (((F491 16) v1.toNatClampNeg), I490, F491)
        else none
      else if v2 = (2 : Int32) then
        bif ab_vin v1 6 then
          some (((F491 17) v1.toNatClampNeg), I490, F491)
        else none
      else if v2 = (3 : Int32) then
        ab_bd (f_X8_paidOf v1 I490 F491) (fun r501 I502 F503 =>
          some (r501, I502, F503))
      else 
        some ((-1000000002 : Int32), I490, F491)
    else
      some ((-1000000001 : Int32), I490, F491))
set_option maxRecDepth 20000 in
set_option maxHeartbeats 4000000 in
theorem kf_X9_contract (v1 : Int32) (v2 : Int32) (I : AI) (F : AF) : OK 1 mX9_contract true (f_X9_contract v1 v2 I F) (0, [(0, .ref 0), (1, .int v1), (2, .int v2)], [], hp I F) := by
  rw [f_X9_contract]
  refine OK_st 3 okX9_contract (S' := (5, [(0, .ref 0), (1, .int v1), (2, .int v2)], [.int v1, .ref 16], hp I F)) rfl ⟨trivial, trivial, trivial, trivial⟩ ?_
  refine OK_cv [.int v1] [] okX9_contract okX5_hasContract rfl rfl cl_RX9_177 rfl rfl (Nat.le_of_ble_eq_true rfl) (by decide) (Nat.le_of_ble_eq_true rfl) (kf_X5_hasContract v1 I F) (fun r489 I490 F491 => ?_)
  refine OK_st 1 okX9_contract (S' := ((if ¬ r489 = 0 then 14 else 11), [(0, .ref 0), (1, .int v1), (2, .int v2)], [], hp I490 F491)) rfl ⟨trivial, trivial⟩ ?_
  refine OK_if (fun h492 => ?_) (fun h492 => ?_)
  · refine OK_st 1 okX9_contract (S' := (15, [(0, .ref 0), (1, .int v1), (2, .int v2)], [.int v2], hp I490 F491)) rfl ⟨trivial, trivial⟩ ?_
    refine OK_ci (fun h493 => ?_) (fun h493 => ?_)
    · subst h493
      refine OK_st 1 okX9_contract (S' := (44, [(0, .ref 0), (1, .int v1), (2, .int (0 : Int32))], [], hp I490 F491)) rfl ⟨trivial, trivial⟩ ?_
      refine OK_gd (fun g494 => ?_)
      refine OK_st 5 okX9_contract (S' := (53, [(0, .ref 0), (1, .int v1), (2, .int (0 : Int32))], [.int ((F491 15) v1.toNatClampNeg)], hp I490 F491)) rfl ⟨trivial, trivial, trivial, trivial, (ab_vo g494), trivial⟩ ?_
      exact OK_ri okX9_contract rfl rfl (Or.inl rfl)
    · skip
      refine OK_ci (fun h495 => ?_) (fun h495 => ?_)
      · subst h495
        refine OK_st 1 okX9_contract (S' := (54, [(0, .ref 0), (1, .int v1), (2, .int (1 : Int32))], [], hp I490 F491)) rfl ⟨trivial, trivial⟩ ?_
        refine OK_gd (fun g496 => ?_)
        refine OK_st 5 okX9_contract (S' := (63, [(0, .ref 0), (1, .int v1), (2, .int (1 : Int32))], [.int ((F491 16) v1.toNatClampNeg)], hp I490 F491)) rfl ⟨trivial, trivial, trivial, trivial, (ab_vo g496), trivial⟩ ?_
        exact OK_ri okX9_contract rfl rfl (Or.inl rfl)
      · skip
        refine OK_ci (fun h497 => ?_) (fun h497 => ?_)
        · subst h497
          refine OK_st 1 okX9_contract (S' := (64, [(0, .ref 0), (1, .int v1), (2, .int (2 : Int32))], [], hp I490 F491)) rfl ⟨trivial, trivial⟩ ?_
          refine OK_gd (fun g498 => ?_)
          refine OK_st 5 okX9_contract (S' := (73, [(0, .ref 0), (1, .int v1), (2, .int (2 : Int32))], [.int ((F491 17) v1.toNatClampNeg)], hp I490 F491)) rfl ⟨trivial, trivial, trivial, trivial, (ab_vo g498), trivial⟩ ?_
          exact OK_ri okX9_contract rfl rfl (Or.inl rfl)
        · skip
          refine OK_ci (fun h499 => ?_) (fun h499 => ?_)
          · subst h499
            refine OK_st 1 okX9_contract (S' := (74, [(0, .ref 0), (1, .int v1), (2, .int (3 : Int32))], [], hp I490 F491)) rfl ⟨trivial, trivial⟩ ?_
            refine OK_st 3 okX9_contract (S' := (79, [(0, .ref 0), (1, .int v1), (2, .int (3 : Int32))], [.int v1, .ref 27], hp I490 F491)) rfl ⟨trivial, trivial, trivial, trivial⟩ ?_
            refine OK_cv [.int v1] [] okX9_contract okX8_paidOf rfl rfl cl_RX9_189 rfl rfl (Nat.le_of_ble_eq_true rfl) (by decide) (Nat.le_of_ble_eq_true rfl) (kf_X8_paidOf v1 I490 F491) (fun r501 I502 F503 => ?_)
            exact OK_ri okX9_contract rfl rfl (Or.inl rfl)
          · skip
            refine OK_st 1 okX9_contract (S' := (ab_tsw 15 68 0 3 #[29, 39, 49, 59] v2, [(0, .ref 0), (1, .int v1), (2, .int v2)], [], hp I490 F491)) rfl ⟨trivial, trivial⟩ ?_
            refine OK_pc (pc' := 83) (if_pos (by
              have qh493 := lv_neT h493 (show (0 : Int32).toInt = 0 from rfl)
              have qh495 := lv_neT h495 (show (1 : Int32).toInt = 1 from rfl)
              have qh497 := lv_neT h497 (show (2 : Int32).toInt = 2 from rfl)
              have qh499 := lv_neT h499 (show (3 : Int32).toInt = 3 from rfl)
              omega)) ?_
            refine OK_st 1 okX9_contract (S' := (85, [(0, .ref 0), (1, .int v1), (2, .int v2)], [.int (-1000000002 : Int32)], hp I490 F491)) rfl ⟨trivial, trivial⟩ ?_
            exact OK_ri okX9_contract rfl rfl (Or.inl rfl)
  · refine OK_st 1 okX9_contract (S' := (13, [(0, .ref 0), (1, .int v1), (2, .int v2)], [.int (-1000000001 : Int32)], hp I490 F491)) rfl ⟨trivial, trivial⟩ ?_
    exact OK_ri okX9_contract rfl rfl (Or.inl rfl)

def f_X5_hasRate (v1 : Int32) (I : AI) (F : AF) : AQ :=
  if v1 < 0 then
    some ((0 : Int32), I, F)
  else
    if (I 11) ≤ v1 then
      some ((0 : Int32), I, F)
    else
      some ((1 : Int32), I, F)
set_option maxRecDepth 20000 in
set_option maxHeartbeats 4000000 in
theorem kf_X5_hasRate (v1 : Int32) (I : AI) (F : AF) : OK 0 mX5_hasRate true (f_X5_hasRate v1 I F) (0, [(0, .ref 16), (1, .int v1)], [], hp I F) := by
  rw [f_X5_hasRate]
  refine OK_st 2 okX5_hasRate (S' := ((if v1 < 0 then 16 else 4), [(0, .ref 16), (1, .int v1)], [], hp I F)) rfl ⟨trivial, trivial, trivial⟩ ?_
  refine OK_if (fun h504 => ?_) (fun h504 => ?_)
  · refine OK_st 1 okX5_hasRate (S' := (17, [(0, .ref 16), (1, .int v1)], [.int (0 : Int32)], hp I F)) rfl ⟨trivial, trivial⟩ ?_
    exact OK_ri okX5_hasRate rfl rfl (Or.inr ⟨rfl, Or.inl rfl⟩)
  · refine OK_st 4 okX5_hasRate (S' := ((if (I 11) ≤ v1 then 16 else 12), [(0, .ref 16), (1, .int v1)], [], hp I F)) rfl ⟨trivial, trivial, trivial, trivial, trivial⟩ ?_
    refine OK_if (fun h505 => ?_) (fun h505 => ?_)
    · refine OK_st 1 okX5_hasRate (S' := (17, [(0, .ref 16), (1, .int v1)], [.int (0 : Int32)], hp I F)) rfl ⟨trivial, trivial⟩ ?_
      exact OK_ri okX5_hasRate rfl rfl (Or.inr ⟨rfl, Or.inl rfl⟩)
    · refine OK_st 2 okX5_hasRate (S' := (17, [(0, .ref 16), (1, .int v1)], [.int (1 : Int32)], hp I F)) rfl ⟨trivial, trivial, trivial⟩ ?_
      exact OK_ri okX5_hasRate rfl rfl (Or.inr ⟨rfl, Or.inr rfl⟩)

def f_X9_rate (v1 : Int32) (v2 : Int32) (I : AI) (F : AF) : AQ :=
  ab_bd (f_X5_hasRate v1 I F) (fun r506 I507 F508 =>
    if ¬ r506 = 0 then
      if v2 = (0 : Int32) then
        bif ab_vin v1 8 then
          some (((F508 18) v1.toNatClampNeg), I507, F508)
        else none
      else if v2 = (1 : Int32) then
        bif ab_vin v1 8 then
          some (((F508 19) v1.toNatClampNeg), I507, F508)
        else none
      else if v2 = (2 : Int32) then
        bif ab_vin v1 8 then
          some (((F508 20) v1.toNatClampNeg), I507, F508)
        else none
      else if v2 = (3 : Int32) then
        bif ab_vin v1 8 then
          some (((F508 21) v1.toNatClampNeg), I507, F508)
        else none
      else 
        some ((-1000000002 : Int32), I507, F508)
    else
      some ((-1000000001 : Int32), I507, F508))
set_option maxRecDepth 20000 in
set_option maxHeartbeats 4000000 in
theorem kf_X9_rate (v1 : Int32) (v2 : Int32) (I : AI) (F : AF) : OK 1 mX9_rate true (f_X9_rate v1 v2 I F) (0, [(0, .ref 0), (1, .int v1), (2, .int v2)], [], hp I F) := by
  rw [f_X9_rate]
  refine OK_st 3 okX9_rate (S' := (5, [(0, .ref 0), (1, .int v1), (2, .int v2)], [.int v1, .ref 16], hp I F)) rfl ⟨trivial, trivial, trivial, trivial⟩ ?_
  refine OK_cv [.int v1] [] okX9_rate okX5_hasRate rfl rfl cl_RX9_192 rfl rfl (Nat.le_of_ble_eq_true rfl) (by decide) (Nat.le_of_ble_eq_true rfl) (kf_X5_hasRate v1 I F) (fun r506 I507 F508 => ?_)
  refine OK_st 1 okX9_rate (S' := ((if ¬ r506 = 0 then 14 else 11), [(0, .ref 0), (1, .int v1), (2, .int v2)], [], hp I507 F508)) rfl ⟨trivial, trivial⟩ ?_
  refine OK_if (fun h509 => ?_) (fun h509 => ?_)
  · refine OK_st 1 okX9_rate (S' := (15, [(0, .ref 0), (1, .int v1), (2, .int v2)], [.int v2], hp I507 F508)) rfl ⟨trivial, trivial⟩ ?_
    refine OK_ci (fun h510 => ?_) (fun h510 => ?_)
    · subst h510
      refine OK_st 1 okX9_rate (S' := (44, [(0, .ref 0), (1, .int v1), (2, .int (0 : Int32))], [], hp I507 F508)) rfl ⟨trivial, trivial⟩ ?_
      refine OK_gd (fun g511 => ?_)
      refine OK_st 5 okX9_rate (S' := (53, [(0, .ref 0), (1, .int v1), (2, .int (0 : Int32))], [.int ((F508 18) v1.toNatClampNeg)], hp I507 F508)) rfl ⟨trivial, trivial, trivial, trivial, (ab_vo g511), trivial⟩ ?_
      exact OK_ri okX9_rate rfl rfl (Or.inl rfl)
    · skip
      refine OK_ci (fun h512 => ?_) (fun h512 => ?_)
      · subst h512
        refine OK_st 1 okX9_rate (S' := (54, [(0, .ref 0), (1, .int v1), (2, .int (1 : Int32))], [], hp I507 F508)) rfl ⟨trivial, trivial⟩ ?_
        refine OK_gd (fun g513 => ?_)
        refine OK_st 5 okX9_rate (S' := (63, [(0, .ref 0), (1, .int v1), (2, .int (1 : Int32))], [.int ((F508 19) v1.toNatClampNeg)], hp I507 F508)) rfl ⟨trivial, trivial, trivial, trivial, (ab_vo g513), trivial⟩ ?_
        exact OK_ri okX9_rate rfl rfl (Or.inl rfl)
      · skip
        refine OK_ci (fun h514 => ?_) (fun h514 => ?_)
        · subst h514
          refine OK_st 1 okX9_rate (S' := (64, [(0, .ref 0), (1, .int v1), (2, .int (2 : Int32))], [], hp I507 F508)) rfl ⟨trivial, trivial⟩ ?_
          refine OK_gd (fun g515 => ?_)
          refine OK_st 5 okX9_rate (S' := (73, [(0, .ref 0), (1, .int v1), (2, .int (2 : Int32))], [.int ((F508 20) v1.toNatClampNeg)], hp I507 F508)) rfl ⟨trivial, trivial, trivial, trivial, (ab_vo g515), trivial⟩ ?_
          exact OK_ri okX9_rate rfl rfl (Or.inl rfl)
        · skip
          refine OK_ci (fun h516 => ?_) (fun h516 => ?_)
          · subst h516
            refine OK_st 1 okX9_rate (S' := (74, [(0, .ref 0), (1, .int v1), (2, .int (3 : Int32))], [], hp I507 F508)) rfl ⟨trivial, trivial⟩ ?_
            refine OK_gd (fun g517 => ?_)
            refine OK_st 5 okX9_rate (S' := (83, [(0, .ref 0), (1, .int v1), (2, .int (3 : Int32))], [.int ((F508 21) v1.toNatClampNeg)], hp I507 F508)) rfl ⟨trivial, trivial, trivial, trivial, (ab_vo g517), trivial⟩ ?_
            exact OK_ri okX9_rate rfl rfl (Or.inl rfl)
          · skip
            refine OK_st 1 okX9_rate (S' := (ab_tsw 15 69 0 3 #[29, 39, 49, 59] v2, [(0, .ref 0), (1, .int v1), (2, .int v2)], [], hp I507 F508)) rfl ⟨trivial, trivial⟩ ?_
            refine OK_pc (pc' := 84) (if_pos (by
              have qh510 := lv_neT h510 (show (0 : Int32).toInt = 0 from rfl)
              have qh512 := lv_neT h512 (show (1 : Int32).toInt = 1 from rfl)
              have qh514 := lv_neT h514 (show (2 : Int32).toInt = 2 from rfl)
              have qh516 := lv_neT h516 (show (3 : Int32).toInt = 3 from rfl)
              omega)) ?_
            refine OK_st 1 okX9_rate (S' := (86, [(0, .ref 0), (1, .int v1), (2, .int v2)], [.int (-1000000002 : Int32)], hp I507 F508)) rfl ⟨trivial, trivial⟩ ?_
            exact OK_ri okX9_rate rfl rfl (Or.inl rfl)
  · refine OK_st 1 okX9_rate (S' := (13, [(0, .ref 0), (1, .int v1), (2, .int v2)], [.int (-1000000001 : Int32)], hp I507 F508)) rfl ⟨trivial, trivial⟩ ?_
    exact OK_ri okX9_rate rfl rfl (Or.inl rfl)

def f_X9_refusalOfSeasons (v1 : Int32) (I : AI) (F : AF) : AQ :=
  if v1 < (1 : Int32) then
    some ((-1000000002 : Int32), I, F)
  else
    if v1 ≤ (40 : Int32) then
      if ¬ (I 9) = 0 then
        ab_bd (f_X8_seasons I F) (fun r521 I522 F523 =>
          if r521 ≤ (9000 : Int32) then
            some ((0 : Int32), I522, F523)
          else
            some ((-1000000004 : Int32), I522, F523))
      else
        some ((-1000000003 : Int32), I, F)
    else
      some ((-1000000002 : Int32), I, F)
set_option maxRecDepth 20000 in
set_option maxHeartbeats 4000000 in
theorem kf_X9_refusalOfSeasons (v1 : Int32) (I : AI) (F : AF) : OK 1 mX9_refusalOfSeasons true (f_X9_refusalOfSeasons v1 I F) (0, [(0, .ref 0), (1, .int v1)], [], hp I F) := by
  rw [f_X9_refusalOfSeasons]
  refine OK_st 3 okX9_refusalOfSeasons (S' := ((if v1 < (1 : Int32) then 11 else 5), [(0, .ref 0), (1, .int v1)], [], hp I F)) rfl ⟨trivial, trivial, trivial, trivial⟩ ?_
  refine OK_if (fun h518 => ?_) (fun h518 => ?_)
  · refine OK_st 1 okX9_refusalOfSeasons (S' := (13, [(0, .ref 0), (1, .int v1)], [.int (-1000000002 : Int32)], hp I F)) rfl ⟨trivial, trivial⟩ ?_
    exact OK_ri okX9_refusalOfSeasons rfl rfl (Or.inl rfl)
  · refine OK_st 3 okX9_refusalOfSeasons (S' := ((if v1 ≤ (40 : Int32) then 14 else 11), [(0, .ref 0), (1, .int v1)], [], hp I F)) rfl ⟨trivial, trivial, trivial, trivial⟩ ?_
    refine OK_if (fun h519 => ?_) (fun h519 => ?_)
    · refine OK_st 4 okX9_refusalOfSeasons (S' := ((if ¬ (I 9) = 0 then 27 else 24), [(0, .ref 0), (1, .int v1)], [], hp I F)) rfl ⟨trivial, trivial, trivial, trivial, trivial⟩ ?_
      refine OK_if (fun h520 => ?_) (fun h520 => ?_)
      · refine OK_st 2 okX9_refusalOfSeasons (S' := (31, [(0, .ref 0), (1, .int v1)], [.ref 27], hp I F)) rfl ⟨trivial, trivial, trivial⟩ ?_
        refine OK_cv [] [] okX9_refusalOfSeasons okX8_seasons rfl rfl cl_RX9_126 rfl rfl (Nat.le_of_ble_eq_true rfl) (by decide) (Nat.le_of_ble_eq_true rfl) (kf_X8_seasons I F) (fun r521 I522 F523 => ?_)
        refine OK_st 2 okX9_refusalOfSeasons (S' := ((if r521 ≤ (9000 : Int32) then 45 else 40), [(0, .ref 0), (1, .int v1)], [], hp I522 F523)) rfl ⟨trivial, trivial, trivial⟩ ?_
        refine OK_if (fun h524 => ?_) (fun h524 => ?_)
        · refine OK_st 1 okX9_refusalOfSeasons (S' := (46, [(0, .ref 0), (1, .int v1)], [.int (0 : Int32)], hp I522 F523)) rfl ⟨trivial, trivial⟩ ?_
          exact OK_ri okX9_refusalOfSeasons rfl rfl (Or.inl rfl)
        · refine OK_st 2 okX9_refusalOfSeasons (S' := (46, [(0, .ref 0), (1, .int v1)], [.int (-1000000004 : Int32)], hp I522 F523)) rfl ⟨trivial, trivial, trivial⟩ ?_
          exact OK_ri okX9_refusalOfSeasons rfl rfl (Or.inl rfl)
      · refine OK_st 1 okX9_refusalOfSeasons (S' := (26, [(0, .ref 0), (1, .int v1)], [.int (-1000000003 : Int32)], hp I F)) rfl ⟨trivial, trivial⟩ ?_
        exact OK_ri okX9_refusalOfSeasons rfl rfl (Or.inl rfl)
    · refine OK_st 1 okX9_refusalOfSeasons (S' := (13, [(0, .ref 0), (1, .int v1)], [.int (-1000000002 : Int32)], hp I F)) rfl ⟨trivial, trivial⟩ ?_
      exact OK_ri okX9_refusalOfSeasons rfl rfl (Or.inl rfl)

def f_X4_latestPlace (I : AI) (F : AF) : AQ :=
  some ((((((I 12) + (I 13)) - (1 : Int32)) - (((I 12) + (I 13)) - (1 : Int32)) / (20 : Int32) * (20 : Int32)) * (20 : Int32)), I, F)
set_option maxRecDepth 20000 in
set_option maxHeartbeats 4000000 in
theorem kf_X4_latestPlace (I : AI) (F : AF) : OK 0 mX4_latestPlace true (f_X4_latestPlace I F) (0, [(0, .ref 29)], [], hp I F) := by
  rw [f_X4_latestPlace]
  refine OK_st 11 okX4_latestPlace (S' := (17, [(0, .ref 29)], [.int (((((I 12) + (I 13)) - (1 : Int32)) - (((I 12) + (I 13)) - (1 : Int32)) / (20 : Int32) * (20 : Int32)) * (20 : Int32))], hp I F)) rfl ⟨trivial, trivial, trivial, trivial, trivial, trivial, trivial, trivial, (by decide), trivial, trivial, trivial⟩ ?_
  exact OK_ri okX4_latestPlace rfl rfl (Or.inl rfl)

def f_X4_remember (I : AI) (F : AF) : AQ :=
  if ¬ (I 13) = (20 : Int32) then
    ab_lt (va_up I 13 ((I 13) + (1 : Int32))) (fun I530 =>
      ab_bd (f_X4_latestPlace I530 F) (fun r531 I532 F533 =>
        bif ab_cg (0 : Int32) r531 (20 : Int32) 21 400 then
          some (0, I532, (va_up F533 23 (va_cpy (F533 22) (F533 23) 0 r531.toNatClampNeg 20)))
        else none))
  else
    ab_lt (va_up I 12 (((I 12) + (1 : Int32)) - ((I 12) + (1 : Int32)) / (20 : Int32) * (20 : Int32))) (fun I535 =>
      ab_bd (f_X4_latestPlace I535 F) (fun r536 I537 F538 =>
        bif ab_cg (0 : Int32) r536 (20 : Int32) 21 400 then
          some (0, I537, (va_up F538 23 (va_cpy (F538 22) (F538 23) 0 r536.toNatClampNeg 20)))
        else none))
set_option maxRecDepth 20000 in
set_option maxHeartbeats 4000000 in
theorem kf_X4_remember (I : AI) (F : AF) : OK 1 mX4_remember false (f_X4_remember I F) (0, [(0, .ref 29), (1, .ref 27)], [], hp I F) := by
  rw [f_X4_remember]
  refine OK_st 4 okX4_remember (S' := ((if ¬ (I 13) = (20 : Int32) then 25 else 9), [(0, .ref 29), (1, .ref 27)], [], hp I F)) rfl ⟨trivial, trivial, trivial, trivial, trivial⟩ ?_
  refine OK_if (fun h529 => ?_) (fun h529 => ?_)
  · refine OK_st 12 okX4_remember (S' := (45, [(0, .ref 29), (1, .ref 27)], [.ref 29, .ref 30, .int (0 : Int32), .ref 28], hp (va_up I 13 ((I 13) + (1 : Int32))) F)) rfl ⟨trivial, rfl, trivial, trivial, trivial, trivial, trivial, trivial, trivial, trivial, trivial, trivial, trivial⟩ ?_
    refine OK_lt (fun I530 => (45, [(0, .ref 29), (1, .ref 27)], [.ref 29, .ref 30, .int (0 : Int32), .ref 28], hp I530 F)) (fun I530 => ?_)
    refine OK_cv [] [.ref 30, .int (0 : Int32), .ref 28] okX4_remember okX4_latestPlace rfl rfl cl_RX4_30 rfl rfl (Nat.le_of_ble_eq_true rfl) (by decide) (Nat.le_of_ble_eq_true rfl) (kf_X4_latestPlace I530 F) (fun r531 I532 F533 => ?_)
    refine OK_gd (fun g534 => ?_)
    refine OK_st 2 okX4_remember (S' := (53, [(0, .ref 29), (1, .ref 27)], [], hp I532 (va_up F533 23 (va_cpy (F533 22) (F533 23) 0 r531.toNatClampNeg 20)))) rfl ⟨trivial, ab_cgo g534 (Nat.le_of_ble_eq_true rfl), trivial⟩ ?_
    exact OK_rv okX4_remember rfl rfl rfl
  · refine OK_st 15 okX4_remember (S' := (45, [(0, .ref 29), (1, .ref 27)], [.ref 29, .ref 30, .int (0 : Int32), .ref 28], hp (va_up I 12 (((I 12) + (1 : Int32)) - ((I 12) + (1 : Int32)) / (20 : Int32) * (20 : Int32))) F)) rfl ⟨trivial, trivial, trivial, trivial, trivial, trivial, (by decide), trivial, trivial, trivial, trivial, trivial, trivial, trivial, trivial, trivial⟩ ?_
    refine OK_lt (fun I535 => (45, [(0, .ref 29), (1, .ref 27)], [.ref 29, .ref 30, .int (0 : Int32), .ref 28], hp I535 F)) (fun I535 => ?_)
    refine OK_cv [] [.ref 30, .int (0 : Int32), .ref 28] okX4_remember okX4_latestPlace rfl rfl cl_RX4_30 rfl rfl (Nat.le_of_ble_eq_true rfl) (by decide) (Nat.le_of_ble_eq_true rfl) (kf_X4_latestPlace I535 F) (fun r536 I537 F538 => ?_)
    refine OK_gd (fun g539 => ?_)
    refine OK_st 2 okX4_remember (S' := (53, [(0, .ref 29), (1, .ref 27)], [], hp I537 (va_up F538 23 (va_cpy (F538 22) (F538 23) 0 r536.toNatClampNeg 20)))) rfl ⟨trivial, ab_cgo g539 (Nat.le_of_ble_eq_true rfl), trivial⟩ ?_
    exact OK_rv okX4_remember rfl rfl rfl

def f_X8_payment (v2 : Int32) (v3 : Int32) (I : AI) (F : AF) : AQ :=
  bif ab_vin v2 6 then
    bif ab_vin v2 6 then
      ab_bd (f_X8_measure ((F 16) v2.toNatClampNeg) v3 I F) (fun r549 I550 F551 =>
        some ((((F 17) v2.toNatClampNeg) * r549), I550, F551))
    else none
  else none
set_option maxRecDepth 20000 in
set_option maxHeartbeats 4000000 in
theorem kf_X8_payment (v2 : Int32) (v3 : Int32) (I : AI) (F : AF) : OK 3 mX8_payment true (f_X8_payment v2 v3 I F) (0, [(0, .ref 27), (1, .ref 16), (2, .int v2), (3, .int v3)], [], hp I F) := by
  rw [f_X8_payment]
  refine OK_gd (fun g547 => ?_)
  refine OK_gd (fun g548 => ?_)
  refine OK_st 11 okX8_payment (S' := (15, [(0, .ref 27), (1, .ref 16), (2, .int v2), (3, .int v3)], [.int v3, .int ((F 16) v2.toNatClampNeg), .ref 16, .ref 27, .int ((F 17) v2.toNatClampNeg)], hp I F)) rfl ⟨trivial, trivial, trivial, (ab_vo g547), trivial, trivial, trivial, trivial, trivial, (ab_vo g548), trivial, trivial⟩ ?_
  refine OK_cv [.ref 16, .int ((F 16) v2.toNatClampNeg), .int v3] [.int ((F 17) v2.toNatClampNeg)] okX8_payment okX8_measure rfl rfl cl_RX8_50 rfl rfl (Nat.le_of_ble_eq_true rfl) (by decide) (Nat.le_of_ble_eq_true rfl) (kf_X8_measure ((F 16) v2.toNatClampNeg) v3 I F) (fun r549 I550 F551 => ?_)
  refine OK_st 1 okX8_payment (S' := (19, [(0, .ref 27), (1, .ref 16), (2, .int v2), (3, .int v3)], [.int (((F 17) v2.toNatClampNeg) * r549)], hp I550 F551)) rfl ⟨trivial, trivial⟩ ?_
  exact OK_ri okX8_payment rfl rfl (Or.inl rfl)

def f_X8_passSeason_2 (ko : Int32 → AI → AF → AQ) : Nat → Int32 → AI → AF → AQ
  | 0, _, _, _ => none
  | n + 1, v2, I, F =>
    if (I 10) ≤ v2 then
      ko v2 I F
    else
      bif ab_vin v2 6 then
        if ¬ ((F 15) v2.toNatClampNeg) = ((F 22) 19) then
          f_X8_passSeason_2 ko n (v2 + (1 : Int32)) I F
        else
          ab_bd (f_X8_payment v2 ((F 22) 19) I F) (fun r552 I553 F554 =>
            bif ab_vin ((12 : Int32) + v2) 21 then
              ab_lt (va_up F554 22 (upd (F554 22) ((12 : Int32) + v2).toNatClampNeg r552)) (fun F556 =>
                f_X8_passSeason_2 ko n (v2 + (1 : Int32)) I553 F556)
            else none)
      else none
set_option maxRecDepth 20000 in
set_option maxHeartbeats 4000000 in
theorem kf_X8_passSeason_2 (ko : Int32 → AI → AF → AQ) (hko : ∀ v2 I F, OK 4 mX8_passSeason false (ko v2 I F) (54, [(0, .ref 27), (1, .ref 16), (2, .int v2)], [], hp I F)) : ∀ n v2 I F, OK 4 mX8_passSeason false (f_X8_passSeason_2 ko n v2 I F) (2, [(0, .ref 27), (1, .ref 16), (2, .int v2)], [], hp I F) := by
  intro n
  induction n with
  | zero =>
    intro v2 I F
    exact OK_no
  | succ n ih =>
    intro v2 I F
    rw [f_X8_passSeason_2]
    refine OK_st 4 okX8_passSeason (S' := ((if (I 10) ≤ v2 then 54 else 10), [(0, .ref 27), (1, .ref 16), (2, .int v2)], [], hp I F)) rfl ⟨trivial, trivial, trivial, trivial, trivial⟩ ?_
    refine OK_if (fun h544 => ?_) (fun h544 => ?_)
    · exact hko v2 I F
    · refine OK_gd (fun g545 => ?_)
      refine OK_st 9 okX8_passSeason (S' := ((if ¬ ((F 15) v2.toNatClampNeg) = ((F 22) 19) then 48 else 26), [(0, .ref 27), (1, .ref 16), (2, .int v2)], [], hp I F)) rfl ⟨trivial, trivial, trivial, (ab_vo g545), trivial, trivial, trivial, (ab_vo (by decide)), trivial, trivial⟩ ?_
      refine OK_if (fun h546 => ?_) (fun h546 => ?_)
      · refine OK_st 2 okX8_passSeason (S' := (2, [(2, .int (v2 + (1 : Int32))), (0, .ref 27), (1, .ref 16)], [], hp I F)) rfl ⟨(by decide), trivial, trivial⟩ ?_
        refine OK_pk [1, 2, 0] rfl ?_
        exact ih (v2 + (1 : Int32)) I F
      · refine OK_st 12 okX8_passSeason (S' := (44, [(0, .ref 27), (1, .ref 16), (2, .int v2)], [.int ((F 22) 19), .int v2, .ref 16, .ref 27, .int ((12 : Int32) + v2), .ref 28], hp I F)) rfl ⟨trivial, trivial, trivial, trivial, trivial, trivial, trivial, trivial, trivial, trivial, trivial, (ab_vo (by decide)), trivial⟩ ?_
        refine OK_cv [.ref 16, .int v2, .int ((F 22) 19)] [.int ((12 : Int32) + v2), .ref 28] okX8_passSeason okX8_payment rfl rfl cl_RX8_69 rfl rfl (Nat.le_of_ble_eq_true rfl) (by decide) (Nat.le_of_ble_eq_true rfl) (kf_X8_payment v2 ((F 22) 19) I F) (fun r552 I553 F554 => ?_)
        refine OK_gd (fun g555 => ?_)
        refine OK_st 3 okX8_passSeason (S' := (2, [(2, .int (v2 + (1 : Int32))), (0, .ref 27), (1, .ref 16)], [], hp I553 (va_up F554 22 (upd (F554 22) ((12 : Int32) + v2).toNatClampNeg r552)))) rfl ⟨(ab_vo g555), (by decide), trivial, trivial⟩ ?_
        refine OK_lt (fun F556 => (2, [(2, .int (v2 + (1 : Int32))), (0, .ref 27), (1, .ref 16)], [], hp I553 F556)) (fun F556 => ?_)
        refine OK_pk [1, 2, 0] rfl ?_
        exact ih (v2 + (1 : Int32)) I553 F556

def f_X8_passSeason (I : AI) (F : AF) : AQ :=
  f_X8_passSeason_2 (fun v2_557 I558 F559 =>
    some (0, I558, (va_up F559 22 (upd (F559 22) 19 (((F559 22) 19) + (1 : Int32)))))) ab_fu (0 : Int32) I F
set_option maxRecDepth 20000 in
set_option maxHeartbeats 4000000 in
theorem kf_X8_passSeason (I : AI) (F : AF) : OK 4 mX8_passSeason false (f_X8_passSeason I F) (0, [(0, .ref 27), (1, .ref 16)], [], hp I F) := by
  rw [f_X8_passSeason]
  refine OK_st 2 okX8_passSeason (S' := (2, [(2, .int (0 : Int32)), (0, .ref 27), (1, .ref 16)], [], hp I F)) rfl ⟨trivial, (by decide), trivial⟩ ?_
  refine OK_pk [1, 2, 0] rfl ?_
  refine kf_X8_passSeason_2 _ (fun v2_557 I558 F559 => ?_) ab_fu (0 : Int32) I F
  refine OK_st 8 okX8_passSeason (S' := (65, [(0, .ref 27), (1, .ref 16), (2, .int v2_557)], [], hp I558 (va_up F559 22 (upd (F559 22) 19 (((F559 22) 19) + (1 : Int32)))))) rfl ⟨trivial, trivial, trivial, ⟨rfl, rfl⟩, (ab_vo (by decide)), trivial, trivial, (ab_vo (by decide)), trivial⟩ ?_
  exact OK_rv okX8_passSeason rfl rfl rfl

def f_X9_season_25 (v1 : Int32) (ko : Int32 → AI → AF → AQ) : Nat → Int32 → AI → AF → AQ
  | 0, _, _, _ => none
  | n + 1, v3, I, F =>
    if v1 ≤ v3 then
      ko v3 I F
    else
      ab_bd (f_X8_passSeason I F) (fun r560 I561 F562 =>
        f_X9_season_25 v1 ko n (v3 + (1 : Int32)) I561 F562)
set_option maxRecDepth 20000 in
set_option maxHeartbeats 4000000 in
theorem kf_X9_season_25 (v1 : Int32) (ko : Int32 → AI → AF → AQ) (hko : ∀ v3 I F, OK 5 mX9_season true (ko v3 I F) (47, [(0, .ref 0), (1, .int v1), (3, .int v3)], [], hp I F)) : ∀ n v3 I F, OK 5 mX9_season true (f_X9_season_25 v1 ko n v3 I F) (25, [(0, .ref 0), (1, .int v1), (3, .int v3)], [], hp I F) := by
  intro n
  induction n with
  | zero =>
    intro v3 I F
    exact OK_no
  | succ n ih =>
    intro v3 I F
    rw [f_X9_season_25]
    refine OK_st 3 okX9_season (S' := ((if v1 ≤ v3 then 47 else 30), [(0, .ref 0), (1, .int v1), (3, .int v3)], [], hp I F)) rfl ⟨trivial, trivial, trivial, trivial⟩ ?_
    refine OK_if (fun h543 => ?_) (fun h543 => ?_)
    · exact hko v3 I F
    · refine OK_st 4 okX9_season (S' := (38, [(0, .ref 0), (1, .int v1), (3, .int v3)], [.ref 16, .ref 27], hp I F)) rfl ⟨trivial, trivial, trivial, trivial, trivial⟩ ?_
      refine OK_cv [.ref 16] [] okX9_season okX8_passSeason rfl rfl cl_RX9_214 rfl rfl (Nat.le_of_ble_eq_true rfl) (by decide) (Nat.le_of_ble_eq_true rfl) (kf_X8_passSeason I F) (fun r560 I561 F562 => ?_)
      refine OK_st 2 okX9_season (S' := (25, [(3, .int (v3 + (1 : Int32))), (0, .ref 0), (1, .int v1)], [], hp I561 F562)) rfl ⟨(by decide), trivial, trivial⟩ ?_
      refine OK_pk [1, 2, 0] rfl ?_
      exact ih (v3 + (1 : Int32)) I561 F562

def f_X9_season (v1 : Int32) (I : AI) (F : AF) : AQ :=
  ab_bd (f_X9_refusalOfSeasons v1 I F) (fun r525 I526 F527 =>
    if r525 = 0 then
      ab_bd (f_X4_remember I526 F527) (fun r540 I541 F542 =>
        f_X9_season_25 v1 (fun v3_563 I564 F565 =>
          ab_bd (f_X8_seasons I564 F565) (fun r566 I567 F568 =>
            some (r566, I567, F568))) ab_fu (0 : Int32) I541 F542)
    else
      some (r525, I526, F527))
set_option maxRecDepth 20000 in
set_option maxHeartbeats 4000000 in
theorem kf_X9_season (v1 : Int32) (I : AI) (F : AF) : OK 5 mX9_season true (f_X9_season v1 I F) (0, [(0, .ref 0), (1, .int v1)], [], hp I F) := by
  rw [f_X9_season]
  refine OK_st 2 okX9_season (S' := (2, [(0, .ref 0), (1, .int v1)], [.int v1, .ref 0], hp I F)) rfl ⟨trivial, trivial, trivial⟩ ?_
  refine OK_cv [.int v1] [] okX9_season okX9_refusalOfSeasons rfl rfl cl_RX9_207 rfl rfl (Nat.le_of_ble_eq_true rfl) (by decide) (Nat.le_of_ble_eq_true rfl) (kf_X9_refusalOfSeasons v1 I F) (fun r525 I526 F527 => ?_)
  refine OK_st 3 okX9_season (S' := ((if r525 = 0 then 12 else 10), [(2, .int r525), (0, .ref 0), (1, .int v1)], [], hp I526 F527)) rfl ⟨(by decide), trivial, trivial, trivial⟩ ?_
  refine OK_if (fun h528 => ?_) (fun h528 => ?_)
  · refine OK_st 4 okX9_season (S' := (20, [(2, .int r525), (0, .ref 0), (1, .int v1)], [.ref 27, .ref 29], hp I526 F527)) rfl ⟨trivial, trivial, trivial, trivial, trivial⟩ ?_
    refine OK_cv [.ref 27] [] okX9_season okX4_remember rfl rfl cl_RX9_210 rfl rfl (Nat.le_of_ble_eq_true rfl) (by decide) (Nat.le_of_ble_eq_true rfl) (kf_X4_remember I526 F527) (fun r540 I541 F542 => ?_)
    refine OK_st 2 okX9_season (S' := (25, [(3, .int (0 : Int32)), (2, .int r525), (0, .ref 0), (1, .int v1)], [], hp I541 F542)) rfl ⟨trivial, (by decide), trivial⟩ ?_
    refine OK_pk [2, 3, 0] rfl ?_
    refine kf_X9_season_25 v1 _ (fun v3_563 I564 F565 => ?_) ab_fu (0 : Int32) I541 F542
    refine OK_st 2 okX9_season (S' := (51, [(0, .ref 0), (1, .int v1), (3, .int v3_563)], [.ref 27], hp I564 F565)) rfl ⟨trivial, trivial, trivial⟩ ?_
    refine OK_cv [] [] okX9_season okX8_seasons rfl rfl cl_RX9_126 rfl rfl (Nat.le_of_ble_eq_true rfl) (by decide) (Nat.le_of_ble_eq_true rfl) (kf_X8_seasons I564 F565) (fun r566 I567 F568 => ?_)
    exact OK_ri okX9_season rfl rfl (Or.inl rfl)
  · refine OK_st 1 okX9_season (S' := (11, [(2, .int r525), (0, .ref 0), (1, .int v1)], [.int r525], hp I526 F527)) rfl ⟨trivial, trivial⟩ ?_
    exact OK_ri okX9_season rfl rfl (Or.inl rfl)

def f_X8_swell (v1 : Int32) (v2 : Int32) (I : AI) (F : AF) : AQ :=
  bif ab_vin ((0 : Int32) + v1) 21 then
    bif ab_vin ((0 : Int32) + v1) 21 then
      some (0, I, (va_up F 22 (upd (F 22) ((0 : Int32) + v1).toNatClampNeg (if (((F 22) ((0 : Int32) + v1).toNatClampNeg) + v2) < (140 : Int32) then (((F 22) ((0 : Int32) + v1).toNatClampNeg) + v2) else (140 : Int32)))))
    else none
  else none
set_option maxRecDepth 20000 in
set_option maxHeartbeats 4000000 in
theorem kf_X8_swell (v1 : Int32) (v2 : Int32) (I : AI) (F : AF) : OK 0 mX8_swell false (f_X8_swell v1 v2 I F) (0, [(0, .ref 27), (1, .int v1), (2, .int v2)], [], hp I F) := by
  rw [f_X8_swell]
  refine OK_gd (fun g582 => ?_)
  refine OK_gd (fun g583 => ?_)
  refine OK_st 16 okX8_swell (S' := (24, [(0, .ref 27), (1, .int v1), (2, .int v2)], [], hp I (va_up F 22 (upd (F 22) ((0 : Int32) + v1).toNatClampNeg (if (((F 22) ((0 : Int32) + v1).toNatClampNeg) + v2) < (140 : Int32) then (((F 22) ((0 : Int32) + v1).toNatClampNeg) + v2) else (140 : Int32)))))) rfl ⟨trivial, trivial, trivial, trivial, trivial, trivial, trivial, trivial, trivial, trivial, trivial, (ab_vo g582), trivial, trivial, (Nat.le_of_ble_eq_true rfl), (ab_vo g583), trivial⟩ ?_
  exact OK_rv okX8_swell rfl rfl rfl

def f_X9_gout (v1 : Int32) (v2 : Int32) (I : AI) (F : AF) : AQ :=
  ab_bd (f_X5_hasLimb v1 I F) (fun r569 I570 F571 =>
    if ¬ r569 = 0 then
      if v2 < (1 : Int32) then
        some ((-1000000002 : Int32), I570, F571)
      else
        if v2 ≤ (20 : Int32) then
          ab_bd (f_X8_lives v1 I570 F571) (fun r575 I576 F577 =>
            if ¬ r575 = 0 then
              ab_bd (f_X4_remember I576 F577) (fun r579 I580 F581 =>
                ab_bd (f_X8_swell v1 v2 I580 F581) (fun r584 I585 F586 =>
                  ab_bd (f_X8_lengthOf v1 I585 F586) (fun r587 I588 F589 =>
                    some (r587, I588, F589))))
            else
              some ((-1000000003 : Int32), I576, F577))
        else
          some ((-1000000002 : Int32), I570, F571)
    else
      some ((-1000000001 : Int32), I570, F571))
set_option maxRecDepth 20000 in
set_option maxHeartbeats 4000000 in
theorem kf_X9_gout (v1 : Int32) (v2 : Int32) (I : AI) (F : AF) : OK 2 mX9_gout true (f_X9_gout v1 v2 I F) (0, [(0, .ref 0), (1, .int v1), (2, .int v2)], [], hp I F) := by
  rw [f_X9_gout]
  refine OK_st 3 okX9_gout (S' := (5, [(0, .ref 0), (1, .int v1), (2, .int v2)], [.int v1, .ref 16], hp I F)) rfl ⟨trivial, trivial, trivial, trivial⟩ ?_
  refine OK_cv [.int v1] [] okX9_gout okX5_hasLimb rfl rfl cl_RX9_151 rfl rfl (Nat.le_of_ble_eq_true rfl) (by decide) (Nat.le_of_ble_eq_true rfl) (kf_X5_hasLimb v1 I F) (fun r569 I570 F571 => ?_)
  refine OK_st 1 okX9_gout (S' := ((if ¬ r569 = 0 then 14 else 11), [(0, .ref 0), (1, .int v1), (2, .int v2)], [], hp I570 F571)) rfl ⟨trivial, trivial⟩ ?_
  refine OK_if (fun h572 => ?_) (fun h572 => ?_)
  · refine OK_st 3 okX9_gout (S' := ((if v2 < (1 : Int32) then 25 else 19), [(0, .ref 0), (1, .int v1), (2, .int v2)], [], hp I570 F571)) rfl ⟨trivial, trivial, trivial, trivial⟩ ?_
    refine OK_if (fun h573 => ?_) (fun h573 => ?_)
    · refine OK_st 1 okX9_gout (S' := (27, [(0, .ref 0), (1, .int v1), (2, .int v2)], [.int (-1000000002 : Int32)], hp I570 F571)) rfl ⟨trivial, trivial⟩ ?_
      exact OK_ri okX9_gout rfl rfl (Or.inl rfl)
    · refine OK_st 3 okX9_gout (S' := ((if v2 ≤ (20 : Int32) then 28 else 25), [(0, .ref 0), (1, .int v1), (2, .int v2)], [], hp I570 F571)) rfl ⟨trivial, trivial, trivial, trivial⟩ ?_
      refine OK_if (fun h574 => ?_) (fun h574 => ?_)
      · refine OK_st 3 okX9_gout (S' := (33, [(0, .ref 0), (1, .int v1), (2, .int v2)], [.int v1, .ref 27], hp I570 F571)) rfl ⟨trivial, trivial, trivial, trivial⟩ ?_
        refine OK_cv [.int v1] [] okX9_gout okX8_lives rfl rfl cl_RX9_167 rfl rfl (Nat.le_of_ble_eq_true rfl) (by decide) (Nat.le_of_ble_eq_true rfl) (kf_X8_lives v1 I570 F571) (fun r575 I576 F577 => ?_)
        refine OK_st 1 okX9_gout (S' := ((if ¬ r575 = 0 then 42 else 39), [(0, .ref 0), (1, .int v1), (2, .int v2)], [], hp I576 F577)) rfl ⟨trivial, trivial⟩ ?_
        refine OK_if (fun h578 => ?_) (fun h578 => ?_)
        · refine OK_st 4 okX9_gout (S' := (50, [(0, .ref 0), (1, .int v1), (2, .int v2)], [.ref 27, .ref 29], hp I576 F577)) rfl ⟨trivial, trivial, trivial, trivial, trivial⟩ ?_
          refine OK_cv [.ref 27] [] okX9_gout okX4_remember rfl rfl cl_RX9_210 rfl rfl (Nat.le_of_ble_eq_true rfl) (by decide) (Nat.le_of_ble_eq_true rfl) (kf_X4_remember I576 F577) (fun r579 I580 F581 => ?_)
          refine OK_st 4 okX9_gout (S' := (59, [(0, .ref 0), (1, .int v1), (2, .int v2)], [.int v2, .int v1, .ref 27], hp I580 F581)) rfl ⟨trivial, trivial, trivial, trivial, trivial⟩ ?_
          refine OK_cv [.int v1, .int v2] [] okX9_gout okX8_swell rfl rfl cl_RX9_218 rfl rfl (Nat.le_of_ble_eq_true rfl) (by decide) (Nat.le_of_ble_eq_true rfl) (kf_X8_swell v1 v2 I580 F581) (fun r584 I585 F586 => ?_)
          refine OK_st 3 okX9_gout (S' := (67, [(0, .ref 0), (1, .int v1), (2, .int v2)], [.int v1, .ref 27], hp I585 F586)) rfl ⟨trivial, trivial, trivial, trivial⟩ ?_
          refine OK_cv [.int v1] [] okX9_gout okX8_lengthOf rfl rfl cl_RX9_156 rfl rfl (Nat.le_of_ble_eq_true rfl) (by decide) (Nat.le_of_ble_eq_true rfl) (kf_X8_lengthOf v1 I585 F586) (fun r587 I588 F589 => ?_)
          exact OK_ri okX9_gout rfl rfl (Or.inl rfl)
        · refine OK_st 1 okX9_gout (S' := (41, [(0, .ref 0), (1, .int v1), (2, .int v2)], [.int (-1000000003 : Int32)], hp I576 F577)) rfl ⟨trivial, trivial⟩ ?_
          exact OK_ri okX9_gout rfl rfl (Or.inl rfl)
      · refine OK_st 1 okX9_gout (S' := (27, [(0, .ref 0), (1, .int v1), (2, .int v2)], [.int (-1000000002 : Int32)], hp I570 F571)) rfl ⟨trivial, trivial⟩ ?_
        exact OK_ri okX9_gout rfl rfl (Or.inl rfl)
  · refine OK_st 1 okX9_gout (S' := (13, [(0, .ref 0), (1, .int v1), (2, .int v2)], [.int (-1000000001 : Int32)], hp I570 F571)) rfl ⟨trivial, trivial⟩ ?_
    exact OK_ri okX9_gout rfl rfl (Or.inl rfl)

def f_X9_refusalOfLiving (v1 : Int32) (I : AI) (F : AF) : AQ :=
  ab_bd (f_X5_hasLimb v1 I F) (fun r590 I591 F592 =>
    if ¬ r590 = 0 then
      ab_bd (f_X8_lives v1 I591 F592) (fun r594 I595 F596 =>
        if r594 = 0 then
          some ((-1000000003 : Int32), I595, F596)
        else
          some ((0 : Int32), I595, F596))
    else
      some ((-1000000001 : Int32), I591, F592))
set_option maxRecDepth 20000 in
set_option maxHeartbeats 4000000 in
theorem kf_X9_refusalOfLiving (v1 : Int32) (I : AI) (F : AF) : OK 1 mX9_refusalOfLiving true (f_X9_refusalOfLiving v1 I F) (0, [(0, .ref 0), (1, .int v1)], [], hp I F) := by
  rw [f_X9_refusalOfLiving]
  refine OK_st 3 okX9_refusalOfLiving (S' := (5, [(0, .ref 0), (1, .int v1)], [.int v1, .ref 16], hp I F)) rfl ⟨trivial, trivial, trivial, trivial⟩ ?_
  refine OK_cv [.int v1] [] okX9_refusalOfLiving okX5_hasLimb rfl rfl cl_RX9_151 rfl rfl (Nat.le_of_ble_eq_true rfl) (by decide) (Nat.le_of_ble_eq_true rfl) (kf_X5_hasLimb v1 I F) (fun r590 I591 F592 => ?_)
  refine OK_st 1 okX9_refusalOfLiving (S' := ((if ¬ r590 = 0 then 14 else 11), [(0, .ref 0), (1, .int v1)], [], hp I591 F592)) rfl ⟨trivial, trivial⟩ ?_
  refine OK_if (fun h593 => ?_) (fun h593 => ?_)
  · refine OK_st 3 okX9_refusalOfLiving (S' := (19, [(0, .ref 0), (1, .int v1)], [.int v1, .ref 27], hp I591 F592)) rfl ⟨trivial, trivial, trivial, trivial⟩ ?_
    refine OK_cv [.int v1] [] okX9_refusalOfLiving okX8_lives rfl rfl cl_RX9_167 rfl rfl (Nat.le_of_ble_eq_true rfl) (by decide) (Nat.le_of_ble_eq_true rfl) (kf_X8_lives v1 I591 F592) (fun r594 I595 F596 => ?_)
    refine OK_st 1 okX9_refusalOfLiving (S' := ((if r594 = 0 then 29 else 25), [(0, .ref 0), (1, .int v1)], [], hp I595 F596)) rfl ⟨trivial, trivial⟩ ?_
    refine OK_if (fun h597 => ?_) (fun h597 => ?_)
    · refine OK_st 1 okX9_refusalOfLiving (S' := (31, [(0, .ref 0), (1, .int v1)], [.int (-1000000003 : Int32)], hp I595 F596)) rfl ⟨trivial, trivial⟩ ?_
      exact OK_ri okX9_refusalOfLiving rfl rfl (Or.inl rfl)
    · refine OK_st 2 okX9_refusalOfLiving (S' := (31, [(0, .ref 0), (1, .int v1)], [.int (0 : Int32)], hp I595 F596)) rfl ⟨trivial, trivial, trivial⟩ ?_
      exact OK_ri okX9_refusalOfLiving rfl rfl (Or.inl rfl)
  · refine OK_st 1 okX9_refusalOfLiving (S' := (13, [(0, .ref 0), (1, .int v1)], [.int (-1000000001 : Int32)], hp I591 F592)) rfl ⟨trivial, trivial⟩ ?_
    exact OK_ri okX9_refusalOfLiving rfl rfl (Or.inl rfl)

def f_X8_shorten (v1 : Int32) (I : AI) (F : AF) : AQ :=
  bif ab_vin ((0 : Int32) + v1) 21 then
    bif ab_vin ((0 : Int32) + v1) 21 then
      some (0, I, (va_up F 22 (upd (F 22) ((0 : Int32) + v1).toNatClampNeg (if (1 : Int32) < (((F 22) ((0 : Int32) + v1).toNatClampNeg) - (3 : Int32)) then (((F 22) ((0 : Int32) + v1).toNatClampNeg) - (3 : Int32)) else (1 : Int32)))))
    else none
  else none
set_option maxRecDepth 20000 in
set_option maxHeartbeats 4000000 in
theorem kf_X8_shorten (v1 : Int32) (I : AI) (F : AF) : OK 0 mX8_shorten false (f_X8_shorten v1 I F) (0, [(0, .ref 27), (1, .int v1)], [], hp I F) := by
  rw [f_X8_shorten]
  refine OK_gd (fun g605 => ?_)
  refine OK_gd (fun g606 => ?_)
  refine OK_st 16 okX8_shorten (S' := (22, [(0, .ref 27), (1, .int v1)], [], hp I (va_up F 22 (upd (F 22) ((0 : Int32) + v1).toNatClampNeg (if (1 : Int32) < (((F 22) ((0 : Int32) + v1).toNatClampNeg) - (3 : Int32)) then (((F 22) ((0 : Int32) + v1).toNatClampNeg) - (3 : Int32)) else (1 : Int32)))))) rfl ⟨trivial, trivial, trivial, trivial, trivial, trivial, trivial, trivial, trivial, trivial, trivial, (ab_vo g605), trivial, trivial, (Nat.le_of_ble_eq_true rfl), (ab_vo g606), trivial⟩ ?_
  exact OK_rv okX8_shorten rfl rfl rfl

def f_X9_stub (v1 : Int32) (I : AI) (F : AF) : AQ :=
  ab_bd (f_X9_refusalOfLiving v1 I F) (fun r598 I599 F600 =>
    if r598 = 0 then
      ab_bd (f_X4_remember I599 F600) (fun r602 I603 F604 =>
        ab_bd (f_X8_shorten v1 I603 F604) (fun r607 I608 F609 =>
          ab_bd (f_X8_lengthOf v1 I608 F609) (fun r610 I611 F612 =>
            some (r610, I611, F612))))
    else
      some (r598, I599, F600))
set_option maxRecDepth 20000 in
set_option maxHeartbeats 4000000 in
theorem kf_X9_stub (v1 : Int32) (I : AI) (F : AF) : OK 2 mX9_stub true (f_X9_stub v1 I F) (0, [(0, .ref 0), (1, .int v1)], [], hp I F) := by
  rw [f_X9_stub]
  refine OK_st 2 okX9_stub (S' := (2, [(0, .ref 0), (1, .int v1)], [.int v1, .ref 0], hp I F)) rfl ⟨trivial, trivial, trivial⟩ ?_
  refine OK_cv [.int v1] [] okX9_stub okX9_refusalOfLiving rfl rfl cl_RX9_222 rfl rfl (Nat.le_of_ble_eq_true rfl) (by decide) (Nat.le_of_ble_eq_true rfl) (kf_X9_refusalOfLiving v1 I F) (fun r598 I599 F600 => ?_)
  refine OK_st 3 okX9_stub (S' := ((if r598 = 0 then 12 else 10), [(2, .int r598), (0, .ref 0), (1, .int v1)], [], hp I599 F600)) rfl ⟨(by decide), trivial, trivial, trivial⟩ ?_
  refine OK_if (fun h601 => ?_) (fun h601 => ?_)
  · refine OK_st 4 okX9_stub (S' := (20, [(2, .int r598), (0, .ref 0), (1, .int v1)], [.ref 27, .ref 29], hp I599 F600)) rfl ⟨trivial, trivial, trivial, trivial, trivial⟩ ?_
    refine OK_cv [.ref 27] [] okX9_stub okX4_remember rfl rfl cl_RX9_210 rfl rfl (Nat.le_of_ble_eq_true rfl) (by decide) (Nat.le_of_ble_eq_true rfl) (kf_X4_remember I599 F600) (fun r602 I603 F604 => ?_)
    refine OK_st 3 okX9_stub (S' := (28, [(2, .int r598), (0, .ref 0), (1, .int v1)], [.int v1, .ref 27], hp I603 F604)) rfl ⟨trivial, trivial, trivial, trivial⟩ ?_
    refine OK_cv [.int v1] [] okX9_stub okX8_shorten rfl rfl cl_RX9_225 rfl rfl (Nat.le_of_ble_eq_true rfl) (by decide) (Nat.le_of_ble_eq_true rfl) (kf_X8_shorten v1 I603 F604) (fun r607 I608 F609 => ?_)
    refine OK_st 3 okX9_stub (S' := (36, [(2, .int r598), (0, .ref 0), (1, .int v1)], [.int v1, .ref 27], hp I608 F609)) rfl ⟨trivial, trivial, trivial, trivial⟩ ?_
    refine OK_cv [.int v1] [] okX9_stub okX8_lengthOf rfl rfl cl_RX9_156 rfl rfl (Nat.le_of_ble_eq_true rfl) (by decide) (Nat.le_of_ble_eq_true rfl) (kf_X8_lengthOf v1 I608 F609) (fun r610 I611 F612 => ?_)
    exact OK_ri okX9_stub rfl rfl (Or.inl rfl)
  · refine OK_st 1 okX9_stub (S' := (11, [(2, .int r598), (0, .ref 0), (1, .int v1)], [.int r598], hp I599 F600)) rfl ⟨trivial, trivial⟩ ?_
    exact OK_ri okX9_stub rfl rfl (Or.inl rfl)

def f_X8_bury (v1 : Int32) (I : AI) (F : AF) : AQ :=
  some (0, I, (va_up F 22 (upd (F 22) 18 (((F 22) 18) &&& (((1 : Int32) <<< (v1 &&& 31)) ^^^ (-1 : Int32))))))
set_option maxRecDepth 20000 in
set_option maxHeartbeats 4000000 in
theorem kf_X8_bury (v1 : Int32) (I : AI) (F : AF) : OK 0 mX8_bury false (f_X8_bury v1 I F) (0, [(0, .ref 27), (1, .int v1)], [], hp I F) := by
  rw [f_X8_bury]
  refine OK_st 12 okX8_bury (S' := (15, [(0, .ref 27), (1, .int v1)], [], hp I (va_up F 22 (upd (F 22) 18 (((F 22) 18) &&& (((1 : Int32) <<< (v1 &&& 31)) ^^^ (-1 : Int32))))))) rfl ⟨trivial, trivial, trivial, ⟨rfl, rfl⟩, (ab_vo (by decide)), trivial, trivial, trivial, trivial, trivial, trivial, (ab_vo (by decide)), trivial⟩ ?_
  exact OK_rv okX8_bury rfl rfl rfl

def f_X9_dies (v1 : Int32) (I : AI) (F : AF) : AQ :=
  ab_bd (f_X9_refusalOfLiving v1 I F) (fun r613 I614 F615 =>
    if r613 = 0 then
      ab_bd (f_X4_remember I614 F615) (fun r617 I618 F619 =>
        ab_bd (f_X8_bury v1 I618 F619) (fun r620 I621 F622 =>
          ab_bd (f_X8_measureNow v1 I621 F622) (fun r623 I624 F625 =>
            some (r623, I624, F625))))
    else
      some (r613, I614, F615))
set_option maxRecDepth 20000 in
set_option maxHeartbeats 4000000 in
theorem kf_X9_dies (v1 : Int32) (I : AI) (F : AF) : OK 4 mX9_dies true (f_X9_dies v1 I F) (0, [(0, .ref 0), (1, .int v1)], [], hp I F) := by
  rw [f_X9_dies]
  refine OK_st 2 okX9_dies (S' := (2, [(0, .ref 0), (1, .int v1)], [.int v1, .ref 0], hp I F)) rfl ⟨trivial, trivial, trivial⟩ ?_
  refine OK_cv [.int v1] [] okX9_dies okX9_refusalOfLiving rfl rfl cl_RX9_222 rfl rfl (Nat.le_of_ble_eq_true rfl) (by decide) (Nat.le_of_ble_eq_true rfl) (kf_X9_refusalOfLiving v1 I F) (fun r613 I614 F615 => ?_)
  refine OK_st 3 okX9_dies (S' := ((if r613 = 0 then 12 else 10), [(2, .int r613), (0, .ref 0), (1, .int v1)], [], hp I614 F615)) rfl ⟨(by decide), trivial, trivial, trivial⟩ ?_
  refine OK_if (fun h616 => ?_) (fun h616 => ?_)
  · refine OK_st 4 okX9_dies (S' := (20, [(2, .int r613), (0, .ref 0), (1, .int v1)], [.ref 27, .ref 29], hp I614 F615)) rfl ⟨trivial, trivial, trivial, trivial, trivial⟩ ?_
    refine OK_cv [.ref 27] [] okX9_dies okX4_remember rfl rfl cl_RX9_210 rfl rfl (Nat.le_of_ble_eq_true rfl) (by decide) (Nat.le_of_ble_eq_true rfl) (kf_X4_remember I614 F615) (fun r617 I618 F619 => ?_)
    refine OK_st 3 okX9_dies (S' := (28, [(2, .int r613), (0, .ref 0), (1, .int v1)], [.int v1, .ref 27], hp I618 F619)) rfl ⟨trivial, trivial, trivial, trivial⟩ ?_
    refine OK_cv [.int v1] [] okX9_dies okX8_bury rfl rfl cl_RX9_229 rfl rfl (Nat.le_of_ble_eq_true rfl) (by decide) (Nat.le_of_ble_eq_true rfl) (kf_X8_bury v1 I618 F619) (fun r620 I621 F622 => ?_)
    refine OK_st 5 okX9_dies (S' := (40, [(2, .int r613), (0, .ref 0), (1, .int v1)], [.int v1, .ref 16, .ref 27], hp I621 F622)) rfl ⟨trivial, trivial, trivial, trivial, trivial, trivial⟩ ?_
    refine OK_cv [.ref 16, .int v1] [] okX9_dies okX8_measureNow rfl rfl cl_RX9_159 rfl rfl (Nat.le_of_ble_eq_true rfl) (by decide) (Nat.le_of_ble_eq_true rfl) (kf_X8_measureNow v1 I621 F622) (fun r623 I624 F625 => ?_)
    exact OK_ri okX9_dies rfl rfl (Or.inl rfl)
  · refine OK_st 1 okX9_dies (S' := (11, [(2, .int r613), (0, .ref 0), (1, .int v1)], [.int r613], hp I614 F615)) rfl ⟨trivial, trivial⟩ ?_
    exact OK_ri okX9_dies rfl rfl (Or.inl rfl)

def f_X8_carve (v2 : Int32) (I : AI) (F : AF) : AQ :=
  ab_bd (f_X8_ownMeasure v2 ((F 22) 19) I F) (fun r633 I634 F635 =>
    bif ab_vin ((6 : Int32) + v2) 21 then
      some (0, I634, (va_up F635 22 (upd (F635 22) ((6 : Int32) + v2).toNatClampNeg r633)))
    else none)
set_option maxRecDepth 20000 in
set_option maxHeartbeats 4000000 in
theorem kf_X8_carve (v2 : Int32) (I : AI) (F : AF) : OK 2 mX8_carve false (f_X8_carve v2 I F) (0, [(0, .ref 27), (1, .ref 16), (2, .int v2)], [], hp I F) := by
  rw [f_X8_carve]
  refine OK_st 12 okX8_carve (S' := (18, [(0, .ref 27), (1, .ref 16), (2, .int v2)], [.int ((F 22) 19), .int v2, .ref 16, .ref 27, .int ((6 : Int32) + v2), .ref 28], hp I F)) rfl ⟨trivial, trivial, trivial, trivial, trivial, trivial, trivial, trivial, trivial, trivial, trivial, (ab_vo (by decide)), trivial⟩ ?_
  refine OK_cv [.ref 16, .int v2, .int ((F 22) 19)] [.int ((6 : Int32) + v2), .ref 28] okX8_carve okX8_ownMeasure rfl rfl cl_RX8_43 rfl rfl (Nat.le_of_ble_eq_true rfl) (by decide) (Nat.le_of_ble_eq_true rfl) (kf_X8_ownMeasure v2 ((F 22) 19) I F) (fun r633 I634 F635 => ?_)
  refine OK_gd (fun g636 => ?_)
  refine OK_st 1 okX8_carve (S' := (22, [(0, .ref 27), (1, .ref 16), (2, .int v2)], [], hp I634 (va_up F635 22 (upd (F635 22) ((6 : Int32) + v2).toNatClampNeg r633)))) rfl ⟨(ab_vo g636), trivial⟩ ?_
  exact OK_rv okX8_carve rfl rfl rfl

def f_X9_copy (v1 : Int32) (I : AI) (F : AF) : AQ :=
  ab_bd (f_X9_refusalOfLiving v1 I F) (fun r626 I627 F628 =>
    if r626 = 0 then
      ab_bd (f_X4_remember I627 F628) (fun r630 I631 F632 =>
        ab_bd (f_X8_carve v1 I631 F632) (fun r637 I638 F639 =>
          ab_bd (f_X8_copyOf v1 I638 F639) (fun r640 I641 F642 =>
            some (r640, I641, F642))))
    else
      some (r626, I627, F628))
set_option maxRecDepth 20000 in
set_option maxHeartbeats 4000000 in
theorem kf_X9_copy (v1 : Int32) (I : AI) (F : AF) : OK 3 mX9_copy true (f_X9_copy v1 I F) (0, [(0, .ref 0), (1, .int v1)], [], hp I F) := by
  rw [f_X9_copy]
  refine OK_st 2 okX9_copy (S' := (2, [(0, .ref 0), (1, .int v1)], [.int v1, .ref 0], hp I F)) rfl ⟨trivial, trivial, trivial⟩ ?_
  refine OK_cv [.int v1] [] okX9_copy okX9_refusalOfLiving rfl rfl cl_RX9_222 rfl rfl (Nat.le_of_ble_eq_true rfl) (by decide) (Nat.le_of_ble_eq_true rfl) (kf_X9_refusalOfLiving v1 I F) (fun r626 I627 F628 => ?_)
  refine OK_st 3 okX9_copy (S' := ((if r626 = 0 then 12 else 10), [(2, .int r626), (0, .ref 0), (1, .int v1)], [], hp I627 F628)) rfl ⟨(by decide), trivial, trivial, trivial⟩ ?_
  refine OK_if (fun h629 => ?_) (fun h629 => ?_)
  · refine OK_st 4 okX9_copy (S' := (20, [(2, .int r626), (0, .ref 0), (1, .int v1)], [.ref 27, .ref 29], hp I627 F628)) rfl ⟨trivial, trivial, trivial, trivial, trivial⟩ ?_
    refine OK_cv [.ref 27] [] okX9_copy okX4_remember rfl rfl cl_RX9_210 rfl rfl (Nat.le_of_ble_eq_true rfl) (by decide) (Nat.le_of_ble_eq_true rfl) (kf_X4_remember I627 F628) (fun r630 I631 F632 => ?_)
    refine OK_st 5 okX9_copy (S' := (32, [(2, .int r626), (0, .ref 0), (1, .int v1)], [.int v1, .ref 16, .ref 27], hp I631 F632)) rfl ⟨trivial, trivial, trivial, trivial, trivial, trivial⟩ ?_
    refine OK_cv [.ref 16, .int v1] [] okX9_copy okX8_carve rfl rfl cl_RX9_232 rfl rfl (Nat.le_of_ble_eq_true rfl) (by decide) (Nat.le_of_ble_eq_true rfl) (kf_X8_carve v1 I631 F632) (fun r637 I638 F639 => ?_)
    refine OK_st 3 okX9_copy (S' := (40, [(2, .int r626), (0, .ref 0), (1, .int v1)], [.int v1, .ref 27], hp I638 F639)) rfl ⟨trivial, trivial, trivial, trivial⟩ ?_
    refine OK_cv [.int v1] [] okX9_copy okX8_copyOf rfl rfl cl_RX9_170 rfl rfl (Nat.le_of_ble_eq_true rfl) (by decide) (Nat.le_of_ble_eq_true rfl) (kf_X8_copyOf v1 I638 F639) (fun r640 I641 F642 => ?_)
    exact OK_ri okX9_copy rfl rfl (Or.inl rfl)
  · refine OK_st 1 okX9_copy (S' := (11, [(2, .int r626), (0, .ref 0), (1, .int v1)], [.int r626], hp I627 F628)) rfl ⟨trivial, trivial⟩ ?_
    exact OK_ri okX9_copy rfl rfl (Or.inl rfl)

def f_X8_nextDraw (v1 : Int32) (I : AI) (F : AF) : AQ :=
  ab_lt (va_up F 22 (upd (F 22) 20 (((((((F 22) 20).toInt64) * (1103515245 : Int64)) + (12345 : Int64)) &&& (2147483647 : Int64)).toInt32))) (fun F651 =>
    if v1 ≤ 0 then
      some ((0 : Int32), I, F651)
    else
      bif ab_nz v1 then
        some (((((F651 22) 20) / (65536 : Int32)) - (((F651 22) 20) / (65536 : Int32)) / v1 * v1), I, F651)
      else none)
set_option maxRecDepth 20000 in
set_option maxHeartbeats 4000000 in
theorem kf_X8_nextDraw (v1 : Int32) (I : AI) (F : AF) : OK 0 mX8_nextDraw true (f_X8_nextDraw v1 I F) (0, [(0, .ref 27), (1, .int v1)], [], hp I F) := by
  rw [f_X8_nextDraw]
  refine OK_st 20 okX8_nextDraw (S' := ((if v1 ≤ 0 then 49 else 34), [(2, .long (((((F 22) 20).toInt64) * (1103515245 : Int64)) + (12345 : Int64))), (0, .ref 27), (1, .int v1)], [], hp I (va_up F 22 (upd (F 22) 20 (((((((F 22) 20).toInt64) * (1103515245 : Int64)) + (12345 : Int64)) &&& (2147483647 : Int64)).toInt32))))) rfl ⟨trivial, trivial, trivial, (ab_vo (by decide)), trivial, trivial, trivial, trivial, trivial, (by decide), trivial, trivial, trivial, trivial, trivial, trivial, trivial, (ab_vo (by decide)), trivial, trivial, trivial⟩ ?_
  refine OK_lt (fun F651 => ((if v1 ≤ 0 then 49 else 34), [(2, .long (((((F 22) 20).toInt64) * (1103515245 : Int64)) + (12345 : Int64))), (0, .ref 27), (1, .int v1)], [], hp I F651)) (fun F651 => ?_)
  refine OK_if (fun h652 => ?_) (fun h652 => ?_)
  · refine OK_st 1 okX8_nextDraw (S' := (50, [(2, .long (((((F 22) 20).toInt64) * (1103515245 : Int64)) + (12345 : Int64))), (0, .ref 27), (1, .int v1)], [.int (0 : Int32)], hp I F651)) rfl ⟨trivial, trivial⟩ ?_
    exact OK_ri okX8_nextDraw rfl rfl (Or.inl rfl)
  · refine OK_gd (fun g653 => ?_)
    refine OK_st 9 okX8_nextDraw (S' := (50, [(2, .long (((((F 22) 20).toInt64) * (1103515245 : Int64)) + (12345 : Int64))), (0, .ref 27), (1, .int v1)], [.int ((((F651 22) 20) / (65536 : Int32)) - (((F651 22) 20) / (65536 : Int32)) / v1 * v1)], hp I F651)) rfl ⟨trivial, trivial, trivial, (ab_vo (by decide)), trivial, (by decide), trivial, (ab_nzo g653), trivial, trivial⟩ ?_
    exact OK_ri okX8_nextDraw rfl rfl (Or.inl rfl)

def f_X8_sufferByDraws (I : AI) (F : AF) : AQ :=
  ab_bd (f_X8_nextDraw (6 : Int32) I F) (fun r654 I655 F656 =>
    if ¬ r654 = 0 then
      if ¬ r654 = (1 : Int32) then
        some (0, I655, F656)
      else
        ab_bd (f_X8_nextDraw (I655 9) I655 F656) (fun r659 I660 F661 =>
          ab_bd (f_X8_lives r659 I660 F661) (fun r662 I663 F664 =>
            if r662 = 0 then
              some (0, I663, F664)
            else
              ab_bd (f_X8_shorten r659 I663 F664) (fun r666 I667 F668 =>
                some (0, I667, F668))))
    else
      ab_bd (f_X8_nextDraw (I655 9) I655 F656) (fun r669 I670 F671 =>
        ab_bd (f_X8_nextDraw (20 : Int32) I670 F671) (fun r672 I673 F674 =>
          ab_bd (f_X8_lives r669 I673 F674) (fun r675 I676 F677 =>
            if r675 = 0 then
              some (0, I676, F677)
            else
              ab_bd (f_X8_swell r669 (r672 + (1 : Int32)) I676 F677) (fun r679 I680 F681 =>
                some (0, I680, F681))))))
set_option maxRecDepth 20000 in
set_option maxHeartbeats 4000000 in
theorem kf_X8_sufferByDraws (I : AI) (F : AF) : OK 1 mX8_sufferByDraws false (f_X8_sufferByDraws I F) (0, [(0, .ref 27), (1, .ref 16)], [], hp I F) := by
  rw [f_X8_sufferByDraws]
  refine OK_st 2 okX8_sufferByDraws (S' := (3, [(0, .ref 27), (1, .ref 16)], [.int (6 : Int32), .ref 27], hp I F)) rfl ⟨trivial, trivial, trivial⟩ ?_
  refine OK_cv [.int (6 : Int32)] [] okX8_sufferByDraws okX8_nextDraw rfl rfl cl_RX8_75 rfl rfl (Nat.le_of_ble_eq_true rfl) (by decide) (Nat.le_of_ble_eq_true rfl) (kf_X8_nextDraw (6 : Int32) I F) (fun r654 I655 F656 => ?_)
  refine OK_st 3 okX8_sufferByDraws (S' := ((if ¬ r654 = 0 then 48 else 11), [(2, .int r654), (0, .ref 27), (1, .ref 16)], [], hp I655 F656)) rfl ⟨(by decide), trivial, trivial, trivial⟩ ?_
  refine OK_if (fun h657 => ?_) (fun h657 => ?_)
  · refine OK_st 3 okX8_sufferByDraws (S' := ((if ¬ r654 = (1 : Int32) then 75 else 53), [(2, .int r654), (0, .ref 27), (1, .ref 16)], [], hp I655 F656)) rfl ⟨trivial, trivial, trivial, trivial⟩ ?_
    refine OK_if (fun h658 => ?_) (fun h658 => ?_)
    · exact OK_rv okX8_sufferByDraws rfl rfl rfl
    · refine OK_st 3 okX8_sufferByDraws (S' := (58, [(2, .int r654), (0, .ref 27), (1, .ref 16)], [.int (I655 9), .ref 27], hp I655 F656)) rfl ⟨trivial, trivial, trivial, trivial⟩ ?_
      refine OK_cv [.int (I655 9)] [] okX8_sufferByDraws okX8_nextDraw rfl rfl cl_RX8_75 rfl rfl (Nat.le_of_ble_eq_true rfl) (by decide) (Nat.le_of_ble_eq_true rfl) (kf_X8_nextDraw (I655 9) I655 F656) (fun r659 I660 F661 => ?_)
      refine OK_st 3 okX8_sufferByDraws (S' := (64, [(3, .int r659), (2, .int r654), (0, .ref 27), (1, .ref 16)], [.int r659, .ref 27], hp I660 F661)) rfl ⟨(by decide), trivial, trivial, trivial⟩ ?_
      refine OK_cv [.int r659] [] okX8_sufferByDraws okX8_lives rfl rfl cl_RX8_39 rfl rfl (Nat.le_of_ble_eq_true rfl) (by decide) (Nat.le_of_ble_eq_true rfl) (kf_X8_lives r659 I660 F661) (fun r662 I663 F664 => ?_)
      refine OK_st 1 okX8_sufferByDraws (S' := ((if r662 = 0 then 75 else 70), [(3, .int r659), (2, .int r654), (0, .ref 27), (1, .ref 16)], [], hp I663 F664)) rfl ⟨trivial, trivial⟩ ?_
      refine OK_if (fun h665 => ?_) (fun h665 => ?_)
      · exact OK_rv okX8_sufferByDraws rfl rfl rfl
      · refine OK_st 2 okX8_sufferByDraws (S' := (72, [(3, .int r659), (2, .int r654), (0, .ref 27), (1, .ref 16)], [.int r659, .ref 27], hp I663 F664)) rfl ⟨trivial, trivial, trivial⟩ ?_
        refine OK_cv [.int r659] [] okX8_sufferByDraws okX8_shorten rfl rfl cl_RX8_82 rfl rfl (Nat.le_of_ble_eq_true rfl) (by decide) (Nat.le_of_ble_eq_true rfl) (kf_X8_shorten r659 I663 F664) (fun r666 I667 F668 => ?_)
        exact OK_rv okX8_sufferByDraws rfl rfl rfl
  · refine OK_st 3 okX8_sufferByDraws (S' := (16, [(2, .int r654), (0, .ref 27), (1, .ref 16)], [.int (I655 9), .ref 27], hp I655 F656)) rfl ⟨trivial, trivial, trivial, trivial⟩ ?_
    refine OK_cv [.int (I655 9)] [] okX8_sufferByDraws okX8_nextDraw rfl rfl cl_RX8_75 rfl rfl (Nat.le_of_ble_eq_true rfl) (by decide) (Nat.le_of_ble_eq_true rfl) (kf_X8_nextDraw (I655 9) I655 F656) (fun r669 I670 F671 => ?_)
    refine OK_st 3 okX8_sufferByDraws (S' := (23, [(3, .int r669), (2, .int r654), (0, .ref 27), (1, .ref 16)], [.int (20 : Int32), .ref 27], hp I670 F671)) rfl ⟨(by decide), trivial, trivial, trivial⟩ ?_
    refine OK_cv [.int (20 : Int32)] [] okX8_sufferByDraws okX8_nextDraw rfl rfl cl_RX8_75 rfl rfl (Nat.le_of_ble_eq_true rfl) (by decide) (Nat.le_of_ble_eq_true rfl) (kf_X8_nextDraw (20 : Int32) I670 F671) (fun r672 I673 F674 => ?_)
    refine OK_st 5 okX8_sufferByDraws (S' := (32, [(4, .int (r672 + (1 : Int32))), (3, .int r669), (2, .int r654), (0, .ref 27), (1, .ref 16)], [.int r669, .ref 27], hp I673 F674)) rfl ⟨trivial, trivial, (by decide), trivial, trivial, trivial⟩ ?_
    refine OK_cv [.int r669] [] okX8_sufferByDraws okX8_lives rfl rfl cl_RX8_39 rfl rfl (Nat.le_of_ble_eq_true rfl) (by decide) (Nat.le_of_ble_eq_true rfl) (kf_X8_lives r669 I673 F674) (fun r675 I676 F677 => ?_)
    refine OK_st 1 okX8_sufferByDraws (S' := ((if r675 = 0 then 45 else 38), [(4, .int (r672 + (1 : Int32))), (3, .int r669), (2, .int r654), (0, .ref 27), (1, .ref 16)], [], hp I676 F677)) rfl ⟨trivial, trivial⟩ ?_
    refine OK_if (fun h678 => ?_) (fun h678 => ?_)
    · refine OK_st 1 okX8_sufferByDraws (S' := (75, [(4, .int (r672 + (1 : Int32))), (3, .int r669), (2, .int r654), (0, .ref 27), (1, .ref 16)], [], hp I676 F677)) rfl ⟨trivial, trivial⟩ ?_
      exact OK_rv okX8_sufferByDraws rfl rfl rfl
    · refine OK_st 3 okX8_sufferByDraws (S' := (42, [(4, .int (r672 + (1 : Int32))), (3, .int r669), (2, .int r654), (0, .ref 27), (1, .ref 16)], [.int (r672 + (1 : Int32)), .int r669, .ref 27], hp I676 F677)) rfl ⟨trivial, trivial, trivial, trivial⟩ ?_
      refine OK_cv [.int r669, .int (r672 + (1 : Int32))] [] okX8_sufferByDraws okX8_swell rfl rfl cl_RX8_78 rfl rfl (Nat.le_of_ble_eq_true rfl) (by decide) (Nat.le_of_ble_eq_true rfl) (kf_X8_swell r669 (r672 + (1 : Int32)) I676 F677) (fun r679 I680 F681 => ?_)
      refine OK_st 1 okX8_sufferByDraws (S' := (75, [(4, .int (r672 + (1 : Int32))), (3, .int r669), (2, .int r654), (0, .ref 27), (1, .ref 16)], [], hp I680 F681)) rfl ⟨trivial, trivial⟩ ?_
      exact OK_rv okX8_sufferByDraws rfl rfl rfl

def f_X9_drift_25 (v1 : Int32) (ko : Int32 → AI → AF → AQ) : Nat → Int32 → AI → AF → AQ
  | 0, _, _, _ => none
  | n + 1, v3, I, F =>
    if v1 ≤ v3 then
      ko v3 I F
    else
      ab_bd (f_X8_sufferByDraws I F) (fun r682 I683 F684 =>
        ab_bd (f_X8_passSeason I683 F684) (fun r685 I686 F687 =>
          f_X9_drift_25 v1 ko n (v3 + (1 : Int32)) I686 F687))
set_option maxRecDepth 20000 in
set_option maxHeartbeats 4000000 in
theorem kf_X9_drift_25 (v1 : Int32) (ko : Int32 → AI → AF → AQ) (hko : ∀ v3 I F, OK 5 mX9_drift true (ko v3 I F) (58, [(0, .ref 0), (1, .int v1), (3, .int v3)], [], hp I F)) : ∀ n v3 I F, OK 5 mX9_drift true (f_X9_drift_25 v1 ko n v3 I F) (25, [(0, .ref 0), (1, .int v1), (3, .int v3)], [], hp I F) := by
  intro n
  induction n with
  | zero =>
    intro v3 I F
    exact OK_no
  | succ n ih =>
    intro v3 I F
    rw [f_X9_drift_25]
    refine OK_st 3 okX9_drift (S' := ((if v1 ≤ v3 then 58 else 30), [(0, .ref 0), (1, .int v1), (3, .int v3)], [], hp I F)) rfl ⟨trivial, trivial, trivial, trivial⟩ ?_
    refine OK_if (fun h650 => ?_) (fun h650 => ?_)
    · exact hko v3 I F
    · refine OK_st 4 okX9_drift (S' := (38, [(0, .ref 0), (1, .int v1), (3, .int v3)], [.ref 16, .ref 27], hp I F)) rfl ⟨trivial, trivial, trivial, trivial, trivial⟩ ?_
      refine OK_cv [.ref 16] [] okX9_drift okX8_sufferByDraws rfl rfl cl_RX9_236 rfl rfl (Nat.le_of_ble_eq_true rfl) (by decide) (Nat.le_of_ble_eq_true rfl) (kf_X8_sufferByDraws I F) (fun r682 I683 F684 => ?_)
      refine OK_st 4 okX9_drift (S' := (49, [(0, .ref 0), (1, .int v1), (3, .int v3)], [.ref 16, .ref 27], hp I683 F684)) rfl ⟨trivial, trivial, trivial, trivial, trivial⟩ ?_
      refine OK_cv [.ref 16] [] okX9_drift okX8_passSeason rfl rfl cl_RX9_214 rfl rfl (Nat.le_of_ble_eq_true rfl) (by decide) (Nat.le_of_ble_eq_true rfl) (kf_X8_passSeason I683 F684) (fun r685 I686 F687 => ?_)
      refine OK_st 2 okX9_drift (S' := (25, [(3, .int (v3 + (1 : Int32))), (0, .ref 0), (1, .int v1)], [], hp I686 F687)) rfl ⟨(by decide), trivial, trivial⟩ ?_
      refine OK_pk [1, 2, 0] rfl ?_
      exact ih (v3 + (1 : Int32)) I686 F687

def f_X9_drift (v1 : Int32) (I : AI) (F : AF) : AQ :=
  ab_bd (f_X9_refusalOfSeasons v1 I F) (fun r643 I644 F645 =>
    if r643 = 0 then
      ab_bd (f_X4_remember I644 F645) (fun r647 I648 F649 =>
        f_X9_drift_25 v1 (fun v3_688 I689 F690 =>
          ab_bd (f_X8_seasons I689 F690) (fun r691 I692 F693 =>
            some (r691, I692, F693))) ab_fu (0 : Int32) I648 F649)
    else
      some (r643, I644, F645))
set_option maxRecDepth 20000 in
set_option maxHeartbeats 4000000 in
theorem kf_X9_drift (v1 : Int32) (I : AI) (F : AF) : OK 5 mX9_drift true (f_X9_drift v1 I F) (0, [(0, .ref 0), (1, .int v1)], [], hp I F) := by
  rw [f_X9_drift]
  refine OK_st 2 okX9_drift (S' := (2, [(0, .ref 0), (1, .int v1)], [.int v1, .ref 0], hp I F)) rfl ⟨trivial, trivial, trivial⟩ ?_
  refine OK_cv [.int v1] [] okX9_drift okX9_refusalOfSeasons rfl rfl cl_RX9_207 rfl rfl (Nat.le_of_ble_eq_true rfl) (by decide) (Nat.le_of_ble_eq_true rfl) (kf_X9_refusalOfSeasons v1 I F) (fun r643 I644 F645 => ?_)
  refine OK_st 3 okX9_drift (S' := ((if r643 = 0 then 12 else 10), [(2, .int r643), (0, .ref 0), (1, .int v1)], [], hp I644 F645)) rfl ⟨(by decide), trivial, trivial, trivial⟩ ?_
  refine OK_if (fun h646 => ?_) (fun h646 => ?_)
  · refine OK_st 4 okX9_drift (S' := (20, [(2, .int r643), (0, .ref 0), (1, .int v1)], [.ref 27, .ref 29], hp I644 F645)) rfl ⟨trivial, trivial, trivial, trivial, trivial⟩ ?_
    refine OK_cv [.ref 27] [] okX9_drift okX4_remember rfl rfl cl_RX9_210 rfl rfl (Nat.le_of_ble_eq_true rfl) (by decide) (Nat.le_of_ble_eq_true rfl) (kf_X4_remember I644 F645) (fun r647 I648 F649 => ?_)
    refine OK_st 2 okX9_drift (S' := (25, [(3, .int (0 : Int32)), (2, .int r643), (0, .ref 0), (1, .int v1)], [], hp I648 F649)) rfl ⟨trivial, (by decide), trivial⟩ ?_
    refine OK_pk [2, 3, 0] rfl ?_
    refine kf_X9_drift_25 v1 _ (fun v3_688 I689 F690 => ?_) ab_fu (0 : Int32) I648 F649
    refine OK_st 2 okX9_drift (S' := (62, [(0, .ref 0), (1, .int v1), (3, .int v3_688)], [.ref 27], hp I689 F690)) rfl ⟨trivial, trivial, trivial⟩ ?_
    refine OK_cv [] [] okX9_drift okX8_seasons rfl rfl cl_RX9_126 rfl rfl (Nat.le_of_ble_eq_true rfl) (by decide) (Nat.le_of_ble_eq_true rfl) (kf_X8_seasons I689 F690) (fun r691 I692 F693 => ?_)
    exact OK_ri okX9_drift rfl rfl (Or.inl rfl)
  · refine OK_st 1 okX9_drift (S' := (11, [(2, .int r643), (0, .ref 0), (1, .int v1)], [.int r643], hp I644 F645)) rfl ⟨trivial, trivial⟩ ?_
    exact OK_ri okX9_drift rfl rfl (Or.inl rfl)

def f_X4_restoreLatest (I : AI) (F : AF) : AQ :=
  if (I 13) ≤ 0 then
    some (0, I, F)
  else
    ab_bd (f_X4_latestPlace I F) (fun r696 I697 F698 =>
      bif ab_cg r696 (0 : Int32) (20 : Int32) 400 21 then
        some (0, (va_up I697 13 ((I697 13) - (1 : Int32))), (va_up F698 22 (va_cpy (F698 23) (F698 22) r696.toNatClampNeg 0 20)))
      else none)
set_option maxRecDepth 20000 in
set_option maxHeartbeats 4000000 in
theorem kf_X4_restoreLatest (I : AI) (F : AF) : OK 1 mX4_restoreLatest false (f_X4_restoreLatest I F) (0, [(0, .ref 29), (1, .ref 27)], [], hp I F) := by
  rw [f_X4_restoreLatest]
  refine OK_st 3 okX4_restoreLatest (S' := ((if (I 13) ≤ 0 then 35 else 7), [(0, .ref 29), (1, .ref 27)], [], hp I F)) rfl ⟨trivial, trivial, trivial, trivial⟩ ?_
  refine OK_if (fun h695 => ?_) (fun h695 => ?_)
  · exact OK_rv okX4_restoreLatest rfl rfl rfl
  · refine OK_st 3 okX4_restoreLatest (S' := (12, [(0, .ref 29), (1, .ref 27)], [.ref 29, .ref 30], hp I F)) rfl ⟨trivial, trivial, trivial, trivial⟩ ?_
    refine OK_cv [] [.ref 30] okX4_restoreLatest okX4_latestPlace rfl rfl cl_RX4_30 rfl rfl (Nat.le_of_ble_eq_true rfl) (by decide) (Nat.le_of_ble_eq_true rfl) (kf_X4_latestPlace I F) (fun r696 I697 F698 => ?_)
    refine OK_gd (fun g699 => ?_)
    refine OK_st 11 okX4_restoreLatest (S' := (35, [(0, .ref 29), (1, .ref 27)], [], hp (va_up I697 13 ((I697 13) - (1 : Int32))) (va_up F698 22 (va_cpy (F698 23) (F698 22) r696.toNatClampNeg 0 20)))) rfl ⟨trivial, trivial, trivial, trivial, ab_cgo g699 (Nat.le_of_ble_eq_true rfl), trivial, rfl, trivial, trivial, trivial, trivial, trivial⟩ ?_
    exact OK_rv okX4_restoreLatest rfl rfl rfl

def f_X9_undo (I : AI) (F : AF) : AQ :=
  if ¬ (I 13) = 0 then
    ab_bd (f_X4_restoreLatest I F) (fun r700 I701 F702 =>
      some ((I701 13), I701, F702))
  else
    some ((-1000000003 : Int32), I, F)
set_option maxRecDepth 20000 in
set_option maxHeartbeats 4000000 in
theorem kf_X9_undo (I : AI) (F : AF) : OK 2 mX9_undo true (f_X9_undo I F) (0, [(0, .ref 0)], [], hp I F) := by
  rw [f_X9_undo]
  refine OK_st 4 okX9_undo (S' := ((if ¬ (I 13) = 0 then 13 else 10), [(0, .ref 0)], [], hp I F)) rfl ⟨trivial, trivial, trivial, trivial, trivial⟩ ?_
  refine OK_if (fun h694 => ?_) (fun h694 => ?_)
  · refine OK_st 4 okX9_undo (S' := (21, [(0, .ref 0)], [.ref 27, .ref 29], hp I F)) rfl ⟨trivial, trivial, trivial, trivial, trivial⟩ ?_
    refine OK_cv [.ref 27] [] okX9_undo okX4_restoreLatest rfl rfl cl_RX9_239 rfl rfl (Nat.le_of_ble_eq_true rfl) (by decide) (Nat.le_of_ble_eq_true rfl) (kf_X4_restoreLatest I F) (fun r700 I701 F702 => ?_)
    refine OK_st 3 okX9_undo (S' := (31, [(0, .ref 0)], [.int (I701 13)], hp I701 F702)) rfl ⟨trivial, trivial, trivial, trivial⟩ ?_
    exact OK_ri okX9_undo rfl rfl (Or.inl rfl)
  · refine OK_st 1 okX9_undo (S' := (12, [(0, .ref 0)], [.int (-1000000003 : Int32)], hp I F)) rfl ⟨trivial, trivial⟩ ?_
    exact OK_ri okX9_undo rfl rfl (Or.inl rfl)

def f_X9_firstNought_j48_4 (bk ko : Int32 → Int32 → AI → AF → AQ) (v1 : Int32) (v2 : Int32) (v3 : Int32) (s0 : Int32) (I : AI) (F : AF) : AQ :=
  ab_bd (f_X8_seasons I F) (fun r706 I707 F708 =>
    if v3 < r706 then
      bk v1 (v2 + (1 : Int32)) I707 F708
    else
      if s0 = 0 then
        bk v1 (v2 + (1 : Int32)) I707 F708
      else
        ab_bd (f_X8_payment v2 v3 I707 F708) (fun r711 I712 F713 =>
          if ¬ r711 = 0 then
            bk v1 (v2 + (1 : Int32)) I712 F713
          else
            bk v2 (v2 + (1 : Int32)) I712 F713))
set_option maxRecDepth 20000 in
set_option maxHeartbeats 4000000 in
theorem kf_X9_firstNought_j48_4 (bk ko : Int32 → Int32 → AI → AF → AQ) (v1 : Int32) (v2 : Int32) (v3 : Int32) (hbk : ∀ v1 v2 I F, OK 4 mX9_firstNought true (bk v1 v2 I F) (4, [(0, .ref 0), (1, .int v1), (2, .int v2)], [], hp I F)) (hko : ∀ v1 v2 I F, OK 4 mX9_firstNought true (ko v1 v2 I F) (90, [(0, .ref 0), (1, .int v1), (2, .int v2)], [], hp I F)) (s0 : Int32) (I : AI) (F : AF) : OK 4 mX9_firstNought true (f_X9_firstNought_j48_4 bk ko v1 v2 v3 s0 I F) (48, [(0, .ref 0), (1, .int v1), (2, .int v2), (3, .int v3)], [.int s0], hp I F) := by
  rw [f_X9_firstNought_j48_4]
  refine OK_st 4 okX9_firstNought (S' := (55, [(4, .int s0), (0, .ref 0), (1, .int v1), (2, .int v2), (3, .int v3)], [.ref 27, .int v3], hp I F)) rfl ⟨(by decide), trivial, trivial, trivial, trivial⟩ ?_
  refine OK_cv [] [.int v3] okX9_firstNought okX8_seasons rfl rfl cl_RX9_126 rfl rfl (Nat.le_of_ble_eq_true rfl) (by decide) (Nat.le_of_ble_eq_true rfl) (kf_X8_seasons I F) (fun r706 I707 F708 => ?_)
  refine OK_st 1 okX9_firstNought (S' := ((if v3 < r706 then 84 else 61), [(4, .int s0), (0, .ref 0), (1, .int v1), (2, .int v2), (3, .int v3)], [], hp I707 F708)) rfl ⟨trivial, trivial⟩ ?_
  refine OK_if (fun h709 => ?_) (fun h709 => ?_)
  · refine OK_st 2 okX9_firstNought (S' := (4, [(2, .int (v2 + (1 : Int32))), (4, .int s0), (0, .ref 0), (1, .int v1), (3, .int v3)], [], hp I707 F708)) rfl ⟨(by decide), trivial, trivial⟩ ?_
    refine OK_pk [2, 3, 0] rfl ?_
    exact hbk v1 (v2 + (1 : Int32)) I707 F708
  · refine OK_st 2 okX9_firstNought (S' := ((if s0 = 0 then 84 else 66), [(4, .int s0), (0, .ref 0), (1, .int v1), (2, .int v2), (3, .int v3)], [], hp I707 F708)) rfl ⟨trivial, trivial, trivial⟩ ?_
    refine OK_if (fun h710 => ?_) (fun h710 => ?_)
    · refine OK_st 2 okX9_firstNought (S' := (4, [(2, .int (v2 + (1 : Int32))), (4, .int s0), (0, .ref 0), (1, .int v1), (3, .int v3)], [], hp I707 F708)) rfl ⟨(by decide), trivial, trivial⟩ ?_
      refine OK_pk [2, 3, 0] rfl ?_
      exact hbk v1 (v2 + (1 : Int32)) I707 F708
    · refine OK_st 6 okX9_firstNought (S' := (76, [(4, .int s0), (0, .ref 0), (1, .int v1), (2, .int v2), (3, .int v3)], [.int v3, .int v2, .ref 16, .ref 27], hp I707 F708)) rfl ⟨trivial, trivial, trivial, trivial, trivial, trivial, trivial⟩ ?_
      refine OK_cv [.ref 16, .int v2, .int v3] [] okX9_firstNought okX8_payment rfl rfl cl_RX9_242 rfl rfl (Nat.le_of_ble_eq_true rfl) (by decide) (Nat.le_of_ble_eq_true rfl) (kf_X8_payment v2 v3 I707 F708) (fun r711 I712 F713 => ?_)
      refine OK_st 1 okX9_firstNought (S' := ((if ¬ r711 = 0 then 84 else 82), [(4, .int s0), (0, .ref 0), (1, .int v1), (2, .int v2), (3, .int v3)], [], hp I712 F713)) rfl ⟨trivial, trivial⟩ ?_
      refine OK_if (fun h714 => ?_) (fun h714 => ?_)
      · refine OK_st 2 okX9_firstNought (S' := (4, [(2, .int (v2 + (1 : Int32))), (4, .int s0), (0, .ref 0), (1, .int v1), (3, .int v3)], [], hp I712 F713)) rfl ⟨(by decide), trivial, trivial⟩ ?_
        refine OK_pk [2, 3, 0] rfl ?_
        exact hbk v1 (v2 + (1 : Int32)) I712 F713
      · refine OK_st 4 okX9_firstNought (S' := (4, [(2, .int (v2 + (1 : Int32))), (1, .int v2), (4, .int s0), (0, .ref 0), (3, .int v3)], [], hp I712 F713)) rfl ⟨trivial, (by decide), (by decide), trivial, trivial⟩ ?_
        refine OK_pk [3, 1, 0] rfl ?_
        exact hbk v2 (v2 + (1 : Int32)) I712 F713

def f_X9_firstNought_j43_4 (bk ko : Int32 → Int32 → AI → AF → AQ) (v1 : Int32) (v2 : Int32) (v3 : Int32) (I : AI) (F : AF) : AQ :=
  f_X9_firstNought_j48_4 (bk) ko v1 v2 v3 (1 : Int32) I F
set_option maxRecDepth 20000 in
set_option maxHeartbeats 4000000 in
theorem kf_X9_firstNought_j43_4 (bk ko : Int32 → Int32 → AI → AF → AQ) (v1 : Int32) (v2 : Int32) (v3 : Int32) (hbk : ∀ v1 v2 I F, OK 4 mX9_firstNought true (bk v1 v2 I F) (4, [(0, .ref 0), (1, .int v1), (2, .int v2)], [], hp I F)) (hko : ∀ v1 v2 I F, OK 4 mX9_firstNought true (ko v1 v2 I F) (90, [(0, .ref 0), (1, .int v1), (2, .int v2)], [], hp I F)) (I : AI) (F : AF) : OK 4 mX9_firstNought true (f_X9_firstNought_j43_4 bk ko v1 v2 v3 I F) (43, [(0, .ref 0), (1, .int v1), (2, .int v2), (3, .int v3)], [], hp I F) := by
  rw [f_X9_firstNought_j43_4]
  refine OK_st 2 okX9_firstNought (S' := (48, [(0, .ref 0), (1, .int v1), (2, .int v2), (3, .int v3)], [.int (1 : Int32)], hp I F)) rfl ⟨trivial, trivial, trivial⟩ ?_
  exact kf_X9_firstNought_j48_4 (bk) ko v1 v2 v3 hbk hko (1 : Int32) I F

def f_X9_firstNought_4 (ko : Int32 → Int32 → AI → AF → AQ) : Nat → Int32 → Int32 → AI → AF → AQ
  | 0, _, _, _, _ => none
  | n + 1, v1, v2, I, F =>
    if (I 10) ≤ v2 then
      ko v1 v2 I F
    else
      bif ab_vin v2 6 then
        if v1 = (-1 : Int32) then
          f_X9_firstNought_j43_4 (f_X9_firstNought_4 ko n) ko v1 v2 ((F 15) v2.toNatClampNeg) I F
        else
          bif ab_vin v1 6 then
            if ((F 15) v1.toNatClampNeg) ≤ ((F 15) v2.toNatClampNeg) then
              f_X9_firstNought_j48_4 (f_X9_firstNought_4 ko n) ko v1 v2 ((F 15) v2.toNatClampNeg) (0 : Int32) I F
            else
              f_X9_firstNought_j43_4 (f_X9_firstNought_4 ko n) ko v1 v2 ((F 15) v2.toNatClampNeg) I F
          else none
      else none
set_option maxRecDepth 20000 in
set_option maxHeartbeats 4000000 in
theorem kf_X9_firstNought_4 (ko : Int32 → Int32 → AI → AF → AQ) (hko : ∀ v1 v2 I F, OK 4 mX9_firstNought true (ko v1 v2 I F) (90, [(0, .ref 0), (1, .int v1), (2, .int v2)], [], hp I F)) : ∀ n v1 v2 I F, OK 4 mX9_firstNought true (f_X9_firstNought_4 ko n v1 v2 I F) (4, [(0, .ref 0), (1, .int v1), (2, .int v2)], [], hp I F) := by
  intro n
  induction n with
  | zero =>
    intro v1 v2 I F
    exact OK_no
  | succ n ih =>
    intro v1 v2 I F
    rw [f_X9_firstNought_4]
    refine OK_st 5 okX9_firstNought (S' := ((if (I 10) ≤ v2 then 90 else 15), [(0, .ref 0), (1, .int v1), (2, .int v2)], [], hp I F)) rfl ⟨trivial, trivial, trivial, trivial, trivial, trivial⟩ ?_
    refine OK_if (fun h703 => ?_) (fun h703 => ?_)
    · exact hko v1 v2 I F
    · refine OK_gd (fun g704 => ?_)
      refine OK_st 9 okX9_firstNought (S' := ((if v1 = (-1 : Int32) then 43 else 30), [(3, .int ((F 15) v2.toNatClampNeg)), (0, .ref 0), (1, .int v1), (2, .int v2)], [], hp I F)) rfl ⟨trivial, trivial, trivial, trivial, (ab_vo g704), (by decide), trivial, trivial, trivial, trivial⟩ ?_
      refine OK_if (fun h705 => ?_) (fun h705 => ?_)
      · refine OK_pk [1, 2, 3, 0] rfl ?_
        exact kf_X9_firstNought_j43_4 (f_X9_firstNought_4 ko n) ko v1 v2 ((F 15) v2.toNatClampNeg) ih hko I F
      · refine OK_gd (fun g715 => ?_)
        refine OK_st 7 okX9_firstNought (S' := ((if ((F 15) v1.toNatClampNeg) ≤ ((F 15) v2.toNatClampNeg) then 47 else 43), [(3, .int ((F 15) v2.toNatClampNeg)), (0, .ref 0), (1, .int v1), (2, .int v2)], [], hp I F)) rfl ⟨trivial, trivial, trivial, trivial, trivial, (ab_vo g715), trivial, trivial⟩ ?_
        refine OK_if (fun h716 => ?_) (fun h716 => ?_)
        · refine OK_st 1 okX9_firstNought (S' := (48, [(3, .int ((F 15) v2.toNatClampNeg)), (0, .ref 0), (1, .int v1), (2, .int v2)], [.int (0 : Int32)], hp I F)) rfl ⟨trivial, trivial⟩ ?_
          refine OK_pk [1, 2, 3, 0] rfl ?_
          exact kf_X9_firstNought_j48_4 (f_X9_firstNought_4 ko n) ko v1 v2 ((F 15) v2.toNatClampNeg) ih hko (0 : Int32) I F
        · refine OK_pk [1, 2, 3, 0] rfl ?_
          exact kf_X9_firstNought_j43_4 (f_X9_firstNought_4 ko n) ko v1 v2 ((F 15) v2.toNatClampNeg) ih hko I F

def f_X9_firstNought (I : AI) (F : AF) : AQ :=
  f_X9_firstNought_4 (fun v1_717 v2_718 I719 F720 =>
    some (v1_717, I719, F720)) ab_fu (-1 : Int32) (0 : Int32) I F
set_option maxRecDepth 20000 in
set_option maxHeartbeats 4000000 in
theorem kf_X9_firstNought (I : AI) (F : AF) : OK 4 mX9_firstNought true (f_X9_firstNought I F) (0, [(0, .ref 0)], [], hp I F) := by
  rw [f_X9_firstNought]
  refine OK_st 4 okX9_firstNought (S' := (4, [(2, .int (0 : Int32)), (1, .int (-1 : Int32)), (0, .ref 0)], [], hp I F)) rfl ⟨trivial, (by decide), trivial, (by decide), trivial⟩ ?_
  refine OK_pk [2, 1, 0] rfl ?_
  refine kf_X9_firstNought_4 _ (fun v1_717 v2_718 I719 F720 => ?_) ab_fu (-1 : Int32) (0 : Int32) I F
  refine OK_st 1 okX9_firstNought (S' := (91, [(0, .ref 0), (1, .int v1_717), (2, .int v2_718)], [.int v1_717], hp I719 F720)) rfl ⟨trivial, trivial⟩ ?_
  exact OK_ri okX9_firstNought rfl rfl (Or.inl rfl)

def f_X9_means (v1 : Int32) (v2 : Int32) (I : AI) (F : AF) : AQ :=
  ab_bd (f_X5_hasContract v1 I F) (fun r721 I722 F723 =>
    if ¬ r721 = 0 then
      if v2 < 0 then
        some ((-1000000002 : Int32), I722, F723)
      else
        if v2 ≤ (99 : Int32) then
          ab_bd (f_X8_payment v1 v2 I722 F723) (fun r727 I728 F729 =>
            some (r727, I728, F729))
        else
          some ((-1000000002 : Int32), I722, F723)
    else
      some ((-1000000001 : Int32), I722, F723))
set_option maxRecDepth 20000 in
set_option maxHeartbeats 4000000 in
theorem kf_X9_means (v1 : Int32) (v2 : Int32) (I : AI) (F : AF) : OK 4 mX9_means true (f_X9_means v1 v2 I F) (0, [(0, .ref 0), (1, .int v1), (2, .int v2)], [], hp I F) := by
  rw [f_X9_means]
  refine OK_st 3 okX9_means (S' := (5, [(0, .ref 0), (1, .int v1), (2, .int v2)], [.int v1, .ref 16], hp I F)) rfl ⟨trivial, trivial, trivial, trivial⟩ ?_
  refine OK_cv [.int v1] [] okX9_means okX5_hasContract rfl rfl cl_RX9_177 rfl rfl (Nat.le_of_ble_eq_true rfl) (by decide) (Nat.le_of_ble_eq_true rfl) (kf_X5_hasContract v1 I F) (fun r721 I722 F723 => ?_)
  refine OK_st 1 okX9_means (S' := ((if ¬ r721 = 0 then 14 else 11), [(0, .ref 0), (1, .int v1), (2, .int v2)], [], hp I722 F723)) rfl ⟨trivial, trivial⟩ ?_
  refine OK_if (fun h724 => ?_) (fun h724 => ?_)
  · refine OK_st 2 okX9_means (S' := ((if v2 < 0 then 24 else 18), [(0, .ref 0), (1, .int v1), (2, .int v2)], [], hp I722 F723)) rfl ⟨trivial, trivial, trivial⟩ ?_
    refine OK_if (fun h725 => ?_) (fun h725 => ?_)
    · refine OK_st 1 okX9_means (S' := (26, [(0, .ref 0), (1, .int v1), (2, .int v2)], [.int (-1000000002 : Int32)], hp I722 F723)) rfl ⟨trivial, trivial⟩ ?_
      exact OK_ri okX9_means rfl rfl (Or.inl rfl)
    · refine OK_st 3 okX9_means (S' := ((if v2 ≤ (99 : Int32) then 27 else 24), [(0, .ref 0), (1, .int v1), (2, .int v2)], [], hp I722 F723)) rfl ⟨trivial, trivial, trivial, trivial⟩ ?_
      refine OK_if (fun h726 => ?_) (fun h726 => ?_)
      · refine OK_st 6 okX9_means (S' := (37, [(0, .ref 0), (1, .int v1), (2, .int v2)], [.int v2, .int v1, .ref 16, .ref 27], hp I722 F723)) rfl ⟨trivial, trivial, trivial, trivial, trivial, trivial, trivial⟩ ?_
        refine OK_cv [.ref 16, .int v1, .int v2] [] okX9_means okX8_payment rfl rfl cl_RX9_242 rfl rfl (Nat.le_of_ble_eq_true rfl) (by decide) (Nat.le_of_ble_eq_true rfl) (kf_X8_payment v1 v2 I722 F723) (fun r727 I728 F729 => ?_)
        exact OK_ri okX9_means rfl rfl (Or.inl rfl)
      · refine OK_st 1 okX9_means (S' := (26, [(0, .ref 0), (1, .int v1), (2, .int v2)], [.int (-1000000002 : Int32)], hp I722 F723)) rfl ⟨trivial, trivial⟩ ?_
        exact OK_ri okX9_means rfl rfl (Or.inl rfl)
  · refine OK_st 1 okX9_means (S' := (13, [(0, .ref 0), (1, .int v1), (2, .int v2)], [.int (-1000000001 : Int32)], hp I722 F723)) rfl ⟨trivial, trivial⟩ ?_
    exact OK_ri okX9_means rfl rfl (Or.inl rfl)

def f_X0_search_31 (ko : Int32 → AI → AF → AQ) : Nat → Int32 → AI → AF → AQ
  | 0, _, _, _ => none
  | n + 1, v3, I, F =>
    if (I 19) ≤ v3 then
      ko v3 I F
    else
      ab_bd (f_X8_measure v3 (0 : Int32) I F) (fun r740 I741 F742 =>
        ab_bd (f_X8_measure v3 (1 : Int32) I741 F742) (fun r743 I744 F745 =>
          bif ab_vin v3 6 then
            ab_lt (va_up F745 29 (upd (F745 29) v3.toNatClampNeg (r743 - r740))) (fun F747 =>
              ab_bd (f_X8_measure v3 (2 : Int32) I744 F747) (fun r748 I749 F750 =>
                bif ab_vin v3 6 then
                  ab_lt (va_up F750 30 (upd (F750 30) v3.toNatClampNeg (r748 - r740))) (fun F752 =>
                    ab_bd (f_X8_measure v3 (3 : Int32) I749 F752) (fun r753 I754 F755 =>
                      bif ab_vin v3 6 then
                        bif ab_vin v3 6 then
                          ab_lt (va_up (va_up F755 31 (upd (F755 31) v3.toNatClampNeg (r753 - r740))) 32 (upd (F755 32) v3.toNatClampNeg (0 : Int32))) (fun F758 =>
                            f_X0_search_31 ko n (v3 + (1 : Int32)) I754 F758)
                        else none
                      else none))
                else none))
          else none))
set_option maxRecDepth 20000 in
set_option maxHeartbeats 4000000 in
theorem kf_X0_search_31 (ko : Int32 → AI → AF → AQ) (hko : ∀ v3 I F, OK 10 mX0_search false (ko v3 I F) (109, [(0, .ref 37), (1, .ref 16), (2, .ref 27), (3, .int v3)], [], hp I F)) : ∀ n v3 I F, OK 10 mX0_search false (f_X0_search_31 ko n v3 I F) (31, [(0, .ref 37), (1, .ref 16), (2, .ref 27), (3, .int v3)], [], hp I F) := by
  intro n
  induction n with
  | zero =>
    intro v3 I F
    exact OK_no
  | succ n ih =>
    intro v3 I F
    rw [f_X0_search_31]
    refine OK_st 4 okX0_search (S' := ((if (I 19) ≤ v3 then 109 else 39), [(0, .ref 37), (1, .ref 16), (2, .ref 27), (3, .int v3)], [], hp I F)) rfl ⟨trivial, trivial, trivial, trivial, trivial⟩ ?_
    refine OK_if (fun h739 => ?_) (fun h739 => ?_)
    · exact hko v3 I F
    · refine OK_st 4 okX0_search (S' := (43, [(0, .ref 37), (1, .ref 16), (2, .ref 27), (3, .int v3)], [.int (0 : Int32), .int v3, .ref 16, .ref 27], hp I F)) rfl ⟨trivial, trivial, trivial, trivial, trivial⟩ ?_
      refine OK_cv [.ref 16, .int v3, .int (0 : Int32)] [] okX0_search okX8_measure rfl rfl cl_RX0_49 rfl rfl (Nat.le_of_ble_eq_true rfl) (by decide) (Nat.le_of_ble_eq_true rfl) (kf_X8_measure v3 (0 : Int32) I F) (fun r740 I741 F742 => ?_)
      refine OK_st 8 okX0_search (S' := (57, [(4, .int r740), (0, .ref 37), (1, .ref 16), (2, .ref 27), (3, .int v3)], [.int (1 : Int32), .int v3, .ref 16, .ref 27, .int v3, .ref 38], hp I741 F742)) rfl ⟨(by decide), trivial, trivial, trivial, trivial, trivial, trivial, trivial, trivial⟩ ?_
      refine OK_cv [.ref 16, .int v3, .int (1 : Int32)] [.int v3, .ref 38] okX0_search okX8_measure rfl rfl cl_RX0_49 rfl rfl (Nat.le_of_ble_eq_true rfl) (by decide) (Nat.le_of_ble_eq_true rfl) (kf_X8_measure v3 (1 : Int32) I741 F742) (fun r743 I744 F745 => ?_)
      refine OK_gd (fun g746 => ?_)
      refine OK_st 10 okX0_search (S' := (73, [(4, .int r740), (0, .ref 37), (1, .ref 16), (2, .ref 27), (3, .int v3)], [.int (2 : Int32), .int v3, .ref 16, .ref 27, .int v3, .ref 39], hp I744 (va_up F745 29 (upd (F745 29) v3.toNatClampNeg (r743 - r740))))) rfl ⟨trivial, trivial, (ab_vo g746), trivial, trivial, trivial, trivial, trivial, trivial, trivial, trivial⟩ ?_
      refine OK_lt (fun F747 => (73, [(4, .int r740), (0, .ref 37), (1, .ref 16), (2, .ref 27), (3, .int v3)], [.int (2 : Int32), .int v3, .ref 16, .ref 27, .int v3, .ref 39], hp I744 F747)) (fun F747 => ?_)
      refine OK_cv [.ref 16, .int v3, .int (2 : Int32)] [.int v3, .ref 39] okX0_search okX8_measure rfl rfl cl_RX0_49 rfl rfl (Nat.le_of_ble_eq_true rfl) (by decide) (Nat.le_of_ble_eq_true rfl) (kf_X8_measure v3 (2 : Int32) I744 F747) (fun r748 I749 F750 => ?_)
      refine OK_gd (fun g751 => ?_)
      refine OK_st 10 okX0_search (S' := (89, [(4, .int r740), (0, .ref 37), (1, .ref 16), (2, .ref 27), (3, .int v3)], [.int (3 : Int32), .int v3, .ref 16, .ref 27, .int v3, .ref 40], hp I749 (va_up F750 30 (upd (F750 30) v3.toNatClampNeg (r748 - r740))))) rfl ⟨trivial, trivial, (ab_vo g751), trivial, trivial, trivial, trivial, trivial, trivial, trivial, trivial⟩ ?_
      refine OK_lt (fun F752 => (89, [(4, .int r740), (0, .ref 37), (1, .ref 16), (2, .ref 27), (3, .int v3)], [.int (3 : Int32), .int v3, .ref 16, .ref 27, .int v3, .ref 40], hp I749 F752)) (fun F752 => ?_)
      refine OK_cv [.ref 16, .int v3, .int (3 : Int32)] [.int v3, .ref 40] okX0_search okX8_measure rfl rfl cl_RX0_49 rfl rfl (Nat.le_of_ble_eq_true rfl) (by decide) (Nat.le_of_ble_eq_true rfl) (kf_X8_measure v3 (3 : Int32) I749 F752) (fun r753 I754 F755 => ?_)
      refine OK_gd (fun g756 => ?_)
      refine OK_gd (fun g757 => ?_)
      refine OK_st 10 okX0_search (S' := (31, [(3, .int (v3 + (1 : Int32))), (4, .int r740), (0, .ref 37), (1, .ref 16), (2, .ref 27)], [], hp I754 (va_up (va_up F755 31 (upd (F755 31) v3.toNatClampNeg (r753 - r740))) 32 (upd (F755 32) v3.toNatClampNeg (0 : Int32))))) rfl ⟨trivial, trivial, (ab_vo g756), trivial, trivial, trivial, trivial, (ab_vo g757), (by decide), trivial, trivial⟩ ?_
      refine OK_lt (fun F758 => (31, [(3, .int (v3 + (1 : Int32))), (4, .int r740), (0, .ref 37), (1, .ref 16), (2, .ref 27)], [], hp I754 F758)) (fun F758 => ?_)
      refine OK_pk [2, 3, 4, 0] rfl ?_
      exact ih (v3 + (1 : Int32)) I754 F758
