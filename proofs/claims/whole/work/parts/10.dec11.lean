/-! methods as functions (by program) -/
def f_X10_bale (I : AI) (F : AF) : AQ :=
  ab_bd (f_X10_used I F) (fun r2318 I2319 F2320 =>
    ab_bd (f_X10_bits r2318 I2319 F2320) (fun r2321 I2322 F2323 =>
      if (2 : Int32) ≤ r2321 then
        f_X10_bale_17 r2318 (fun v2_2354 I2355 F2356 =>
          some ((-1 : Int32), I2355, F2356)) ab_fu (0 : Int32) I2322 F2323
      else
        some ((-1 : Int32), I2322, F2323)))
set_option maxRecDepth 20000 in
set_option maxHeartbeats 4000000 in
theorem kf_X10_bale (I : AI) (F : AF) : OK 5 mX10_bale true (f_X10_bale I F) (0, [(0, .ref 49)], [], hp I F) := by
  rw [f_X10_bale]
  refine OK_st 1 okX10_bale (S' := (1, [(0, .ref 49)], [.ref 49], hp I F)) rfl ⟨trivial, trivial⟩ ?_
  refine OK_cv [] [] okX10_bale okX10_used rfl rfl cl_RX10_324 rfl rfl (Nat.le_of_ble_eq_true rfl) (by decide) (Nat.le_of_ble_eq_true rfl) (kf_X10_used I F) (fun r2318 I2319 F2320 => ?_)
  refine OK_st 2 okX10_bale (S' := (6, [(1, .int r2318), (0, .ref 49)], [.int r2318], hp I2319 F2320)) rfl ⟨(by decide), trivial, trivial⟩ ?_
  refine OK_cs [.int r2318] [] okX10_bale okX10_bits rfl rfl cl_RX10_304 (Nat.le_of_ble_eq_true rfl) (by decide) (Nat.le_of_ble_eq_true rfl) (kf_X10_bits r2318 I2319 F2320) (fun r2321 I2322 F2323 => ?_)
  refine OK_st 2 okX10_bale (S' := ((if (2 : Int32) ≤ r2321 then 15 else 13), [(1, .int r2318), (0, .ref 49)], [], hp I2322 F2323)) rfl ⟨trivial, trivial, trivial⟩ ?_
  refine OK_if (fun h2324 => ?_) (fun h2324 => ?_)
  · refine OK_st 2 okX10_bale (S' := (17, [(2, .int (0 : Int32)), (1, .int r2318), (0, .ref 49)], [], hp I2322 F2323)) rfl ⟨trivial, (by decide), trivial⟩ ?_
    refine OK_pk [2, 1, 0] rfl ?_
    refine kf_X10_bale_17 r2318 _ (fun v2_2354 I2355 F2356 => ?_) ab_fu (0 : Int32) I2322 F2323
    refine OK_st 1 okX10_bale (S' := (144, [(0, .ref 49), (1, .int r2318), (2, .int v2_2354)], [.int (-1 : Int32)], hp I2355 F2356)) rfl ⟨trivial, trivial⟩ ?_
    exact OK_ri okX10_bale rfl rfl (Or.inl rfl)
  · refine OK_st 1 okX10_bale (S' := (14, [(1, .int r2318), (0, .ref 49)], [.int (-1 : Int32)], hp I2322 F2323)) rfl ⟨trivial, trivial⟩ ?_
    exact OK_ri okX10_bale rfl rfl (Or.inl rfl)

def f_X10_write (v1 : Int32) (v2 : Int32) (I : AI) (F : AF) : AQ :=
  ab_bd (f_X10_isLimb v1 I F) (fun r2357 I2358 F2359 =>
    if ¬ r2357 = 0 then
      ab_bd (f_X10_in v2.toInt64 (0 : Int64) (999 : Int64) I2358 F2359) (fun r2361 I2362 F2363 =>
        if ¬ r2361 = 0 then
          if ¬ (I2362 38) = (15 : Int32) then
            bif ab_vin (I2362 38) 15 then
              bif ab_vin (I2362 38) 15 then
                some (((I2362 38) + (1 : Int32)), (va_up I2362 38 ((I2362 38) + (1 : Int32))), (va_up (va_up F2363 62 (upd (F2363 62) (I2362 38).toNatClampNeg v1)) 63 (upd (F2363 63) (I2362 38).toNatClampNeg v2)))
              else none
            else none
          else
            some ((-1000000004 : Int32), I2362, F2363)
        else
          some ((-1000000002 : Int32), I2362, F2363))
    else
      some ((-1000000001 : Int32), I2358, F2359))
set_option maxRecDepth 20000 in
set_option maxHeartbeats 4000000 in
theorem kf_X10_write (v1 : Int32) (v2 : Int32) (I : AI) (F : AF) : OK 2 mX10_write true (f_X10_write v1 v2 I F) (0, [(0, .ref 49), (1, .int v1), (2, .int v2)], [], hp I F) := by
  rw [f_X10_write]
  refine OK_st 2 okX10_write (S' := (2, [(0, .ref 49), (1, .int v1), (2, .int v2)], [.int v1, .ref 49], hp I F)) rfl ⟨trivial, trivial, trivial⟩ ?_
  refine OK_cv [.int v1] [] okX10_write okX10_isLimb rfl rfl cl_RX10_200 rfl rfl (Nat.le_of_ble_eq_true rfl) (by decide) (Nat.le_of_ble_eq_true rfl) (kf_X10_isLimb v1 I F) (fun r2357 I2358 F2359 => ?_)
  refine OK_st 1 okX10_write (S' := ((if ¬ r2357 = 0 then 11 else 8), [(0, .ref 49), (1, .int v1), (2, .int v2)], [], hp I2358 F2359)) rfl ⟨trivial, trivial⟩ ?_
  refine OK_if (fun h2360 => ?_) (fun h2360 => ?_)
  · refine OK_st 4 okX10_write (S' := (17, [(0, .ref 49), (1, .int v1), (2, .int v2)], [.long (999 : Int64), .long (0 : Int64), .long v2.toInt64], hp I2358 F2359)) rfl ⟨trivial, trivial, trivial, trivial, trivial⟩ ?_
    refine OK_cs [.long v2.toInt64, .long (0 : Int64), .long (999 : Int64)] [] okX10_write okX10_in rfl rfl cl_RX10_102 (Nat.le_of_ble_eq_true rfl) (by decide) (Nat.le_of_ble_eq_true rfl) (kf_X10_in v2.toInt64 (0 : Int64) (999 : Int64) I2358 F2359) (fun r2361 I2362 F2363 => ?_)
    refine OK_st 1 okX10_write (S' := ((if ¬ r2361 = 0 then 26 else 23), [(0, .ref 49), (1, .int v1), (2, .int v2)], [], hp I2362 F2363)) rfl ⟨trivial, trivial⟩ ?_
    refine OK_if (fun h2364 => ?_) (fun h2364 => ?_)
    · refine OK_st 4 okX10_write (S' := ((if ¬ (I2362 38) = (15 : Int32) then 38 else 35), [(0, .ref 49), (1, .int v1), (2, .int v2)], [], hp I2362 F2363)) rfl ⟨trivial, trivial, trivial, trivial, trivial⟩ ?_
      refine OK_if (fun h2365 => ?_) (fun h2365 => ?_)
      · refine OK_gd (fun g2366 => ?_)
        refine OK_gd (fun g2367 => ?_)
        refine OK_st 20 okX10_write (S' := (72, [(0, .ref 49), (1, .int v1), (2, .int v2)], [.int ((I2362 38) + (1 : Int32))], hp (va_up I2362 38 ((I2362 38) + (1 : Int32))) (va_up (va_up F2363 62 (upd (F2363 62) (I2362 38).toNatClampNeg v1)) 63 (upd (F2363 63) (I2362 38).toNatClampNeg v2)))) rfl ⟨trivial, trivial, trivial, trivial, trivial, (ab_vo g2366), trivial, trivial, trivial, trivial, trivial, (ab_vo g2367), trivial, rfl, trivial, trivial, trivial, trivial, trivial, trivial, trivial⟩ ?_
        exact OK_ri okX10_write rfl rfl (Or.inl rfl)
      · refine OK_st 1 okX10_write (S' := (37, [(0, .ref 49), (1, .int v1), (2, .int v2)], [.int (-1000000004 : Int32)], hp I2362 F2363)) rfl ⟨trivial, trivial⟩ ?_
        exact OK_ri okX10_write rfl rfl (Or.inl rfl)
    · refine OK_st 1 okX10_write (S' := (25, [(0, .ref 49), (1, .int v1), (2, .int v2)], [.int (-1000000002 : Int32)], hp I2362 F2363)) rfl ⟨trivial, trivial⟩ ?_
      exact OK_ri okX10_write rfl rfl (Or.inl rfl)
  · refine OK_st 1 okX10_write (S' := (10, [(0, .ref 49), (1, .int v1), (2, .int v2)], [.int (-1000000001 : Int32)], hp I2358 F2359)) rfl ⟨trivial, trivial⟩ ?_
    exact OK_ri okX10_write rfl rfl (Or.inl rfl)

def f_X10_tear (I : AI) (F : AF) : AQ :=
  some (((I 37) + (I 38)), (va_up (va_up I 37 (0 : Int32)) 38 (0 : Int32)), F)
set_option maxRecDepth 20000 in
set_option maxHeartbeats 4000000 in
theorem kf_X10_tear (I : AI) (F : AF) : OK 0 mX10_tear true (f_X10_tear I F) (0, [(0, .ref 49)], [], hp I F) := by
  rw [f_X10_tear]
  refine OK_st 13 okX10_tear (S' := (21, [(1, .int ((I 37) + (I 38))), (0, .ref 49)], [.int ((I 37) + (I 38))], hp (va_up (va_up I 37 (0 : Int32)) 38 (0 : Int32)) F)) rfl ⟨trivial, trivial, trivial, trivial, trivial, (by decide), trivial, trivial, trivial, trivial, trivial, trivial, trivial, trivial⟩ ?_
  exact OK_ri okX10_tear rfl rfl (Or.inl rfl)

def f_X10_judge_2 (ko : Int32 → AI → AF → AQ) : Nat → Int32 → AI → AF → AQ
  | 0, _, _, _ => none
  | n + 1, v1, I, F =>
    if (I 38) ≤ v1 then
      ko v1 I F
    else
      bif ab_vin v1 15 then
        ab_bd (f_X10_measureNow ((F 62) v1.toNatClampNeg) I F) (fun r2370 I2371 F2372 =>
          bif ab_vin v1 15 then
            if r2370 = ((F2372 63) v1.toNatClampNeg) then
              f_X10_judge_2 ko n (v1 + (1 : Int32)) I2371 F2372
            else
              some (v1, I2371, F2372)
          else none)
      else none
set_option maxRecDepth 20000 in
set_option maxHeartbeats 4000000 in
theorem kf_X10_judge_2 (ko : Int32 → AI → AF → AQ) (hko : ∀ v1 I F, OK 4 mX10_judge true (ko v1 I F) (37, [(0, .ref 49), (1, .int v1)], [], hp I F)) : ∀ n v1 I F, OK 4 mX10_judge true (f_X10_judge_2 ko n v1 I F) (2, [(0, .ref 49), (1, .int v1)], [], hp I F) := by
  intro n
  induction n with
  | zero =>
    intro v1 I F
    exact OK_no
  | succ n ih =>
    intro v1 I F
    rw [f_X10_judge_2]
    refine OK_st 4 okX10_judge (S' := ((if (I 38) ≤ v1 then 37 else 10), [(0, .ref 49), (1, .int v1)], [], hp I F)) rfl ⟨trivial, trivial, trivial, trivial, trivial⟩ ?_
    refine OK_if (fun h2368 => ?_) (fun h2368 => ?_)
    · exact hko v1 I F
    · refine OK_gd (fun g2369 => ?_)
      refine OK_st 5 okX10_judge (S' := (17, [(0, .ref 49), (1, .int v1)], [.int ((F 62) v1.toNatClampNeg), .ref 49], hp I F)) rfl ⟨trivial, trivial, trivial, trivial, (ab_vo g2369), trivial⟩ ?_
      refine OK_cv [.int ((F 62) v1.toNatClampNeg)] [] okX10_judge okX10_measureNow rfl rfl cl_RX10_204 rfl rfl (Nat.le_of_ble_eq_true rfl) (by decide) (Nat.le_of_ble_eq_true rfl) (kf_X10_measureNow ((F 62) v1.toNatClampNeg) I F) (fun r2370 I2371 F2372 => ?_)
      refine OK_gd (fun g2373 => ?_)
      refine OK_st 5 okX10_judge (S' := ((if r2370 = ((F2372 63) v1.toNatClampNeg) then 31 else 29), [(0, .ref 49), (1, .int v1)], [], hp I2371 F2372)) rfl ⟨trivial, trivial, trivial, (ab_vo g2373), trivial, trivial⟩ ?_
      refine OK_if (fun h2374 => ?_) (fun h2374 => ?_)
      · refine OK_st 2 okX10_judge (S' := (2, [(1, .int (v1 + (1 : Int32))), (0, .ref 49)], [], hp I2371 F2372)) rfl ⟨(by decide), trivial, trivial⟩ ?_
        refine OK_pk [1, 0] rfl ?_
        exact ih (v1 + (1 : Int32)) I2371 F2372
      · refine OK_st 1 okX10_judge (S' := (30, [(0, .ref 49), (1, .int v1)], [.int v1], hp I2371 F2372)) rfl ⟨trivial, trivial⟩ ?_
        exact OK_ri okX10_judge rfl rfl (Or.inl rfl)

def f_X10_judge (I : AI) (F : AF) : AQ :=
  f_X10_judge_2 (fun v1_2375 I2376 F2377 =>
    some ((-1 : Int32), I2376, F2377)) ab_fu (0 : Int32) I F
set_option maxRecDepth 20000 in
set_option maxHeartbeats 4000000 in
theorem kf_X10_judge (I : AI) (F : AF) : OK 4 mX10_judge true (f_X10_judge I F) (0, [(0, .ref 49)], [], hp I F) := by
  rw [f_X10_judge]
  refine OK_st 2 okX10_judge (S' := (2, [(1, .int (0 : Int32)), (0, .ref 49)], [], hp I F)) rfl ⟨trivial, (by decide), trivial⟩ ?_
  refine OK_pk [1, 0] rfl ?_
  refine kf_X10_judge_2 _ (fun v1_2375 I2376 F2377 => ?_) ab_fu (0 : Int32) I F
  refine OK_st 1 okX10_judge (S' := (38, [(0, .ref 49), (1, .int v1_2375)], [.int (-1 : Int32)], hp I2376 F2377)) rfl ⟨trivial, trivial⟩ ?_
  exact OK_ri okX10_judge rfl rfl (Or.inl rfl)

def f_X10_seed (v1 : Int32) (I : AI) (F : AF) : AQ :=
  if 0 ≤ v1 then
    some ((I 25), (va_up I 25 v1), F)
  else
    some ((-1000000002 : Int32), I, F)
set_option maxRecDepth 20000 in
set_option maxHeartbeats 4000000 in
theorem kf_X10_seed (v1 : Int32) (I : AI) (F : AF) : OK 0 mX10_seed true (f_X10_seed v1 I F) (0, [(0, .ref 49), (1, .int v1)], [], hp I F) := by
  rw [f_X10_seed]
  refine OK_st 2 okX10_seed (S' := ((if 0 ≤ v1 then 7 else 4), [(0, .ref 49), (1, .int v1)], [], hp I F)) rfl ⟨trivial, trivial, trivial⟩ ?_
  refine OK_if (fun h2378 => ?_) (fun h2378 => ?_)
  · refine OK_st 7 okX10_seed (S' := (18, [(2, .int (I 25)), (0, .ref 49), (1, .int v1)], [.int (I 25)], hp (va_up I 25 v1) F)) rfl ⟨trivial, trivial, (by decide), trivial, trivial, trivial, trivial, trivial⟩ ?_
    exact OK_ri okX10_seed rfl rfl (Or.inl rfl)
  · refine OK_st 1 okX10_seed (S' := (6, [(0, .ref 49), (1, .int v1)], [.int (-1000000002 : Int32)], hp I F)) rfl ⟨trivial, trivial⟩ ?_
    exact OK_ri okX10_seed rfl rfl (Or.inl rfl)

def f_X10_keep_15 (v1 : Int32) (ko : Int32 → AI → AF → AQ) : Nat → Int32 → AI → AF → AQ
  | 0, _, _, _ => none
  | n + 1, v2, I, F =>
    if (22 : Int32) ≤ v2 then
      ko v2 I F
    else
      bif ab_vin v2 22 then
        bif ab_vin (((23 : Int32) * v1) + v2) 46 then
          ab_lt (va_up F 64 (upd (F 64) (((23 : Int32) * v1) + v2).toNatClampNeg ((F 47) v2.toNatClampNeg))) (fun F2386 =>
            f_X10_keep_15 v1 ko n (v2 + (1 : Int32)) I F2386)
        else none
      else none
set_option maxRecDepth 20000 in
set_option maxHeartbeats 4000000 in
theorem kf_X10_keep_15 (v1 : Int32) (ko : Int32 → AI → AF → AQ) (hko : ∀ v2 I F, OK 1 mX10_keep true (ko v2 I F) (44, [(0, .ref 49), (1, .int v1), (2, .int v2)], [], hp I F)) : ∀ n v2 I F, OK 1 mX10_keep true (f_X10_keep_15 v1 ko n v2 I F) (15, [(0, .ref 49), (1, .int v1), (2, .int v2)], [], hp I F) := by
  intro n
  induction n with
  | zero =>
    intro v2 I F
    exact OK_no
  | succ n ih =>
    intro v2 I F
    rw [f_X10_keep_15]
    refine OK_st 3 okX10_keep (S' := ((if (22 : Int32) ≤ v2 then 44 else 21), [(0, .ref 49), (1, .int v1), (2, .int v2)], [], hp I F)) rfl ⟨trivial, trivial, trivial, trivial⟩ ?_
    refine OK_if (fun h2383 => ?_) (fun h2383 => ?_)
    · exact hko v2 I F
    · refine OK_gd (fun g2384 => ?_)
      refine OK_gd (fun g2385 => ?_)
      refine OK_st 14 okX10_keep (S' := (15, [(2, .int (v2 + (1 : Int32))), (0, .ref 49), (1, .int v1)], [], hp I (va_up F 64 (upd (F 64) (((23 : Int32) * v1) + v2).toNatClampNeg ((F 47) v2.toNatClampNeg))))) rfl ⟨trivial, trivial, trivial, trivial, trivial, trivial, trivial, trivial, trivial, trivial, (ab_vo g2384), (ab_vo g2385), (by decide), trivial, trivial⟩ ?_
      refine OK_lt (fun F2386 => (15, [(2, .int (v2 + (1 : Int32))), (0, .ref 49), (1, .int v1)], [], hp I F2386)) (fun F2386 => ?_)
      refine OK_pk [1, 2, 0] rfl ?_
      exact ih (v2 + (1 : Int32)) I F2386

def f_X10_keep (v1 : Int32) (I : AI) (F : AF) : AQ :=
  ab_bd (f_X10_in v1.toInt64 (0 : Int64) (1 : Int64) I F) (fun r2379 I2380 F2381 =>
    if ¬ r2379 = 0 then
      f_X10_keep_15 v1 (fun v2_2387 I2388 F2389 =>
        bif ab_vin (((23 : Int32) * v1) + (22 : Int32)) 46 then
          bif ab_vin v1 2 then
            some ((1 : Int32), (va_up I2388 34 (0 : Int32)), (va_up (va_up F2389 64 (upd (F2389 64) (((23 : Int32) * v1) + (22 : Int32)).toNatClampNeg (I2388 25))) 65 (upd (F2389 65) v1.toNatClampNeg (1 : Int32))))
          else none
        else none) ab_fu (0 : Int32) I2380 F2381
    else
      some ((-1000000001 : Int32), I2380, F2381))
set_option maxRecDepth 20000 in
set_option maxHeartbeats 4000000 in
theorem kf_X10_keep (v1 : Int32) (I : AI) (F : AF) : OK 1 mX10_keep true (f_X10_keep v1 I F) (0, [(0, .ref 49), (1, .int v1)], [], hp I F) := by
  rw [f_X10_keep]
  refine OK_st 4 okX10_keep (S' := (4, [(0, .ref 49), (1, .int v1)], [.long (1 : Int64), .long (0 : Int64), .long v1.toInt64], hp I F)) rfl ⟨trivial, trivial, trivial, trivial, trivial⟩ ?_
  refine OK_cs [.long v1.toInt64, .long (0 : Int64), .long (1 : Int64)] [] okX10_keep okX10_in rfl rfl cl_RX10_102 (Nat.le_of_ble_eq_true rfl) (by decide) (Nat.le_of_ble_eq_true rfl) (kf_X10_in v1.toInt64 (0 : Int64) (1 : Int64) I F) (fun r2379 I2380 F2381 => ?_)
  refine OK_st 1 okX10_keep (S' := ((if ¬ r2379 = 0 then 13 else 10), [(0, .ref 49), (1, .int v1)], [], hp I2380 F2381)) rfl ⟨trivial, trivial⟩ ?_
  refine OK_if (fun h2382 => ?_) (fun h2382 => ?_)
  · refine OK_st 2 okX10_keep (S' := (15, [(2, .int (0 : Int32)), (0, .ref 49), (1, .int v1)], [], hp I2380 F2381)) rfl ⟨trivial, (by decide), trivial⟩ ?_
    refine OK_pk [1, 2, 0] rfl ?_
    refine kf_X10_keep_15 v1 _ (fun v2_2387 I2388 F2389 => ?_) ab_fu (0 : Int32) I2380 F2381
    refine OK_gd (fun g2390 => ?_)
    refine OK_gd (fun g2391 => ?_)
    refine OK_st 19 okX10_keep (S' := (73, [(0, .ref 49), (1, .int v1), (2, .int v2_2387)], [.int (1 : Int32)], hp (va_up I2388 34 (0 : Int32)) (va_up (va_up F2389 64 (upd (F2389 64) (((23 : Int32) * v1) + (22 : Int32)).toNatClampNeg (I2388 25))) 65 (upd (F2389 65) v1.toNatClampNeg (1 : Int32))))) rfl ⟨trivial, trivial, trivial, trivial, trivial, trivial, trivial, trivial, trivial, (ab_vo g2390), trivial, trivial, trivial, trivial, ⟨(ab_vo g2391), Or.inr rfl⟩, trivial, trivial, trivial, trivial, trivial⟩ ?_
    exact OK_ri okX10_keep rfl rfl (Or.inl rfl)
  · refine OK_st 1 okX10_keep (S' := (12, [(0, .ref 49), (1, .int v1)], [.int (-1000000001 : Int32)], hp I2380 F2381)) rfl ⟨trivial, trivial⟩ ?_
    exact OK_ri okX10_keep rfl rfl (Or.inl rfl)

def f_X10_goBack_27 (v1 : Int32) (ko : Int32 → AI → AF → AQ) : Nat → Int32 → AI → AF → AQ
  | 0, _, _, _ => none
  | n + 1, v2, I, F =>
    if (22 : Int32) ≤ v2 then
      ko v2 I F
    else
      bif ab_vin (((23 : Int32) * v1) + v2) 46 then
        bif ab_vin v2 22 then
          ab_lt (va_up F 47 (upd (F 47) v2.toNatClampNeg ((F 64) (((23 : Int32) * v1) + v2).toNatClampNeg))) (fun F2401 =>
            f_X10_goBack_27 v1 ko n (v2 + (1 : Int32)) I F2401)
        else none
      else none
set_option maxRecDepth 20000 in
set_option maxHeartbeats 4000000 in
theorem kf_X10_goBack_27 (v1 : Int32) (ko : Int32 → AI → AF → AQ) (hko : ∀ v2 I F, OK 1 mX10_goBack true (ko v2 I F) (56, [(0, .ref 49), (1, .int v1), (2, .int v2)], [], hp I F)) : ∀ n v2 I F, OK 1 mX10_goBack true (f_X10_goBack_27 v1 ko n v2 I F) (27, [(0, .ref 49), (1, .int v1), (2, .int v2)], [], hp I F) := by
  intro n
  induction n with
  | zero =>
    intro v2 I F
    exact OK_no
  | succ n ih =>
    intro v2 I F
    rw [f_X10_goBack_27]
    refine OK_st 3 okX10_goBack (S' := ((if (22 : Int32) ≤ v2 then 56 else 33), [(0, .ref 49), (1, .int v1), (2, .int v2)], [], hp I F)) rfl ⟨trivial, trivial, trivial, trivial⟩ ?_
    refine OK_if (fun h2398 => ?_) (fun h2398 => ?_)
    · exact hko v2 I F
    · refine OK_gd (fun g2399 => ?_)
      refine OK_gd (fun g2400 => ?_)
      refine OK_st 14 okX10_goBack (S' := (27, [(2, .int (v2 + (1 : Int32))), (0, .ref 49), (1, .int v1)], [], hp I (va_up F 47 (upd (F 47) v2.toNatClampNeg ((F 64) (((23 : Int32) * v1) + v2).toNatClampNeg))))) rfl ⟨trivial, trivial, trivial, trivial, trivial, trivial, trivial, trivial, trivial, trivial, (ab_vo g2399), (ab_vo g2400), (by decide), trivial, trivial⟩ ?_
      refine OK_lt (fun F2401 => (27, [(2, .int (v2 + (1 : Int32))), (0, .ref 49), (1, .int v1)], [], hp I F2401)) (fun F2401 => ?_)
      refine OK_pk [1, 2, 0] rfl ?_
      exact ih (v2 + (1 : Int32)) I F2401

def f_X10_goBack (v1 : Int32) (I : AI) (F : AF) : AQ :=
  ab_bd (f_X10_in v1.toInt64 (0 : Int64) (1 : Int64) I F) (fun r2392 I2393 F2394 =>
    if ¬ r2392 = 0 then
      bif ab_vin v1 2 then
        if ¬ ((F2394 65) v1.toNatClampNeg) = 0 then
          f_X10_goBack_27 v1 (fun v2_2402 I2403 F2404 =>
            bif ab_vin (((23 : Int32) * v1) + (22 : Int32)) 46 then
              some ((1 : Int32), (va_up (va_up I2403 25 ((F2404 64) (((23 : Int32) * v1) + (22 : Int32)).toNatClampNeg)) 34 (0 : Int32)), F2404)
            else none) ab_fu (0 : Int32) I2393 F2394
        else
          some ((-1000000003 : Int32), I2393, F2394)
      else none
    else
      some ((-1000000001 : Int32), I2393, F2394))
set_option maxRecDepth 20000 in
set_option maxHeartbeats 4000000 in
theorem kf_X10_goBack (v1 : Int32) (I : AI) (F : AF) : OK 1 mX10_goBack true (f_X10_goBack v1 I F) (0, [(0, .ref 49), (1, .int v1)], [], hp I F) := by
  rw [f_X10_goBack]
  refine OK_st 4 okX10_goBack (S' := (4, [(0, .ref 49), (1, .int v1)], [.long (1 : Int64), .long (0 : Int64), .long v1.toInt64], hp I F)) rfl ⟨trivial, trivial, trivial, trivial, trivial⟩ ?_
  refine OK_cs [.long v1.toInt64, .long (0 : Int64), .long (1 : Int64)] [] okX10_goBack okX10_in rfl rfl cl_RX10_102 (Nat.le_of_ble_eq_true rfl) (by decide) (Nat.le_of_ble_eq_true rfl) (kf_X10_in v1.toInt64 (0 : Int64) (1 : Int64) I F) (fun r2392 I2393 F2394 => ?_)
  refine OK_st 1 okX10_goBack (S' := ((if ¬ r2392 = 0 then 13 else 10), [(0, .ref 49), (1, .int v1)], [], hp I2393 F2394)) rfl ⟨trivial, trivial⟩ ?_
  refine OK_if (fun h2395 => ?_) (fun h2395 => ?_)
  · refine OK_gd (fun g2396 => ?_)
    refine OK_st 5 okX10_goBack (S' := ((if ¬ ((F2394 65) v1.toNatClampNeg) = 0 then 25 else 22), [(0, .ref 49), (1, .int v1)], [], hp I2393 F2394)) rfl ⟨trivial, trivial, trivial, (ab_vo g2396), trivial, trivial⟩ ?_
    refine OK_if (fun h2397 => ?_) (fun h2397 => ?_)
    · refine OK_st 2 okX10_goBack (S' := (27, [(2, .int (0 : Int32)), (0, .ref 49), (1, .int v1)], [], hp I2393 F2394)) rfl ⟨trivial, (by decide), trivial⟩ ?_
      refine OK_pk [1, 2, 0] rfl ?_
      refine kf_X10_goBack_27 v1 _ (fun v2_2402 I2403 F2404 => ?_) ab_fu (0 : Int32) I2393 F2394
      refine OK_gd (fun g2405 => ?_)
      refine OK_st 14 okX10_goBack (S' := (78, [(0, .ref 49), (1, .int v1), (2, .int v2_2402)], [.int (1 : Int32)], hp (va_up (va_up I2403 25 ((F2404 64) (((23 : Int32) * v1) + (22 : Int32)).toNatClampNeg)) 34 (0 : Int32)) F2404)) rfl ⟨trivial, trivial, trivial, trivial, trivial, trivial, trivial, trivial, (ab_vo g2405), trivial, trivial, trivial, trivial, trivial, trivial⟩ ?_
      exact OK_ri okX10_goBack rfl rfl (Or.inl rfl)
    · refine OK_st 1 okX10_goBack (S' := (24, [(0, .ref 49), (1, .int v1)], [.int (-1000000003 : Int32)], hp I2393 F2394)) rfl ⟨trivial, trivial⟩ ?_
      exact OK_ri okX10_goBack rfl rfl (Or.inl rfl)
  · refine OK_st 1 okX10_goBack (S' := (12, [(0, .ref 49), (1, .int v1)], [.int (-1000000001 : Int32)], hp I2393 F2394)) rfl ⟨trivial, trivial⟩ ?_
    exact OK_ri okX10_goBack rfl rfl (Or.inl rfl)
