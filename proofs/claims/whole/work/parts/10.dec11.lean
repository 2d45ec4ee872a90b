/-! methods as functions (by program) -/
def f_X10_bale (I : AI) (F : AF) : AQ :=
  ab_bd (f_X10_used I F) (fun r2340 I2341 F2342 =>
    ab_bd (f_X10_bits r2340 I2341 F2342) (fun r2343 I2344 F2345 =>
      if (nI 2) ≤ r2343 then
        f_X10_bale_17 r2340 (fun v2_2376 I2377 F2378 =>
          some ((-1 : Int32), I2377, F2378)) ab_fu (0 : Int32) I2344 F2345
      else
        some ((-1 : Int32), I2344, F2345)))
set_option maxRecDepth 20000 in
set_option maxHeartbeats 4000000 in
theorem kf_X10_bale (I : AI) (F : AF) : OK 5 mX10_bale true (f_X10_bale I F) (0, [(0, .ref 49)], [], hp I F) := by
  rw [f_X10_bale]
  refine OK_st 1 okX10_bale (S' := (1, [(0, .ref 49)], [.ref 49], hp I F)) rfl ⟨trivial, trivial⟩ ?_
  refine OK_cv [] [] okX10_bale okX10_used rfl rfl cl_RX10_324 rfl rfl (Nat.le_of_ble_eq_true rfl) (by decide) (Nat.le_of_ble_eq_true rfl) (kf_X10_used I F) (fun r2340 I2341 F2342 => ?_)
  refine OK_st 2 okX10_bale (S' := (6, [(1, .int r2340), (0, .ref 49)], [.int r2340], hp I2341 F2342)) rfl ⟨(by decide), trivial, trivial⟩ ?_
  refine OK_cs [.int r2340] [] okX10_bale okX10_bits rfl rfl cl_RX10_304 (Nat.le_of_ble_eq_true rfl) (by decide) (Nat.le_of_ble_eq_true rfl) (kf_X10_bits r2340 I2341 F2342) (fun r2343 I2344 F2345 => ?_)
  refine OK_st 2 okX10_bale (S' := ((if (nI 2) ≤ r2343 then 15 else 13), [(1, .int r2340), (0, .ref 49)], [], hp I2344 F2345)) rfl ⟨trivial, trivial, trivial⟩ ?_
  refine OK_if (fun h2346 => ?_) (fun h2346 => ?_)
  · refine OK_st 2 okX10_bale (S' := (17, [(2, .int (0 : Int32)), (1, .int r2340), (0, .ref 49)], [], hp I2344 F2345)) rfl ⟨trivial, (by decide), trivial⟩ ?_
    refine OK_pk [2, 1, 0] rfl ?_
    refine kf_X10_bale_17 r2340 _ (fun v2_2376 I2377 F2378 => ?_) ab_fu (0 : Int32) I2344 F2345
    refine OK_st 1 okX10_bale (S' := (144, [(0, .ref 49), (1, .int r2340), (2, .int v2_2376)], [.int (-1 : Int32)], hp I2377 F2378)) rfl ⟨trivial, trivial⟩ ?_
    exact OK_ri okX10_bale rfl rfl (Or.inl rfl)
  · refine OK_st 1 okX10_bale (S' := (14, [(1, .int r2340), (0, .ref 49)], [.int (-1 : Int32)], hp I2344 F2345)) rfl ⟨trivial, trivial⟩ ?_
    exact OK_ri okX10_bale rfl rfl (Or.inl rfl)

def f_X10_write (v1 : Int32) (v2 : Int32) (I : AI) (F : AF) : AQ :=
  ab_bd (f_X10_isLimb v1 I F) (fun r2379 I2380 F2381 =>
    if ¬ r2379 = 0 then
      ab_bd (f_X10_in v2.toInt64 (0 : Int64) (999 : Int64) I2380 F2381) (fun r2383 I2384 F2385 =>
        if ¬ r2383 = 0 then
          if ¬ (I2384 38) = (nI 15) then
            bif ab_vin (I2384 38) 15 then
              bif ab_vin (I2384 38) 15 then
                ab_lt (va_up I2384 38 ((I2384 38) + (1 : Int32))) (fun I2390 =>
                  ab_lt (va_up (va_up F2385 62 (upd (F2385 62) (I2384 38).toNatClampNeg v1)) 63 (upd (F2385 63) (I2384 38).toNatClampNeg v2)) (fun F2391 =>
                    some ((I2390 38), I2390, F2391)))
              else none
            else none
          else
            some ((-1000000004 : Int32), I2384, F2385)
        else
          some ((-1000000002 : Int32), I2384, F2385))
    else
      some ((-1000000001 : Int32), I2380, F2381))
set_option maxRecDepth 20000 in
set_option maxHeartbeats 4000000 in
theorem kf_X10_write (v1 : Int32) (v2 : Int32) (I : AI) (F : AF) : OK 2 mX10_write true (f_X10_write v1 v2 I F) (0, [(0, .ref 49), (1, .int v1), (2, .int v2)], [], hp I F) := by
  rw [f_X10_write]
  refine OK_st 2 okX10_write (S' := (2, [(0, .ref 49), (1, .int v1), (2, .int v2)], [.int v1, .ref 49], hp I F)) rfl ⟨trivial, trivial, trivial⟩ ?_
  refine OK_cv [.int v1] [] okX10_write okX10_isLimb rfl rfl cl_RX10_200 rfl rfl (Nat.le_of_ble_eq_true rfl) (by decide) (Nat.le_of_ble_eq_true rfl) (kf_X10_isLimb v1 I F) (fun r2379 I2380 F2381 => ?_)
  refine OK_st 1 okX10_write (S' := ((if ¬ r2379 = 0 then 11 else 8), [(0, .ref 49), (1, .int v1), (2, .int v2)], [], hp I2380 F2381)) rfl ⟨trivial, trivial⟩ ?_
  refine OK_if (fun h2382 => ?_) (fun h2382 => ?_)
  · refine OK_st 4 okX10_write (S' := (17, [(0, .ref 49), (1, .int v1), (2, .int v2)], [.long (999 : Int64), .long (0 : Int64), .long v2.toInt64], hp I2380 F2381)) rfl ⟨trivial, trivial, trivial, trivial, trivial⟩ ?_
    refine OK_cs [.long v2.toInt64, .long (0 : Int64), .long (999 : Int64)] [] okX10_write okX10_in rfl rfl cl_RX10_102 (Nat.le_of_ble_eq_true rfl) (by decide) (Nat.le_of_ble_eq_true rfl) (kf_X10_in v2.toInt64 (0 : Int64) (999 : Int64) I2380 F2381) (fun r2383 I2384 F2385 => ?_)
    refine OK_st 1 okX10_write (S' := ((if ¬ r2383 = 0 then 26 else 23), [(0, .ref 49), (1, .int v1), (2, .int v2)], [], hp I2384 F2385)) rfl ⟨trivial, trivial⟩ ?_
    refine OK_if (fun h2386 => ?_) (fun h2386 => ?_)
    · refine OK_st 4 okX10_write (S' := ((if ¬ (I2384 38) = (nI 15) then 38 else 35), [(0, .ref 49), (1, .int v1), (2, .int v2)], [], hp I2384 F2385)) rfl ⟨trivial, trivial, trivial, trivial, trivial⟩ ?_
      refine OK_if (fun h2387 => ?_) (fun h2387 => ?_)
      · refine OK_gd (fun g2388 => ?_)
        refine OK_gd (fun g2389 => ?_)
        refine OK_st 18 okX10_write (S' := (68, [(0, .ref 49), (1, .int v1), (2, .int v2)], [], hp (va_up I2384 38 ((I2384 38) + (1 : Int32))) (va_up (va_up F2385 62 (upd (F2385 62) (I2384 38).toNatClampNeg v1)) 63 (upd (F2385 63) (I2384 38).toNatClampNeg v2)))) rfl ⟨trivial, trivial, trivial, trivial, trivial, (ab_vo g2388), trivial, trivial, trivial, trivial, trivial, (ab_vo g2389), trivial, rfl, trivial, trivial, trivial, trivial, trivial⟩ ?_
        refine OK_lt (fun I2390 => (68, [(0, .ref 49), (1, .int v1), (2, .int v2)], [], hp I2390 (va_up (va_up F2385 62 (upd (F2385 62) (I2384 38).toNatClampNeg v1)) 63 (upd (F2385 63) (I2384 38).toNatClampNeg v2)))) (fun I2390 => ?_)
        refine OK_lt (fun F2391 => (68, [(0, .ref 49), (1, .int v1), (2, .int v2)], [], hp I2390 F2391)) (fun F2391 => ?_)
        refine OK_st 2 okX10_write (S' := (72, [(0, .ref 49), (1, .int v1), (2, .int v2)], [.int (I2390 38)], hp I2390 F2391)) rfl ⟨trivial, trivial, trivial⟩ ?_
        exact OK_ri okX10_write rfl rfl (Or.inl rfl)
      · refine OK_st 1 okX10_write (S' := (37, [(0, .ref 49), (1, .int v1), (2, .int v2)], [.int (-1000000004 : Int32)], hp I2384 F2385)) rfl ⟨trivial, trivial⟩ ?_
        exact OK_ri okX10_write rfl rfl (Or.inl rfl)
    · refine OK_st 1 okX10_write (S' := (25, [(0, .ref 49), (1, .int v1), (2, .int v2)], [.int (-1000000002 : Int32)], hp I2384 F2385)) rfl ⟨trivial, trivial⟩ ?_
      exact OK_ri okX10_write rfl rfl (Or.inl rfl)
  · refine OK_st 1 okX10_write (S' := (10, [(0, .ref 49), (1, .int v1), (2, .int v2)], [.int (-1000000001 : Int32)], hp I2380 F2381)) rfl ⟨trivial, trivial⟩ ?_
    exact OK_ri okX10_write rfl rfl (Or.inl rfl)

def f_X10_tear (I : AI) (F : AF) : AQ :=
  some (((I 37) + (I 38)), (va_up (va_up I 37 (0 : Int32)) 38 (0 : Int32)), F)
set_option maxRecDepth 20000 in
set_option maxHeartbeats 4000000 in
theorem kf_X10_tear (I : AI) (F : AF) : OK 0 mX10_tear true (f_X10_tear I F) (0, [(0, .ref 49)], [], hp I F) := by
  rw [f_X10_tear]
  refine OK_st 13 okX10_tear (S' := (21, [(1, .int ((I 37) + (I 38))), (0, .ref 49)], [.int ((I 37) + (I 38))], hp (va_up (va_up I 37 (0 : Int32)) 38 (0 : Int32)) F)) rfl ⟨trivial, trivial, trivial, trivial, trivial, (by decide), trivial, trivial, trivial, trivial, trivial, trivial, trivial, trivial⟩ ?_
  exact OK_ri okX10_tear rfl rfl (Or.inl rfl)

def f_X10_judge_2 (ko : Int32 → AI → AF → AQ) : Nat → Int32 → AI → AF → AQ
  | 0, _, _, _ => none
  | n + 1, v1, I, F =>
    if (I 38) ≤ v1 then
      ko v1 I F
    else
      bif ab_vin v1 15 then
        ab_bd (f_X10_measureNow ((F 62) v1.toNatClampNeg) I F) (fun r2394 I2395 F2396 =>
          bif ab_vin v1 15 then
            if r2394 = ((F2396 63) v1.toNatClampNeg) then
              f_X10_judge_2 ko n (v1 + (1 : Int32)) I2395 F2396
            else
              some (v1, I2395, F2396)
          else none)
      else none
set_option maxRecDepth 20000 in
set_option maxHeartbeats 4000000 in
theorem kf_X10_judge_2 (ko : Int32 → AI → AF → AQ) (hko : ∀ v1 I F, OK 4 mX10_judge true (ko v1 I F) (37, [(0, .ref 49), (1, .int v1)], [], hp I F)) : ∀ n v1 I F, OK 4 mX10_judge true (f_X10_judge_2 ko n v1 I F) (2, [(0, .ref 49), (1, .int v1)], [], hp I F) := by
  intro n
  induction n with
  | zero =>
    intro v1 I F
    exact OK_no
  | succ n ih =>
    intro v1 I F
    rw [f_X10_judge_2]
    refine OK_st 4 okX10_judge (S' := ((if (I 38) ≤ v1 then 37 else 10), [(0, .ref 49), (1, .int v1)], [], hp I F)) rfl ⟨trivial, trivial, trivial, trivial, trivial⟩ ?_
    refine OK_if (fun h2392 => ?_) (fun h2392 => ?_)
    · exact hko v1 I F
    · refine OK_gd (fun g2393 => ?_)
      refine OK_st 5 okX10_judge (S' := (17, [(0, .ref 49), (1, .int v1)], [.int ((F 62) v1.toNatClampNeg), .ref 49], hp I F)) rfl ⟨trivial, trivial, trivial, trivial, (ab_vo g2393), trivial⟩ ?_
      refine OK_cv [.int ((F 62) v1.toNatClampNeg)] [] okX10_judge okX10_measureNow rfl rfl cl_RX10_204 rfl rfl (Nat.le_of_ble_eq_true rfl) (by decide) (Nat.le_of_ble_eq_true rfl) (kf_X10_measureNow ((F 62) v1.toNatClampNeg) I F) (fun r2394 I2395 F2396 => ?_)
      refine OK_gd (fun g2397 => ?_)
      refine OK_st 5 okX10_judge (S' := ((if r2394 = ((F2396 63) v1.toNatClampNeg) then 31 else 29), [(0, .ref 49), (1, .int v1)], [], hp I2395 F2396)) rfl ⟨trivial, trivial, trivial, (ab_vo g2397), trivial, trivial⟩ ?_
      refine OK_if (fun h2398 => ?_) (fun h2398 => ?_)
      · refine OK_st 2 okX10_judge (S' := (2, [(1, .int (v1 + (1 : Int32))), (0, .ref 49)], [], hp I2395 F2396)) rfl ⟨(by decide), trivial, trivial⟩ ?_
        refine OK_pk [1, 0] rfl ?_
        exact ih (v1 + (1 : Int32)) I2395 F2396
      · refine OK_st 1 okX10_judge (S' := (30, [(0, .ref 49), (1, .int v1)], [.int v1], hp I2395 F2396)) rfl ⟨trivial, trivial⟩ ?_
        exact OK_ri okX10_judge rfl rfl (Or.inl rfl)

def f_X10_judge (I : AI) (F : AF) : AQ :=
  f_X10_judge_2 (fun v1_2399 I2400 F2401 =>
    some ((-1 : Int32), I2400, F2401)) ab_fu (0 : Int32) I F
set_option maxRecDepth 20000 in
set_option maxHeartbeats 4000000 in
theorem kf_X10_judge (I : AI) (F : AF) : OK 4 mX10_judge true (f_X10_judge I F) (0, [(0, .ref 49)], [], hp I F) := by
  rw [f_X10_judge]
  refine OK_st 2 okX10_judge (S' := (2, [(1, .int (0 : Int32)), (0, .ref 49)], [], hp I F)) rfl ⟨trivial, (by decide), trivial⟩ ?_
  refine OK_pk [1, 0] rfl ?_
  refine kf_X10_judge_2 _ (fun v1_2399 I2400 F2401 => ?_) ab_fu (0 : Int32) I F
  refine OK_st 1 okX10_judge (S' := (38, [(0, .ref 49), (1, .int v1_2399)], [.int (-1 : Int32)], hp I2400 F2401)) rfl ⟨trivial, trivial⟩ ?_
  exact OK_ri okX10_judge rfl rfl (Or.inl rfl)

def f_X10_seed (v1 : Int32) (I : AI) (F : AF) : AQ :=
  if 0 ≤ v1 then
    some ((I 25), (va_up I 25 v1), F)
  else
    some ((-1000000002 : Int32), I, F)
set_option maxRecDepth 20000 in
set_option maxHeartbeats 4000000 in
theorem kf_X10_seed (v1 : Int32) (I : AI) (F : AF) : OK 0 mX10_seed true (f_X10_seed v1 I F) (0, [(0, .ref 49), (1, .int v1)], [], hp I F) := by
  rw [f_X10_seed]
  refine OK_st 2 okX10_seed (S' := ((if 0 ≤ v1 then 7 else 4), [(0, .ref 49), (1, .int v1)], [], hp I F)) rfl ⟨trivial, trivial, trivial⟩ ?_
  refine OK_if (fun h2402 => ?_) (fun h2402 => ?_)
  · refine OK_st 7 okX10_seed (S' := (18, [(2, .int (I 25)), (0, .ref 49), (1, .int v1)], [.int (I 25)], hp (va_up I 25 v1) F)) rfl ⟨trivial, trivial, (by decide), trivial, trivial, trivial, trivial, trivial⟩ ?_
    exact OK_ri okX10_seed rfl rfl (Or.inl rfl)
  · refine OK_st 1 okX10_seed (S' := (6, [(0, .ref 49), (1, .int v1)], [.int (-1000000002 : Int32)], hp I F)) rfl ⟨trivial, trivial⟩ ?_
    exact OK_ri okX10_seed rfl rfl (Or.inl rfl)

def f_X10_keep_15 (v1 : Int32) (ko : Int32 → AI → AF → AQ) : Nat → Int32 → AI → AF → AQ
  | 0, _, _, _ => none
  | n + 1, v2, I, F =>
    if (nI 22) ≤ v2 then
      ko v2 I F
    else
      bif ab_vin v2 22 then
        bif ab_vin (((nI 23) * v1) + v2) 46 then
          ab_lt (va_up F 64 (upd (F 64) (((nI 23) * v1) + v2).toNatClampNeg ((F 47) v2.toNatClampNeg))) (fun F2410 =>
            f_X10_keep_15 v1 ko n (v2 + (1 : Int32)) I F2410)
        else none
      else none
set_option maxRecDepth 20000 in
set_option maxHeartbeats 4000000 in
theorem kf_X10_keep_15 (v1 : Int32) (ko : Int32 → AI → AF → AQ) (hko : ∀ v2 I F, OK 1 mX10_keep true (ko v2 I F) (44, [(0, .ref 49), (1, .int v1), (2, .int v2)], [], hp I F)) : ∀ n v2 I F, OK 1 mX10_keep true (f_X10_keep_15 v1 ko n v2 I F) (15, [(0, .ref 49), (1, .int v1), (2, .int v2)], [], hp I F) := by
  intro n
  induction n with
  | zero =>
    intro v2 I F
    exact OK_no
  | succ n ih =>
    intro v2 I F
    rw [f_X10_keep_15]
    refine OK_st 3 okX10_keep (S' := ((if (nI 22) ≤ v2 then 44 else 21), [(0, .ref 49), (1, .int v1), (2, .int v2)], [], hp I F)) rfl ⟨trivial, trivial, trivial, trivial⟩ ?_
    refine OK_if (fun h2407 => ?_) (fun h2407 => ?_)
    · exact hko v2 I F
    · refine OK_gd (fun g2408 => ?_)
      refine OK_gd (fun g2409 => ?_)
      refine OK_st 14 okX10_keep (S' := (15, [(2, .int (v2 + (1 : Int32))), (0, .ref 49), (1, .int v1)], [], hp I (va_up F 64 (upd (F 64) (((nI 23) * v1) + v2).toNatClampNeg ((F 47) v2.toNatClampNeg))))) rfl ⟨trivial, trivial, trivial, trivial, trivial, trivial, trivial, trivial, trivial, trivial, (ab_vo g2408), (ab_vo g2409), (by decide), trivial, trivial⟩ ?_
      refine OK_lt (fun F2410 => (15, [(2, .int (v2 + (1 : Int32))), (0, .ref 49), (1, .int v1)], [], hp I F2410)) (fun F2410 => ?_)
      refine OK_pk [1, 2, 0] rfl ?_
      exact ih (v2 + (1 : Int32)) I F2410

def f_X10_keep (v1 : Int32) (I : AI) (F : AF) : AQ :=
  ab_bd (f_X10_in v1.toInt64 (0 : Int64) (1 : Int64) I F) (fun r2403 I2404 F2405 =>
    if ¬ r2403 = 0 then
      f_X10_keep_15 v1 (fun v2_2411 I2412 F2413 =>
        bif ab_vin (((nI 23) * v1) + (nI 22)) 46 then
          bif ab_vin v1 2 then
            ab_lt (va_up I2412 34 (0 : Int32)) (fun I2416 =>
              ab_lt (va_up (va_up F2413 64 (upd (F2413 64) (((nI 23) * v1) + (nI 22)).toNatClampNeg (I2412 25))) 65 (upd (F2413 65) v1.toNatClampNeg (1 : Int32))) (fun F2417 =>
                some ((1 : Int32), I2416, F2417)))
          else none
        else none) ab_fu (0 : Int32) I2404 F2405
    else
      some ((-1000000001 : Int32), I2404, F2405))
set_option maxRecDepth 20000 in
set_option maxHeartbeats 4000000 in
theorem kf_X10_keep (v1 : Int32) (I : AI) (F : AF) : OK 1 mX10_keep true (f_X10_keep v1 I F) (0, [(0, .ref 49), (1, .int v1)], [], hp I F) := by
  rw [f_X10_keep]
  refine OK_st 4 okX10_keep (S' := (4, [(0, .ref 49), (1, .int v1)], [.long (1 : Int64), .long (0 : Int64), .long v1.toInt64], hp I F)) rfl ⟨trivial, trivial, trivial, trivial, trivial⟩ ?_
  refine OK_cs [.long v1.toInt64, .long (0 : Int64), .long (1 : Int64)] [] okX10_keep okX10_in rfl rfl cl_RX10_102 (Nat.le_of_ble_eq_true rfl) (by decide) (Nat.le_of_ble_eq_true rfl) (kf_X10_in v1.toInt64 (0 : Int64) (1 : Int64) I F) (fun r2403 I2404 F2405 => ?_)
  refine OK_st 1 okX10_keep (S' := ((if ¬ r2403 = 0 then 13 else 10), [(0, .ref 49), (1, .int v1)], [], hp I2404 F2405)) rfl ⟨trivial, trivial⟩ ?_
  refine OK_if (fun h2406 => ?_) (fun h2406 => ?_)
  · refine OK_st 2 okX10_keep (S' := (15, [(2, .int (0 : Int32)), (0, .ref 49), (1, .int v1)], [], hp I2404 F2405)) rfl ⟨trivial, (by decide), trivial⟩ ?_
    refine OK_pk [1, 2, 0] rfl ?_
    refine kf_X10_keep_15 v1 _ (fun v2_2411 I2412 F2413 => ?_) ab_fu (0 : Int32) I2404 F2405
    refine OK_gd (fun g2414 => ?_)
    refine OK_gd (fun g2415 => ?_)
    refine OK_st 18 okX10_keep (S' := (72, [(0, .ref 49), (1, .int v1), (2, .int v2_2411)], [], hp (va_up I2412 34 (0 : Int32)) (va_up (va_up F2413 64 (upd (F2413 64) (((nI 23) * v1) + (nI 22)).toNatClampNeg (I2412 25))) 65 (upd (F2413 65) v1.toNatClampNeg (1 : Int32))))) rfl ⟨trivial, trivial, trivial, trivial, trivial, trivial, trivial, trivial, trivial, (ab_vo g2414), trivial, trivial, trivial, trivial, ⟨(ab_vo g2415), Or.inr rfl⟩, trivial, trivial, trivial, trivial⟩ ?_
    refine OK_lt (fun I2416 => (72, [(0, .ref 49), (1, .int v1), (2, .int v2_2411)], [], hp I2416 (va_up (va_up F2413 64 (upd (F2413 64) (((nI 23) * v1) + (nI 22)).toNatClampNeg (I2412 25))) 65 (upd (F2413 65) v1.toNatClampNeg (1 : Int32))))) (fun I2416 => ?_)
    refine OK_lt (fun F2417 => (72, [(0, .ref 49), (1, .int v1), (2, .int v2_2411)], [], hp I2416 F2417)) (fun F2417 => ?_)
    refine OK_st 1 okX10_keep (S' := (73, [(0, .ref 49), (1, .int v1), (2, .int v2_2411)], [.int (1 : Int32)], hp I2416 F2417)) rfl ⟨trivial, trivial⟩ ?_
    exact OK_ri okX10_keep rfl rfl (Or.inl rfl)
  · refine OK_st 1 okX10_keep (S' := (12, [(0, .ref 49), (1, .int v1)], [.int (-1000000001 : Int32)], hp I2404 F2405)) rfl ⟨trivial, trivial⟩ ?_
    exact OK_ri okX10_keep rfl rfl (Or.inl rfl)

def f_X10_goBack_27 (v1 : Int32) (ko : Int32 → AI → AF → AQ) : Nat → Int32 → AI → AF → AQ
  | 0, _, _, _ => none
  | n + 1, v2, I, F =>
    if (nI 22) ≤ v2 then
      ko v2 I F
    else
      bif ab_vin (((nI 23) * v1) + v2) 46 then
        bif ab_vin v2 22 then
          ab_lt (va_up F 47 (upd (F 47) v2.toNatClampNeg ((F 64) (((nI 23) * v1) + v2).toNatClampNeg))) (fun F2427 =>
            f_X10_goBack_27 v1 ko n (v2 + (1 : Int32)) I F2427)
        else none
      else none
set_option maxRecDepth 20000 in
set_option maxHeartbeats 4000000 in
theorem kf_X10_goBack_27 (v1 : Int32) (ko : Int32 → AI → AF → AQ) (hko : ∀ v2 I F, OK 1 mX10_goBack true (ko v2 I F) (56, [(0, .ref 49), (1, .int v1), (2, .int v2)], [], hp I F)) : ∀ n v2 I F, OK 1 mX10_goBack true (f_X10_goBack_27 v1 ko n v2 I F) (27, [(0, .ref 49), (1, .int v1), (2, .int v2)], [], hp I F) := by
  intro n
  induction n with
  | zero =>
    intro v2 I F
    exact OK_no
  | succ n ih =>
    intro v2 I F
    rw [f_X10_goBack_27]
    refine OK_st 3 okX10_goBack (S' := ((if (nI 22) ≤ v2 then 56 else 33), [(0, .ref 49), (1, .int v1), (2, .int v2)], [], hp I F)) rfl ⟨trivial, trivial, trivial, trivial⟩ ?_
    refine OK_if (fun h2424 => ?_) (fun h2424 => ?_)
    · exact hko v2 I F
    · refine OK_gd (fun g2425 => ?_)
      refine OK_gd (fun g2426 => ?_)
      refine OK_st 14 okX10_goBack (S' := (27, [(2, .int (v2 + (1 : Int32))), (0, .ref 49), (1, .int v1)], [], hp I (va_up F 47 (upd (F 47) v2.toNatClampNeg ((F 64) (((nI 23) * v1) + v2).toNatClampNeg))))) rfl ⟨trivial, trivial, trivial, trivial, trivial, trivial, trivial, trivial, trivial, trivial, (ab_vo g2425), (ab_vo g2426), (by decide), trivial, trivial⟩ ?_
      refine OK_lt (fun F2427 => (27, [(2, .int (v2 + (1 : Int32))), (0, .ref 49), (1, .int v1)], [], hp I F2427)) (fun F2427 => ?_)
      refine OK_pk [1, 2, 0] rfl ?_
      exact ih (v2 + (1 : Int32)) I F2427

def f_X10_goBack (v1 : Int32) (I : AI) (F : AF) : AQ :=
  ab_bd (f_X10_in v1.toInt64 (0 : Int64) (1 : Int64) I F) (fun r2418 I2419 F2420 =>
    if ¬ r2418 = 0 then
      bif ab_vin v1 2 then
        if ¬ ((F2420 65) v1.toNatClampNeg) = 0 then
          f_X10_goBack_27 v1 (fun v2_2428 I2429 F2430 =>
            bif ab_vin (((nI 23) * v1) + (nI 22)) 46 then
              some ((1 : Int32), (va_up (va_up I2429 25 ((F2430 64) (((nI 23) * v1) + (nI 22)).toNatClampNeg)) 34 (0 : Int32)), F2430)
            else none) ab_fu (0 : Int32) I2419 F2420
        else
          some ((-1000000003 : Int32), I2419, F2420)
      else none
    else
      some ((-1000000001 : Int32), I2419, F2420))
set_option maxRecDepth 20000 in
set_option maxHeartbeats 4000000 in
theorem kf_X10_goBack (v1 : Int32) (I : AI) (F : AF) : OK 1 mX10_goBack true (f_X10_goBack v1 I F) (0, [(0, .ref 49), (1, .int v1)], [], hp I F) := by
  rw [f_X10_goBack]
  refine OK_st 4 okX10_goBack (S' := (4, [(0, .ref 49), (1, .int v1)], [.long (1 : Int64), .long (0 : Int64), .long v1.toInt64], hp I F)) rfl ⟨trivial, trivial, trivial, trivial, trivial⟩ ?_
  refine OK_cs [.long v1.toInt64, .long (0 : Int64), .long (1 : Int64)] [] okX10_goBack okX10_in rfl rfl cl_RX10_102 (Nat.le_of_ble_eq_true rfl) (by decide) (Nat.le_of_ble_eq_true rfl) (kf_X10_in v1.toInt64 (0 : Int64) (1 : Int64) I F) (fun r2418 I2419 F2420 => ?_)
  refine OK_st 1 okX10_goBack (S' := ((if ¬ r2418 = 0 then 13 else 10), [(0, .ref 49), (1, .int v1)], [], hp I2419 F2420)) rfl ⟨trivial, trivial⟩ ?_
  refine OK_if (fun h2421 => ?_) (fun h2421 => ?_)
  · refine OK_gd (fun g2422 => ?_)
    refine OK_st 5 okX10_goBack (S' := ((if ¬ ((F2420 65) v1.toNatClampNeg) = 0 then 25 else 22), [(0, .ref 49), (1, .int v1)], [], hp I2419 F2420)) rfl ⟨trivial, trivial, trivial, (ab_vo g2422), trivial, trivial⟩ ?_
    refine OK_if (fun h2423 => ?_) (fun h2423 => ?_)
    · refine OK_st 2 okX10_goBack (S' := (27, [(2, .int (0 : Int32)), (0, .ref 49), (1, .int v1)], [], hp I2419 F2420)) rfl ⟨trivial, (by decide), trivial⟩ ?_
      refine OK_pk [1, 2, 0] rfl ?_
      refine kf_X10_goBack_27 v1 _ (fun v2_2428 I2429 F2430 => ?_) ab_fu (0 : Int32) I2419 F2420
      refine OK_gd (fun g2431 => ?_)
      refine OK_st 14 okX10_goBack (S' := (78, [(0, .ref 49), (1, .int v1), (2, .int v2_2428)], [.int (1 : Int32)], hp (va_up (va_up I2429 25 ((F2430 64) (((nI 23) * v1) + (nI 22)).toNatClampNeg)) 34 (0 : Int32)) F2430)) rfl ⟨trivial, trivial, trivial, trivial, trivial, trivial, trivial, trivial, (ab_vo g2431), trivial, trivial, trivial, trivial, trivial, trivial⟩ ?_
      exact OK_ri okX10_goBack rfl rfl (Or.inl rfl)
    · refine OK_st 1 okX10_goBack (S' := (24, [(0, .ref 49), (1, .int v1)], [.int (-1000000003 : Int32)], hp I2419 F2420)) rfl ⟨trivial, trivial⟩ ?_
      exact OK_ri okX10_goBack rfl rfl (Or.inl rfl)
  · refine OK_st 1 okX10_goBack (S' := (12, [(0, .ref 49), (1, .int v1)], [.int (-1000000001 : Int32)], hp I2419 F2420)) rfl ⟨trivial, trivial⟩ ?_
    exact OK_ri okX10_goBack rfl rfl (Or.inl rfl)
