/-! methods as functions (by program) -/
def f_X10_in (w0 : Int64) (w2 : Int64) (w4 : Int64) (I : AI) (F : AF) : AQ :=
  if (lg_cmp w0 w2) < 0 then
    some ((0 : Int32), I, F)
  else
    if 0 < (lg_cmp w0 w4) then
      some ((0 : Int32), I, F)
    else
      some ((1 : Int32), I, F)
set_option maxRecDepth 20000 in
set_option maxHeartbeats 4000000 in
theorem kf_X10_in (w0 : Int64) (w2 : Int64) (w4 : Int64) (I : AI) (F : AF) : OK 0 mX10_in true (f_X10_in w0 w2 w4 I F) (0, [(0, .long w0), (2, .long w2), (4, .long w4)], [], hp I F) := by
  rw [f_X10_in]
  refine OK_st 4 okX10_in (S' := ((if (lg_cmp w0 w2) < 0 then 17 else 6), [(0, .long w0), (2, .long w2), (4, .long w4)], [], hp I F)) rfl ⟨trivial, trivial, trivial, trivial, trivial⟩ ?_
  refine OK_if (fun h1261 => ?_) (fun h1261 => ?_)
  · refine OK_st 1 okX10_in (S' := (18, [(0, .long w0), (2, .long w2), (4, .long w4)], [.int (0 : Int32)], hp I F)) rfl ⟨trivial, trivial⟩ ?_
    exact OK_ri okX10_in rfl rfl (Or.inr ⟨rfl, Or.inl rfl⟩)
  · refine OK_st 4 okX10_in (S' := ((if 0 < (lg_cmp w0 w4) then 17 else 13), [(0, .long w0), (2, .long w2), (4, .long w4)], [], hp I F)) rfl ⟨trivial, trivial, trivial, trivial, trivial⟩ ?_
    refine OK_if (fun h1262 => ?_) (fun h1262 => ?_)
    · refine OK_st 1 okX10_in (S' := (18, [(0, .long w0), (2, .long w2), (4, .long w4)], [.int (0 : Int32)], hp I F)) rfl ⟨trivial, trivial⟩ ?_
      exact OK_ri okX10_in rfl rfl (Or.inr ⟨rfl, Or.inl rfl⟩)
    · refine OK_st 2 okX10_in (S' := (18, [(0, .long w0), (2, .long w2), (4, .long w4)], [.int (1 : Int32)], hp I F)) rfl ⟨trivial, trivial, trivial⟩ ?_
      exact OK_ri okX10_in rfl rfl (Or.inr ⟨rfl, Or.inr rfl⟩)

def f_X10_feed (v1 : Int32) (I : AI) (F : AF) : AQ :=
  ab_bd (f_X10_in v1.toInt64 (0 : Int64) (255 : Int64) I F) (fun r1263 I1264 F1265 =>
    if ¬ r1263 = 0 then
      if ¬ (I1264 26) = (nI 250) then
        bif ab_vin (I1264 26) 250 then
          some (((I1264 26) + (1 : Int32)), (va_up I1264 26 ((I1264 26) + (1 : Int32))), (va_up F1265 48 (upd (F1265 48) (I1264 26).toNatClampNeg v1)))
        else none
      else
        some ((-1000000004 : Int32), I1264, F1265)
    else
      some ((-1000000002 : Int32), I1264, F1265))
set_option maxRecDepth 20000 in
set_option maxHeartbeats 4000000 in
theorem kf_X10_feed (v1 : Int32) (I : AI) (F : AF) : OK 1 mX10_feed true (f_X10_feed v1 I F) (0, [(0, .ref 49), (1, .int v1)], [], hp I F) := by
  rw [f_X10_feed]
  refine OK_st 4 okX10_feed (S' := (6, [(0, .ref 49), (1, .int v1)], [.long (255 : Int64), .long (0 : Int64), .long v1.toInt64], hp I F)) rfl ⟨trivial, trivial, trivial, trivial, trivial⟩ ?_
  refine OK_cs [.long v1.toInt64, .long (0 : Int64), .long (255 : Int64)] [] okX10_feed okX10_in rfl rfl cl_RX10_102 (Nat.le_of_ble_eq_true rfl) (by decide) (Nat.le_of_ble_eq_true rfl) (kf_X10_in v1.toInt64 (0 : Int64) (255 : Int64) I F) (fun r1263 I1264 F1265 => ?_)
  refine OK_st 1 okX10_feed (S' := ((if ¬ r1263 = 0 then 15 else 12), [(0, .ref 49), (1, .int v1)], [], hp I1264 F1265)) rfl ⟨trivial, trivial⟩ ?_
  refine OK_if (fun h1266 => ?_) (fun h1266 => ?_)
  · refine OK_st 4 okX10_feed (S' := ((if ¬ (I1264 26) = (nI 250) then 28 else 25), [(0, .ref 49), (1, .int v1)], [], hp I1264 F1265)) rfl ⟨trivial, trivial, trivial, trivial, trivial⟩ ?_
    refine OK_if (fun h1267 => ?_) (fun h1267 => ?_)
    · refine OK_gd (fun g1268 => ?_)
      refine OK_st 14 okX10_feed (S' := (52, [(0, .ref 49), (1, .int v1)], [.int ((I1264 26) + (1 : Int32))], hp (va_up I1264 26 ((I1264 26) + (1 : Int32))) (va_up F1265 48 (upd (F1265 48) (I1264 26).toNatClampNeg v1)))) rfl ⟨trivial, trivial, trivial, trivial, trivial, (ab_vo g1268), trivial, rfl, trivial, trivial, trivial, trivial, trivial, trivial, trivial⟩ ?_
      exact OK_ri okX10_feed rfl rfl (Or.inl rfl)
    · refine OK_st 1 okX10_feed (S' := (27, [(0, .ref 49), (1, .int v1)], [.int (-1000000004 : Int32)], hp I1264 F1265)) rfl ⟨trivial, trivial⟩ ?_
      exact OK_ri okX10_feed rfl rfl (Or.inl rfl)
  · refine OK_st 1 okX10_feed (S' := (14, [(0, .ref 49), (1, .int v1)], [.int (-1000000002 : Int32)], hp I1264 F1265)) rfl ⟨trivial, trivial⟩ ?_
    exact OK_ri okX10_feed rfl rfl (Or.inl rfl)

def f_X10_here_0 (ko : AI → AF → AQ) : Nat → AI → AF → AQ
  | 0, _, _ => none
  | n + 1, I, F =>
    if (I 26) ≤ (I 28) then
      ko  I F
    else
      bif ab_vin (I 28) 250 then
        if ¬ ((F 48) (I 28).toNatClampNeg) = (nI 32) then
          ko  I F
        else
          ab_lt (va_up I 28 ((I 28) + (1 : Int32))) (fun I1275 =>
            f_X10_here_0 ko n  I1275 F)
      else none
set_option maxRecDepth 20000 in
set_option maxHeartbeats 4000000 in
theorem kf_X10_here_0 (ko : AI → AF → AQ) (hko : ∀  I F, OK 0 mX10_here true (ko  I F) (38, [(0, .ref 49)], [], hp I F)) : ∀ n  I F, OK 0 mX10_here true (f_X10_here_0 ko n  I F) (0, [(0, .ref 49)], [], hp I F) := by
  intro n
  induction n with
  | zero =>
    intro  I F
    exact OK_no
  | succ n ih =>
    intro  I F
    rw [f_X10_here_0]
    refine OK_st 5 okX10_here (S' := ((if (I 26) ≤ (I 28) then 38 else 11), [(0, .ref 49)], [], hp I F)) rfl ⟨trivial, trivial, trivial, trivial, trivial, trivial⟩ ?_
    refine OK_if (fun h1272 => ?_) (fun h1272 => ?_)
    · exact hko  I F
    · refine OK_gd (fun g1273 => ?_)
      refine OK_st 7 okX10_here (S' := ((if ¬ ((F 48) (I 28).toNatClampNeg) = (nI 32) then 38 else 25), [(0, .ref 49)], [], hp I F)) rfl ⟨trivial, trivial, trivial, trivial, (ab_vo g1273), trivial, trivial, trivial⟩ ?_
      refine OK_if (fun h1274 => ?_) (fun h1274 => ?_)
      · exact hko  I F
      · refine OK_st 7 okX10_here (S' := (0, [(0, .ref 49)], [], hp (va_up I 28 ((I 28) + (1 : Int32))) F)) rfl ⟨trivial, rfl, trivial, trivial, trivial, trivial, trivial, trivial⟩ ?_
        refine OK_lt (fun I1275 => (0, [(0, .ref 49)], [], hp I1275 F)) (fun I1275 => ?_)
        exact ih  I1275 F

def f_X10_here (I : AI) (F : AF) : AQ :=
  f_X10_here_0 (fun  I1276 F1277 =>
    if (I1276 26) ≤ (I1276 28) then
      some ((-1 : Int32), I1276, F1277)
    else
      bif ab_vin (I1276 28) 250 then
        some (((F1277 48) (I1276 28).toNatClampNeg), I1276, F1277)
      else none) ab_fu  I F
set_option maxRecDepth 20000 in
set_option maxHeartbeats 4000000 in
theorem kf_X10_here (I : AI) (F : AF) : OK 0 mX10_here true (f_X10_here I F) (0, [(0, .ref 49)], [], hp I F) := by
  rw [f_X10_here]
  refine kf_X10_here_0 _ (fun  I1276 F1277 => ?_) ab_fu  I F
  refine OK_st 5 okX10_here (S' := ((if (I1276 26) ≤ (I1276 28) then 61 else 49), [(0, .ref 49)], [], hp I1276 F1277)) rfl ⟨trivial, trivial, trivial, trivial, trivial, trivial⟩ ?_
  refine OK_if (fun h1278 => ?_) (fun h1278 => ?_)
  · refine OK_st 1 okX10_here (S' := (62, [(0, .ref 49)], [.int (-1 : Int32)], hp I1276 F1277)) rfl ⟨trivial, trivial⟩ ?_
    exact OK_ri okX10_here rfl rfl (Or.inl rfl)
  · refine OK_gd (fun g1279 => ?_)
    refine OK_st 6 okX10_here (S' := (62, [(0, .ref 49)], [.int ((F1277 48) (I1276 28).toNatClampNeg)], hp I1276 F1277)) rfl ⟨trivial, trivial, trivial, trivial, (ab_vo g1279), trivial, trivial⟩ ?_
    exact OK_ri okX10_here rfl rfl (Or.inl rfl)

def f_X10_fails (v1 : Int32) (v2 : Int32) (I : AI) (F : AF) : AQ :=
  some (v1, (va_up I 27 v2), F)
set_option maxRecDepth 20000 in
set_option maxHeartbeats 4000000 in
theorem kf_X10_fails (v1 : Int32) (v2 : Int32) (I : AI) (F : AF) : OK 0 mX10_fails true (f_X10_fails v1 v2 I F) (0, [(0, .ref 49), (1, .int v1), (2, .int v2)], [], hp I F) := by
  rw [f_X10_fails]
  refine OK_st 4 okX10_fails (S' := (6, [(0, .ref 49), (1, .int v1), (2, .int v2)], [.int v1], hp (va_up I 27 v2) F)) rfl ⟨trivial, trivial, trivial, trivial, trivial⟩ ?_
  exact OK_ri okX10_fails rfl rfl (Or.inl rfl)

def f_X10_takeNumber_42 (v1 : Int32) (v2 : Int32) (ko : AI → AF → AQ) : Nat → AI → AF → AQ
  | 0, _, _ => none
  | n + 1, I, F =>
    if (I 26) ≤ (I 28) then
      ko  I F
    else
      bif ab_vin (I 28) 250 then
        ab_bd (f_X10_in (((F 48) (I 28).toNatClampNeg).toInt64) (48 : Int64) (57 : Int64) I F) (fun r1314 I1315 F1316 =>
          if r1314 = 0 then
            ko  I1315 F1316
          else
            if (I1315 29) ≤ (nI 10000) then
              bif ab_vin (I1315 28) 250 then
                ab_lt (va_up (va_up I1315 29 ((((nI 10) * (I1315 29)) + ((F1316 48) (I1315 28).toNatClampNeg)) - (nI 48))) 28 ((I1315 28) + (1 : Int32))) (fun I1320 =>
                  f_X10_takeNumber_42 v1 v2 ko n  I1320 F1316)
              else none
            else
              ab_lt (va_up (va_up I1315 29 (I1315 29)) 28 ((I1315 28) + (1 : Int32))) (fun I1321 =>
                f_X10_takeNumber_42 v1 v2 ko n  I1321 F1316))
      else none
set_option maxRecDepth 20000 in
set_option maxHeartbeats 4000000 in
theorem kf_X10_takeNumber_42 (v1 : Int32) (v2 : Int32) (ko : AI → AF → AQ) (hko : ∀  I F, OK 1 mX10_takeNumber true (ko  I F) (129, [(0, .ref 49), (1, .int v1), (2, .int v2)], [], hp I F)) : ∀ n  I F, OK 1 mX10_takeNumber true (f_X10_takeNumber_42 v1 v2 ko n  I F) (42, [(0, .ref 49), (1, .int v1), (2, .int v2)], [], hp I F) := by
  intro n
  induction n with
  | zero =>
    intro  I F
    exact OK_no
  | succ n ih =>
    intro  I F
    rw [f_X10_takeNumber_42]
    refine OK_st 5 okX10_takeNumber (S' := ((if (I 26) ≤ (I 28) then 129 else 53), [(0, .ref 49), (1, .int v1), (2, .int v2)], [], hp I F)) rfl ⟨trivial, trivial, trivial, trivial, trivial, trivial⟩ ?_
    refine OK_if (fun h1312 => ?_) (fun h1312 => ?_)
    · exact hko  I F
    · refine OK_gd (fun g1313 => ?_)
      refine OK_st 8 okX10_takeNumber (S' := (69, [(0, .ref 49), (1, .int v1), (2, .int v2)], [.long (57 : Int64), .long (48 : Int64), .long ((F 48) (I 28).toNatClampNeg).toInt64], hp I F)) rfl ⟨trivial, trivial, trivial, trivial, (ab_vo g1313), trivial, trivial, trivial, trivial⟩ ?_
      refine OK_cs [.long ((F 48) (I 28).toNatClampNeg).toInt64, .long (48 : Int64), .long (57 : Int64)] [] okX10_takeNumber okX10_in rfl rfl cl_RX10_102 (Nat.le_of_ble_eq_true rfl) (by decide) (Nat.le_of_ble_eq_true rfl) (kf_X10_in (((F 48) (I 28).toNatClampNeg).toInt64) (48 : Int64) (57 : Int64) I F) (fun r1314 I1315 F1316 => ?_)
      refine OK_st 1 okX10_takeNumber (S' := ((if r1314 = 0 then 129 else 75), [(0, .ref 49), (1, .int v1), (2, .int v2)], [], hp I1315 F1316)) rfl ⟨trivial, trivial⟩ ?_
      refine OK_if (fun h1317 => ?_) (fun h1317 => ?_)
      · exact hko  I1315 F1316
      · refine OK_st 5 okX10_takeNumber (S' := ((if (I1315 29) ≤ (nI 10000) then 93 else 86), [(0, .ref 49), (1, .int v1), (2, .int v2)], [.ref 49], hp I1315 F1316)) rfl ⟨trivial, trivial, trivial, trivial, trivial, trivial⟩ ?_
        refine OK_if (fun h1318 => ?_) (fun h1318 => ?_)
        · refine OK_gd (fun g1319 => ?_)
          refine OK_st 20 okX10_takeNumber (S' := (42, [(0, .ref 49), (1, .int v1), (2, .int v2)], [], hp (va_up (va_up I1315 29 ((((nI 10) * (I1315 29)) + ((F1316 48) (I1315 28).toNatClampNeg)) - (nI 48))) 28 ((I1315 28) + (1 : Int32))) F1316)) rfl ⟨trivial, trivial, trivial, trivial, trivial, trivial, trivial, trivial, (ab_vo g1319), trivial, trivial, trivial, trivial, trivial, rfl, trivial, trivial, trivial, trivial, trivial, trivial⟩ ?_
          refine OK_lt (fun I1320 => (42, [(0, .ref 49), (1, .int v1), (2, .int v2)], [], hp I1320 F1316)) (fun I1320 => ?_)
          exact ih  I1320 F1316
        · refine OK_st 11 okX10_takeNumber (S' := (42, [(0, .ref 49), (1, .int v1), (2, .int v2)], [], hp (va_up (va_up I1315 29 (I1315 29)) 28 ((I1315 28) + (1 : Int32))) F1316)) rfl ⟨trivial, trivial, trivial, trivial, trivial, rfl, trivial, trivial, trivial, trivial, trivial, trivial⟩ ?_
          refine OK_lt (fun I1321 => (42, [(0, .ref 49), (1, .int v1), (2, .int v2)], [], hp I1321 F1316)) (fun I1321 => ?_)
          exact ih  I1321 F1316

def f_X10_takeNumber_j129 (v1 : Int32) (v2 : Int32) (I : AI) (F : AF) : AQ :=
  if (nI 3) < ((I 28) - (I 30)) then
    ab_bd (f_X10_fails (nI 2) (I 30) I F) (fun r1325 I1326 F1327 =>
      some (r1325, I1326, F1327))
  else
    ab_bd (f_X10_in ((I 29).toInt64) v1.toInt64 v2.toInt64 I F) (fun r1328 I1329 F1330 =>
      if ¬ r1328 = 0 then
        some ((0 : Int32), I1329, F1330)
      else
        ab_bd (f_X10_fails (nI 2) (I1329 30) I1329 F1330) (fun r1332 I1333 F1334 =>
          some (r1332, I1333, F1334)))
set_option maxRecDepth 20000 in
set_option maxHeartbeats 4000000 in
theorem kf_X10_takeNumber_j129 (v1 : Int32) (v2 : Int32) (I : AI) (F : AF) : OK 1 mX10_takeNumber true (f_X10_takeNumber_j129 v1 v2 I F) (129, [(0, .ref 49), (1, .int v1), (2, .int v2)], [], hp I F) := by
  rw [f_X10_takeNumber_j129]
  refine OK_st 7 okX10_takeNumber (S' := ((if (nI 3) < ((I 28) - (I 30)) then 157 else 142), [(0, .ref 49), (1, .int v1), (2, .int v2)], [], hp I F)) rfl ⟨trivial, trivial, trivial, trivial, trivial, trivial, trivial, trivial⟩ ?_
  refine OK_if (fun h1324 => ?_) (fun h1324 => ?_)
  · refine OK_st 4 okX10_takeNumber (S' := (163, [(0, .ref 49), (1, .int v1), (2, .int v2)], [.int (I 30), .int (nI 2), .ref 49], hp I F)) rfl ⟨trivial, trivial, trivial, trivial, trivial⟩ ?_
    refine OK_cv [.int (nI 2), .int (I 30)] [] okX10_takeNumber okX10_fails rfl rfl cl_RX10_128 rfl rfl (Nat.le_of_ble_eq_true rfl) (by decide) (Nat.le_of_ble_eq_true rfl) (kf_X10_fails (nI 2) (I 30) I F) (fun r1325 I1326 F1327 => ?_)
    refine OK_st 1 okX10_takeNumber (S' := (170, [(0, .ref 49), (1, .int v1), (2, .int v2)], [.int r1325], hp I1326 F1327)) rfl ⟨trivial, trivial⟩ ?_
    exact OK_ri okX10_takeNumber rfl rfl (Or.inl rfl)
  · refine OK_st 7 okX10_takeNumber (S' := (151, [(0, .ref 49), (1, .int v1), (2, .int v2)], [.long v2.toInt64, .long v1.toInt64, .long (I 29).toInt64], hp I F)) rfl ⟨trivial, trivial, trivial, trivial, trivial, trivial, trivial, trivial⟩ ?_
    refine OK_cs [.long (I 29).toInt64, .long v1.toInt64, .long v2.toInt64] [] okX10_takeNumber okX10_in rfl rfl cl_RX10_102 (Nat.le_of_ble_eq_true rfl) (by decide) (Nat.le_of_ble_eq_true rfl) (kf_X10_in ((I 29).toInt64) v1.toInt64 v2.toInt64 I F) (fun r1328 I1329 F1330 => ?_)
    refine OK_st 1 okX10_takeNumber (S' := ((if ¬ r1328 = 0 then 169 else 157), [(0, .ref 49), (1, .int v1), (2, .int v2)], [], hp I1329 F1330)) rfl ⟨trivial, trivial⟩ ?_
    refine OK_if (fun h1331 => ?_) (fun h1331 => ?_)
    · refine OK_st 1 okX10_takeNumber (S' := (170, [(0, .ref 49), (1, .int v1), (2, .int v2)], [.int (0 : Int32)], hp I1329 F1330)) rfl ⟨trivial, trivial⟩ ?_
      exact OK_ri okX10_takeNumber rfl rfl (Or.inl rfl)
    · refine OK_st 4 okX10_takeNumber (S' := (163, [(0, .ref 49), (1, .int v1), (2, .int v2)], [.int (I1329 30), .int (nI 2), .ref 49], hp I1329 F1330)) rfl ⟨trivial, trivial, trivial, trivial, trivial⟩ ?_
      refine OK_cv [.int (nI 2), .int (I1329 30)] [] okX10_takeNumber okX10_fails rfl rfl cl_RX10_128 rfl rfl (Nat.le_of_ble_eq_true rfl) (by decide) (Nat.le_of_ble_eq_true rfl) (kf_X10_fails (nI 2) (I1329 30) I1329 F1330) (fun r1332 I1333 F1334 => ?_)
      refine OK_st 1 okX10_takeNumber (S' := (170, [(0, .ref 49), (1, .int v1), (2, .int v2)], [.int r1332], hp I1333 F1334)) rfl ⟨trivial, trivial⟩ ?_
      exact OK_ri okX10_takeNumber rfl rfl (Or.inl rfl)

def f_X10_takeNumber (v1 : Int32) (v2 : Int32) (I : AI) (F : AF) : AQ :=
  ab_bd (f_X10_here I F) (fun r1304 I1305 F1306 =>
    ab_bd (f_X10_in r1304.toInt64 (48 : Int64) (57 : Int64) I1305 F1306) (fun r1307 I1308 F1309 =>
      if ¬ r1307 = 0 then
        ab_lt (va_up (va_up I1308 30 (I1308 28)) 29 (0 : Int32)) (fun I1311 =>
          f_X10_takeNumber_42 v1 v2 (fun  I1322 F1323 =>
            f_X10_takeNumber_j129 v1 v2 I1322 F1323) ab_fu  I1311 F1309)
      else
        ab_bd (f_X10_fails (1 : Int32) (I1308 28) I1308 F1309) (fun r1335 I1336 F1337 =>
          some (r1335, I1336, F1337))))
set_option maxRecDepth 20000 in
set_option maxHeartbeats 4000000 in
theorem kf_X10_takeNumber (v1 : Int32) (v2 : Int32) (I : AI) (F : AF) : OK 1 mX10_takeNumber true (f_X10_takeNumber v1 v2 I F) (0, [(0, .ref 49), (1, .int v1), (2, .int v2)], [], hp I F) := by
  rw [f_X10_takeNumber]
  refine OK_st 1 okX10_takeNumber (S' := (1, [(0, .ref 49), (1, .int v1), (2, .int v2)], [.ref 49], hp I F)) rfl ⟨trivial, trivial⟩ ?_
  refine OK_cv [] [] okX10_takeNumber okX10_here rfl rfl cl_RX10_120 rfl rfl (Nat.le_of_ble_eq_true rfl) (by decide) (Nat.le_of_ble_eq_true rfl) (kf_X10_here I F) (fun r1304 I1305 F1306 => ?_)
  refine OK_st 5 okX10_takeNumber (S' := (13, [(3, .int r1304), (0, .ref 49), (1, .int v1), (2, .int v2)], [.long (57 : Int64), .long (48 : Int64), .long r1304.toInt64], hp I1305 F1306)) rfl ⟨(by decide), trivial, trivial, trivial, trivial, trivial⟩ ?_
  refine OK_cs [.long r1304.toInt64, .long (48 : Int64), .long (57 : Int64)] [] okX10_takeNumber okX10_in rfl rfl cl_RX10_102 (Nat.le_of_ble_eq_true rfl) (by decide) (Nat.le_of_ble_eq_true rfl) (kf_X10_in r1304.toInt64 (48 : Int64) (57 : Int64) I1305 F1306) (fun r1307 I1308 F1309 => ?_)
  refine OK_st 1 okX10_takeNumber (S' := ((if ¬ r1307 = 0 then 29 else 19), [(3, .int r1304), (0, .ref 49), (1, .int v1), (2, .int v2)], [], hp I1308 F1309)) rfl ⟨trivial, trivial⟩ ?_
  refine OK_if (fun h1310 => ?_) (fun h1310 => ?_)
  · refine OK_st 7 okX10_takeNumber (S' := (42, [(3, .int r1304), (0, .ref 49), (1, .int v1), (2, .int v2)], [], hp (va_up (va_up I1308 30 (I1308 28)) 29 (0 : Int32)) F1309)) rfl ⟨trivial, trivial, trivial, trivial, trivial, trivial, trivial, trivial⟩ ?_
    refine OK_lt (fun I1311 => (42, [(3, .int r1304), (0, .ref 49), (1, .int v1), (2, .int v2)], [], hp I1311 F1309)) (fun I1311 => ?_)
    refine OK_pk [1, 2, 3] rfl ?_
    refine kf_X10_takeNumber_42 v1 v2 _ (fun  I1322 F1323 => ?_) ab_fu  I1311 F1309
    exact kf_X10_takeNumber_j129 v1 v2 I1322 F1323
  · refine OK_st 4 okX10_takeNumber (S' := (25, [(3, .int r1304), (0, .ref 49), (1, .int v1), (2, .int v2)], [.int (I1308 28), .int (1 : Int32), .ref 49], hp I1308 F1309)) rfl ⟨trivial, trivial, trivial, trivial, trivial⟩ ?_
    refine OK_cv [.int (1 : Int32), .int (I1308 28)] [] okX10_takeNumber okX10_fails rfl rfl cl_RX10_128 rfl rfl (Nat.le_of_ble_eq_true rfl) (by decide) (Nat.le_of_ble_eq_true rfl) (kf_X10_fails (1 : Int32) (I1308 28) I1308 F1309) (fun r1335 I1336 F1337 => ?_)
    exact OK_ri okX10_takeNumber rfl rfl (Or.inl rfl)

def f_X10_takeHeir_j59 (v2 : Int32) (s0 : Int32) (I : AI) (F : AF) : AQ :=
  if ¬ s0 = 0 then
    if ¬ s0 = 0 then
      some (s0, I, F)
    else
      bif ab_vin v2 6 then
        some (s0, I, (va_up F 51 (upd (F 51) v2.toNatClampNeg (I 29))))
      else none
  else
    if ¬ (I 29) = v2 then
      if ¬ s0 = 0 then
        some (s0, I, F)
      else
        bif ab_vin v2 6 then
          some (s0, I, (va_up F 51 (upd (F 51) v2.toNatClampNeg (I 29))))
        else none
    else
      ab_bd (f_X10_fails (nI 4) (I 30) I F) (fun r1352 I1353 F1354 =>
        some (r1352, I1353, F1354))
set_option maxRecDepth 20000 in
set_option maxHeartbeats 4000000 in
theorem kf_X10_takeHeir_j59 (v2 : Int32) (s0 : Int32) (I : AI) (F : AF) : OK 2 mX10_takeHeir true (f_X10_takeHeir_j59 v2 s0 I F) (59, [(0, .ref 49), (2, .int v2)], [.int s0], hp I F) := by
  rw [f_X10_takeHeir_j59]
  refine OK_st 3 okX10_takeHeir (S' := ((if ¬ s0 = 0 then 82 else 64), [(1, .int s0), (0, .ref 49), (2, .int v2)], [], hp I F)) rfl ⟨(by decide), trivial, trivial, trivial⟩ ?_
  refine OK_if (fun h1346 => ?_) (fun h1346 => ?_)
  · refine OK_st 2 okX10_takeHeir (S' := ((if ¬ s0 = 0 then 96 else 86), [(1, .int s0), (0, .ref 49), (2, .int v2)], [], hp I F)) rfl ⟨trivial, trivial, trivial⟩ ?_
    refine OK_if (fun h1347 => ?_) (fun h1347 => ?_)
    · refine OK_st 1 okX10_takeHeir (S' := (97, [(1, .int s0), (0, .ref 49), (2, .int v2)], [.int s0], hp I F)) rfl ⟨trivial, trivial⟩ ?_
      exact OK_ri okX10_takeHeir rfl rfl (Or.inl rfl)
    · refine OK_gd (fun g1348 => ?_)
      refine OK_st 7 okX10_takeHeir (S' := (97, [(1, .int s0), (0, .ref 49), (2, .int v2)], [.int s0], hp I (va_up F 51 (upd (F 51) v2.toNatClampNeg (I 29))))) rfl ⟨trivial, trivial, trivial, trivial, trivial, (ab_vo g1348), trivial, trivial⟩ ?_
      exact OK_ri okX10_takeHeir rfl rfl (Or.inl rfl)
  · refine OK_st 4 okX10_takeHeir (S' := ((if ¬ (I 29) = v2 then 82 else 72), [(1, .int s0), (0, .ref 49), (2, .int v2)], [], hp I F)) rfl ⟨trivial, trivial, trivial, trivial, trivial⟩ ?_
    refine OK_if (fun h1349 => ?_) (fun h1349 => ?_)
    · refine OK_st 2 okX10_takeHeir (S' := ((if ¬ s0 = 0 then 96 else 86), [(1, .int s0), (0, .ref 49), (2, .int v2)], [], hp I F)) rfl ⟨trivial, trivial, trivial⟩ ?_
      refine OK_if (fun h1350 => ?_) (fun h1350 => ?_)
      · refine OK_st 1 okX10_takeHeir (S' := (97, [(1, .int s0), (0, .ref 49), (2, .int v2)], [.int s0], hp I F)) rfl ⟨trivial, trivial⟩ ?_
        exact OK_ri okX10_takeHeir rfl rfl (Or.inl rfl)
      · refine OK_gd (fun g1351 => ?_)
        refine OK_st 7 okX10_takeHeir (S' := (97, [(1, .int s0), (0, .ref 49), (2, .int v2)], [.int s0], hp I (va_up F 51 (upd (F 51) v2.toNatClampNeg (I 29))))) rfl ⟨trivial, trivial, trivial, trivial, trivial, (ab_vo g1351), trivial, trivial⟩ ?_
        exact OK_ri okX10_takeHeir rfl rfl (Or.inl rfl)
    · refine OK_st 4 okX10_takeHeir (S' := (78, [(1, .int s0), (0, .ref 49), (2, .int v2)], [.int (I 30), .int (nI 4), .ref 49], hp I F)) rfl ⟨trivial, trivial, trivial, trivial, trivial⟩ ?_
      refine OK_cv [.int (nI 4), .int (I 30)] [] okX10_takeHeir okX10_fails rfl rfl cl_RX10_128 rfl rfl (Nat.le_of_ble_eq_true rfl) (by decide) (Nat.le_of_ble_eq_true rfl) (kf_X10_fails (nI 4) (I 30) I F) (fun r1352 I1353 F1354 => ?_)
      exact OK_ri okX10_takeHeir rfl rfl (Or.inl rfl)

def f_X10_takeHeir_j40 (v1 : Int32) (v2 : Int32) (I : AI) (F : AF) : AQ :=
  if v1 ≤ 0 then
    ab_bd (f_X10_takeNumber (0 : Int32) ((I 31) - (1 : Int32)) I F) (fun r1343 I1344 F1345 =>
      f_X10_takeHeir_j59 v2 r1343 I1344 F1345)
  else
    f_X10_takeHeir_j59 v2 v1 I F
set_option maxRecDepth 20000 in
set_option maxHeartbeats 4000000 in
theorem kf_X10_takeHeir_j40 (v1 : Int32) (v2 : Int32) (I : AI) (F : AF) : OK 2 mX10_takeHeir true (f_X10_takeHeir_j40 v1 v2 I F) (40, [(0, .ref 49), (1, .int v1), (2, .int v2)], [], hp I F) := by
  rw [f_X10_takeHeir_j40]
  refine OK_st 2 okX10_takeHeir (S' := ((if v1 ≤ 0 then 48 else 44), [(0, .ref 49), (1, .int v1), (2, .int v2)], [], hp I F)) rfl ⟨trivial, trivial, trivial⟩ ?_
  refine OK_if (fun h1342 => ?_) (fun h1342 => ?_)
  · refine OK_st 6 okX10_takeHeir (S' := (56, [(0, .ref 49), (1, .int v1), (2, .int v2)], [.int ((I 31) - (1 : Int32)), .int (0 : Int32), .ref 49], hp I F)) rfl ⟨trivial, trivial, trivial, trivial, trivial, trivial, trivial⟩ ?_
    refine OK_cv [.int (0 : Int32), .int ((I 31) - (1 : Int32))] [] okX10_takeHeir okX10_takeNumber rfl rfl cl_RX10_138 rfl rfl (Nat.le_of_ble_eq_true rfl) (by decide) (Nat.le_of_ble_eq_true rfl) (kf_X10_takeNumber (0 : Int32) ((I 31) - (1 : Int32)) I F) (fun r1343 I1344 F1345 => ?_)
    refine OK_pk [0, 2] rfl ?_
    exact kf_X10_takeHeir_j59 v2 r1343 I1344 F1345
  · refine OK_st 2 okX10_takeHeir (S' := (59, [(0, .ref 49), (1, .int v1), (2, .int v2)], [.int v1], hp I F)) rfl ⟨trivial, trivial, trivial⟩ ?_
    refine OK_pk [0, 2] rfl ?_
    exact kf_X10_takeHeir_j59 v2 v1 I F

def f_X10_takeHeir (I : AI) (F : AF) : AQ :=
  ab_bd (f_X10_takeNumber (0 : Int32) ((I 31) - (1 : Int32)) I F) (fun r1338 I1339 F1340 =>
    if ¬ r1338 = 0 then
      f_X10_takeHeir_j40 r1338 (I1339 29) I1339 F1340
    else
      bif ab_vin (I1339 29) 6 then
        if ((F1340 51) (I1339 29).toNatClampNeg) < 0 then
          f_X10_takeHeir_j40 r1338 (I1339 29) I1339 F1340
        else
          ab_bd (f_X10_fails (nI 4) (I1339 30) I1339 F1340) (fun r1357 I1358 F1359 =>
            some (r1357, I1358, F1359))
      else none)
set_option maxRecDepth 20000 in
set_option maxHeartbeats 4000000 in
theorem kf_X10_takeHeir (I : AI) (F : AF) : OK 2 mX10_takeHeir true (f_X10_takeHeir I F) (0, [(0, .ref 49)], [], hp I F) := by
  rw [f_X10_takeHeir]
  refine OK_st 6 okX10_takeHeir (S' := (8, [(0, .ref 49)], [.int ((I 31) - (1 : Int32)), .int (0 : Int32), .ref 49], hp I F)) rfl ⟨trivial, trivial, trivial, trivial, trivial, trivial, trivial⟩ ?_
  refine OK_cv [.int (0 : Int32), .int ((I 31) - (1 : Int32))] [] okX10_takeHeir okX10_takeNumber rfl rfl cl_RX10_138 rfl rfl (Nat.le_of_ble_eq_true rfl) (by decide) (Nat.le_of_ble_eq_true rfl) (kf_X10_takeNumber (0 : Int32) ((I 31) - (1 : Int32)) I F) (fun r1338 I1339 F1340 => ?_)
  refine OK_st 6 okX10_takeHeir (S' := ((if ¬ r1338 = 0 then 40 else 21), [(2, .int (I1339 29)), (1, .int r1338), (0, .ref 49)], [], hp I1339 F1340)) rfl ⟨(by decide), trivial, trivial, (by decide), trivial, trivial, trivial⟩ ?_
  refine OK_if (fun h1341 => ?_) (fun h1341 => ?_)
  · refine OK_pk [2, 1, 0] rfl ?_
    exact kf_X10_takeHeir_j40 r1338 (I1339 29) I1339 F1340
  · refine OK_gd (fun g1355 => ?_)
    refine OK_st 5 okX10_takeHeir (S' := ((if ((F1340 51) (I1339 29).toNatClampNeg) < 0 then 40 else 30), [(2, .int (I1339 29)), (1, .int r1338), (0, .ref 49)], [], hp I1339 F1340)) rfl ⟨trivial, trivial, trivial, (ab_vo g1355), trivial, trivial⟩ ?_
    refine OK_if (fun h1356 => ?_) (fun h1356 => ?_)
    · refine OK_pk [2, 1, 0] rfl ?_
      exact kf_X10_takeHeir_j40 r1338 (I1339 29) I1339 F1340
    · refine OK_st 4 okX10_takeHeir (S' := (36, [(2, .int (I1339 29)), (1, .int r1338), (0, .ref 49)], [.int (I1339 30), .int (nI 4), .ref 49], hp I1339 F1340)) rfl ⟨trivial, trivial, trivial, trivial, trivial⟩ ?_
      refine OK_cv [.int (nI 4), .int (I1339 30)] [] okX10_takeHeir okX10_fails rfl rfl cl_RX10_128 rfl rfl (Nat.le_of_ble_eq_true rfl) (by decide) (Nat.le_of_ble_eq_true rfl) (kf_X10_fails (nI 4) (I1339 30) I1339 F1340) (fun r1357 I1358 F1359 => ?_)
      exact OK_ri okX10_takeHeir rfl rfl (Or.inl rfl)

def f_X10_takeClause_j198 (s0 : Int32) (I : AI) (F : AF) : AQ :=
  if ¬ s0 = 0 then
    some (s0, (va_up I 28 ((I 28) + (1 : Int32))), F)
  else
    ab_bd (f_X10_here I F) (fun r1364 I1365 F1366 =>
      if r1364 = (nI 59) then
        some (s0, (va_up I1365 28 ((I1365 28) + (1 : Int32))), F1366)
      else
        ab_bd (f_X10_fails (1 : Int32) (I1365 28) I1365 F1366) (fun r1368 I1369 F1370 =>
          some (r1368, I1369, F1370)))
set_option maxRecDepth 20000 in
set_option maxHeartbeats 4000000 in
theorem kf_X10_takeClause_j198 (s0 : Int32) (I : AI) (F : AF) : OK 4 mX10_takeClause true (f_X10_takeClause_j198 s0 I F) (198, [(0, .ref 49)], [.int s0], hp I F) := by
  rw [f_X10_takeClause_j198]
  refine OK_st 3 okX10_takeClause (S' := ((if ¬ s0 = 0 then 224 else 205), [(4, .int s0), (0, .ref 49)], [], hp I F)) rfl ⟨(by decide), trivial, trivial, trivial⟩ ?_
  refine OK_if (fun h1363 => ?_) (fun h1363 => ?_)
  · refine OK_st 7 okX10_takeClause (S' := (236, [(4, .int s0), (0, .ref 49)], [.int s0], hp (va_up I 28 ((I 28) + (1 : Int32))) F)) rfl ⟨trivial, rfl, trivial, trivial, trivial, trivial, trivial, trivial⟩ ?_
    exact OK_ri okX10_takeClause rfl rfl (Or.inl rfl)
  · refine OK_st 1 okX10_takeClause (S' := (206, [(4, .int s0), (0, .ref 49)], [.ref 49], hp I F)) rfl ⟨trivial, trivial⟩ ?_
    refine OK_cv [] [] okX10_takeClause okX10_here rfl rfl cl_RX10_120 rfl rfl (Nat.le_of_ble_eq_true rfl) (by decide) (Nat.le_of_ble_eq_true rfl) (kf_X10_here I F) (fun r1364 I1365 F1366 => ?_)
    refine OK_st 2 okX10_takeClause (S' := ((if r1364 = (nI 59) then 224 else 214), [(4, .int s0), (0, .ref 49)], [], hp I1365 F1366)) rfl ⟨trivial, trivial, trivial⟩ ?_
    refine OK_if (fun h1367 => ?_) (fun h1367 => ?_)
    · refine OK_st 7 okX10_takeClause (S' := (236, [(4, .int s0), (0, .ref 49)], [.int s0], hp (va_up I1365 28 ((I1365 28) + (1 : Int32))) F1366)) rfl ⟨trivial, rfl, trivial, trivial, trivial, trivial, trivial, trivial⟩ ?_
      exact OK_ri okX10_takeClause rfl rfl (Or.inl rfl)
    · refine OK_st 4 okX10_takeClause (S' := (220, [(4, .int s0), (0, .ref 49)], [.int (I1365 28), .int (1 : Int32), .ref 49], hp I1365 F1366)) rfl ⟨trivial, trivial, trivial, trivial, trivial⟩ ?_
      refine OK_cv [.int (1 : Int32), .int (I1365 28)] [] okX10_takeClause okX10_fails rfl rfl cl_RX10_128 rfl rfl (Nat.le_of_ble_eq_true rfl) (by decide) (Nat.le_of_ble_eq_true rfl) (kf_X10_fails (1 : Int32) (I1365 28) I1365 F1366) (fun r1368 I1369 F1370 => ?_)
      exact OK_ri okX10_takeClause rfl rfl (Or.inl rfl)

def f_X10_into (v2 : Int32) (v3 : Int32) (v4 : Int32) (I : AI) (F : AF) : AQ :=
  ab_bd (f_X10_takeNumber v3 v4 I F) (fun r1372 I1373 F1374 =>
    bif ab_vin v2 8 then
      some (r1372, I1373, (va_up F1374 55 (upd (F1374 55) v2.toNatClampNeg (I1373 29))))
    else none)
set_option maxRecDepth 20000 in
set_option maxHeartbeats 4000000 in
theorem kf_X10_into (v2 : Int32) (v3 : Int32) (v4 : Int32) (I : AI) (F : AF) : OK 2 mX10_into true (f_X10_into v2 v3 v4 I F) (0, [(0, .ref 49), (1, .ref 67), (2, .int v2), (3, .int v3), (4, .int v4)], [], hp I F) := by
  rw [f_X10_into]
  refine OK_st 3 okX10_into (S' := (4, [(0, .ref 49), (1, .ref 67), (2, .int v2), (3, .int v3), (4, .int v4)], [.int v4, .int v3, .ref 49], hp I F)) rfl ⟨trivial, trivial, trivial, trivial⟩ ?_
  refine OK_cv [.int v3, .int v4] [] okX10_into okX10_takeNumber rfl rfl cl_RX10_138 rfl rfl (Nat.le_of_ble_eq_true rfl) (by decide) (Nat.le_of_ble_eq_true rfl) (kf_X10_takeNumber v3 v4 I F) (fun r1372 I1373 F1374 => ?_)
  refine OK_gd (fun g1375 => ?_)
  refine OK_st 7 okX10_into (S' := (18, [(5, .int r1372), (0, .ref 49), (1, .ref 67), (2, .int v2), (3, .int v3), (4, .int v4)], [.int r1372], hp I1373 (va_up F1374 55 (upd (F1374 55) v2.toNatClampNeg (I1373 29))))) rfl ⟨(by decide), trivial, trivial, trivial, trivial, (ab_vo g1375), trivial, trivial⟩ ?_
  exact OK_ri okX10_into rfl rfl (Or.inl rfl)

def f_X10_into_s1 (v2 : Int32) (v3 : Int32) (v4 : Int32) (I : AI) (F : AF) : AQ :=
  ab_bd (f_X10_takeNumber v3 v4 I F) (fun r1380 I1381 F1382 =>
    bif ab_vin v2 8 then
      some (r1380, I1381, (va_up F1382 56 (upd (F1382 56) v2.toNatClampNeg (I1381 29))))
    else none)
set_option maxRecDepth 20000 in
set_option maxHeartbeats 4000000 in
theorem kf_X10_into_s1 (v2 : Int32) (v3 : Int32) (v4 : Int32) (I : AI) (F : AF) : OK 2 mX10_into true (f_X10_into_s1 v2 v3 v4 I F) (0, [(0, .ref 49), (1, .ref 68), (2, .int v2), (3, .int v3), (4, .int v4)], [], hp I F) := by
  rw [f_X10_into_s1]
  refine OK_st 3 okX10_into (S' := (4, [(0, .ref 49), (1, .ref 68), (2, .int v2), (3, .int v3), (4, .int v4)], [.int v4, .int v3, .ref 49], hp I F)) rfl ⟨trivial, trivial, trivial, trivial⟩ ?_
  refine OK_cv [.int v3, .int v4] [] okX10_into okX10_takeNumber rfl rfl cl_RX10_138 rfl rfl (Nat.le_of_ble_eq_true rfl) (by decide) (Nat.le_of_ble_eq_true rfl) (kf_X10_takeNumber v3 v4 I F) (fun r1380 I1381 F1382 => ?_)
  refine OK_gd (fun g1383 => ?_)
  refine OK_st 7 okX10_into (S' := (18, [(5, .int r1380), (0, .ref 49), (1, .ref 68), (2, .int v2), (3, .int v3), (4, .int v4)], [.int r1380], hp I1381 (va_up F1382 56 (upd (F1382 56) v2.toNatClampNeg (I1381 29))))) rfl ⟨(by decide), trivial, trivial, trivial, trivial, (ab_vo g1383), trivial, trivial⟩ ?_
  exact OK_ri okX10_into rfl rfl (Or.inl rfl)

def f_X10_into_s2 (v2 : Int32) (v3 : Int32) (v4 : Int32) (I : AI) (F : AF) : AQ :=
  ab_bd (f_X10_takeNumber v3 v4 I F) (fun r1389 I1390 F1391 =>
    bif ab_vin v2 8 then
      some (r1389, I1390, (va_up F1391 57 (upd (F1391 57) v2.toNatClampNeg (I1390 29))))
    else none)
set_option maxRecDepth 20000 in
set_option maxHeartbeats 4000000 in
theorem kf_X10_into_s2 (v2 : Int32) (v3 : Int32) (v4 : Int32) (I : AI) (F : AF) : OK 2 mX10_into true (f_X10_into_s2 v2 v3 v4 I F) (0, [(0, .ref 49), (1, .ref 69), (2, .int v2), (3, .int v3), (4, .int v4)], [], hp I F) := by
  rw [f_X10_into_s2]
  refine OK_st 3 okX10_into (S' := (4, [(0, .ref 49), (1, .ref 69), (2, .int v2), (3, .int v3), (4, .int v4)], [.int v4, .int v3, .ref 49], hp I F)) rfl ⟨trivial, trivial, trivial, trivial⟩ ?_
  refine OK_cv [.int v3, .int v4] [] okX10_into okX10_takeNumber rfl rfl cl_RX10_138 rfl rfl (Nat.le_of_ble_eq_true rfl) (by decide) (Nat.le_of_ble_eq_true rfl) (kf_X10_takeNumber v3 v4 I F) (fun r1389 I1390 F1391 => ?_)
  refine OK_gd (fun g1392 => ?_)
  refine OK_st 7 okX10_into (S' := (18, [(5, .int r1389), (0, .ref 49), (1, .ref 69), (2, .int v2), (3, .int v3), (4, .int v4)], [.int r1389], hp I1390 (va_up F1391 57 (upd (F1391 57) v2.toNatClampNeg (I1390 29))))) rfl ⟨(by decide), trivial, trivial, trivial, trivial, (ab_vo g1392), trivial, trivial⟩ ?_
  exact OK_ri okX10_into rfl rfl (Or.inl rfl)

def f_X10_into_s3 (v2 : Int32) (v3 : Int32) (v4 : Int32) (I : AI) (F : AF) : AQ :=
  ab_bd (f_X10_takeNumber v3 v4 I F) (fun r1397 I1398 F1399 =>
    bif ab_vin v2 8 then
      some (r1397, I1398, (va_up F1399 58 (upd (F1399 58) v2.toNatClampNeg (I1398 29))))
    else none)
set_option maxRecDepth 20000 in
set_option maxHeartbeats 4000000 in
theorem kf_X10_into_s3 (v2 : Int32) (v3 : Int32) (v4 : Int32) (I : AI) (F : AF) : OK 2 mX10_into true (f_X10_into_s3 v2 v3 v4 I F) (0, [(0, .ref 49), (1, .ref 70), (2, .int v2), (3, .int v3), (4, .int v4)], [], hp I F) := by
  rw [f_X10_into_s3]
  refine OK_st 3 okX10_into (S' := (4, [(0, .ref 49), (1, .ref 70), (2, .int v2), (3, .int v3), (4, .int v4)], [.int v4, .int v3, .ref 49], hp I F)) rfl ⟨trivial, trivial, trivial, trivial⟩ ?_
  refine OK_cv [.int v3, .int v4] [] okX10_into okX10_takeNumber rfl rfl cl_RX10_138 rfl rfl (Nat.le_of_ble_eq_true rfl) (by decide) (Nat.le_of_ble_eq_true rfl) (kf_X10_takeNumber v3 v4 I F) (fun r1397 I1398 F1399 => ?_)
  refine OK_gd (fun g1400 => ?_)
  refine OK_st 7 okX10_into (S' := (18, [(5, .int r1397), (0, .ref 49), (1, .ref 70), (2, .int v2), (3, .int v3), (4, .int v4)], [.int r1397], hp I1398 (va_up F1399 58 (upd (F1399 58) v2.toNatClampNeg (I1398 29))))) rfl ⟨(by decide), trivial, trivial, trivial, trivial, (ab_vo g1400), trivial, trivial⟩ ?_
  exact OK_ri okX10_into rfl rfl (Or.inl rfl)

def f_X10_takeRate_j86 (v1 : Int32) (v2 : Int32) (I : AI) (F : AF) : AQ :=
  if v2 ≤ 0 then
    ab_bd (f_X10_into_s2 v1 (1 : Int32) (nI 20) I F) (fun r1393 I1394 F1395 =>
      if r1393 ≤ 0 then
        ab_bd (f_X10_into_s3 v1 (1 : Int32) (nI 20) I1394 F1395) (fun r1401 I1402 F1403 =>
          some (r1401, I1402, F1403))
      else
        some (r1393, I1394, F1395))
  else
    if v2 ≤ 0 then
      ab_bd (f_X10_into_s3 v1 (1 : Int32) (nI 20) I F) (fun r1405 I1406 F1407 =>
        some (r1405, I1406, F1407))
    else
      some (v2, I, F)
set_option maxRecDepth 20000 in
set_option maxHeartbeats 4000000 in
theorem kf_X10_takeRate_j86 (v1 : Int32) (v2 : Int32) (I : AI) (F : AF) : OK 3 mX10_takeRate true (f_X10_takeRate_j86 v1 v2 I F) (86, [(0, .ref 49), (1, .int v1), (2, .int v2)], [], hp I F) := by
  rw [f_X10_takeRate_j86]
  refine OK_st 2 okX10_takeRate (S' := ((if v2 ≤ 0 then 94 else 90), [(0, .ref 49), (1, .int v1), (2, .int v2)], [], hp I F)) rfl ⟨trivial, trivial, trivial⟩ ?_
  refine OK_if (fun h1388 => ?_) (fun h1388 => ?_)
  · refine OK_st 6 okX10_takeRate (S' := (103, [(0, .ref 49), (1, .int v1), (2, .int v2)], [.int (nI 20), .int (1 : Int32), .int v1, .ref 69, .ref 49], hp I F)) rfl ⟨trivial, trivial, trivial, trivial, trivial, trivial, trivial⟩ ?_
    refine OK_cv [.ref 69, .int v1, .int (1 : Int32), .int (nI 20)] [] okX10_takeRate okX10_into rfl rfl cl_RX10_144 rfl rfl (Nat.le_of_ble_eq_true rfl) (by decide) (Nat.le_of_ble_eq_true rfl) (kf_X10_into_s2 v1 (1 : Int32) (nI 20) I F) (fun r1393 I1394 F1395 => ?_)
    refine OK_st 3 okX10_takeRate (S' := ((if r1393 ≤ 0 then 115 else 111), [(2, .int r1393), (0, .ref 49), (1, .int v1)], [], hp I1394 F1395)) rfl ⟨(by decide), trivial, trivial, trivial⟩ ?_
    refine OK_if (fun h1396 => ?_) (fun h1396 => ?_)
    · refine OK_st 6 okX10_takeRate (S' := (124, [(2, .int r1393), (0, .ref 49), (1, .int v1)], [.int (nI 20), .int (1 : Int32), .int v1, .ref 70, .ref 49], hp I1394 F1395)) rfl ⟨trivial, trivial, trivial, trivial, trivial, trivial, trivial⟩ ?_
      refine OK_cv [.ref 70, .int v1, .int (1 : Int32), .int (nI 20)] [] okX10_takeRate okX10_into rfl rfl cl_RX10_144 rfl rfl (Nat.le_of_ble_eq_true rfl) (by decide) (Nat.le_of_ble_eq_true rfl) (kf_X10_into_s3 v1 (1 : Int32) (nI 20) I1394 F1395) (fun r1401 I1402 F1403 => ?_)
      exact OK_ri okX10_takeRate rfl rfl (Or.inl rfl)
    · refine OK_st 2 okX10_takeRate (S' := (127, [(2, .int r1393), (0, .ref 49), (1, .int v1)], [.int r1393], hp I1394 F1395)) rfl ⟨trivial, trivial, trivial⟩ ?_
      exact OK_ri okX10_takeRate rfl rfl (Or.inl rfl)
  · refine OK_st 5 okX10_takeRate (S' := ((if v2 ≤ 0 then 115 else 111), [(2, .int v2), (0, .ref 49), (1, .int v1)], [], hp I F)) rfl ⟨trivial, trivial, (by decide), trivial, trivial, trivial⟩ ?_
    refine OK_if (fun h1404 => ?_) (fun h1404 => ?_)
    · refine OK_st 6 okX10_takeRate (S' := (124, [(2, .int v2), (0, .ref 49), (1, .int v1)], [.int (nI 20), .int (1 : Int32), .int v1, .ref 70, .ref 49], hp I F)) rfl ⟨trivial, trivial, trivial, trivial, trivial, trivial, trivial⟩ ?_
      refine OK_cv [.ref 70, .int v1, .int (1 : Int32), .int (nI 20)] [] okX10_takeRate okX10_into rfl rfl cl_RX10_144 rfl rfl (Nat.le_of_ble_eq_true rfl) (by decide) (Nat.le_of_ble_eq_true rfl) (kf_X10_into_s3 v1 (1 : Int32) (nI 20) I F) (fun r1405 I1406 F1407 => ?_)
      exact OK_ri okX10_takeRate rfl rfl (Or.inl rfl)
    · refine OK_st 2 okX10_takeRate (S' := (127, [(2, .int v2), (0, .ref 49), (1, .int v1)], [.int v2], hp I F)) rfl ⟨trivial, trivial, trivial⟩ ?_
      exact OK_ri okX10_takeRate rfl rfl (Or.inl rfl)

def f_X10_takeRate_j56 (v1 : Int32) (s0 : Int32) (I : AI) (F : AF) : AQ :=
  if ¬ s0 = 0 then
    f_X10_takeRate_j86 v1 s0 I F
  else
    bif ab_vin v1 8 then
      bif ab_vin v1 8 then
        if ¬ ((F 55) v1.toNatClampNeg) = ((F 56) v1.toNatClampNeg) then
          f_X10_takeRate_j86 v1 s0 I F
        else
          ab_bd (f_X10_fails (nI 4) (I 30) I F) (fun r1411 I1412 F1413 =>
            some (r1411, I1412, F1413))
      else none
    else none
set_option maxRecDepth 20000 in
set_option maxHeartbeats 4000000 in
theorem kf_X10_takeRate_j56 (v1 : Int32) (s0 : Int32) (I : AI) (F : AF) : OK 3 mX10_takeRate true (f_X10_takeRate_j56 v1 s0 I F) (56, [(0, .ref 49), (1, .int v1)], [.int s0], hp I F) := by
  rw [f_X10_takeRate_j56]
  refine OK_st 3 okX10_takeRate (S' := ((if ¬ s0 = 0 then 86 else 61), [(2, .int s0), (0, .ref 49), (1, .int v1)], [], hp I F)) rfl ⟨(by decide), trivial, trivial, trivial⟩ ?_
  refine OK_if (fun h1387 => ?_) (fun h1387 => ?_)
  · refine OK_pk [1, 2, 0] rfl ?_
    exact kf_X10_takeRate_j86 v1 s0 I F
  · refine OK_gd (fun g1408 => ?_)
    refine OK_gd (fun g1409 => ?_)
    refine OK_st 9 okX10_takeRate (S' := ((if ¬ ((F 55) v1.toNatClampNeg) = ((F 56) v1.toNatClampNeg) then 86 else 76), [(2, .int s0), (0, .ref 49), (1, .int v1)], [], hp I F)) rfl ⟨trivial, trivial, trivial, (ab_vo g1408), trivial, trivial, trivial, (ab_vo g1409), trivial, trivial⟩ ?_
    refine OK_if (fun h1410 => ?_) (fun h1410 => ?_)
    · refine OK_pk [1, 2, 0] rfl ?_
      exact kf_X10_takeRate_j86 v1 s0 I F
    · refine OK_st 4 okX10_takeRate (S' := (82, [(2, .int s0), (0, .ref 49), (1, .int v1)], [.int (I 30), .int (nI 4), .ref 49], hp I F)) rfl ⟨trivial, trivial, trivial, trivial, trivial⟩ ?_
      refine OK_cv [.int (nI 4), .int (I 30)] [] okX10_takeRate okX10_fails rfl rfl cl_RX10_128 rfl rfl (Nat.le_of_ble_eq_true rfl) (by decide) (Nat.le_of_ble_eq_true rfl) (kf_X10_fails (nI 4) (I 30) I F) (fun r1411 I1412 F1413 => ?_)
      exact OK_ri okX10_takeRate rfl rfl (Or.inl rfl)

def f_X10_takeRate (I : AI) (F : AF) : AQ :=
  ab_lt (va_up I 33 ((I 33) + (1 : Int32))) (fun I1371 =>
    ab_bd (f_X10_into (I 33) (0 : Int32) ((I 31) - (1 : Int32)) I1371 F) (fun r1376 I1377 F1378 =>
      if r1376 ≤ 0 then
        ab_bd (f_X10_into_s1 (I 33) (0 : Int32) ((I1377 31) - (1 : Int32)) I1377 F1378) (fun r1384 I1385 F1386 =>
          f_X10_takeRate_j56 (I 33) r1384 I1385 F1386)
      else
        f_X10_takeRate_j56 (I 33) r1376 I1377 F1378))
set_option maxRecDepth 20000 in
set_option maxHeartbeats 4000000 in
theorem kf_X10_takeRate (I : AI) (F : AF) : OK 3 mX10_takeRate true (f_X10_takeRate I F) (0, [(0, .ref 49)], [], hp I F) := by
  rw [f_X10_takeRate]
  refine OK_st 18 okX10_takeRate (S' := (28, [(1, .int (I 33)), (0, .ref 49)], [.int ((I 31) - (1 : Int32)), .int (0 : Int32), .int (I 33), .ref 67, .ref 49], hp (va_up I 33 ((I 33) + (1 : Int32))) F)) rfl ⟨trivial, trivial, (by decide), trivial, rfl, trivial, trivial, trivial, trivial, trivial, trivial, trivial, trivial, trivial, trivial, trivial, trivial, trivial, trivial⟩ ?_
  refine OK_lt (fun I1371 => (28, [(1, .int (I 33)), (0, .ref 49)], [.int ((I 31) - (1 : Int32)), .int (0 : Int32), .int (I 33), .ref 67, .ref 49], hp I1371 F)) (fun I1371 => ?_)
  refine OK_cv [.ref 67, .int (I 33), .int (0 : Int32), .int ((I 31) - (1 : Int32))] [] okX10_takeRate okX10_into rfl rfl cl_RX10_144 rfl rfl (Nat.le_of_ble_eq_true rfl) (by decide) (Nat.le_of_ble_eq_true rfl) (kf_X10_into (I 33) (0 : Int32) ((I 31) - (1 : Int32)) I1371 F) (fun r1376 I1377 F1378 => ?_)
  refine OK_st 3 okX10_takeRate (S' := ((if r1376 ≤ 0 then 40 else 36), [(2, .int r1376), (1, .int (I 33)), (0, .ref 49)], [], hp I1377 F1378)) rfl ⟨(by decide), trivial, trivial, trivial⟩ ?_
  refine OK_if (fun h1379 => ?_) (fun h1379 => ?_)
  · refine OK_st 9 okX10_takeRate (S' := (53, [(2, .int r1376), (1, .int (I 33)), (0, .ref 49)], [.int ((I1377 31) - (1 : Int32)), .int (0 : Int32), .int (I 33), .ref 68, .ref 49], hp I1377 F1378)) rfl ⟨trivial, trivial, trivial, trivial, trivial, trivial, trivial, trivial, trivial, trivial⟩ ?_
    refine OK_cv [.ref 68, .int (I 33), .int (0 : Int32), .int ((I1377 31) - (1 : Int32))] [] okX10_takeRate okX10_into rfl rfl cl_RX10_144 rfl rfl (Nat.le_of_ble_eq_true rfl) (by decide) (Nat.le_of_ble_eq_true rfl) (kf_X10_into_s1 (I 33) (0 : Int32) ((I1377 31) - (1 : Int32)) I1377 F1378) (fun r1384 I1385 F1386 => ?_)
    refine OK_pk [2, 1] rfl ?_
    exact kf_X10_takeRate_j56 (I 33) r1384 I1385 F1386
  · refine OK_st 2 okX10_takeRate (S' := (56, [(2, .int r1376), (1, .int (I 33)), (0, .ref 49)], [.int r1376], hp I1377 F1378)) rfl ⟨trivial, trivial, trivial⟩ ?_
    refine OK_pk [2, 1] rfl ?_
    exact kf_X10_takeRate_j56 (I 33) r1376 I1377 F1378

def f_X10_into_s4 (v2 : Int32) (v3 : Int32) (v4 : Int32) (I : AI) (F : AF) : AQ :=
  ab_bd (f_X10_takeNumber v3 v4 I F) (fun r1418 I1419 F1420 =>
    bif ab_vin v2 6 then
      some (r1418, I1419, (va_up F1420 52 (upd (F1420 52) v2.toNatClampNeg (I1419 29))))
    else none)
set_option maxRecDepth 20000 in
set_option maxHeartbeats 4000000 in
theorem kf_X10_into_s4 (v2 : Int32) (v3 : Int32) (v4 : Int32) (I : AI) (F : AF) : OK 2 mX10_into true (f_X10_into_s4 v2 v3 v4 I F) (0, [(0, .ref 49), (1, .ref 64), (2, .int v2), (3, .int v3), (4, .int v4)], [], hp I F) := by
  rw [f_X10_into_s4]
  refine OK_st 3 okX10_into (S' := (4, [(0, .ref 49), (1, .ref 64), (2, .int v2), (3, .int v3), (4, .int v4)], [.int v4, .int v3, .ref 49], hp I F)) rfl ⟨trivial, trivial, trivial, trivial⟩ ?_
  refine OK_cv [.int v3, .int v4] [] okX10_into okX10_takeNumber rfl rfl cl_RX10_138 rfl rfl (Nat.le_of_ble_eq_true rfl) (by decide) (Nat.le_of_ble_eq_true rfl) (kf_X10_takeNumber v3 v4 I F) (fun r1418 I1419 F1420 => ?_)
  refine OK_gd (fun g1421 => ?_)
  refine OK_st 7 okX10_into (S' := (18, [(5, .int r1418), (0, .ref 49), (1, .ref 64), (2, .int v2), (3, .int v3), (4, .int v4)], [.int r1418], hp I1419 (va_up F1420 52 (upd (F1420 52) v2.toNatClampNeg (I1419 29))))) rfl ⟨(by decide), trivial, trivial, trivial, trivial, (ab_vo g1421), trivial, trivial⟩ ?_
  exact OK_ri okX10_into rfl rfl (Or.inl rfl)

def f_X10_into_s5 (v2 : Int32) (v3 : Int32) (v4 : Int32) (I : AI) (F : AF) : AQ :=
  ab_bd (f_X10_takeNumber v3 v4 I F) (fun r1426 I1427 F1428 =>
    bif ab_vin v2 6 then
      some (r1426, I1427, (va_up F1428 53 (upd (F1428 53) v2.toNatClampNeg (I1427 29))))
    else none)
set_option maxRecDepth 20000 in
set_option maxHeartbeats 4000000 in
theorem kf_X10_into_s5 (v2 : Int32) (v3 : Int32) (v4 : Int32) (I : AI) (F : AF) : OK 2 mX10_into true (f_X10_into_s5 v2 v3 v4 I F) (0, [(0, .ref 49), (1, .ref 65), (2, .int v2), (3, .int v3), (4, .int v4)], [], hp I F) := by
  rw [f_X10_into_s5]
  refine OK_st 3 okX10_into (S' := (4, [(0, .ref 49), (1, .ref 65), (2, .int v2), (3, .int v3), (4, .int v4)], [.int v4, .int v3, .ref 49], hp I F)) rfl ⟨trivial, trivial, trivial, trivial⟩ ?_
  refine OK_cv [.int v3, .int v4] [] okX10_into okX10_takeNumber rfl rfl cl_RX10_138 rfl rfl (Nat.le_of_ble_eq_true rfl) (by decide) (Nat.le_of_ble_eq_true rfl) (kf_X10_takeNumber v3 v4 I F) (fun r1426 I1427 F1428 => ?_)
  refine OK_gd (fun g1429 => ?_)
  refine OK_st 7 okX10_into (S' := (18, [(5, .int r1426), (0, .ref 49), (1, .ref 65), (2, .int v2), (3, .int v3), (4, .int v4)], [.int r1426], hp I1427 (va_up F1428 53 (upd (F1428 53) v2.toNatClampNeg (I1427 29))))) rfl ⟨(by decide), trivial, trivial, trivial, trivial, (ab_vo g1429), trivial, trivial⟩ ?_
  exact OK_ri okX10_into rfl rfl (Or.inl rfl)

def f_X10_into_s6 (v2 : Int32) (v3 : Int32) (v4 : Int32) (I : AI) (F : AF) : AQ :=
  ab_bd (f_X10_takeNumber v3 v4 I F) (fun r1434 I1435 F1436 =>
    bif ab_vin v2 6 then
      some (r1434, I1435, (va_up F1436 54 (upd (F1436 54) v2.toNatClampNeg (I1435 29))))
    else none)
set_option maxRecDepth 20000 in
set_option maxHeartbeats 4000000 in
theorem kf_X10_into_s6 (v2 : Int32) (v3 : Int32) (v4 : Int32) (I : AI) (F : AF) : OK 2 mX10_into true (f_X10_into_s6 v2 v3 v4 I F) (0, [(0, .ref 49), (1, .ref 66), (2, .int v2), (3, .int v3), (4, .int v4)], [], hp I F) := by
  rw [f_X10_into_s6]
  refine OK_st 3 okX10_into (S' := (4, [(0, .ref 49), (1, .ref 66), (2, .int v2), (3, .int v3), (4, .int v4)], [.int v4, .int v3, .ref 49], hp I F)) rfl ⟨trivial, trivial, trivial, trivial⟩ ?_
  refine OK_cv [.int v3, .int v4] [] okX10_into okX10_takeNumber rfl rfl cl_RX10_138 rfl rfl (Nat.le_of_ble_eq_true rfl) (by decide) (Nat.le_of_ble_eq_true rfl) (kf_X10_takeNumber v3 v4 I F) (fun r1434 I1435 F1436 => ?_)
  refine OK_gd (fun g1437 => ?_)
  refine OK_st 7 okX10_into (S' := (18, [(5, .int r1434), (0, .ref 49), (1, .ref 66), (2, .int v2), (3, .int v3), (4, .int v4)], [.int r1434], hp I1435 (va_up F1436 54 (upd (F1436 54) v2.toNatClampNeg (I1435 29))))) rfl ⟨(by decide), trivial, trivial, trivial, trivial, (ab_vo g1437), trivial, trivial⟩ ?_
  exact OK_ri okX10_into rfl rfl (Or.inl rfl)

def f_X10_takeContract (I : AI) (F : AF) : AQ :=
  ab_lt (va_up I 32 ((I 32) + (1 : Int32))) (fun I1417 =>
    ab_bd (f_X10_into_s4 (I 32) (0 : Int32) (nI 99) I1417 F) (fun r1422 I1423 F1424 =>
      if r1422 ≤ 0 then
        ab_bd (f_X10_into_s5 (I 32) (0 : Int32) ((I1423 31) - (1 : Int32)) I1423 F1424) (fun r1430 I1431 F1432 =>
          if r1430 ≤ 0 then
            ab_bd (f_X10_into_s6 (I 32) (1 : Int32) (nI 50) I1431 F1432) (fun r1438 I1439 F1440 =>
              some (r1438, I1439, F1440))
          else
            some (r1430, I1431, F1432))
      else
        if r1422 ≤ 0 then
          ab_bd (f_X10_into_s6 (I 32) (1 : Int32) (nI 50) I1423 F1424) (fun r1442 I1443 F1444 =>
            some (r1442, I1443, F1444))
        else
          some (r1422, I1423, F1424)))
set_option maxRecDepth 20000 in
set_option maxHeartbeats 4000000 in
theorem kf_X10_takeContract (I : AI) (F : AF) : OK 3 mX10_takeContract true (f_X10_takeContract I F) (0, [(0, .ref 49)], [], hp I F) := by
  rw [f_X10_takeContract]
  refine OK_st 15 okX10_takeContract (S' := (24, [(1, .int (I 32)), (0, .ref 49)], [.int (nI 99), .int (0 : Int32), .int (I 32), .ref 64, .ref 49], hp (va_up I 32 ((I 32) + (1 : Int32))) F)) rfl ⟨trivial, trivial, (by decide), trivial, rfl, trivial, trivial, trivial, trivial, trivial, trivial, trivial, trivial, trivial, trivial, trivial⟩ ?_
  refine OK_lt (fun I1417 => (24, [(1, .int (I 32)), (0, .ref 49)], [.int (nI 99), .int (0 : Int32), .int (I 32), .ref 64, .ref 49], hp I1417 F)) (fun I1417 => ?_)
  refine OK_cv [.ref 64, .int (I 32), .int (0 : Int32), .int (nI 99)] [] okX10_takeContract okX10_into rfl rfl cl_RX10_144 rfl rfl (Nat.le_of_ble_eq_true rfl) (by decide) (Nat.le_of_ble_eq_true rfl) (kf_X10_into_s4 (I 32) (0 : Int32) (nI 99) I1417 F) (fun r1422 I1423 F1424 => ?_)
  refine OK_st 3 okX10_takeContract (S' := ((if r1422 ≤ 0 then 36 else 32), [(2, .int r1422), (1, .int (I 32)), (0, .ref 49)], [], hp I1423 F1424)) rfl ⟨(by decide), trivial, trivial, trivial⟩ ?_
  refine OK_if (fun h1425 => ?_) (fun h1425 => ?_)
  · refine OK_st 9 okX10_takeContract (S' := (49, [(2, .int r1422), (1, .int (I 32)), (0, .ref 49)], [.int ((I1423 31) - (1 : Int32)), .int (0 : Int32), .int (I 32), .ref 65, .ref 49], hp I1423 F1424)) rfl ⟨trivial, trivial, trivial, trivial, trivial, trivial, trivial, trivial, trivial, trivial⟩ ?_
    refine OK_cv [.ref 65, .int (I 32), .int (0 : Int32), .int ((I1423 31) - (1 : Int32))] [] okX10_takeContract okX10_into rfl rfl cl_RX10_144 rfl rfl (Nat.le_of_ble_eq_true rfl) (by decide) (Nat.le_of_ble_eq_true rfl) (kf_X10_into_s5 (I 32) (0 : Int32) ((I1423 31) - (1 : Int32)) I1423 F1424) (fun r1430 I1431 F1432 => ?_)
    refine OK_st 3 okX10_takeContract (S' := ((if r1430 ≤ 0 then 61 else 57), [(2, .int r1430), (1, .int (I 32)), (0, .ref 49)], [], hp I1431 F1432)) rfl ⟨(by decide), trivial, trivial, trivial⟩ ?_
    refine OK_if (fun h1433 => ?_) (fun h1433 => ?_)
    · refine OK_st 6 okX10_takeContract (S' := (70, [(2, .int r1430), (1, .int (I 32)), (0, .ref 49)], [.int (nI 50), .int (1 : Int32), .int (I 32), .ref 66, .ref 49], hp I1431 F1432)) rfl ⟨trivial, trivial, trivial, trivial, trivial, trivial, trivial⟩ ?_
      refine OK_cv [.ref 66, .int (I 32), .int (1 : Int32), .int (nI 50)] [] okX10_takeContract okX10_into rfl rfl cl_RX10_144 rfl rfl (Nat.le_of_ble_eq_true rfl) (by decide) (Nat.le_of_ble_eq_true rfl) (kf_X10_into_s6 (I 32) (1 : Int32) (nI 50) I1431 F1432) (fun r1438 I1439 F1440 => ?_)
      exact OK_ri okX10_takeContract rfl rfl (Or.inl rfl)
    · refine OK_st 2 okX10_takeContract (S' := (73, [(2, .int r1430), (1, .int (I 32)), (0, .ref 49)], [.int r1430], hp I1431 F1432)) rfl ⟨trivial, trivial, trivial⟩ ?_
      exact OK_ri okX10_takeContract rfl rfl (Or.inl rfl)
  · refine OK_st 5 okX10_takeContract (S' := ((if r1422 ≤ 0 then 61 else 57), [(2, .int r1422), (1, .int (I 32)), (0, .ref 49)], [], hp I1423 F1424)) rfl ⟨trivial, trivial, (by decide), trivial, trivial, trivial⟩ ?_
    refine OK_if (fun h1441 => ?_) (fun h1441 => ?_)
    · refine OK_st 6 okX10_takeContract (S' := (70, [(2, .int r1422), (1, .int (I 32)), (0, .ref 49)], [.int (nI 50), .int (1 : Int32), .int (I 32), .ref 66, .ref 49], hp I1423 F1424)) rfl ⟨trivial, trivial, trivial, trivial, trivial, trivial, trivial⟩ ?_
      refine OK_cv [.ref 66, .int (I 32), .int (1 : Int32), .int (nI 50)] [] okX10_takeContract okX10_into rfl rfl cl_RX10_144 rfl rfl (Nat.le_of_ble_eq_true rfl) (by decide) (Nat.le_of_ble_eq_true rfl) (kf_X10_into_s6 (I 32) (1 : Int32) (nI 50) I1423 F1424) (fun r1442 I1443 F1444 => ?_)
      exact OK_ri okX10_takeContract rfl rfl (Or.inl rfl)
    · refine OK_st 2 okX10_takeContract (S' := (73, [(2, .int r1422), (1, .int (I 32)), (0, .ref 49)], [.int r1422], hp I1423 F1424)) rfl ⟨trivial, trivial, trivial⟩ ?_
      exact OK_ri okX10_takeContract rfl rfl (Or.inl rfl)

def f_X10_into_s7 (v2 : Int32) (v3 : Int32) (v4 : Int32) (I : AI) (F : AF) : AQ :=
  ab_bd (f_X10_takeNumber v3 v4 I F) (fun r1451 I1452 F1453 =>
    bif ab_vin v2 6 then
      some (r1451, I1452, (va_up F1453 49 (upd (F1453 49) v2.toNatClampNeg (I1452 29))))
    else none)
set_option maxRecDepth 20000 in
set_option maxHeartbeats 4000000 in
theorem kf_X10_into_s7 (v2 : Int32) (v3 : Int32) (v4 : Int32) (I : AI) (F : AF) : OK 2 mX10_into true (f_X10_into_s7 v2 v3 v4 I F) (0, [(0, .ref 49), (1, .ref 61), (2, .int v2), (3, .int v3), (4, .int v4)], [], hp I F) := by
  rw [f_X10_into_s7]
  refine OK_st 3 okX10_into (S' := (4, [(0, .ref 49), (1, .ref 61), (2, .int v2), (3, .int v3), (4, .int v4)], [.int v4, .int v3, .ref 49], hp I F)) rfl ⟨trivial, trivial, trivial, trivial⟩ ?_
  refine OK_cv [.int v3, .int v4] [] okX10_into okX10_takeNumber rfl rfl cl_RX10_138 rfl rfl (Nat.le_of_ble_eq_true rfl) (by decide) (Nat.le_of_ble_eq_true rfl) (kf_X10_takeNumber v3 v4 I F) (fun r1451 I1452 F1453 => ?_)
  refine OK_gd (fun g1454 => ?_)
  refine OK_st 7 okX10_into (S' := (18, [(5, .int r1451), (0, .ref 49), (1, .ref 61), (2, .int v2), (3, .int v3), (4, .int v4)], [.int r1451], hp I1452 (va_up F1453 49 (upd (F1453 49) v2.toNatClampNeg (I1452 29))))) rfl ⟨(by decide), trivial, trivial, trivial, trivial, (ab_vo g1454), trivial, trivial⟩ ?_
  exact OK_ri okX10_into rfl rfl (Or.inl rfl)

def f_X10_into_s8 (v2 : Int32) (v3 : Int32) (v4 : Int32) (I : AI) (F : AF) : AQ :=
  ab_bd (f_X10_takeNumber v3 v4 I F) (fun r1460 I1461 F1462 =>
    bif ab_vin v2 24 then
      some (r1460, I1461, (va_up F1462 50 (upd (F1462 50) v2.toNatClampNeg (I1461 29))))
    else none)
set_option maxRecDepth 20000 in
set_option maxHeartbeats 4000000 in
theorem kf_X10_into_s8 (v2 : Int32) (v3 : Int32) (v4 : Int32) (I : AI) (F : AF) : OK 2 mX10_into true (f_X10_into_s8 v2 v3 v4 I F) (0, [(0, .ref 49), (1, .ref 62), (2, .int v2), (3, .int v3), (4, .int v4)], [], hp I F) := by
  rw [f_X10_into_s8]
  refine OK_st 3 okX10_into (S' := (4, [(0, .ref 49), (1, .ref 62), (2, .int v2), (3, .int v3), (4, .int v4)], [.int v4, .int v3, .ref 49], hp I F)) rfl ⟨trivial, trivial, trivial, trivial⟩ ?_
  refine OK_cv [.int v3, .int v4] [] okX10_into okX10_takeNumber rfl rfl cl_RX10_138 rfl rfl (Nat.le_of_ble_eq_true rfl) (by decide) (Nat.le_of_ble_eq_true rfl) (kf_X10_takeNumber v3 v4 I F) (fun r1460 I1461 F1462 => ?_)
  refine OK_gd (fun g1463 => ?_)
  refine OK_st 7 okX10_into (S' := (18, [(5, .int r1460), (0, .ref 49), (1, .ref 62), (2, .int v2), (3, .int v3), (4, .int v4)], [.int r1460], hp I1461 (va_up F1462 50 (upd (F1462 50) v2.toNatClampNeg (I1461 29))))) rfl ⟨(by decide), trivial, trivial, trivial, trivial, (ab_vo g1463), trivial, trivial⟩ ?_
  exact OK_ri okX10_into rfl rfl (Or.inl rfl)

def f_X10_takeLimb_38 (v1 : Int32) (ko : Int32 → Int32 → AI → AF → AQ) : Nat → Int32 → Int32 → AI → AF → AQ
  | 0, _, _, _, _ => none
  | n + 1, v2, v3, I, F =>
    if (nI 4) ≤ v3 then
      ko v2 v3 I F
    else
      if ¬ v2 = 0 then
        ko v2 v3 I F
      else
        ab_bd (f_X10_into_s8 (((nI 4) * v1) + v3) (0 : Int32) (nI 18) I F) (fun r1464 I1465 F1466 =>
          f_X10_takeLimb_38 v1 ko n r1464 (v3 + (1 : Int32)) I1465 F1466)
set_option maxRecDepth 20000 in
set_option maxHeartbeats 4000000 in
theorem kf_X10_takeLimb_38 (v1 : Int32) (ko : Int32 → Int32 → AI → AF → AQ) (hko : ∀ v2 v3 I F, OK 3 mX10_takeLimb true (ko v2 v3 I F) (70, [(0, .ref 49), (1, .int v1), (2, .int v2), (3, .int v3)], [], hp I F)) : ∀ n v2 v3 I F, OK 3 mX10_takeLimb true (f_X10_takeLimb_38 v1 ko n v2 v3 I F) (38, [(0, .ref 49), (1, .int v1), (2, .int v2), (3, .int v3)], [], hp I F) := by
  intro n
  induction n with
  | zero =>
    intro v2 v3 I F
    exact OK_no
  | succ n ih =>
    intro v2 v3 I F
    rw [f_X10_takeLimb_38]
    refine OK_st 3 okX10_takeLimb (S' := ((if (nI 4) ≤ v3 then 70 else 43), [(0, .ref 49), (1, .int v1), (2, .int v2), (3, .int v3)], [], hp I F)) rfl ⟨trivial, trivial, trivial, trivial⟩ ?_
    refine OK_if (fun h1458 => ?_) (fun h1458 => ?_)
    · exact hko v2 v3 I F
    · refine OK_st 2 okX10_takeLimb (S' := ((if ¬ v2 = 0 then 70 else 47), [(0, .ref 49), (1, .int v1), (2, .int v2), (3, .int v3)], [], hp I F)) rfl ⟨trivial, trivial, trivial⟩ ?_
      refine OK_if (fun h1459 => ?_) (fun h1459 => ?_)
      · exact hko v2 v3 I F
      · refine OK_st 10 okX10_takeLimb (S' := (60, [(0, .ref 49), (1, .int v1), (2, .int v2), (3, .int v3)], [.int (nI 18), .int (0 : Int32), .int (((nI 4) * v1) + v3), .ref 62, .ref 49], hp I F)) rfl ⟨trivial, trivial, trivial, trivial, trivial, trivial, trivial, trivial, trivial, trivial, trivial⟩ ?_
        refine OK_cv [.ref 62, .int (((nI 4) * v1) + v3), .int (0 : Int32), .int (nI 18)] [] okX10_takeLimb okX10_into rfl rfl cl_RX10_144 rfl rfl (Nat.le_of_ble_eq_true rfl) (by decide) (Nat.le_of_ble_eq_true rfl) (kf_X10_into_s8 (((nI 4) * v1) + v3) (0 : Int32) (nI 18) I F) (fun r1464 I1465 F1466 => ?_)
        refine OK_st 3 okX10_takeLimb (S' := (38, [(3, .int (v3 + (1 : Int32))), (2, .int r1464), (0, .ref 49), (1, .int v1)], [], hp I1465 F1466)) rfl ⟨(by decide), (by decide), trivial, trivial⟩ ?_
        refine OK_pk [2, 3, 1, 0] rfl ?_
        exact ih r1464 (v3 + (1 : Int32)) I1465 F1466

def f_X10_takeLimb (I : AI) (F : AF) : AQ :=
  bif ab_vin (I 31) 6 then
    ab_lt (va_up I 31 ((I 31) + (1 : Int32))) (fun I1449 =>
      ab_lt (va_up F 51 (upd (F 51) (I 31).toNatClampNeg (-1 : Int32))) (fun F1450 =>
        ab_bd (f_X10_into_s7 (I 31) (nI 20) (nI 99) I1449 F1450) (fun r1455 I1456 F1457 =>
          f_X10_takeLimb_38 (I 31) (fun v2_1467 v3_1468 I1469 F1470 =>
            some (v2_1467, I1469, F1470)) ab_fu r1455 (0 : Int32) I1456 F1457)))
  else none
set_option maxRecDepth 20000 in
set_option maxHeartbeats 4000000 in
theorem kf_X10_takeLimb (I : AI) (F : AF) : OK 3 mX10_takeLimb true (f_X10_takeLimb I F) (0, [(0, .ref 49)], [], hp I F) := by
  rw [f_X10_takeLimb]
  refine OK_gd (fun g1448 => ?_)
  refine OK_st 20 okX10_takeLimb (S' := (32, [(1, .int (I 31)), (0, .ref 49)], [.int (nI 99), .int (nI 20), .int (I 31), .ref 61, .ref 49], hp (va_up I 31 ((I 31) + (1 : Int32))) (va_up F 51 (upd (F 51) (I 31).toNatClampNeg (-1 : Int32))))) rfl ⟨trivial, trivial, (by decide), trivial, rfl, trivial, trivial, trivial, trivial, trivial, trivial, trivial, trivial, (ab_vo g1448), trivial, trivial, trivial, trivial, trivial, trivial, trivial⟩ ?_
  refine OK_lt (fun I1449 => (32, [(1, .int (I 31)), (0, .ref 49)], [.int (nI 99), .int (nI 20), .int (I 31), .ref 61, .ref 49], hp I1449 (va_up F 51 (upd (F 51) (I 31).toNatClampNeg (-1 : Int32))))) (fun I1449 => ?_)
  refine OK_lt (fun F1450 => (32, [(1, .int (I 31)), (0, .ref 49)], [.int (nI 99), .int (nI 20), .int (I 31), .ref 61, .ref 49], hp I1449 F1450)) (fun F1450 => ?_)
  refine OK_cv [.ref 61, .int (I 31), .int (nI 20), .int (nI 99)] [] okX10_takeLimb okX10_into rfl rfl cl_RX10_144 rfl rfl (Nat.le_of_ble_eq_true rfl) (by decide) (Nat.le_of_ble_eq_true rfl) (kf_X10_into_s7 (I 31) (nI 20) (nI 99) I1449 F1450) (fun r1455 I1456 F1457 => ?_)
  refine OK_st 3 okX10_takeLimb (S' := (38, [(3, .int (0 : Int32)), (2, .int r1455), (1, .int (I 31)), (0, .ref 49)], [], hp I1456 F1457)) rfl ⟨(by decide), trivial, (by decide), trivial⟩ ?_
  refine OK_pk [3, 2, 1, 0] rfl ?_
  refine kf_X10_takeLimb_38 (I 31) _ (fun v2_1467 v3_1468 I1469 F1470 => ?_) ab_fu r1455 (0 : Int32) I1456 F1457
  refine OK_st 1 okX10_takeLimb (S' := (71, [(0, .ref 49), (1, .int (I 31)), (2, .int v2_1467), (3, .int v3_1468)], [.int v2_1467], hp I1469 F1470)) rfl ⟨trivial, trivial⟩ ?_
  exact OK_ri okX10_takeLimb rfl rfl (Or.inl rfl)

def f_X10_takeClause_j134 (v2 : Int32) (s0 : Int32) (I : AI) (F : AF) : AQ :=
  if s0 = 0 then
    ab_lt (va_up I 28 ((I 28) + (1 : Int32))) (fun I1300 =>
      if ¬ v2 = 0 then
        if ¬ v2 = (1 : Int32) then
          if ¬ v2 = (nI 2) then
            ab_bd (f_X10_takeHeir I1300 F) (fun r1360 I1361 F1362 =>
              f_X10_takeClause_j198 r1360 I1361 F1362)
          else
            ab_bd (f_X10_takeRate I1300 F) (fun r1414 I1415 F1416 =>
              f_X10_takeClause_j198 r1414 I1415 F1416)
        else
          ab_bd (f_X10_takeContract I1300 F) (fun r1445 I1446 F1447 =>
            f_X10_takeClause_j198 r1445 I1446 F1447)
      else
        ab_bd (f_X10_takeLimb I1300 F) (fun r1471 I1472 F1473 =>
          f_X10_takeClause_j198 r1471 I1472 F1473))
  else
    ab_bd (f_X10_fails (nI 3) (I 28) I F) (fun r1474 I1475 F1476 =>
      some (r1474, I1475, F1476))
set_option maxRecDepth 20000 in
set_option maxHeartbeats 4000000 in
theorem kf_X10_takeClause_j134 (v2 : Int32) (s0 : Int32) (I : AI) (F : AF) : OK 4 mX10_takeClause true (f_X10_takeClause_j134 v2 s0 I F) (134, [(0, .ref 49), (2, .int v2)], [.int s0], hp I F) := by
  rw [f_X10_takeClause_j134]
  refine OK_st 3 okX10_takeClause (S' := ((if s0 = 0 then 149 else 139), [(3, .int s0), (0, .ref 49), (2, .int v2)], [], hp I F)) rfl ⟨(by decide), trivial, trivial, trivial⟩ ?_
  refine OK_if (fun h1299 => ?_) (fun h1299 => ?_)
  · refine OK_st 8 okX10_takeClause (S' := ((if ¬ v2 = 0 then 170 else 163), [(3, .int s0), (0, .ref 49), (2, .int v2)], [], hp (va_up I 28 ((I 28) + (1 : Int32))) F)) rfl ⟨trivial, rfl, trivial, trivial, trivial, trivial, trivial, trivial, trivial⟩ ?_
    refine OK_lt (fun I1300 => ((if ¬ v2 = 0 then 170 else 163), [(3, .int s0), (0, .ref 49), (2, .int v2)], [], hp I1300 F)) (fun I1300 => ?_)
    refine OK_if (fun h1301 => ?_) (fun h1301 => ?_)
    · refine OK_st 3 okX10_takeClause (S' := ((if ¬ v2 = (1 : Int32) then 182 else 175), [(3, .int s0), (0, .ref 49), (2, .int v2)], [], hp I1300 F)) rfl ⟨trivial, trivial, trivial, trivial⟩ ?_
      refine OK_if (fun h1302 => ?_) (fun h1302 => ?_)
      · refine OK_st 3 okX10_takeClause (S' := ((if ¬ v2 = (nI 2) then 194 else 187), [(3, .int s0), (0, .ref 49), (2, .int v2)], [], hp I1300 F)) rfl ⟨trivial, trivial, trivial, trivial⟩ ?_
        refine OK_if (fun h1303 => ?_) (fun h1303 => ?_)
        · refine OK_st 1 okX10_takeClause (S' := (195, [(3, .int s0), (0, .ref 49), (2, .int v2)], [.ref 49], hp I1300 F)) rfl ⟨trivial, trivial⟩ ?_
          refine OK_cv [] [] okX10_takeClause okX10_takeHeir rfl rfl cl_RX10_163 rfl rfl (Nat.le_of_ble_eq_true rfl) (by decide) (Nat.le_of_ble_eq_true rfl) (kf_X10_takeHeir I1300 F) (fun r1360 I1361 F1362 => ?_)
          refine OK_pk [1] rfl ?_
          exact kf_X10_takeClause_j198 r1360 I1361 F1362
        · refine OK_st 1 okX10_takeClause (S' := (188, [(3, .int s0), (0, .ref 49), (2, .int v2)], [.ref 49], hp I1300 F)) rfl ⟨trivial, trivial⟩ ?_
          refine OK_cv [] [] okX10_takeClause okX10_takeRate rfl rfl cl_RX10_160 rfl rfl (Nat.le_of_ble_eq_true rfl) (by decide) (Nat.le_of_ble_eq_true rfl) (kf_X10_takeRate I1300 F) (fun r1414 I1415 F1416 => ?_)
          refine OK_st 1 okX10_takeClause (S' := (198, [(3, .int s0), (0, .ref 49), (2, .int v2)], [.int r1414], hp I1415 F1416)) rfl ⟨trivial, trivial⟩ ?_
          refine OK_pk [1] rfl ?_
          exact kf_X10_takeClause_j198 r1414 I1415 F1416
      · refine OK_st 1 okX10_takeClause (S' := (176, [(3, .int s0), (0, .ref 49), (2, .int v2)], [.ref 49], hp I1300 F)) rfl ⟨trivial, trivial⟩ ?_
        refine OK_cv [] [] okX10_takeClause okX10_takeContract rfl rfl cl_RX10_157 rfl rfl (Nat.le_of_ble_eq_true rfl) (by decide) (Nat.le_of_ble_eq_true rfl) (kf_X10_takeContract I1300 F) (fun r1445 I1446 F1447 => ?_)
        refine OK_st 1 okX10_takeClause (S' := (198, [(3, .int s0), (0, .ref 49), (2, .int v2)], [.int r1445], hp I1446 F1447)) rfl ⟨trivial, trivial⟩ ?_
        refine OK_pk [1] rfl ?_
        exact kf_X10_takeClause_j198 r1445 I1446 F1447
    · refine OK_st 1 okX10_takeClause (S' := (164, [(3, .int s0), (0, .ref 49), (2, .int v2)], [.ref 49], hp I1300 F)) rfl ⟨trivial, trivial⟩ ?_
      refine OK_cv [] [] okX10_takeClause okX10_takeLimb rfl rfl cl_RX10_154 rfl rfl (Nat.le_of_ble_eq_true rfl) (by decide) (Nat.le_of_ble_eq_true rfl) (kf_X10_takeLimb I1300 F) (fun r1471 I1472 F1473 => ?_)
      refine OK_st 1 okX10_takeClause (S' := (198, [(3, .int s0), (0, .ref 49), (2, .int v2)], [.int r1471], hp I1472 F1473)) rfl ⟨trivial, trivial⟩ ?_
      refine OK_pk [1] rfl ?_
      exact kf_X10_takeClause_j198 r1471 I1472 F1473
  · refine OK_st 4 okX10_takeClause (S' := (145, [(3, .int s0), (0, .ref 49), (2, .int v2)], [.int (I 28), .int (nI 3), .ref 49], hp I F)) rfl ⟨trivial, trivial, trivial, trivial, trivial⟩ ?_
    refine OK_cv [.int (nI 3), .int (I 28)] [] okX10_takeClause okX10_fails rfl rfl cl_RX10_128 rfl rfl (Nat.le_of_ble_eq_true rfl) (by decide) (Nat.le_of_ble_eq_true rfl) (kf_X10_fails (nI 3) (I 28) I F) (fun r1474 I1475 F1476 => ?_)
    exact OK_ri okX10_takeClause rfl rfl (Or.inl rfl)

def f_X10_takeClause_j133 (v2 : Int32) (I : AI) (F : AF) : AQ :=
  f_X10_takeClause_j134 v2 (0 : Int32) I F
set_option maxRecDepth 20000 in
set_option maxHeartbeats 4000000 in
theorem kf_X10_takeClause_j133 (v2 : Int32) (I : AI) (F : AF) : OK 4 mX10_takeClause true (f_X10_takeClause_j133 v2 I F) (133, [(0, .ref 49), (2, .int v2)], [], hp I F) := by
  rw [f_X10_takeClause_j133]
  refine OK_st 1 okX10_takeClause (S' := (134, [(0, .ref 49), (2, .int v2)], [.int (0 : Int32)], hp I F)) rfl ⟨trivial, trivial⟩ ?_
  exact kf_X10_takeClause_j134 v2 (0 : Int32) I F

def f_X10_takeClause_j72 (v2 : Int32) (I : AI) (F : AF) : AQ :=
  if ¬ v2 = 0 then
    if ¬ v2 = (1 : Int32) then
      if ¬ v2 = (nI 2) then
        f_X10_takeClause_j133 v2 I F
      else
        if ¬ (I 33) = (nI 8) then
          f_X10_takeClause_j133 v2 I F
        else
          f_X10_takeClause_j134 v2 (1 : Int32) I F
    else
      if ¬ (I 32) = (nI 6) then
        f_X10_takeClause_j134 v2 (0 : Int32) I F
      else
        f_X10_takeClause_j134 v2 (1 : Int32) I F
  else
    if ¬ (I 31) = (nI 6) then
      f_X10_takeClause_j134 v2 (0 : Int32) I F
    else
      f_X10_takeClause_j134 v2 (1 : Int32) I F
set_option maxRecDepth 20000 in
set_option maxHeartbeats 4000000 in
theorem kf_X10_takeClause_j72 (v2 : Int32) (I : AI) (F : AF) : OK 4 mX10_takeClause true (f_X10_takeClause_j72 v2 I F) (72, [(0, .ref 49), (2, .int v2)], [], hp I F) := by
  rw [f_X10_takeClause_j72]
  refine OK_st 2 okX10_takeClause (S' := ((if ¬ v2 = 0 then 93 else 76), [(0, .ref 49), (2, .int v2)], [], hp I F)) rfl ⟨trivial, trivial, trivial⟩ ?_
  refine OK_if (fun h1296 => ?_) (fun h1296 => ?_)
  · refine OK_st 3 okX10_takeClause (S' := ((if ¬ v2 = (1 : Int32) then 115 else 98), [(0, .ref 49), (2, .int v2)], [], hp I F)) rfl ⟨trivial, trivial, trivial, trivial⟩ ?_
    refine OK_if (fun h1297 => ?_) (fun h1297 => ?_)
    · refine OK_st 3 okX10_takeClause (S' := ((if ¬ v2 = (nI 2) then 133 else 120), [(0, .ref 49), (2, .int v2)], [], hp I F)) rfl ⟨trivial, trivial, trivial, trivial⟩ ?_
      refine OK_if (fun h1298 => ?_) (fun h1298 => ?_)
      · exact kf_X10_takeClause_j133 v2 I F
      · refine OK_st 4 okX10_takeClause (S' := ((if ¬ (I 33) = (nI 8) then 133 else 129), [(0, .ref 49), (2, .int v2)], [], hp I F)) rfl ⟨trivial, trivial, trivial, trivial, trivial⟩ ?_
        refine OK_if (fun h1477 => ?_) (fun h1477 => ?_)
        · exact kf_X10_takeClause_j133 v2 I F
        · refine OK_st 2 okX10_takeClause (S' := (134, [(0, .ref 49), (2, .int v2)], [.int (1 : Int32)], hp I F)) rfl ⟨trivial, trivial, trivial⟩ ?_
          exact kf_X10_takeClause_j134 v2 (1 : Int32) I F
    · refine OK_st 4 okX10_takeClause (S' := ((if ¬ (I 32) = (nI 6) then 111 else 107), [(0, .ref 49), (2, .int v2)], [], hp I F)) rfl ⟨trivial, trivial, trivial, trivial, trivial⟩ ?_
      refine OK_if (fun h1478 => ?_) (fun h1478 => ?_)
      · refine OK_st 2 okX10_takeClause (S' := (134, [(0, .ref 49), (2, .int v2)], [.int (0 : Int32)], hp I F)) rfl ⟨trivial, trivial, trivial⟩ ?_
        exact kf_X10_takeClause_j134 v2 (0 : Int32) I F
      · refine OK_st 2 okX10_takeClause (S' := (134, [(0, .ref 49), (2, .int v2)], [.int (1 : Int32)], hp I F)) rfl ⟨trivial, trivial, trivial⟩ ?_
        exact kf_X10_takeClause_j134 v2 (1 : Int32) I F
  · refine OK_st 4 okX10_takeClause (S' := ((if ¬ (I 31) = (nI 6) then 89 else 85), [(0, .ref 49), (2, .int v2)], [], hp I F)) rfl ⟨trivial, trivial, trivial, trivial, trivial⟩ ?_
    refine OK_if (fun h1479 => ?_) (fun h1479 => ?_)
    · refine OK_st 2 okX10_takeClause (S' := (134, [(0, .ref 49), (2, .int v2)], [.int (0 : Int32)], hp I F)) rfl ⟨trivial, trivial, trivial⟩ ?_
      exact kf_X10_takeClause_j134 v2 (0 : Int32) I F
    · refine OK_st 2 okX10_takeClause (S' := (134, [(0, .ref 49), (2, .int v2)], [.int (1 : Int32)], hp I F)) rfl ⟨trivial, trivial, trivial⟩ ?_
      exact kf_X10_takeClause_j134 v2 (1 : Int32) I F

def f_X10_takeClause_j46 (s0 : Int32) (I : AI) (F : AF) : AQ :=
  if s0 < 0 then
    ab_bd (f_X10_fails (1 : Int32) (I 28) I F) (fun r1292 I1293 F1294 =>
      some (r1292, I1293, F1294))
  else
    if s0 ≤ 0 then
      f_X10_takeClause_j72 s0 I F
    else
      if ¬ (I 31) = 0 then
        f_X10_takeClause_j72 s0 I F
      else
        ab_bd (f_X10_fails (1 : Int32) (I 28) I F) (fun r1481 I1482 F1483 =>
          some (r1481, I1482, F1483))
set_option maxRecDepth 20000 in
set_option maxHeartbeats 4000000 in
theorem kf_X10_takeClause_j46 (s0 : Int32) (I : AI) (F : AF) : OK 4 mX10_takeClause true (f_X10_takeClause_j46 s0 I F) (46, [(0, .ref 49)], [.int s0], hp I F) := by
  rw [f_X10_takeClause_j46]
  refine OK_st 3 okX10_takeClause (S' := ((if s0 < 0 then 62 else 51), [(2, .int s0), (0, .ref 49)], [], hp I F)) rfl ⟨(by decide), trivial, trivial, trivial⟩ ?_
  refine OK_if (fun h1291 => ?_) (fun h1291 => ?_)
  · refine OK_st 4 okX10_takeClause (S' := (68, [(2, .int s0), (0, .ref 49)], [.int (I 28), .int (1 : Int32), .ref 49], hp I F)) rfl ⟨trivial, trivial, trivial, trivial, trivial⟩ ?_
    refine OK_cv [.int (1 : Int32), .int (I 28)] [] okX10_takeClause okX10_fails rfl rfl cl_RX10_128 rfl rfl (Nat.le_of_ble_eq_true rfl) (by decide) (Nat.le_of_ble_eq_true rfl) (kf_X10_fails (1 : Int32) (I 28) I F) (fun r1292 I1293 F1294 => ?_)
    exact OK_ri okX10_takeClause rfl rfl (Or.inl rfl)
  · refine OK_st 2 okX10_takeClause (S' := ((if s0 ≤ 0 then 72 else 55), [(2, .int s0), (0, .ref 49)], [], hp I F)) rfl ⟨trivial, trivial, trivial⟩ ?_
    refine OK_if (fun h1295 => ?_) (fun h1295 => ?_)
    · refine OK_pk [1, 0] rfl ?_
      exact kf_X10_takeClause_j72 s0 I F
    · refine OK_st 3 okX10_takeClause (S' := ((if ¬ (I 31) = 0 then 72 else 62), [(2, .int s0), (0, .ref 49)], [], hp I F)) rfl ⟨trivial, trivial, trivial, trivial⟩ ?_
      refine OK_if (fun h1480 => ?_) (fun h1480 => ?_)
      · refine OK_pk [1, 0] rfl ?_
        exact kf_X10_takeClause_j72 s0 I F
      · refine OK_st 4 okX10_takeClause (S' := (68, [(2, .int s0), (0, .ref 49)], [.int (I 28), .int (1 : Int32), .ref 49], hp I F)) rfl ⟨trivial, trivial, trivial, trivial, trivial⟩ ?_
        refine OK_cv [.int (1 : Int32), .int (I 28)] [] okX10_takeClause okX10_fails rfl rfl cl_RX10_128 rfl rfl (Nat.le_of_ble_eq_true rfl) (by decide) (Nat.le_of_ble_eq_true rfl) (kf_X10_fails (1 : Int32) (I 28) I F) (fun r1481 I1482 F1483 => ?_)
        exact OK_ri okX10_takeClause rfl rfl (Or.inl rfl)

def f_X10_takeClause (I : AI) (F : AF) : AQ :=
  ab_bd (f_X10_here I F) (fun r1284 I1285 F1286 =>
    if ¬ r1284 = (nI 108) then
      if ¬ r1284 = (nI 99) then
        if ¬ r1284 = (nI 114) then
          if ¬ r1284 = (nI 104) then
            f_X10_takeClause_j46 (-1 : Int32) I1285 F1286
          else
            f_X10_takeClause_j46 (nI 3) I1285 F1286
        else
          f_X10_takeClause_j46 (nI 2) I1285 F1286
      else
        f_X10_takeClause_j46 (1 : Int32) I1285 F1286
    else
      f_X10_takeClause_j46 (0 : Int32) I1285 F1286)
set_option maxRecDepth 20000 in
set_option maxHeartbeats 4000000 in
theorem kf_X10_takeClause (I : AI) (F : AF) : OK 4 mX10_takeClause true (f_X10_takeClause I F) (0, [(0, .ref 49)], [], hp I F) := by
  rw [f_X10_takeClause]
  refine OK_st 1 okX10_takeClause (S' := (1, [(0, .ref 49)], [.ref 49], hp I F)) rfl ⟨trivial, trivial⟩ ?_
  refine OK_cv [] [] okX10_takeClause okX10_here rfl rfl cl_RX10_120 rfl rfl (Nat.le_of_ble_eq_true rfl) (by decide) (Nat.le_of_ble_eq_true rfl) (kf_X10_here I F) (fun r1284 I1285 F1286 => ?_)
  refine OK_st 4 okX10_takeClause (S' := ((if ¬ r1284 = (nI 108) then 15 else 11), [(1, .int r1284), (0, .ref 49)], [], hp I1285 F1286)) rfl ⟨(by decide), trivial, trivial, trivial, trivial⟩ ?_
  refine OK_if (fun h1287 => ?_) (fun h1287 => ?_)
  · refine OK_st 3 okX10_takeClause (S' := ((if ¬ r1284 = (nI 99) then 25 else 21), [(1, .int r1284), (0, .ref 49)], [], hp I1285 F1286)) rfl ⟨trivial, trivial, trivial, trivial⟩ ?_
    refine OK_if (fun h1288 => ?_) (fun h1288 => ?_)
    · refine OK_st 3 okX10_takeClause (S' := ((if ¬ r1284 = (nI 114) then 35 else 31), [(1, .int r1284), (0, .ref 49)], [], hp I1285 F1286)) rfl ⟨trivial, trivial, trivial, trivial⟩ ?_
      refine OK_if (fun h1289 => ?_) (fun h1289 => ?_)
      · refine OK_st 3 okX10_takeClause (S' := ((if ¬ r1284 = (nI 104) then 45 else 41), [(1, .int r1284), (0, .ref 49)], [], hp I1285 F1286)) rfl ⟨trivial, trivial, trivial, trivial⟩ ?_
        refine OK_if (fun h1290 => ?_) (fun h1290 => ?_)
        · refine OK_st 1 okX10_takeClause (S' := (46, [(1, .int r1284), (0, .ref 49)], [.int (-1 : Int32)], hp I1285 F1286)) rfl ⟨trivial, trivial⟩ ?_
          refine OK_pk [1] rfl ?_
          exact kf_X10_takeClause_j46 (-1 : Int32) I1285 F1286
        · refine OK_st 2 okX10_takeClause (S' := (46, [(1, .int r1284), (0, .ref 49)], [.int (nI 3)], hp I1285 F1286)) rfl ⟨trivial, trivial, trivial⟩ ?_
          refine OK_pk [1] rfl ?_
          exact kf_X10_takeClause_j46 (nI 3) I1285 F1286
      · refine OK_st 2 okX10_takeClause (S' := (46, [(1, .int r1284), (0, .ref 49)], [.int (nI 2)], hp I1285 F1286)) rfl ⟨trivial, trivial, trivial⟩ ?_
        refine OK_pk [1] rfl ?_
        exact kf_X10_takeClause_j46 (nI 2) I1285 F1286
    · refine OK_st 2 okX10_takeClause (S' := (46, [(1, .int r1284), (0, .ref 49)], [.int (1 : Int32)], hp I1285 F1286)) rfl ⟨trivial, trivial, trivial⟩ ?_
      refine OK_pk [1] rfl ?_
      exact kf_X10_takeClause_j46 (1 : Int32) I1285 F1286
  · refine OK_st 2 okX10_takeClause (S' := (46, [(1, .int r1284), (0, .ref 49)], [.int (0 : Int32)], hp I1285 F1286)) rfl ⟨trivial, trivial, trivial⟩ ?_
    refine OK_pk [1] rfl ?_
    exact kf_X10_takeClause_j46 (0 : Int32) I1285 F1286

def f_X10_port_27 (ko : Int32 → AI → AF → AQ) : Nat → Int32 → AI → AF → AQ
  | 0, _, _, _ => none
  | n + 1, v1, I, F =>
    if ¬ v1 = 0 then
      ko v1 I F
    else
      ab_bd (f_X10_here I F) (fun r1280 I1281 F1282 =>
        if r1280 < 0 then
          ko v1 I1281 F1282
        else
          ab_bd (f_X10_takeClause I1281 F1282) (fun r1484 I1485 F1486 =>
            f_X10_port_27 ko n r1484 I1485 F1486))
set_option maxRecDepth 20000 in
set_option maxHeartbeats 4000000 in
theorem kf_X10_port_27 (ko : Int32 → AI → AF → AQ) (hko : ∀ v1 I F, OK 5 mX10_port true (ko v1 I F) (46, [(0, .ref 49), (1, .int v1)], [], hp I F)) : ∀ n v1 I F, OK 5 mX10_port true (f_X10_port_27 ko n v1 I F) (27, [(0, .ref 49), (1, .int v1)], [], hp I F) := by
  intro n
  induction n with
  | zero =>
    intro v1 I F
    exact OK_no
  | succ n ih =>
    intro v1 I F
    rw [f_X10_port_27]
    refine OK_st 2 okX10_port (S' := ((if ¬ v1 = 0 then 46 else 31), [(0, .ref 49), (1, .int v1)], [], hp I F)) rfl ⟨trivial, trivial, trivial⟩ ?_
    refine OK_if (fun h1271 => ?_) (fun h1271 => ?_)
    · exact hko v1 I F
    · refine OK_st 1 okX10_port (S' := (32, [(0, .ref 49), (1, .int v1)], [.ref 49], hp I F)) rfl ⟨trivial, trivial⟩ ?_
      refine OK_cv [] [] okX10_port okX10_here rfl rfl cl_RX10_120 rfl rfl (Nat.le_of_ble_eq_true rfl) (by decide) (Nat.le_of_ble_eq_true rfl) (kf_X10_here I F) (fun r1280 I1281 F1282 => ?_)
      refine OK_st 1 okX10_port (S' := ((if r1280 < 0 then 46 else 38), [(0, .ref 49), (1, .int v1)], [], hp I1281 F1282)) rfl ⟨trivial, trivial⟩ ?_
      refine OK_if (fun h1283 => ?_) (fun h1283 => ?_)
      · exact hko v1 I1281 F1282
      · refine OK_st 1 okX10_port (S' := (39, [(0, .ref 49), (1, .int v1)], [.ref 49], hp I1281 F1282)) rfl ⟨trivial, trivial⟩ ?_
        refine OK_cv [] [] okX10_port okX10_takeClause rfl rfl cl_RX10_172 rfl rfl (Nat.le_of_ble_eq_true rfl) (by decide) (Nat.le_of_ble_eq_true rfl) (kf_X10_takeClause I1281 F1282) (fun r1484 I1485 F1486 => ?_)
        refine OK_st 2 okX10_port (S' := (27, [(1, .int r1484), (0, .ref 49)], [], hp I1485 F1486)) rfl ⟨(by decide), trivial, trivial⟩ ?_
        refine OK_pk [1, 0] rfl ?_
        exact ih r1484 I1485 F1486

def f_X10_takeRead_26 (ko : Int32 → AI → AF → AQ) : Nat → Int32 → AI → AF → AQ
  | 0, _, _, _ => none
  | n + 1, v1, I, F =>
    if (nI 12) ≤ v1 then
      ko v1 I F
    else
      if (I 22) ≤ v1 then
        if (nI 6) ≤ v1 then
          bif ab_vin v1 22 then
            ab_lt (va_up F 47 (upd (F 47) v1.toNatClampNeg (-1 : Int32))) (fun F1497 =>
              f_X10_takeRead_26 ko n (v1 + (1 : Int32)) I F1497)
          else none
        else
          bif ab_vin v1 22 then
            ab_lt (va_up F 47 (upd (F 47) v1.toNatClampNeg (0 : Int32))) (fun F1499 =>
              f_X10_takeRead_26 ko n (v1 + (1 : Int32)) I F1499)
          else none
      else
        bif ab_vin v1 6 then
          bif ab_vin v1 22 then
            ab_lt (va_up F 47 (upd (F 47) v1.toNatClampNeg ((F 49) v1.toNatClampNeg))) (fun F1502 =>
              f_X10_takeRead_26 ko n (v1 + (1 : Int32)) I F1502)
          else none
        else none
set_option maxRecDepth 20000 in
set_option maxHeartbeats 4000000 in
theorem kf_X10_takeRead_26 (ko : Int32 → AI → AF → AQ) (hko : ∀ v1 I F, OK 0 mX10_takeRead false (ko v1 I F) (72, [(0, .ref 49), (1, .int v1)], [], hp I F)) : ∀ n v1 I F, OK 0 mX10_takeRead false (f_X10_takeRead_26 ko n v1 I F) (26, [(0, .ref 49), (1, .int v1)], [], hp I F) := by
  intro n
  induction n with
  | zero =>
    intro v1 I F
    exact OK_no
  | succ n ih =>
    intro v1 I F
    rw [f_X10_takeRead_26]
    refine OK_st 3 okX10_takeRead (S' := ((if (nI 12) ≤ v1 then 72 else 32), [(0, .ref 49), (1, .int v1)], [], hp I F)) rfl ⟨trivial, trivial, trivial, trivial⟩ ?_
    refine OK_if (fun h1493 => ?_) (fun h1493 => ?_)
    · exact hko v1 I F
    · refine OK_st 7 okX10_takeRead (S' := ((if (I 22) ≤ v1 then 54 else 45), [(0, .ref 49), (1, .int v1)], [.int v1, .ref 59], hp I F)) rfl ⟨trivial, trivial, trivial, trivial, trivial, trivial, trivial, trivial⟩ ?_
      refine OK_if (fun h1494 => ?_) (fun h1494 => ?_)
      · refine OK_st 3 okX10_takeRead (S' := ((if (nI 6) ≤ v1 then 64 else 60), [(0, .ref 49), (1, .int v1)], [.int v1, .ref 59], hp I F)) rfl ⟨trivial, trivial, trivial, trivial⟩ ?_
        refine OK_if (fun h1495 => ?_) (fun h1495 => ?_)
        · refine OK_gd (fun g1496 => ?_)
          refine OK_st 4 okX10_takeRead (S' := (26, [(1, .int (v1 + (1 : Int32))), (0, .ref 49)], [], hp I (va_up F 47 (upd (F 47) v1.toNatClampNeg (-1 : Int32))))) rfl ⟨trivial, (ab_vo g1496), (by decide), trivial, trivial⟩ ?_
          refine OK_lt (fun F1497 => (26, [(1, .int (v1 + (1 : Int32))), (0, .ref 49)], [], hp I F1497)) (fun F1497 => ?_)
          refine OK_pk [1, 0] rfl ?_
          exact ih (v1 + (1 : Int32)) I F1497
        · refine OK_gd (fun g1498 => ?_)
          refine OK_st 5 okX10_takeRead (S' := (26, [(1, .int (v1 + (1 : Int32))), (0, .ref 49)], [], hp I (va_up F 47 (upd (F 47) v1.toNatClampNeg (0 : Int32))))) rfl ⟨trivial, trivial, (ab_vo g1498), (by decide), trivial, trivial⟩ ?_
          refine OK_lt (fun F1499 => (26, [(1, .int (v1 + (1 : Int32))), (0, .ref 49)], [], hp I F1499)) (fun F1499 => ?_)
          refine OK_pk [1, 0] rfl ?_
          exact ih (v1 + (1 : Int32)) I F1499
      · refine OK_gd (fun g1500 => ?_)
        refine OK_gd (fun g1501 => ?_)
        refine OK_st 8 okX10_takeRead (S' := (26, [(1, .int (v1 + (1 : Int32))), (0, .ref 49)], [], hp I (va_up F 47 (upd (F 47) v1.toNatClampNeg ((F 49) v1.toNatClampNeg))))) rfl ⟨trivial, trivial, trivial, (ab_vo g1500), trivial, (ab_vo g1501), (by decide), trivial, trivial⟩ ?_
        refine OK_lt (fun F1502 => (26, [(1, .int (v1 + (1 : Int32))), (0, .ref 49)], [], hp I F1502)) (fun F1502 => ?_)
        refine OK_pk [1, 0] rfl ?_
        exact ih (v1 + (1 : Int32)) I F1502
