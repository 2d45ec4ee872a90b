/-! methods as functions (by program) -/
def f_X10_in (w0 : Int64) (w2 : Int64) (w4 : Int64) (I : AI) (F : AF) : AQ :=
  if (lg_cmp w0 w2) < 0 then
    some ((0 : Int32), I, F)
  else
    if 0 < (lg_cmp w0 w4) then
      some ((0 : Int32), I, F)
    else
      some ((1 : Int32), I, F)
set_option maxRecDepth 20000 in
set_option maxHeartbeats 4000000 in
theorem kf_X10_in (w0 : Int64) (w2 : Int64) (w4 : Int64) (I : AI) (F : AF) : OK 0 mX10_in true (f_X10_in w0 w2 w4 I F) (0, [(0, .long w0), (2, .long w2), (4, .long w4)], [], hp I F) := by
  rw [f_X10_in]
  refine OK_st 4 okX10_in (S' := ((if (lg_cmp w0 w2) < 0 then 17 else 6), [(0, .long w0), (2, .long w2), (4, .long w4)], [], hp I F)) rfl ⟨trivial, trivial, trivial, trivial, trivial⟩ ?_
  refine OK_if (fun h1245 => ?_) (fun h1245 => ?_)
  · refine OK_st 1 okX10_in (S' := (18, [(0, .long w0), (2, .long w2), (4, .long w4)], [.int (0 : Int32)], hp I F)) rfl ⟨trivial, trivial⟩ ?_
    exact OK_ri okX10_in rfl rfl (Or.inr ⟨rfl, Or.inl rfl⟩)
  · refine OK_st 4 okX10_in (S' := ((if 0 < (lg_cmp w0 w4) then 17 else 13), [(0, .long w0), (2, .long w2), (4, .long w4)], [], hp I F)) rfl ⟨trivial, trivial, trivial, trivial, trivial⟩ ?_
    refine OK_if (fun h1246 => ?_) (fun h1246 => ?_)
    · refine OK_st 1 okX10_in (S' := (18, [(0, .long w0), (2, .long w2), (4, .long w4)], [.int (0 : Int32)], hp I F)) rfl ⟨trivial, trivial⟩ ?_
      exact OK_ri okX10_in rfl rfl (Or.inr ⟨rfl, Or.inl rfl⟩)
    · refine OK_st 2 okX10_in (S' := (18, [(0, .long w0), (2, .long w2), (4, .long w4)], [.int (1 : Int32)], hp I F)) rfl ⟨trivial, trivial, trivial⟩ ?_
      exact OK_ri okX10_in rfl rfl (Or.inr ⟨rfl, Or.inr rfl⟩)

def f_X10_feed (v1 : Int32) (I : AI) (F : AF) : AQ :=
  ab_bd (f_X10_in v1.toInt64 (0 : Int64) (255 : Int64) I F) (fun r1247 I1248 F1249 =>
    if ¬ r1247 = 0 then
      if ¬ (I1248 26) = (250 : Int32) then
        bif ab_vin (I1248 26) 250 then
          some (((I1248 26) + (1 : Int32)), (va_up I1248 26 ((I1248 26) + (1 : Int32))), (va_up F1249 48 (upd (F1249 48) (I1248 26).toNatClampNeg v1)))
        else none
      else
        some ((-1000000004 : Int32), I1248, F1249)
    else
      some ((-1000000002 : Int32), I1248, F1249))
set_option maxRecDepth 20000 in
set_option maxHeartbeats 4000000 in
theorem kf_X10_feed (v1 : Int32) (I : AI) (F : AF) : OK 1 mX10_feed true (f_X10_feed v1 I F) (0, [(0, .ref 49), (1, .int v1)], [], hp I F) := by
  rw [f_X10_feed]
  refine OK_st 4 okX10_feed (S' := (6, [(0, .ref 49), (1, .int v1)], [.long (255 : Int64), .long (0 : Int64), .long v1.toInt64], hp I F)) rfl ⟨trivial, trivial, trivial, trivial, trivial⟩ ?_
  refine OK_cs [.long v1.toInt64, .long (0 : Int64), .long (255 : Int64)] [] okX10_feed okX10_in rfl rfl cl_RX10_102 (Nat.le_of_ble_eq_true rfl) (by decide) (Nat.le_of_ble_eq_true rfl) (kf_X10_in v1.toInt64 (0 : Int64) (255 : Int64) I F) (fun r1247 I1248 F1249 => ?_)
  refine OK_st 1 okX10_feed (S' := ((if ¬ r1247 = 0 then 15 else 12), [(0, .ref 49), (1, .int v1)], [], hp I1248 F1249)) rfl ⟨trivial, trivial⟩ ?_
  refine OK_if (fun h1250 => ?_) (fun h1250 => ?_)
  · refine OK_st 4 okX10_feed (S' := ((if ¬ (I1248 26) = (250 : Int32) then 28 else 25), [(0, .ref 49), (1, .int v1)], [], hp I1248 F1249)) rfl ⟨trivial, trivial, trivial, trivial, trivial⟩ ?_
    refine OK_if (fun h1251 => ?_) (fun h1251 => ?_)
    · refine OK_gd (fun g1252 => ?_)
      refine OK_st 14 okX10_feed (S' := (52, [(0, .ref 49), (1, .int v1)], [.int ((I1248 26) + (1 : Int32))], hp (va_up I1248 26 ((I1248 26) + (1 : Int32))) (va_up F1249 48 (upd (F1249 48) (I1248 26).toNatClampNeg v1)))) rfl ⟨trivial, trivial, trivial, trivial, trivial, (ab_vo g1252), trivial, rfl, trivial, trivial, trivial, trivial, trivial, trivial, trivial⟩ ?_
      exact OK_ri okX10_feed rfl rfl (Or.inl rfl)
    · refine OK_st 1 okX10_feed (S' := (27, [(0, .ref 49), (1, .int v1)], [.int (-1000000004 : Int32)], hp I1248 F1249)) rfl ⟨trivial, trivial⟩ ?_
      exact OK_ri okX10_feed rfl rfl (Or.inl rfl)
  · refine OK_st 1 okX10_feed (S' := (14, [(0, .ref 49), (1, .int v1)], [.int (-1000000002 : Int32)], hp I1248 F1249)) rfl ⟨trivial, trivial⟩ ?_
    exact OK_ri okX10_feed rfl rfl (Or.inl rfl)

def f_X10_here_0 (ko : AI → AF → AQ) : Nat → AI → AF → AQ
  | 0, _, _ => none
  | n + 1, I, F =>
    if (I 26) ≤ (I 28) then
      ko  I F
    else
      bif ab_vin (I 28) 250 then
        if ¬ ((F 48) (I 28).toNatClampNeg) = (32 : Int32) then
          ko  I F
        else
          ab_lt (va_up I 28 ((I 28) + (1 : Int32))) (fun I1258 =>
            f_X10_here_0 ko n  I1258 F)
      else none
set_option maxRecDepth 20000 in
set_option maxHeartbeats 4000000 in
theorem kf_X10_here_0 (ko : AI → AF → AQ) (hko : ∀  I F, OK 0 mX10_here true (ko  I F) (38, [(0, .ref 49)], [], hp I F)) : ∀ n  I F, OK 0 mX10_here true (f_X10_here_0 ko n  I F) (0, [(0, .ref 49)], [], hp I F) := by
  intro n
  induction n with
  | zero =>
    intro  I F
    exact OK_no
  | succ n ih =>
    intro  I F
    rw [f_X10_here_0]
    refine OK_st 5 okX10_here (S' := ((if (I 26) ≤ (I 28) then 38 else 11), [(0, .ref 49)], [], hp I F)) rfl ⟨trivial, trivial, trivial, trivial, trivial, trivial⟩ ?_
    refine OK_if (fun h1255 => ?_) (fun h1255 => ?_)
    · exact hko  I F
    · refine OK_gd (fun g1256 => ?_)
      refine OK_st 7 okX10_here (S' := ((if ¬ ((F 48) (I 28).toNatClampNeg) = (32 : Int32) then 38 else 25), [(0, .ref 49)], [], hp I F)) rfl ⟨trivial, trivial, trivial, trivial, (ab_vo g1256), trivial, trivial, trivial⟩ ?_
      refine OK_if (fun h1257 => ?_) (fun h1257 => ?_)
      · exact hko  I F
      · refine OK_st 7 okX10_here (S' := (0, [(0, .ref 49)], [], hp (va_up I 28 ((I 28) + (1 : Int32))) F)) rfl ⟨trivial, rfl, trivial, trivial, trivial, trivial, trivial, trivial⟩ ?_
        refine OK_lt (fun I1258 => (0, [(0, .ref 49)], [], hp I1258 F)) (fun I1258 => ?_)
        exact ih  I1258 F

def f_X10_here (I : AI) (F : AF) : AQ :=
  f_X10_here_0 (fun  I1259 F1260 =>
    if (I1259 26) ≤ (I1259 28) then
      some ((-1 : Int32), I1259, F1260)
    else
      bif ab_vin (I1259 28) 250 then
        some (((F1260 48) (I1259 28).toNatClampNeg), I1259, F1260)
      else none) ab_fu  I F
set_option maxRecDepth 20000 in
set_option maxHeartbeats 4000000 in
theorem kf_X10_here (I : AI) (F : AF) : OK 0 mX10_here true (f_X10_here I F) (0, [(0, .ref 49)], [], hp I F) := by
  rw [f_X10_here]
  refine kf_X10_here_0 _ (fun  I1259 F1260 => ?_) ab_fu  I F
  refine OK_st 5 okX10_here (S' := ((if (I1259 26) ≤ (I1259 28) then 61 else 49), [(0, .ref 49)], [], hp I1259 F1260)) rfl ⟨trivial, trivial, trivial, trivial, trivial, trivial⟩ ?_
  refine OK_if (fun h1261 => ?_) (fun h1261 => ?_)
  · refine OK_st 1 okX10_here (S' := (62, [(0, .ref 49)], [.int (-1 : Int32)], hp I1259 F1260)) rfl ⟨trivial, trivial⟩ ?_
    exact OK_ri okX10_here rfl rfl (Or.inl rfl)
  · refine OK_gd (fun g1262 => ?_)
    refine OK_st 6 okX10_here (S' := (62, [(0, .ref 49)], [.int ((F1260 48) (I1259 28).toNatClampNeg)], hp I1259 F1260)) rfl ⟨trivial, trivial, trivial, trivial, (ab_vo g1262), trivial, trivial⟩ ?_
    exact OK_ri okX10_here rfl rfl (Or.inl rfl)

def f_X10_fails (v1 : Int32) (v2 : Int32) (I : AI) (F : AF) : AQ :=
  some (v1, (va_up I 27 v2), F)
set_option maxRecDepth 20000 in
set_option maxHeartbeats 4000000 in
theorem kf_X10_fails (v1 : Int32) (v2 : Int32) (I : AI) (F : AF) : OK 0 mX10_fails true (f_X10_fails v1 v2 I F) (0, [(0, .ref 49), (1, .int v1), (2, .int v2)], [], hp I F) := by
  rw [f_X10_fails]
  refine OK_st 4 okX10_fails (S' := (6, [(0, .ref 49), (1, .int v1), (2, .int v2)], [.int v1], hp (va_up I 27 v2) F)) rfl ⟨trivial, trivial, trivial, trivial, trivial⟩ ?_
  exact OK_ri okX10_fails rfl rfl (Or.inl rfl)

def f_X10_takeNumber_42 (v1 : Int32) (v2 : Int32) (ko : AI → AF → AQ) : Nat → AI → AF → AQ
  | 0, _, _ => none
  | n + 1, I, F =>
    if (I 26) ≤ (I 28) then
      ko  I F
    else
      bif ab_vin (I 28) 250 then
        ab_bd (f_X10_in (((F 48) (I 28).toNatClampNeg).toInt64) (48 : Int64) (57 : Int64) I F) (fun r1297 I1298 F1299 =>
          if r1297 = 0 then
            ko  I1298 F1299
          else
            if (I1298 29) ≤ (10000 : Int32) then
              bif ab_vin (I1298 28) 250 then
                ab_lt (va_up (va_up I1298 29 ((((10 : Int32) * (I1298 29)) + ((F1299 48) (I1298 28).toNatClampNeg)) - (48 : Int32))) 28 ((I1298 28) + (1 : Int32))) (fun I1303 =>
                  f_X10_takeNumber_42 v1 v2 ko n  I1303 F1299)
              else none
            else
              ab_lt (va_up (va_up I1298 29 (I1298 29)) 28 ((I1298 28) + (1 : Int32))) (fun I1304 =>
                f_X10_takeNumber_42 v1 v2 ko n  I1304 F1299))
      else none
set_option maxRecDepth 20000 in
set_option maxHeartbeats 4000000 in
theorem kf_X10_takeNumber_42 (v1 : Int32) (v2 : Int32) (ko : AI → AF → AQ) (hko : ∀  I F, OK 1 mX10_takeNumber true (ko  I F) (129, [(0, .ref 49), (1, .int v1), (2, .int v2)], [], hp I F)) : ∀ n  I F, OK 1 mX10_takeNumber true (f_X10_takeNumber_42 v1 v2 ko n  I F) (42, [(0, .ref 49), (1, .int v1), (2, .int v2)], [], hp I F) := by
  intro n
  induction n with
  | zero =>
    intro  I F
    exact OK_no
  | succ n ih =>
    intro  I F
    rw [f_X10_takeNumber_42]
    refine OK_st 5 okX10_takeNumber (S' := ((if (I 26) ≤ (I 28) then 129 else 53), [(0, .ref 49), (1, .int v1), (2, .int v2)], [], hp I F)) rfl ⟨trivial, trivial, trivial, trivial, trivial, trivial⟩ ?_
    refine OK_if (fun h1295 => ?_) (fun h1295 => ?_)
    · exact hko  I F
    · refine OK_gd (fun g1296 => ?_)
      refine OK_st 8 okX10_takeNumber (S' := (69, [(0, .ref 49), (1, .int v1), (2, .int v2)], [.long (57 : Int64), .long (48 : Int64), .long ((F 48) (I 28).toNatClampNeg).toInt64], hp I F)) rfl ⟨trivial, trivial, trivial, trivial, (ab_vo g1296), trivial, trivial, trivial, trivial⟩ ?_
      refine OK_cs [.long ((F 48) (I 28).toNatClampNeg).toInt64, .long (48 : Int64), .long (57 : Int64)] [] okX10_takeNumber okX10_in rfl rfl cl_RX10_102 (Nat.le_of_ble_eq_true rfl) (by decide) (Nat.le_of_ble_eq_true rfl) (kf_X10_in (((F 48) (I 28).toNatClampNeg).toInt64) (48 : Int64) (57 : Int64) I F) (fun r1297 I1298 F1299 => ?_)
      refine OK_st 1 okX10_takeNumber (S' := ((if r1297 = 0 then 129 else 75), [(0, .ref 49), (1, .int v1), (2, .int v2)], [], hp I1298 F1299)) rfl ⟨trivial, trivial⟩ ?_
      refine OK_if (fun h1300 => ?_) (fun h1300 => ?_)
      · exact hko  I1298 F1299
      · refine OK_st 5 okX10_takeNumber (S' := ((if (I1298 29) ≤ (10000 : Int32) then 93 else 86), [(0, .ref 49), (1, .int v1), (2, .int v2)], [.ref 49], hp I1298 F1299)) rfl ⟨trivial, trivial, trivial, trivial, trivial, trivial⟩ ?_
        refine OK_if (fun h1301 => ?_) (fun h1301 => ?_)
        · refine OK_gd (fun g1302 => ?_)
          refine OK_st 20 okX10_takeNumber (S' := (42, [(0, .ref 49), (1, .int v1), (2, .int v2)], [], hp (va_up (va_up I1298 29 ((((10 : Int32) * (I1298 29)) + ((F1299 48) (I1298 28).toNatClampNeg)) - (48 : Int32))) 28 ((I1298 28) + (1 : Int32))) F1299)) rfl ⟨trivial, trivial, trivial, trivial, trivial, trivial, trivial, trivial, (ab_vo g1302), trivial, trivial, trivial, trivial, trivial, rfl, trivial, trivial, trivial, trivial, trivial, trivial⟩ ?_
          refine OK_lt (fun I1303 => (42, [(0, .ref 49), (1, .int v1), (2, .int v2)], [], hp I1303 F1299)) (fun I1303 => ?_)
          exact ih  I1303 F1299
        · refine OK_st 11 okX10_takeNumber (S' := (42, [(0, .ref 49), (1, .int v1), (2, .int v2)], [], hp (va_up (va_up I1298 29 (I1298 29)) 28 ((I1298 28) + (1 : Int32))) F1299)) rfl ⟨trivial, trivial, trivial, trivial, trivial, rfl, trivial, trivial, trivial, trivial, trivial, trivial⟩ ?_
          refine OK_lt (fun I1304 => (42, [(0, .ref 49), (1, .int v1), (2, .int v2)], [], hp I1304 F1299)) (fun I1304 => ?_)
          exact ih  I1304 F1299

def f_X10_takeNumber_j129 (v1 : Int32) (v2 : Int32) (I : AI) (F : AF) : AQ :=
  if (3 : Int32) < ((I 28) - (I 30)) then
    ab_bd (f_X10_fails (2 : Int32) (I 30) I F) (fun r1308 I1309 F1310 =>
      some (r1308, I1309, F1310))
  else
    ab_bd (f_X10_in ((I 29).toInt64) v1.toInt64 v2.toInt64 I F) (fun r1311 I1312 F1313 =>
      if ¬ r1311 = 0 then
        some ((0 : Int32), I1312, F1313)
      else
        ab_bd (f_X10_fails (2 : Int32) (I1312 30) I1312 F1313) (fun r1315 I1316 F1317 =>
          some (r1315, I1316, F1317)))
set_option maxRecDepth 20000 in
set_option maxHeartbeats 4000000 in
theorem kf_X10_takeNumber_j129 (v1 : Int32) (v2 : Int32) (I : AI) (F : AF) : OK 1 mX10_takeNumber true (f_X10_takeNumber_j129 v1 v2 I F) (129, [(0, .ref 49), (1, .int v1), (2, .int v2)], [], hp I F) := by
  rw [f_X10_takeNumber_j129]
  refine OK_st 7 okX10_takeNumber (S' := ((if (3 : Int32) < ((I 28) - (I 30)) then 157 else 142), [(0, .ref 49), (1, .int v1), (2, .int v2)], [], hp I F)) rfl ⟨trivial, trivial, trivial, trivial, trivial, trivial, trivial, trivial⟩ ?_
  refine OK_if (fun h1307 => ?_) (fun h1307 => ?_)
  · refine OK_st 4 okX10_takeNumber (S' := (163, [(0, .ref 49), (1, .int v1), (2, .int v2)], [.int (I 30), .int (2 : Int32), .ref 49], hp I F)) rfl ⟨trivial, trivial, trivial, trivial, trivial⟩ ?_
    refine OK_cv [.int (2 : Int32), .int (I 30)] [] okX10_takeNumber okX10_fails rfl rfl cl_RX10_128 rfl rfl (Nat.le_of_ble_eq_true rfl) (by decide) (Nat.le_of_ble_eq_true rfl) (kf_X10_fails (2 : Int32) (I 30) I F) (fun r1308 I1309 F1310 => ?_)
    refine OK_st 1 okX10_takeNumber (S' := (170, [(0, .ref 49), (1, .int v1), (2, .int v2)], [.int r1308], hp I1309 F1310)) rfl ⟨trivial, trivial⟩ ?_
    exact OK_ri okX10_takeNumber rfl rfl (Or.inl rfl)
  · refine OK_st 7 okX10_takeNumber (S' := (151, [(0, .ref 49), (1, .int v1), (2, .int v2)], [.long v2.toInt64, .long v1.toInt64, .long (I 29).toInt64], hp I F)) rfl ⟨trivial, trivial, trivial, trivial, trivial, trivial, trivial, trivial⟩ ?_
    refine OK_cs [.long (I 29).toInt64, .long v1.toInt64, .long v2.toInt64] [] okX10_takeNumber okX10_in rfl rfl cl_RX10_102 (Nat.le_of_ble_eq_true rfl) (by decide) (Nat.le_of_ble_eq_true rfl) (kf_X10_in ((I 29).toInt64) v1.toInt64 v2.toInt64 I F) (fun r1311 I1312 F1313 => ?_)
    refine OK_st 1 okX10_takeNumber (S' := ((if ¬ r1311 = 0 then 169 else 157), [(0, .ref 49), (1, .int v1), (2, .int v2)], [], hp I1312 F1313)) rfl ⟨trivial, trivial⟩ ?_
    refine OK_if (fun h1314 => ?_) (fun h1314 => ?_)
    · refine OK_st 1 okX10_takeNumber (S' := (170, [(0, .ref 49), (1, .int v1), (2, .int v2)], [.int (0 : Int32)], hp I1312 F1313)) rfl ⟨trivial, trivial⟩ ?_
      exact OK_ri okX10_takeNumber rfl rfl (Or.inl rfl)
    · refine OK_st 4 okX10_takeNumber (S' := (163, [(0, .ref 49), (1, .int v1), (2, .int v2)], [.int (I1312 30), .int (2 : Int32), .ref 49], hp I1312 F1313)) rfl ⟨trivial, trivial, trivial, trivial, trivial⟩ ?_
      refine OK_cv [.int (2 : Int32), .int (I1312 30)] [] okX10_takeNumber okX10_fails rfl rfl cl_RX10_128 rfl rfl (Nat.le_of_ble_eq_true rfl) (by decide) (Nat.le_of_ble_eq_true rfl) (kf_X10_fails (2 : Int32) (I1312 30) I1312 F1313) (fun r1315 I1316 F1317 => ?_)
      refine OK_st 1 okX10_takeNumber (S' := (170, [(0, .ref 49), (1, .int v1), (2, .int v2)], [.int r1315], hp I1316 F1317)) rfl ⟨trivial, trivial⟩ ?_
      exact OK_ri okX10_takeNumber rfl rfl (Or.inl rfl)

def f_X10_takeNumber (v1 : Int32) (v2 : Int32) (I : AI) (F : AF) : AQ :=
  ab_bd (f_X10_here I F) (fun r1287 I1288 F1289 =>
    ab_bd (f_X10_in r1287.toInt64 (48 : Int64) (57 : Int64) I1288 F1289) (fun r1290 I1291 F1292 =>
      if ¬ r1290 = 0 then
        ab_lt (va_up (va_up I1291 30 (I1291 28)) 29 (0 : Int32)) (fun I1294 =>
          f_X10_takeNumber_42 v1 v2 (fun  I1305 F1306 =>
            f_X10_takeNumber_j129 v1 v2 I1305 F1306) ab_fu  I1294 F1292)
      else
        ab_bd (f_X10_fails (1 : Int32) (I1291 28) I1291 F1292) (fun r1318 I1319 F1320 =>
          some (r1318, I1319, F1320))))
set_option maxRecDepth 20000 in
set_option maxHeartbeats 4000000 in
theorem kf_X10_takeNumber (v1 : Int32) (v2 : Int32) (I : AI) (F : AF) : OK 1 mX10_takeNumber true (f_X10_takeNumber v1 v2 I F) (0, [(0, .ref 49), (1, .int v1), (2, .int v2)], [], hp I F) := by
  rw [f_X10_takeNumber]
  refine OK_st 1 okX10_takeNumber (S' := (1, [(0, .ref 49), (1, .int v1), (2, .int v2)], [.ref 49], hp I F)) rfl ⟨trivial, trivial⟩ ?_
  refine OK_cv [] [] okX10_takeNumber okX10_here rfl rfl cl_RX10_120 rfl rfl (Nat.le_of_ble_eq_true rfl) (by decide) (Nat.le_of_ble_eq_true rfl) (kf_X10_here I F) (fun r1287 I1288 F1289 => ?_)
  refine OK_st 5 okX10_takeNumber (S' := (13, [(3, .int r1287), (0, .ref 49), (1, .int v1), (2, .int v2)], [.long (57 : Int64), .long (48 : Int64), .long r1287.toInt64], hp I1288 F1289)) rfl ⟨(by decide), trivial, trivial, trivial, trivial, trivial⟩ ?_
  refine OK_cs [.long r1287.toInt64, .long (48 : Int64), .long (57 : Int64)] [] okX10_takeNumber okX10_in rfl rfl cl_RX10_102 (Nat.le_of_ble_eq_true rfl) (by decide) (Nat.le_of_ble_eq_true rfl) (kf_X10_in r1287.toInt64 (48 : Int64) (57 : Int64) I1288 F1289) (fun r1290 I1291 F1292 => ?_)
  refine OK_st 1 okX10_takeNumber (S' := ((if ¬ r1290 = 0 then 29 else 19), [(3, .int r1287), (0, .ref 49), (1, .int v1), (2, .int v2)], [], hp I1291 F1292)) rfl ⟨trivial, trivial⟩ ?_
  refine OK_if (fun h1293 => ?_) (fun h1293 => ?_)
  · refine OK_st 7 okX10_takeNumber (S' := (42, [(3, .int r1287), (0, .ref 49), (1, .int v1), (2, .int v2)], [], hp (va_up (va_up I1291 30 (I1291 28)) 29 (0 : Int32)) F1292)) rfl ⟨trivial, trivial, trivial, trivial, trivial, trivial, trivial, trivial⟩ ?_
    refine OK_lt (fun I1294 => (42, [(3, .int r1287), (0, .ref 49), (1, .int v1), (2, .int v2)], [], hp I1294 F1292)) (fun I1294 => ?_)
    refine OK_pk [1, 2, 3] rfl ?_
    refine kf_X10_takeNumber_42 v1 v2 _ (fun  I1305 F1306 => ?_) ab_fu  I1294 F1292
    exact kf_X10_takeNumber_j129 v1 v2 I1305 F1306
  · refine OK_st 4 okX10_takeNumber (S' := (25, [(3, .int r1287), (0, .ref 49), (1, .int v1), (2, .int v2)], [.int (I1291 28), .int (1 : Int32), .ref 49], hp I1291 F1292)) rfl ⟨trivial, trivial, trivial, trivial, trivial⟩ ?_
    refine OK_cv [.int (1 : Int32), .int (I1291 28)] [] okX10_takeNumber okX10_fails rfl rfl cl_RX10_128 rfl rfl (Nat.le_of_ble_eq_true rfl) (by decide) (Nat.le_of_ble_eq_true rfl) (kf_X10_fails (1 : Int32) (I1291 28) I1291 F1292) (fun r1318 I1319 F1320 => ?_)
    exact OK_ri okX10_takeNumber rfl rfl (Or.inl rfl)

def f_X10_takeHeir_j59 (v2 : Int32) (s0 : Int32) (I : AI) (F : AF) : AQ :=
  if ¬ s0 = 0 then
    if ¬ s0 = 0 then
      some (s0, I, F)
    else
      bif ab_vin v2 6 then
        some (s0, I, (va_up F 51 (upd (F 51) v2.toNatClampNeg (I 29))))
      else none
  else
    if ¬ (I 29) = v2 then
      if ¬ s0 = 0 then
        some (s0, I, F)
      else
        bif ab_vin v2 6 then
          some (s0, I, (va_up F 51 (upd (F 51) v2.toNatClampNeg (I 29))))
        else none
    else
      ab_bd (f_X10_fails (4 : Int32) (I 30) I F) (fun r1335 I1336 F1337 =>
        some (r1335, I1336, F1337))
set_option maxRecDepth 20000 in
set_option maxHeartbeats 4000000 in
theorem kf_X10_takeHeir_j59 (v2 : Int32) (s0 : Int32) (I : AI) (F : AF) : OK 2 mX10_takeHeir true (f_X10_takeHeir_j59 v2 s0 I F) (59, [(0, .ref 49), (2, .int v2)], [.int s0], hp I F) := by
  rw [f_X10_takeHeir_j59]
  refine OK_st 3 okX10_takeHeir (S' := ((if ¬ s0 = 0 then 82 else 64), [(1, .int s0), (0, .ref 49), (2, .int v2)], [], hp I F)) rfl ⟨(by decide), trivial, trivial, trivial⟩ ?_
  refine OK_if (fun h1329 => ?_) (fun h1329 => ?_)
  · refine OK_st 2 okX10_takeHeir (S' := ((if ¬ s0 = 0 then 96 else 86), [(1, .int s0), (0, .ref 49), (2, .int v2)], [], hp I F)) rfl ⟨trivial, trivial, trivial⟩ ?_
    refine OK_if (fun h1330 => ?_) (fun h1330 => ?_)
    · refine OK_st 1 okX10_takeHeir (S' := (97, [(1, .int s0), (0, .ref 49), (2, .int v2)], [.int s0], hp I F)) rfl ⟨trivial, trivial⟩ ?_
      exact OK_ri okX10_takeHeir rfl rfl (Or.inl rfl)
    · refine OK_gd (fun g1331 => ?_)
      refine OK_st 7 okX10_takeHeir (S' := (97, [(1, .int s0), (0, .ref 49), (2, .int v2)], [.int s0], hp I (va_up F 51 (upd (F 51) v2.toNatClampNeg (I 29))))) rfl ⟨trivial, trivial, trivial, trivial, trivial, (ab_vo g1331), trivial, trivial⟩ ?_
      exact OK_ri okX10_takeHeir rfl rfl (Or.inl rfl)
  · refine OK_st 4 okX10_takeHeir (S' := ((if ¬ (I 29) = v2 then 82 else 72), [(1, .int s0), (0, .ref 49), (2, .int v2)], [], hp I F)) rfl ⟨trivial, trivial, trivial, trivial, trivial⟩ ?_
    refine OK_if (fun h1332 => ?_) (fun h1332 => ?_)
    · refine OK_st 2 okX10_takeHeir (S' := ((if ¬ s0 = 0 then 96 else 86), [(1, .int s0), (0, .ref 49), (2, .int v2)], [], hp I F)) rfl ⟨trivial, trivial, trivial⟩ ?_
      refine OK_if (fun h1333 => ?_) (fun h1333 => ?_)
      · refine OK_st 1 okX10_takeHeir (S' := (97, [(1, .int s0), (0, .ref 49), (2, .int v2)], [.int s0], hp I F)) rfl ⟨trivial, trivial⟩ ?_
        exact OK_ri okX10_takeHeir rfl rfl (Or.inl rfl)
      · refine OK_gd (fun g1334 => ?_)
        refine OK_st 7 okX10_takeHeir (S' := (97, [(1, .int s0), (0, .ref 49), (2, .int v2)], [.int s0], hp I (va_up F 51 (upd (F 51) v2.toNatClampNeg (I 29))))) rfl ⟨trivial, trivial, trivial, trivial, trivial, (ab_vo g1334), trivial, trivial⟩ ?_
        exact OK_ri okX10_takeHeir rfl rfl (Or.inl rfl)
    · refine OK_st 4 okX10_takeHeir (S' := (78, [(1, .int s0), (0, .ref 49), (2, .int v2)], [.int (I 30), .int (4 : Int32), .ref 49], hp I F)) rfl ⟨trivial, trivial, trivial, trivial, trivial⟩ ?_
      refine OK_cv [.int (4 : Int32), .int (I 30)] [] okX10_takeHeir okX10_fails rfl rfl cl_RX10_128 rfl rfl (Nat.le_of_ble_eq_true rfl) (by decide) (Nat.le_of_ble_eq_true rfl) (kf_X10_fails (4 : Int32) (I 30) I F) (fun r1335 I1336 F1337 => ?_)
      exact OK_ri okX10_takeHeir rfl rfl (Or.inl rfl)

def f_X10_takeHeir_j40 (v1 : Int32) (v2 : Int32) (I : AI) (F : AF) : AQ :=
  if v1 ≤ 0 then
    ab_bd (f_X10_takeNumber (0 : Int32) ((I 31) - (1 : Int32)) I F) (fun r1326 I1327 F1328 =>
      f_X10_takeHeir_j59 v2 r1326 I1327 F1328)
  else
    f_X10_takeHeir_j59 v2 v1 I F
set_option maxRecDepth 20000 in
set_option maxHeartbeats 4000000 in
theorem kf_X10_takeHeir_j40 (v1 : Int32) (v2 : Int32) (I : AI) (F : AF) : OK 2 mX10_takeHeir true (f_X10_takeHeir_j40 v1 v2 I F) (40, [(0, .ref 49), (1, .int v1), (2, .int v2)], [], hp I F) := by
  rw [f_X10_takeHeir_j40]
  refine OK_st 2 okX10_takeHeir (S' := ((if v1 ≤ 0 then 48 else 44), [(0, .ref 49), (1, .int v1), (2, .int v2)], [], hp I F)) rfl ⟨trivial, trivial, trivial⟩ ?_
  refine OK_if (fun h1325 => ?_) (fun h1325 => ?_)
  · refine OK_st 6 okX10_takeHeir (S' := (56, [(0, .ref 49), (1, .int v1), (2, .int v2)], [.int ((I 31) - (1 : Int32)), .int (0 : Int32), .ref 49], hp I F)) rfl ⟨trivial, trivial, trivial, trivial, trivial, trivial, trivial⟩ ?_
    refine OK_cv [.int (0 : Int32), .int ((I 31) - (1 : Int32))] [] okX10_takeHeir okX10_takeNumber rfl rfl cl_RX10_138 rfl rfl (Nat.le_of_ble_eq_true rfl) (by decide) (Nat.le_of_ble_eq_true rfl) (kf_X10_takeNumber (0 : Int32) ((I 31) - (1 : Int32)) I F) (fun r1326 I1327 F1328 => ?_)
    refine OK_pk [0, 2] rfl ?_
    exact kf_X10_takeHeir_j59 v2 r1326 I1327 F1328
  · refine OK_st 2 okX10_takeHeir (S' := (59, [(0, .ref 49), (1, .int v1), (2, .int v2)], [.int v1], hp I F)) rfl ⟨trivial, trivial, trivial⟩ ?_
    refine OK_pk [0, 2] rfl ?_
    exact kf_X10_takeHeir_j59 v2 v1 I F

def f_X10_takeHeir (I : AI) (F : AF) : AQ :=
  ab_bd (f_X10_takeNumber (0 : Int32) ((I 31) - (1 : Int32)) I F) (fun r1321 I1322 F1323 =>
    if ¬ r1321 = 0 then
      f_X10_takeHeir_j40 r1321 (I1322 29) I1322 F1323
    else
      bif ab_vin (I1322 29) 6 then
        if ((F1323 51) (I1322 29).toNatClampNeg) < 0 then
          f_X10_takeHeir_j40 r1321 (I1322 29) I1322 F1323
        else
          ab_bd (f_X10_fails (4 : Int32) (I1322 30) I1322 F1323) (fun r1340 I1341 F1342 =>
            some (r1340, I1341, F1342))
      else none)
set_option maxRecDepth 20000 in
set_option maxHeartbeats 4000000 in
theorem kf_X10_takeHeir (I : AI) (F : AF) : OK 2 mX10_takeHeir true (f_X10_takeHeir I F) (0, [(0, .ref 49)], [], hp I F) := by
  rw [f_X10_takeHeir]
  refine OK_st 6 okX10_takeHeir (S' := (8, [(0, .ref 49)], [.int ((I 31) - (1 : Int32)), .int (0 : Int32), .ref 49], hp I F)) rfl ⟨trivial, trivial, trivial, trivial, trivial, trivial, trivial⟩ ?_
  refine OK_cv [.int (0 : Int32), .int ((I 31) - (1 : Int32))] [] okX10_takeHeir okX10_takeNumber rfl rfl cl_RX10_138 rfl rfl (Nat.le_of_ble_eq_true rfl) (by decide) (Nat.le_of_ble_eq_true rfl) (kf_X10_takeNumber (0 : Int32) ((I 31) - (1 : Int32)) I F) (fun r1321 I1322 F1323 => ?_)
  refine OK_st 6 okX10_takeHeir (S' := ((if ¬ r1321 = 0 then 40 else 21), [(2, .int (I1322 29)), (1, .int r1321), (0, .ref 49)], [], hp I1322 F1323)) rfl ⟨(by decide), trivial, trivial, (by decide), trivial, trivial, trivial⟩ ?_
  refine OK_if (fun h1324 => ?_) (fun h1324 => ?_)
  · refine OK_pk [2, 1, 0] rfl ?_
    exact kf_X10_takeHeir_j40 r1321 (I1322 29) I1322 F1323
  · refine OK_gd (fun g1338 => ?_)
    refine OK_st 5 okX10_takeHeir (S' := ((if ((F1323 51) (I1322 29).toNatClampNeg) < 0 then 40 else 30), [(2, .int (I1322 29)), (1, .int r1321), (0, .ref 49)], [], hp I1322 F1323)) rfl ⟨trivial, trivial, trivial, (ab_vo g1338), trivial, trivial⟩ ?_
    refine OK_if (fun h1339 => ?_) (fun h1339 => ?_)
    · refine OK_pk [2, 1, 0] rfl ?_
      exact kf_X10_takeHeir_j40 r1321 (I1322 29) I1322 F1323
    · refine OK_st 4 okX10_takeHeir (S' := (36, [(2, .int (I1322 29)), (1, .int r1321), (0, .ref 49)], [.int (I1322 30), .int (4 : Int32), .ref 49], hp I1322 F1323)) rfl ⟨trivial, trivial, trivial, trivial, trivial⟩ ?_
      refine OK_cv [.int (4 : Int32), .int (I1322 30)] [] okX10_takeHeir okX10_fails rfl rfl cl_RX10_128 rfl rfl (Nat.le_of_ble_eq_true rfl) (by decide) (Nat.le_of_ble_eq_true rfl) (kf_X10_fails (4 : Int32) (I1322 30) I1322 F1323) (fun r1340 I1341 F1342 => ?_)
      exact OK_ri okX10_takeHeir rfl rfl (Or.inl rfl)

def f_X10_takeClause_j198 (s0 : Int32) (I : AI) (F : AF) : AQ :=
  if ¬ s0 = 0 then
    some (s0, (va_up I 28 ((I 28) + (1 : Int32))), F)
  else
    ab_bd (f_X10_here I F) (fun r1347 I1348 F1349 =>
      if r1347 = (59 : Int32) then
        some (s0, (va_up I1348 28 ((I1348 28) + (1 : Int32))), F1349)
      else
        ab_bd (f_X10_fails (1 : Int32) (I1348 28) I1348 F1349) (fun r1351 I1352 F1353 =>
          some (r1351, I1352, F1353)))
set_option maxRecDepth 20000 in
set_option maxHeartbeats 4000000 in
theorem kf_X10_takeClause_j198 (s0 : Int32) (I : AI) (F : AF) : OK 4 mX10_takeClause true (f_X10_takeClause_j198 s0 I F) (198, [(0, .ref 49)], [.int s0], hp I F) := by
  rw [f_X10_takeClause_j198]
  refine OK_st 3 okX10_takeClause (S' := ((if ¬ s0 = 0 then 224 else 205), [(4, .int s0), (0, .ref 49)], [], hp I F)) rfl ⟨(by decide), trivial, trivial, trivial⟩ ?_
  refine OK_if (fun h1346 => ?_) (fun h1346 => ?_)
  · refine OK_st 7 okX10_takeClause (S' := (236, [(4, .int s0), (0, .ref 49)], [.int s0], hp (va_up I 28 ((I 28) + (1 : Int32))) F)) rfl ⟨trivial, rfl, trivial, trivial, trivial, trivial, trivial, trivial⟩ ?_
    exact OK_ri okX10_takeClause rfl rfl (Or.inl rfl)
  · refine OK_st 1 okX10_takeClause (S' := (206, [(4, .int s0), (0, .ref 49)], [.ref 49], hp I F)) rfl ⟨trivial, trivial⟩ ?_
    refine OK_cv [] [] okX10_takeClause okX10_here rfl rfl cl_RX10_120 rfl rfl (Nat.le_of_ble_eq_true rfl) (by decide) (Nat.le_of_ble_eq_true rfl) (kf_X10_here I F) (fun r1347 I1348 F1349 => ?_)
    refine OK_st 2 okX10_takeClause (S' := ((if r1347 = (59 : Int32) then 224 else 214), [(4, .int s0), (0, .ref 49)], [], hp I1348 F1349)) rfl ⟨trivial, trivial, trivial⟩ ?_
    refine OK_if (fun h1350 => ?_) (fun h1350 => ?_)
    · refine OK_st 7 okX10_takeClause (S' := (236, [(4, .int s0), (0, .ref 49)], [.int s0], hp (va_up I1348 28 ((I1348 28) + (1 : Int32))) F1349)) rfl ⟨trivial, rfl, trivial, trivial, trivial, trivial, trivial, trivial⟩ ?_
      exact OK_ri okX10_takeClause rfl rfl (Or.inl rfl)
    · refine OK_st 4 okX10_takeClause (S' := (220, [(4, .int s0), (0, .ref 49)], [.int (I1348 28), .int (1 : Int32), .ref 49], hp I1348 F1349)) rfl ⟨trivial, trivial, trivial, trivial, trivial⟩ ?_
      refine OK_cv [.int (1 : Int32), .int (I1348 28)] [] okX10_takeClause okX10_fails rfl rfl cl_RX10_128 rfl rfl (Nat.le_of_ble_eq_true rfl) (by decide) (Nat.le_of_ble_eq_true rfl) (kf_X10_fails (1 : Int32) (I1348 28) I1348 F1349) (fun r1351 I1352 F1353 => ?_)
      exact OK_ri okX10_takeClause rfl rfl (Or.inl rfl)

def f_X10_into (v2 : Int32) (v3 : Int32) (v4 : Int32) (I : AI) (F : AF) : AQ :=
  ab_bd (f_X10_takeNumber v3 v4 I F) (fun r1355 I1356 F1357 =>
    bif ab_vin v2 8 then
      some (r1355, I1356, (va_up F1357 55 (upd (F1357 55) v2.toNatClampNeg (I1356 29))))
    else none)
set_option maxRecDepth 20000 in
set_option maxHeartbeats 4000000 in
theorem kf_X10_into (v2 : Int32) (v3 : Int32) (v4 : Int32) (I : AI) (F : AF) : OK 2 mX10_into true (f_X10_into v2 v3 v4 I F) (0, [(0, .ref 49), (1, .ref 67), (2, .int v2), (3, .int v3), (4, .int v4)], [], hp I F) := by
  rw [f_X10_into]
  refine OK_st 3 okX10_into (S' := (4, [(0, .ref 49), (1, .ref 67), (2, .int v2), (3, .int v3), (4, .int v4)], [.int v4, .int v3, .ref 49], hp I F)) rfl ⟨trivial, trivial, trivial, trivial⟩ ?_
  refine OK_cv [.int v3, .int v4] [] okX10_into okX10_takeNumber rfl rfl cl_RX10_138 rfl rfl (Nat.le_of_ble_eq_true rfl) (by decide) (Nat.le_of_ble_eq_true rfl) (kf_X10_takeNumber v3 v4 I F) (fun r1355 I1356 F1357 => ?_)
  refine OK_gd (fun g1358 => ?_)
  refine OK_st 7 okX10_into (S' := (18, [(5, .int r1355), (0, .ref 49), (1, .ref 67), (2, .int v2), (3, .int v3), (4, .int v4)], [.int r1355], hp I1356 (va_up F1357 55 (upd (F1357 55) v2.toNatClampNeg (I1356 29))))) rfl ⟨(by decide), trivial, trivial, trivial, trivial, (ab_vo g1358), trivial, trivial⟩ ?_
  exact OK_ri okX10_into rfl rfl (Or.inl rfl)

def f_X10_into_s1 (v2 : Int32) (v3 : Int32) (v4 : Int32) (I : AI) (F : AF) : AQ :=
  ab_bd (f_X10_takeNumber v3 v4 I F) (fun r1363 I1364 F1365 =>
    bif ab_vin v2 8 then
      some (r1363, I1364, (va_up F1365 56 (upd (F1365 56) v2.toNatClampNeg (I1364 29))))
    else none)
set_option maxRecDepth 20000 in
set_option maxHeartbeats 4000000 in
theorem kf_X10_into_s1 (v2 : Int32) (v3 : Int32) (v4 : Int32) (I : AI) (F : AF) : OK 2 mX10_into true (f_X10_into_s1 v2 v3 v4 I F) (0, [(0, .ref 49), (1, .ref 68), (2, .int v2), (3, .int v3), (4, .int v4)], [], hp I F) := by
  rw [f_X10_into_s1]
  refine OK_st 3 okX10_into (S' := (4, [(0, .ref 49), (1, .ref 68), (2, .int v2), (3, .int v3), (4, .int v4)], [.int v4, .int v3, .ref 49], hp I F)) rfl ⟨trivial, trivial, trivial, trivial⟩ ?_
  refine OK_cv [.int v3, .int v4] [] okX10_into okX10_takeNumber rfl rfl cl_RX10_138 rfl rfl (Nat.le_of_ble_eq_true rfl) (by decide) (Nat.le_of_ble_eq_true rfl) (kf_X10_takeNumber v3 v4 I F) (fun r1363 I1364 F1365 => ?_)
  refine OK_gd (fun g1366 => ?_)
  refine OK_st 7 okX10_into (S' := (18, [(5, .int r1363), (0, .ref 49), (1, .ref 68), (2, .int v2), (3, .int v3), (4, .int v4)], [.int r1363], hp I1364 (va_up F1365 56 (upd (F1365 56) v2.toNatClampNeg (I1364 29))))) rfl ⟨(by decide), trivial, trivial, trivial, trivial, (ab_vo g1366), trivial, trivial⟩ ?_
  exact OK_ri okX10_into rfl rfl (Or.inl rfl)

def f_X10_into_s2 (v2 : Int32) (v3 : Int32) (v4 : Int32) (I : AI) (F : AF) : AQ :=
  ab_bd (f_X10_takeNumber v3 v4 I F) (fun r1372 I1373 F1374 =>
    bif ab_vin v2 8 then
      some (r1372, I1373, (va_up F1374 57 (upd (F1374 57) v2.toNatClampNeg (I1373 29))))
    else none)
set_option maxRecDepth 20000 in
set_option maxHeartbeats 4000000 in
theorem kf_X10_into_s2 (v2 : Int32) (v3 : Int32) (v4 : Int32) (I : AI) (F : AF) : OK 2 mX10_into true (f_X10_into_s2 v2 v3 v4 I F) (0, [(0, .ref 49), (1, .ref 69), (2, .int v2), (3, .int v3), (4, .int v4)], [], hp I F) := by
  rw [f_X10_into_s2]
  refine OK_st 3 okX10_into (S' := (4, [(0, .ref 49), (1, .ref 69), (2, .int v2), (3, .int v3), (4, .int v4)], [.int v4, .int v3, .ref 49], hp I F)) rfl ⟨trivial, trivial, trivial, trivial⟩ ?_
  refine OK_cv [.int v3, .int v4] [] okX10_into okX10_takeNumber rfl rfl cl_RX10_138 rfl rfl (Nat.le_of_ble_eq_true rfl) (by decide) (Nat.le_of_ble_eq_true rfl) (kf_X10_takeNumber v3 v4 I F) (fun r1372 I1373 F1374 => ?_)
  refine OK_gd (fun g1375 => ?_)
  refine OK_st 7 okX10_into (S' := (18, [(5, .int r1372), (0, .ref 49), (1, .ref 69), (2, .int v2), (3, .int v3), (4, .int v4)], [.int r1372], hp I1373 (va_up F1374 57 (upd (F1374 57) v2.toNatClampNeg (I1373 29))))) rfl ⟨(by decide), trivial, trivial, trivial, trivial, (ab_vo g1375), trivial, trivial⟩ ?_
  exact OK_ri okX10_into rfl rfl (Or.inl rfl)

def f_X10_into_s3 (v2 : Int32) (v3 : Int32) (v4 : Int32) (I : AI) (F : AF) : AQ :=
  ab_bd (f_X10_takeNumber v3 v4 I F) (fun r1380 I1381 F1382 =>
    bif ab_vin v2 8 then
      some (r1380, I1381, (va_up F1382 58 (upd (F1382 58) v2.toNatClampNeg (I1381 29))))
    else none)
set_option maxRecDepth 20000 in
set_option maxHeartbeats 4000000 in
theorem kf_X10_into_s3 (v2 : Int32) (v3 : Int32) (v4 : Int32) (I : AI) (F : AF) : OK 2 mX10_into true (f_X10_into_s3 v2 v3 v4 I F) (0, [(0, .ref 49), (1, .ref 70), (2, .int v2), (3, .int v3), (4, .int v4)], [], hp I F) := by
  rw [f_X10_into_s3]
  refine OK_st 3 okX10_into (S' := (4, [(0, .ref 49), (1, .ref 70), (2, .int v2), (3, .int v3), (4, .int v4)], [.int v4, .int v3, .ref 49], hp I F)) rfl ⟨trivial, trivial, trivial, trivial⟩ ?_
  refine OK_cv [.int v3, .int v4] [] okX10_into okX10_takeNumber rfl rfl cl_RX10_138 rfl rfl (Nat.le_of_ble_eq_true rfl) (by decide) (Nat.le_of_ble_eq_true rfl) (kf_X10_takeNumber v3 v4 I F) (fun r1380 I1381 F1382 => ?_)
  refine OK_gd (fun g1383 => ?_)
  refine OK_st 7 okX10_into (S' := (18, [(5, .int r1380), (0, .ref 49), (1, .ref 70), (2, .int v2), (3, .int v3), (4, .int v4)], [.int r1380], hp I1381 (va_up F1382 58 (upd (F1382 58) v2.toNatClampNeg (I1381 29))))) rfl ⟨(by decide), trivial, trivial, trivial, trivial, (ab_vo g1383), trivial, trivial⟩ ?_
  exact OK_ri okX10_into rfl rfl (Or.inl rfl)

def f_X10_takeRate_j86 (v1 : Int32) (v2 : Int32) (I : AI) (F : AF) : AQ :=
  if v2 ≤ 0 then
    ab_bd (f_X10_into_s2 v1 (1 : Int32) (20 : Int32) I F) (fun r1376 I1377 F1378 =>
      if r1376 ≤ 0 then
        ab_bd (f_X10_into_s3 v1 (1 : Int32) (20 : Int32) I1377 F1378) (fun r1384 I1385 F1386 =>
          some (r1384, I1385, F1386))
      else
        some (r1376, I1377, F1378))
  else
    if v2 ≤ 0 then
      ab_bd (f_X10_into_s3 v1 (1 : Int32) (20 : Int32) I F) (fun r1388 I1389 F1390 =>
        some (r1388, I1389, F1390))
    else
      some (v2, I, F)
set_option maxRecDepth 20000 in
set_option maxHeartbeats 4000000 in
theorem kf_X10_takeRate_j86 (v1 : Int32) (v2 : Int32) (I : AI) (F : AF) : OK 3 mX10_takeRate true (f_X10_takeRate_j86 v1 v2 I F) (86, [(0, .ref 49), (1, .int v1), (2, .int v2)], [], hp I F) := by
  rw [f_X10_takeRate_j86]
  refine OK_st 2 okX10_takeRate (S' := ((if v2 ≤ 0 then 94 else 90), [(0, .ref 49), (1, .int v1), (2, .int v2)], [], hp I F)) rfl ⟨trivial, trivial, trivial⟩ ?_
  refine OK_if (fun h1371 => ?_) (fun h1371 => ?_)
  · refine OK_st 6 okX10_takeRate (S' := (103, [(0, .ref 49), (1, .int v1), (2, .int v2)], [.int (20 : Int32), .int (1 : Int32), .int v1, .ref 69, .ref 49], hp I F)) rfl ⟨trivial, trivial, trivial, trivial, trivial, trivial, trivial⟩ ?_
    refine OK_cv [.ref 69, .int v1, .int (1 : Int32), .int (20 : Int32)] [] okX10_takeRate okX10_into rfl rfl cl_RX10_144 rfl rfl (Nat.le_of_ble_eq_true rfl) (by decide) (Nat.le_of_ble_eq_true rfl) (kf_X10_into_s2 v1 (1 : Int32) (20 : Int32) I F) (fun r1376 I1377 F1378 => ?_)
    refine OK_st 3 okX10_takeRate (S' := ((if r1376 ≤ 0 then 115 else 111), [(2, .int r1376), (0, .ref 49), (1, .int v1)], [], hp I1377 F1378)) rfl ⟨(by decide), trivial, trivial, trivial⟩ ?_
    refine OK_if (fun h1379 => ?_) (fun h1379 => ?_)
    · refine OK_st 6 okX10_takeRate (S' := (124, [(2, .int r1376), (0, .ref 49), (1, .int v1)], [.int (20 : Int32), .int (1 : Int32), .int v1, .ref 70, .ref 49], hp I1377 F1378)) rfl ⟨trivial, trivial, trivial, trivial, trivial, trivial, trivial⟩ ?_
      refine OK_cv [.ref 70, .int v1, .int (1 : Int32), .int (20 : Int32)] [] okX10_takeRate okX10_into rfl rfl cl_RX10_144 rfl rfl (Nat.le_of_ble_eq_true rfl) (by decide) (Nat.le_of_ble_eq_true rfl) (kf_X10_into_s3 v1 (1 : Int32) (20 : Int32) I1377 F1378) (fun r1384 I1385 F1386 => ?_)
      exact OK_ri okX10_takeRate rfl rfl (Or.inl rfl)
    · refine OK_st 2 okX10_takeRate (S' := (127, [(2, .int r1376), (0, .ref 49), (1, .int v1)], [.int r1376], hp I1377 F1378)) rfl ⟨trivial, trivial, trivial⟩ ?_
      exact OK_ri okX10_takeRate rfl rfl (Or.inl rfl)
  · refine OK_st 5 okX10_takeRate (S' := ((if v2 ≤ 0 then 115 else 111), [(2, .int v2), (0, .ref 49), (1, .int v1)], [], hp I F)) rfl ⟨trivial, trivial, (by decide), trivial, trivial, trivial⟩ ?_
    refine OK_if (fun h1387 => ?_) (fun h1387 => ?_)
    · refine OK_st 6 okX10_takeRate (S' := (124, [(2, .int v2), (0, .ref 49), (1, .int v1)], [.int (20 : Int32), .int (1 : Int32), .int v1, .ref 70, .ref 49], hp I F)) rfl ⟨trivial, trivial, trivial, trivial, trivial, trivial, trivial⟩ ?_
      refine OK_cv [.ref 70, .int v1, .int (1 : Int32), .int (20 : Int32)] [] okX10_takeRate okX10_into rfl rfl cl_RX10_144 rfl rfl (Nat.le_of_ble_eq_true rfl) (by decide) (Nat.le_of_ble_eq_true rfl) (kf_X10_into_s3 v1 (1 : Int32) (20 : Int32) I F) (fun r1388 I1389 F1390 => ?_)
      exact OK_ri okX10_takeRate rfl rfl (Or.inl rfl)
    · refine OK_st 2 okX10_takeRate (S' := (127, [(2, .int v2), (0, .ref 49), (1, .int v1)], [.int v2], hp I F)) rfl ⟨trivial, trivial, trivial⟩ ?_
      exact OK_ri okX10_takeRate rfl rfl (Or.inl rfl)

def f_X10_takeRate_j56 (v1 : Int32) (s0 : Int32) (I : AI) (F : AF) : AQ :=
  if ¬ s0 = 0 then
    f_X10_takeRate_j86 v1 s0 I F
  else
    bif ab_vin v1 8 then
      bif ab_vin v1 8 then
        if ¬ ((F 55) v1.toNatClampNeg) = ((F 56) v1.toNatClampNeg) then
          f_X10_takeRate_j86 v1 s0 I F
        else
          ab_bd (f_X10_fails (4 : Int32) (I 30) I F) (fun r1394 I1395 F1396 =>
            some (r1394, I1395, F1396))
      else none
    else none
set_option maxRecDepth 20000 in
set_option maxHeartbeats 4000000 in
theorem kf_X10_takeRate_j56 (v1 : Int32) (s0 : Int32) (I : AI) (F : AF) : OK 3 mX10_takeRate true (f_X10_takeRate_j56 v1 s0 I F) (56, [(0, .ref 49), (1, .int v1)], [.int s0], hp I F) := by
  rw [f_X10_takeRate_j56]
  refine OK_st 3 okX10_takeRate (S' := ((if ¬ s0 = 0 then 86 else 61), [(2, .int s0), (0, .ref 49), (1, .int v1)], [], hp I F)) rfl ⟨(by decide), trivial, trivial, trivial⟩ ?_
  refine OK_if (fun h1370 => ?_) (fun h1370 => ?_)
  · refine OK_pk [1, 2, 0] rfl ?_
    exact kf_X10_takeRate_j86 v1 s0 I F
  · refine OK_gd (fun g1391 => ?_)
    refine OK_gd (fun g1392 => ?_)
    refine OK_st 9 okX10_takeRate (S' := ((if ¬ ((F 55) v1.toNatClampNeg) = ((F 56) v1.toNatClampNeg) then 86 else 76), [(2, .int s0), (0, .ref 49), (1, .int v1)], [], hp I F)) rfl ⟨trivial, trivial, trivial, (ab_vo g1391), trivial, trivial, trivial, (ab_vo g1392), trivial, trivial⟩ ?_
    refine OK_if (fun h1393 => ?_) (fun h1393 => ?_)
    · refine OK_pk [1, 2, 0] rfl ?_
      exact kf_X10_takeRate_j86 v1 s0 I F
    · refine OK_st 4 okX10_takeRate (S' := (82, [(2, .int s0), (0, .ref 49), (1, .int v1)], [.int (I 30), .int (4 : Int32), .ref 49], hp I F)) rfl ⟨trivial, trivial, trivial, trivial, trivial⟩ ?_
      refine OK_cv [.int (4 : Int32), .int (I 30)] [] okX10_takeRate okX10_fails rfl rfl cl_RX10_128 rfl rfl (Nat.le_of_ble_eq_true rfl) (by decide) (Nat.le_of_ble_eq_true rfl) (kf_X10_fails (4 : Int32) (I 30) I F) (fun r1394 I1395 F1396 => ?_)
      exact OK_ri okX10_takeRate rfl rfl (Or.inl rfl)

def f_X10_takeRate (I : AI) (F : AF) : AQ :=
  ab_lt (va_up I 33 ((I 33) + (1 : Int32))) (fun I1354 =>
    ab_bd (f_X10_into (I 33) (0 : Int32) ((I 31) - (1 : Int32)) I1354 F) (fun r1359 I1360 F1361 =>
      if r1359 ≤ 0 then
        ab_bd (f_X10_into_s1 (I 33) (0 : Int32) ((I1360 31) - (1 : Int32)) I1360 F1361) (fun r1367 I1368 F1369 =>
          f_X10_takeRate_j56 (I 33) r1367 I1368 F1369)
      else
        f_X10_takeRate_j56 (I 33) r1359 I1360 F1361))
set_option maxRecDepth 20000 in
set_option maxHeartbeats 4000000 in
theorem kf_X10_takeRate (I : AI) (F : AF) : OK 3 mX10_takeRate true (f_X10_takeRate I F) (0, [(0, .ref 49)], [], hp I F) := by
  rw [f_X10_takeRate]
  refine OK_st 18 okX10_takeRate (S' := (28, [(1, .int (I 33)), (0, .ref 49)], [.int ((I 31) - (1 : Int32)), .int (0 : Int32), .int (I 33), .ref 67, .ref 49], hp (va_up I 33 ((I 33) + (1 : Int32))) F)) rfl ⟨trivial, trivial, (by decide), trivial, rfl, trivial, trivial, trivial, trivial, trivial, trivial, trivial, trivial, trivial, trivial, trivial, trivial, trivial, trivial⟩ ?_
  refine OK_lt (fun I1354 => (28, [(1, .int (I 33)), (0, .ref 49)], [.int ((I 31) - (1 : Int32)), .int (0 : Int32), .int (I 33), .ref 67, .ref 49], hp I1354 F)) (fun I1354 => ?_)
  refine OK_cv [.ref 67, .int (I 33), .int (0 : Int32), .int ((I 31) - (1 : Int32))] [] okX10_takeRate okX10_into rfl rfl cl_RX10_144 rfl rfl (Nat.le_of_ble_eq_true rfl) (by decide) (Nat.le_of_ble_eq_true rfl) (kf_X10_into (I 33) (0 : Int32) ((I 31) - (1 : Int32)) I1354 F) (fun r1359 I1360 F1361 => ?_)
  refine OK_st 3 okX10_takeRate (S' := ((if r1359 ≤ 0 then 40 else 36), [(2, .int r1359), (1, .int (I 33)), (0, .ref 49)], [], hp I1360 F1361)) rfl ⟨(by decide), trivial, trivial, trivial⟩ ?_
  refine OK_if (fun h1362 => ?_) (fun h1362 => ?_)
  · refine OK_st 9 okX10_takeRate (S' := (53, [(2, .int r1359), (1, .int (I 33)), (0, .ref 49)], [.int ((I1360 31) - (1 : Int32)), .int (0 : Int32), .int (I 33), .ref 68, .ref 49], hp I1360 F1361)) rfl ⟨trivial, trivial, trivial, trivial, trivial, trivial, trivial, trivial, trivial, trivial⟩ ?_
    refine OK_cv [.ref 68, .int (I 33), .int (0 : Int32), .int ((I1360 31) - (1 : Int32))] [] okX10_takeRate okX10_into rfl rfl cl_RX10_144 rfl rfl (Nat.le_of_ble_eq_true rfl) (by decide) (Nat.le_of_ble_eq_true rfl) (kf_X10_into_s1 (I 33) (0 : Int32) ((I1360 31) - (1 : Int32)) I1360 F1361) (fun r1367 I1368 F1369 => ?_)
    refine OK_pk [2, 1] rfl ?_
    exact kf_X10_takeRate_j56 (I 33) r1367 I1368 F1369
  · refine OK_st 2 okX10_takeRate (S' := (56, [(2, .int r1359), (1, .int (I 33)), (0, .ref 49)], [.int r1359], hp I1360 F1361)) rfl ⟨trivial, trivial, trivial⟩ ?_
    refine OK_pk [2, 1] rfl ?_
    exact kf_X10_takeRate_j56 (I 33) r1359 I1360 F1361

def f_X10_into_s4 (v2 : Int32) (v3 : Int32) (v4 : Int32) (I : AI) (F : AF) : AQ :=
  ab_bd (f_X10_takeNumber v3 v4 I F) (fun r1401 I1402 F1403 =>
    bif ab_vin v2 6 then
      some (r1401, I1402, (va_up F1403 52 (upd (F1403 52) v2.toNatClampNeg (I1402 29))))
    else none)
set_option maxRecDepth 20000 in
set_option maxHeartbeats 4000000 in
theorem kf_X10_into_s4 (v2 : Int32) (v3 : Int32) (v4 : Int32) (I : AI) (F : AF) : OK 2 mX10_into true (f_X10_into_s4 v2 v3 v4 I F) (0, [(0, .ref 49), (1, .ref 64), (2, .int v2), (3, .int v3), (4, .int v4)], [], hp I F) := by
  rw [f_X10_into_s4]
  refine OK_st 3 okX10_into (S' := (4, [(0, .ref 49), (1, .ref 64), (2, .int v2), (3, .int v3), (4, .int v4)], [.int v4, .int v3, .ref 49], hp I F)) rfl ⟨trivial, trivial, trivial, trivial⟩ ?_
  refine OK_cv [.int v3, .int v4] [] okX10_into okX10_takeNumber rfl rfl cl_RX10_138 rfl rfl (Nat.le_of_ble_eq_true rfl) (by decide) (Nat.le_of_ble_eq_true rfl) (kf_X10_takeNumber v3 v4 I F) (fun r1401 I1402 F1403 => ?_)
  refine OK_gd (fun g1404 => ?_)
  refine OK_st 7 okX10_into (S' := (18, [(5, .int r1401), (0, .ref 49), (1, .ref 64), (2, .int v2), (3, .int v3), (4, .int v4)], [.int r1401], hp I1402 (va_up F1403 52 (upd (F1403 52) v2.toNatClampNeg (I1402 29))))) rfl ⟨(by decide), trivial, trivial, trivial, trivial, (ab_vo g1404), trivial, trivial⟩ ?_
  exact OK_ri okX10_into rfl rfl (Or.inl rfl)

def f_X10_into_s5 (v2 : Int32) (v3 : Int32) (v4 : Int32) (I : AI) (F : AF) : AQ :=
  ab_bd (f_X10_takeNumber v3 v4 I F) (fun r1409 I1410 F1411 =>
    bif ab_vin v2 6 then
      some (r1409, I1410, (va_up F1411 53 (upd (F1411 53) v2.toNatClampNeg (I1410 29))))
    else none)
set_option maxRecDepth 20000 in
set_option maxHeartbeats 4000000 in
theorem kf_X10_into_s5 (v2 : Int32) (v3 : Int32) (v4 : Int32) (I : AI) (F : AF) : OK 2 mX10_into true (f_X10_into_s5 v2 v3 v4 I F) (0, [(0, .ref 49), (1, .ref 65), (2, .int v2), (3, .int v3), (4, .int v4)], [], hp I F) := by
  rw [f_X10_into_s5]
  refine OK_st 3 okX10_into (S' := (4, [(0, .ref 49), (1, .ref 65), (2, .int v2), (3, .int v3), (4, .int v4)], [.int v4, .int v3, .ref 49], hp I F)) rfl ⟨trivial, trivial, trivial, trivial⟩ ?_
  refine OK_cv [.int v3, .int v4] [] okX10_into okX10_takeNumber rfl rfl cl_RX10_138 rfl rfl (Nat.le_of_ble_eq_true rfl) (by decide) (Nat.le_of_ble_eq_true rfl) (kf_X10_takeNumber v3 v4 I F) (fun r1409 I1410 F1411 => ?_)
  refine OK_gd (fun g1412 => ?_)
  refine OK_st 7 okX10_into (S' := (18, [(5, .int r1409), (0, .ref 49), (1, .ref 65), (2, .int v2), (3, .int v3), (4, .int v4)], [.int r1409], hp I1410 (va_up F1411 53 (upd (F1411 53) v2.toNatClampNeg (I1410 29))))) rfl ⟨(by decide), trivial, trivial, trivial, trivial, (ab_vo g1412), trivial, trivial⟩ ?_
  exact OK_ri okX10_into rfl rfl (Or.inl rfl)

def f_X10_into_s6 (v2 : Int32) (v3 : Int32) (v4 : Int32) (I : AI) (F : AF) : AQ :=
  ab_bd (f_X10_takeNumber v3 v4 I F) (fun r1417 I1418 F1419 =>
    bif ab_vin v2 6 then
      some (r1417, I1418, (va_up F1419 54 (upd (F1419 54) v2.toNatClampNeg (I1418 29))))
    else none)
set_option maxRecDepth 20000 in
set_option maxHeartbeats 4000000 in
theorem kf_X10_into_s6 (v2 : Int32) (v3 : Int32) (v4 : Int32) (I : AI) (F : AF) : OK 2 mX10_into true (f_X10_into_s6 v2 v3 v4 I F) (0, [(0, .ref 49), (1, .ref 66), (2, .int v2), (3, .int v3), (4, .int v4)], [], hp I F) := by
  rw [f_X10_into_s6]
  refine OK_st 3 okX10_into (S' := (4, [(0, .ref 49), (1, .ref 66), (2, .int v2), (3, .int v3), (4, .int v4)], [.int v4, .int v3, .ref 49], hp I F)) rfl ⟨trivial, trivial, trivial, trivial⟩ ?_
  refine OK_cv [.int v3, .int v4] [] okX10_into okX10_takeNumber rfl rfl cl_RX10_138 rfl rfl (Nat.le_of_ble_eq_true rfl) (by decide) (Nat.le_of_ble_eq_true rfl) (kf_X10_takeNumber v3 v4 I F) (fun r1417 I1418 F1419 => ?_)
  refine OK_gd (fun g1420 => ?_)
  refine OK_st 7 okX10_into (S' := (18, [(5, .int r1417), (0, .ref 49), (1, .ref 66), (2, .int v2), (3, .int v3), (4, .int v4)], [.int r1417], hp I1418 (va_up F1419 54 (upd (F1419 54) v2.toNatClampNeg (I1418 29))))) rfl ⟨(by decide), trivial, trivial, trivial, trivial, (ab_vo g1420), trivial, trivial⟩ ?_
  exact OK_ri okX10_into rfl rfl (Or.inl rfl)

def f_X10_takeContract (I : AI) (F : AF) : AQ :=
  ab_lt (va_up I 32 ((I 32) + (1 : Int32))) (fun I1400 =>
    ab_bd (f_X10_into_s4 (I 32) (0 : Int32) (99 : Int32) I1400 F) (fun r1405 I1406 F1407 =>
      if r1405 ≤ 0 then
        ab_bd (f_X10_into_s5 (I 32) (0 : Int32) ((I1406 31) - (1 : Int32)) I1406 F1407) (fun r1413 I1414 F1415 =>
          if r1413 ≤ 0 then
            ab_bd (f_X10_into_s6 (I 32) (1 : Int32) (50 : Int32) I1414 F1415) (fun r1421 I1422 F1423 =>
              some (r1421, I1422, F1423))
          else
            some (r1413, I1414, F1415))
      else
        if r1405 ≤ 0 then
          ab_bd (f_X10_into_s6 (I 32) (1 : Int32) (50 : Int32) I1406 F1407) (fun r1425 I1426 F1427 =>
            some (r1425, I1426, F1427))
        else
          some (r1405, I1406, F1407)))
set_option maxRecDepth 20000 in
set_option maxHeartbeats 4000000 in
theorem kf_X10_takeContract (I : AI) (F : AF) : OK 3 mX10_takeContract true (f_X10_takeContract I F) (0, [(0, .ref 49)], [], hp I F) := by
  rw [f_X10_takeContract]
  refine OK_st 15 okX10_takeContract (S' := (24, [(1, .int (I 32)), (0, .ref 49)], [.int (99 : Int32), .int (0 : Int32), .int (I 32), .ref 64, .ref 49], hp (va_up I 32 ((I 32) + (1 : Int32))) F)) rfl ⟨trivial, trivial, (by decide), trivial, rfl, trivial, trivial, trivial, trivial, trivial, trivial, trivial, trivial, trivial, trivial, trivial⟩ ?_
  refine OK_lt (fun I1400 => (24, [(1, .int (I 32)), (0, .ref 49)], [.int (99 : Int32), .int (0 : Int32), .int (I 32), .ref 64, .ref 49], hp I1400 F)) (fun I1400 => ?_)
  refine OK_cv [.ref 64, .int (I 32), .int (0 : Int32), .int (99 : Int32)] [] okX10_takeContract okX10_into rfl rfl cl_RX10_144 rfl rfl (Nat.le_of_ble_eq_true rfl) (by decide) (Nat.le_of_ble_eq_true rfl) (kf_X10_into_s4 (I 32) (0 : Int32) (99 : Int32) I1400 F) (fun r1405 I1406 F1407 => ?_)
  refine OK_st 3 okX10_takeContract (S' := ((if r1405 ≤ 0 then 36 else 32), [(2, .int r1405), (1, .int (I 32)), (0, .ref 49)], [], hp I1406 F1407)) rfl ⟨(by decide), trivial, trivial, trivial⟩ ?_
  refine OK_if (fun h1408 => ?_) (fun h1408 => ?_)
  · refine OK_st 9 okX10_takeContract (S' := (49, [(2, .int r1405), (1, .int (I 32)), (0, .ref 49)], [.int ((I1406 31) - (1 : Int32)), .int (0 : Int32), .int (I 32), .ref 65, .ref 49], hp I1406 F1407)) rfl ⟨trivial, trivial, trivial, trivial, trivial, trivial, trivial, trivial, trivial, trivial⟩ ?_
    refine OK_cv [.ref 65, .int (I 32), .int (0 : Int32), .int ((I1406 31) - (1 : Int32))] [] okX10_takeContract okX10_into rfl rfl cl_RX10_144 rfl rfl (Nat.le_of_ble_eq_true rfl) (by decide) (Nat.le_of_ble_eq_true rfl) (kf_X10_into_s5 (I 32) (0 : Int32) ((I1406 31) - (1 : Int32)) I1406 F1407) (fun r1413 I1414 F1415 => ?_)
    refine OK_st 3 okX10_takeContract (S' := ((if r1413 ≤ 0 then 61 else 57), [(2, .int r1413), (1, .int (I 32)), (0, .ref 49)], [], hp I1414 F1415)) rfl ⟨(by decide), trivial, trivial, trivial⟩ ?_
    refine OK_if (fun h1416 => ?_) (fun h1416 => ?_)
    · refine OK_st 6 okX10_takeContract (S' := (70, [(2, .int r1413), (1, .int (I 32)), (0, .ref 49)], [.int (50 : Int32), .int (1 : Int32), .int (I 32), .ref 66, .ref 49], hp I1414 F1415)) rfl ⟨trivial, trivial, trivial, trivial, trivial, trivial, trivial⟩ ?_
      refine OK_cv [.ref 66, .int (I 32), .int (1 : Int32), .int (50 : Int32)] [] okX10_takeContract okX10_into rfl rfl cl_RX10_144 rfl rfl (Nat.le_of_ble_eq_true rfl) (by decide) (Nat.le_of_ble_eq_true rfl) (kf_X10_into_s6 (I 32) (1 : Int32) (50 : Int32) I1414 F1415) (fun r1421 I1422 F1423 => ?_)
      exact OK_ri okX10_takeContract rfl rfl (Or.inl rfl)
    · refine OK_st 2 okX10_takeContract (S' := (73, [(2, .int r1413), (1, .int (I 32)), (0, .ref 49)], [.int r1413], hp I1414 F1415)) rfl ⟨trivial, trivial, trivial⟩ ?_
      exact OK_ri okX10_takeContract rfl rfl (Or.inl rfl)
  · refine OK_st 5 okX10_takeContract (S' := ((if r1405 ≤ 0 then 61 else 57), [(2, .int r1405), (1, .int (I 32)), (0, .ref 49)], [], hp I1406 F1407)) rfl ⟨trivial, trivial, (by decide), trivial, trivial, trivial⟩ ?_
    refine OK_if (fun h1424 => ?_) (fun h1424 => ?_)
    · refine OK_st 6 okX10_takeContract (S' := (70, [(2, .int r1405), (1, .int (I 32)), (0, .ref 49)], [.int (50 : Int32), .int (1 : Int32), .int (I 32), .ref 66, .ref 49], hp I1406 F1407)) rfl ⟨trivial, trivial, trivial, trivial, trivial, trivial, trivial⟩ ?_
      refine OK_cv [.ref 66, .int (I 32), .int (1 : Int32), .int (50 : Int32)] [] okX10_takeContract okX10_into rfl rfl cl_RX10_144 rfl rfl (Nat.le_of_ble_eq_true rfl) (by decide) (Nat.le_of_ble_eq_true rfl) (kf_X10_into_s6 (I 32) (1 : Int32) (50 : Int32) I1406 F1407) (fun r1425 I1426 F1427 => ?_)
      exact OK_ri okX10_takeContract rfl rfl (Or.inl rfl)
    · refine OK_st 2 okX10_takeContract (S' := (73, [(2, .int r1405), (1, .int (I 32)), (0, .ref 49)], [.int r1405], hp I1406 F1407)) rfl ⟨trivial, trivial, trivial⟩ ?_
      exact OK_ri okX10_takeContract rfl rfl (Or.inl rfl)

def f_X10_into_s7 (v2 : Int32) (v3 : Int32) (v4 : Int32) (I : AI) (F : AF) : AQ :=
  ab_bd (f_X10_takeNumber v3 v4 I F) (fun r1434 I1435 F1436 =>
    bif ab_vin v2 6 then
      some (r1434, I1435, (va_up F1436 49 (upd (F1436 49) v2.toNatClampNeg (I1435 29))))
    else none)
set_option maxRecDepth 20000 in
set_option maxHeartbeats 4000000 in
theorem kf_X10_into_s7 (v2 : Int32) (v3 : Int32) (v4 : Int32) (I : AI) (F : AF) : OK 2 mX10_into true (f_X10_into_s7 v2 v3 v4 I F) (0, [(0, .ref 49), (1, .ref 61), (2, .int v2), (3, .int v3), (4, .int v4)], [], hp I F) := by
  rw [f_X10_into_s7]
  refine OK_st 3 okX10_into (S' := (4, [(0, .ref 49), (1, .ref 61), (2, .int v2), (3, .int v3), (4, .int v4)], [.int v4, .int v3, .ref 49], hp I F)) rfl ⟨trivial, trivial, trivial, trivial⟩ ?_
  refine OK_cv [.int v3, .int v4] [] okX10_into okX10_takeNumber rfl rfl cl_RX10_138 rfl rfl (Nat.le_of_ble_eq_true rfl) (by decide) (Nat.le_of_ble_eq_true rfl) (kf_X10_takeNumber v3 v4 I F) (fun r1434 I1435 F1436 => ?_)
  refine OK_gd (fun g1437 => ?_)
  refine OK_st 7 okX10_into (S' := (18, [(5, .int r1434), (0, .ref 49), (1, .ref 61), (2, .int v2), (3, .int v3), (4, .int v4)], [.int r1434], hp I1435 (va_up F1436 49 (upd (F1436 49) v2.toNatClampNeg (I1435 29))))) rfl ⟨(by decide), trivial, trivial, trivial, trivial, (ab_vo g1437), trivial, trivial⟩ ?_
  exact OK_ri okX10_into rfl rfl (Or.inl rfl)

def f_X10_into_s8 (v2 : Int32) (v3 : Int32) (v4 : Int32) (I : AI) (F : AF) : AQ :=
  ab_bd (f_X10_takeNumber v3 v4 I F) (fun r1443 I1444 F1445 =>
    bif ab_vin v2 24 then
      some (r1443, I1444, (va_up F1445 50 (upd (F1445 50) v2.toNatClampNeg (I1444 29))))
    else none)
set_option maxRecDepth 20000 in
set_option maxHeartbeats 4000000 in
theorem kf_X10_into_s8 (v2 : Int32) (v3 : Int32) (v4 : Int32) (I : AI) (F : AF) : OK 2 mX10_into true (f_X10_into_s8 v2 v3 v4 I F) (0, [(0, .ref 49), (1, .ref 62), (2, .int v2), (3, .int v3), (4, .int v4)], [], hp I F) := by
  rw [f_X10_into_s8]
  refine OK_st 3 okX10_into (S' := (4, [(0, .ref 49), (1, .ref 62), (2, .int v2), (3, .int v3), (4, .int v4)], [.int v4, .int v3, .ref 49], hp I F)) rfl ⟨trivial, trivial, trivial, trivial⟩ ?_
  refine OK_cv [.int v3, .int v4] [] okX10_into okX10_takeNumber rfl rfl cl_RX10_138 rfl rfl (Nat.le_of_ble_eq_true rfl) (by decide) (Nat.le_of_ble_eq_true rfl) (kf_X10_takeNumber v3 v4 I F) (fun r1443 I1444 F1445 => ?_)
  refine OK_gd (fun g1446 => ?_)
  refine OK_st 7 okX10_into (S' := (18, [(5, .int r1443), (0, .ref 49), (1, .ref 62), (2, .int v2), (3, .int v3), (4, .int v4)], [.int r1443], hp I1444 (va_up F1445 50 (upd (F1445 50) v2.toNatClampNeg (I1444 29))))) rfl ⟨(by decide), trivial, trivial, trivial, trivial, (ab_vo g1446), trivial, trivial⟩ ?_
  exact OK_ri okX10_into rfl rfl (Or.inl rfl)

def f_X10_takeLimb_38 (v1 : Int32) (ko : Int32 → Int32 → AI → AF → AQ) : Nat → Int32 → Int32 → AI → AF → AQ
  | 0, _, _, _, _ => none
  | n + 1, v2, v3, I, F =>
    if (4 : Int32) ≤ v3 then
      ko v2 v3 I F
    else
      if ¬ v2 = 0 then
        ko v2 v3 I F
      else
        ab_bd (f_X10_into_s8 (((4 : Int32) * v1) + v3) (0 : Int32) (18 : Int32) I F) (fun r1447 I1448 F1449 =>
          f_X10_takeLimb_38 v1 ko n r1447 (v3 + (1 : Int32)) I1448 F1449)
set_option maxRecDepth 20000 in
set_option maxHeartbeats 4000000 in
theorem kf_X10_takeLimb_38 (v1 : Int32) (ko : Int32 → Int32 → AI → AF → AQ) (hko : ∀ v2 v3 I F, OK 3 mX10_takeLimb true (ko v2 v3 I F) (70, [(0, .ref 49), (1, .int v1), (2, .int v2), (3, .int v3)], [], hp I F)) : ∀ n v2 v3 I F, OK 3 mX10_takeLimb true (f_X10_takeLimb_38 v1 ko n v2 v3 I F) (38, [(0, .ref 49), (1, .int v1), (2, .int v2), (3, .int v3)], [], hp I F) := by
  intro n
  induction n with
  | zero =>
    intro v2 v3 I F
    exact OK_no
  | succ n ih =>
    intro v2 v3 I F
    rw [f_X10_takeLimb_38]
    refine OK_st 3 okX10_takeLimb (S' := ((if (4 : Int32) ≤ v3 then 70 else 43), [(0, .ref 49), (1, .int v1), (2, .int v2), (3, .int v3)], [], hp I F)) rfl ⟨trivial, trivial, trivial, trivial⟩ ?_
    refine OK_if (fun h1441 => ?_) (fun h1441 => ?_)
    · exact hko v2 v3 I F
    · refine OK_st 2 okX10_takeLimb (S' := ((if ¬ v2 = 0 then 70 else 47), [(0, .ref 49), (1, .int v1), (2, .int v2), (3, .int v3)], [], hp I F)) rfl ⟨trivial, trivial, trivial⟩ ?_
      refine OK_if (fun h1442 => ?_) (fun h1442 => ?_)
      · exact hko v2 v3 I F
      · refine OK_st 10 okX10_takeLimb (S' := (60, [(0, .ref 49), (1, .int v1), (2, .int v2), (3, .int v3)], [.int (18 : Int32), .int (0 : Int32), .int (((4 : Int32) * v1) + v3), .ref 62, .ref 49], hp I F)) rfl ⟨trivial, trivial, trivial, trivial, trivial, trivial, trivial, trivial, trivial, trivial, trivial⟩ ?_
        refine OK_cv [.ref 62, .int (((4 : Int32) * v1) + v3), .int (0 : Int32), .int (18 : Int32)] [] okX10_takeLimb okX10_into rfl rfl cl_RX10_144 rfl rfl (Nat.le_of_ble_eq_true rfl) (by decide) (Nat.le_of_ble_eq_true rfl) (kf_X10_into_s8 (((4 : Int32) * v1) + v3) (0 : Int32) (18 : Int32) I F) (fun r1447 I1448 F1449 => ?_)
        refine OK_st 3 okX10_takeLimb (S' := (38, [(3, .int (v3 + (1 : Int32))), (2, .int r1447), (0, .ref 49), (1, .int v1)], [], hp I1448 F1449)) rfl ⟨(by decide), (by decide), trivial, trivial⟩ ?_
        refine OK_pk [2, 3, 1, 0] rfl ?_
        exact ih r1447 (v3 + (1 : Int32)) I1448 F1449

def f_X10_takeLimb (I : AI) (F : AF) : AQ :=
  bif ab_vin (I 31) 6 then
    ab_lt (va_up I 31 ((I 31) + (1 : Int32))) (fun I1432 =>
      ab_lt (va_up F 51 (upd (F 51) (I 31).toNatClampNeg (-1 : Int32))) (fun F1433 =>
        ab_bd (f_X10_into_s7 (I 31) (20 : Int32) (99 : Int32) I1432 F1433) (fun r1438 I1439 F1440 =>
          f_X10_takeLimb_38 (I 31) (fun v2_1450 v3_1451 I1452 F1453 =>
            some (v2_1450, I1452, F1453)) ab_fu r1438 (0 : Int32) I1439 F1440)))
  else none
set_option maxRecDepth 20000 in
set_option maxHeartbeats 4000000 in
theorem kf_X10_takeLimb (I : AI) (F : AF) : OK 3 mX10_takeLimb true (f_X10_takeLimb I F) (0, [(0, .ref 49)], [], hp I F) := by
  rw [f_X10_takeLimb]
  refine OK_gd (fun g1431 => ?_)
  refine OK_st 20 okX10_takeLimb (S' := (32, [(1, .int (I 31)), (0, .ref 49)], [.int (99 : Int32), .int (20 : Int32), .int (I 31), .ref 61, .ref 49], hp (va_up I 31 ((I 31) + (1 : Int32))) (va_up F 51 (upd (F 51) (I 31).toNatClampNeg (-1 : Int32))))) rfl ⟨trivial, trivial, (by decide), trivial, rfl, trivial, trivial, trivial, trivial, trivial, trivial, trivial, trivial, (ab_vo g1431), trivial, trivial, trivial, trivial, trivial, trivial, trivial⟩ ?_
  refine OK_lt (fun I1432 => (32, [(1, .int (I 31)), (0, .ref 49)], [.int (99 : Int32), .int (20 : Int32), .int (I 31), .ref 61, .ref 49], hp I1432 (va_up F 51 (upd (F 51) (I 31).toNatClampNeg (-1 : Int32))))) (fun I1432 => ?_)
  refine OK_lt (fun F1433 => (32, [(1, .int (I 31)), (0, .ref 49)], [.int (99 : Int32), .int (20 : Int32), .int (I 31), .ref 61, .ref 49], hp I1432 F1433)) (fun F1433 => ?_)
  refine OK_cv [.ref 61, .int (I 31), .int (20 : Int32), .int (99 : Int32)] [] okX10_takeLimb okX10_into rfl rfl cl_RX10_144 rfl rfl (Nat.le_of_ble_eq_true rfl) (by decide) (Nat.le_of_ble_eq_true rfl) (kf_X10_into_s7 (I 31) (20 : Int32) (99 : Int32) I1432 F1433) (fun r1438 I1439 F1440 => ?_)
  refine OK_st 3 okX10_takeLimb (S' := (38, [(3, .int (0 : Int32)), (2, .int r1438), (1, .int (I 31)), (0, .ref 49)], [], hp I1439 F1440)) rfl ⟨(by decide), trivial, (by decide), trivial⟩ ?_
  refine OK_pk [3, 2, 1, 0] rfl ?_
  refine kf_X10_takeLimb_38 (I 31) _ (fun v2_1450 v3_1451 I1452 F1453 => ?_) ab_fu r1438 (0 : Int32) I1439 F1440
  refine OK_st 1 okX10_takeLimb (S' := (71, [(0, .ref 49), (1, .int (I 31)), (2, .int v2_1450), (3, .int v3_1451)], [.int v2_1450], hp I1452 F1453)) rfl ⟨trivial, trivial⟩ ?_
  exact OK_ri okX10_takeLimb rfl rfl (Or.inl rfl)

def f_X10_takeClause_j134 (v2 : Int32) (s0 : Int32) (I : AI) (F : AF) : AQ :=
  if s0 = 0 then
    ab_lt (va_up I 28 ((I 28) + (1 : Int32))) (fun I1283 =>
      if ¬ v2 = 0 then
        if ¬ v2 = (1 : Int32) then
          if ¬ v2 = (2 : Int32) then
            ab_bd (f_X10_takeHeir I1283 F) (fun r1343 I1344 F1345 =>
              f_X10_takeClause_j198 r1343 I1344 F1345)
          else
            ab_bd (f_X10_takeRate I1283 F) (fun r1397 I1398 F1399 =>
              f_X10_takeClause_j198 r1397 I1398 F1399)
        else
          ab_bd (f_X10_takeContract I1283 F) (fun r1428 I1429 F1430 =>
            f_X10_takeClause_j198 r1428 I1429 F1430)
      else
        ab_bd (f_X10_takeLimb I1283 F) (fun r1454 I1455 F1456 =>
          f_X10_takeClause_j198 r1454 I1455 F1456))
  else
    ab_bd (f_X10_fails (3 : Int32) (I 28) I F) (fun r1457 I1458 F1459 =>
      some (r1457, I1458, F1459))
set_option maxRecDepth 20000 in
set_option maxHeartbeats 4000000 in
theorem kf_X10_takeClause_j134 (v2 : Int32) (s0 : Int32) (I : AI) (F : AF) : OK 4 mX10_takeClause true (f_X10_takeClause_j134 v2 s0 I F) (134, [(0, .ref 49), (2, .int v2)], [.int s0], hp I F) := by
  rw [f_X10_takeClause_j134]
  refine OK_st 3 okX10_takeClause (S' := ((if s0 = 0 then 149 else 139), [(3, .int s0), (0, .ref 49), (2, .int v2)], [], hp I F)) rfl ⟨(by decide), trivial, trivial, trivial⟩ ?_
  refine OK_if (fun h1282 => ?_) (fun h1282 => ?_)
  · refine OK_st 8 okX10_takeClause (S' := ((if ¬ v2 = 0 then 170 else 163), [(3, .int s0), (0, .ref 49), (2, .int v2)], [], hp (va_up I 28 ((I 28) + (1 : Int32))) F)) rfl ⟨trivial, rfl, trivial, trivial, trivial, trivial, trivial, trivial, trivial⟩ ?_
    refine OK_lt (fun I1283 => ((if ¬ v2 = 0 then 170 else 163), [(3, .int s0), (0, .ref 49), (2, .int v2)], [], hp I1283 F)) (fun I1283 => ?_)
    refine OK_if (fun h1284 => ?_) (fun h1284 => ?_)
    · refine OK_st 3 okX10_takeClause (S' := ((if ¬ v2 = (1 : Int32) then 182 else 175), [(3, .int s0), (0, .ref 49), (2, .int v2)], [], hp I1283 F)) rfl ⟨trivial, trivial, trivial, trivial⟩ ?_
      refine OK_if (fun h1285 => ?_) (fun h1285 => ?_)
      · refine OK_st 3 okX10_takeClause (S' := ((if ¬ v2 = (2 : Int32) then 194 else 187), [(3, .int s0), (0, .ref 49), (2, .int v2)], [], hp I1283 F)) rfl ⟨trivial, trivial, trivial, trivial⟩ ?_
        refine OK_if (fun h1286 => ?_) (fun h1286 => ?_)
        · refine OK_st 1 okX10_takeClause (S' := (195, [(3, .int s0), (0, .ref 49), (2, .int v2)], [.ref 49], hp I1283 F)) rfl ⟨trivial, trivial⟩ ?_
          refine OK_cv [] [] okX10_takeClause okX10_takeHeir rfl rfl cl_RX10_163 rfl rfl (Nat.le_of_ble_eq_true rfl) (by decide) (Nat.le_of_ble_eq_true rfl) (kf_X10_takeHeir I1283 F) (fun r1343 I1344 F1345 => ?_)
          refine OK_pk [1] rfl ?_
          exact kf_X10_takeClause_j198 r1343 I1344 F1345
        · refine OK_st 1 okX10_takeClause (S' := (188, [(3, .int s0), (0, .ref 49), (2, .int v2)], [.ref 49], hp I1283 F)) rfl ⟨trivial, trivial⟩ ?_
          refine OK_cv [] [] okX10_takeClause okX10_takeRate rfl rfl cl_RX10_160 rfl rfl (Nat.le_of_ble_eq_true rfl) (by decide) (Nat.le_of_ble_eq_true rfl) (kf_X10_takeRate I1283 F) (fun r1397 I1398 F1399 => ?_)
          refine OK_st 1 okX10_takeClause (S' := (198, [(3, .int s0), (0, .ref 49), (2, .int v2)], [.int r1397], hp I1398 F1399)) rfl ⟨trivial, trivial⟩ ?_
          refine OK_pk [1] rfl ?_
          exact kf_X10_takeClause_j198 r1397 I1398 F1399
      · refine OK_st 1 okX10_takeClause (S' := (176, [(3, .int s0), (0, .ref 49), (2, .int v2)], [.ref 49], hp I1283 F)) rfl ⟨trivial, trivial⟩ ?_
        refine OK_cv [] [] okX10_takeClause okX10_takeContract rfl rfl cl_RX10_157 rfl rfl (Nat.le_of_ble_eq_true rfl) (by decide) (Nat.le_of_ble_eq_true rfl) (kf_X10_takeContract I1283 F) (fun r1428 I1429 F1430 => ?_)
        refine OK_st 1 okX10_takeClause (S' := (198, [(3, .int s0), (0, .ref 49), (2, .int v2)], [.int r1428], hp I1429 F1430)) rfl ⟨trivial, trivial⟩ ?_
        refine OK_pk [1] rfl ?_
        exact kf_X10_takeClause_j198 r1428 I1429 F1430
    · refine OK_st 1 okX10_takeClause (S' := (164, [(3, .int s0), (0, .ref 49), (2, .int v2)], [.ref 49], hp I1283 F)) rfl ⟨trivial, trivial⟩ ?_
      refine OK_cv [] [] okX10_takeClause okX10_takeLimb rfl rfl cl_RX10_154 rfl rfl (Nat.le_of_ble_eq_true rfl) (by decide) (Nat.le_of_ble_eq_true rfl) (kf_X10_takeLimb I1283 F) (fun r1454 I1455 F1456 => ?_)
      refine OK_st 1 okX10_takeClause (S' := (198, [(3, .int s0), (0, .ref 49), (2, .int v2)], [.int r1454], hp I1455 F1456)) rfl ⟨trivial, trivial⟩ ?_
      refine OK_pk [1] rfl ?_
      exact kf_X10_takeClause_j198 r1454 I1455 F1456
  · refine OK_st 4 okX10_takeClause (S' := (145, [(3, .int s0), (0, .ref 49), (2, .int v2)], [.int (I 28), .int (3 : Int32), .ref 49], hp I F)) rfl ⟨trivial, trivial, trivial, trivial, trivial⟩ ?_
    refine OK_cv [.int (3 : Int32), .int (I 28)] [] okX10_takeClause okX10_fails rfl rfl cl_RX10_128 rfl rfl (Nat.le_of_ble_eq_true rfl) (by decide) (Nat.le_of_ble_eq_true rfl) (kf_X10_fails (3 : Int32) (I 28) I F) (fun r1457 I1458 F1459 => ?_)
    exact OK_ri okX10_takeClause rfl rfl (Or.inl rfl)

def f_X10_takeClause_j133 (v2 : Int32) (I : AI) (F : AF) : AQ :=
  f_X10_takeClause_j134 v2 (0 : Int32) I F
set_option maxRecDepth 20000 in
set_option maxHeartbeats 4000000 in
theorem kf_X10_takeClause_j133 (v2 : Int32) (I : AI) (F : AF) : OK 4 mX10_takeClause true (f_X10_takeClause_j133 v2 I F) (133, [(0, .ref 49), (2, .int v2)], [], hp I F) := by
  rw [f_X10_takeClause_j133]
  refine OK_st 1 okX10_takeClause (S' := (134, [(0, .ref 49), (2, .int v2)], [.int (0 : Int32)], hp I F)) rfl ⟨trivial, trivial⟩ ?_
  exact kf_X10_takeClause_j134 v2 (0 : Int32) I F

def f_X10_takeClause_j72 (v2 : Int32) (I : AI) (F : AF) : AQ :=
  if ¬ v2 = 0 then
    if ¬ v2 = (1 : Int32) then
      if ¬ v2 = (2 : Int32) then
        f_X10_takeClause_j133 v2 I F
      else
        if ¬ (I 33) = (8 : Int32) then
          f_X10_takeClause_j133 v2 I F
        else
          f_X10_takeClause_j134 v2 (1 : Int32) I F
    else
      if ¬ (I 32) = (6 : Int32) then
        f_X10_takeClause_j134 v2 (0 : Int32) I F
      else
        f_X10_takeClause_j134 v2 (1 : Int32) I F
  else
    if ¬ (I 31) = (6 : Int32) then
      f_X10_takeClause_j134 v2 (0 : Int32) I F
    else
      f_X10_takeClause_j134 v2 (1 : Int32) I F
set_option maxRecDepth 20000 in
set_option maxHeartbeats 4000000 in
theorem kf_X10_takeClause_j72 (v2 : Int32) (I : AI) (F : AF) : OK 4 mX10_takeClause true (f_X10_takeClause_j72 v2 I F) (72, [(0, .ref 49), (2, .int v2)], [], hp I F) := by
  rw [f_X10_takeClause_j72]
  refine OK_st 2 okX10_takeClause (S' := ((if ¬ v2 = 0 then 93 else 76), [(0, .ref 49), (2, .int v2)], [], hp I F)) rfl ⟨trivial, trivial, trivial⟩ ?_
  refine OK_if (fun h1279 => ?_) (fun h1279 => ?_)
  · refine OK_st 3 okX10_takeClause (S' := ((if ¬ v2 = (1 : Int32) then 115 else 98), [(0, .ref 49), (2, .int v2)], [], hp I F)) rfl ⟨trivial, trivial, trivial, trivial⟩ ?_
    refine OK_if (fun h1280 => ?_) (fun h1280 => ?_)
    · refine OK_st 3 okX10_takeClause (S' := ((if ¬ v2 = (2 : Int32) then 133 else 120), [(0, .ref 49), (2, .int v2)], [], hp I F)) rfl ⟨trivial, trivial, trivial, trivial⟩ ?_
      refine OK_if (fun h1281 => ?_) (fun h1281 => ?_)
      · exact kf_X10_takeClause_j133 v2 I F
      · refine OK_st 4 okX10_takeClause (S' := ((if ¬ (I 33) = (8 : Int32) then 133 else 129), [(0, .ref 49), (2, .int v2)], [], hp I F)) rfl ⟨trivial, trivial, trivial, trivial, trivial⟩ ?_
        refine OK_if (fun h1460 => ?_) (fun h1460 => ?_)
        · exact kf_X10_takeClause_j133 v2 I F
        · refine OK_st 2 okX10_takeClause (S' := (134, [(0, .ref 49), (2, .int v2)], [.int (1 : Int32)], hp I F)) rfl ⟨trivial, trivial, trivial⟩ ?_
          exact kf_X10_takeClause_j134 v2 (1 : Int32) I F
    · refine OK_st 4 okX10_takeClause (S' := ((if ¬ (I 32) = (6 : Int32) then 111 else 107), [(0, .ref 49), (2, .int v2)], [], hp I F)) rfl ⟨trivial, trivial, trivial, trivial, trivial⟩ ?_
      refine OK_if (fun h1461 => ?_) (fun h1461 => ?_)
      · refine OK_st 2 okX10_takeClause (S' := (134, [(0, .ref 49), (2, .int v2)], [.int (0 : Int32)], hp I F)) rfl ⟨trivial, trivial, trivial⟩ ?_
        exact kf_X10_takeClause_j134 v2 (0 : Int32) I F
      · refine OK_st 2 okX10_takeClause (S' := (134, [(0, .ref 49), (2, .int v2)], [.int (1 : Int32)], hp I F)) rfl ⟨trivial, trivial, trivial⟩ ?_
        exact kf_X10_takeClause_j134 v2 (1 : Int32) I F
  · refine OK_st 4 okX10_takeClause (S' := ((if ¬ (I 31) = (6 : Int32) then 89 else 85), [(0, .ref 49), (2, .int v2)], [], hp I F)) rfl ⟨trivial, trivial, trivial, trivial, trivial⟩ ?_
    refine OK_if (fun h1462 => ?_) (fun h1462 => ?_)
    · refine OK_st 2 okX10_takeClause (S' := (134, [(0, .ref 49), (2, .int v2)], [.int (0 : Int32)], hp I F)) rfl ⟨trivial, trivial, trivial⟩ ?_
      exact kf_X10_takeClause_j134 v2 (0 : Int32) I F
    · refine OK_st 2 okX10_takeClause (S' := (134, [(0, .ref 49), (2, .int v2)], [.int (1 : Int32)], hp I F)) rfl ⟨trivial, trivial, trivial⟩ ?_
      exact kf_X10_takeClause_j134 v2 (1 : Int32) I F

def f_X10_takeClause_j46 (s0 : Int32) (I : AI) (F : AF) : AQ :=
  if s0 < 0 then
    ab_bd (f_X10_fails (1 : Int32) (I 28) I F) (fun r1275 I1276 F1277 =>
      some (r1275, I1276, F1277))
  else
    if s0 ≤ 0 then
      f_X10_takeClause_j72 s0 I F
    else
      if ¬ (I 31) = 0 then
        f_X10_takeClause_j72 s0 I F
      else
        ab_bd (f_X10_fails (1 : Int32) (I 28) I F) (fun r1464 I1465 F1466 =>
          some (r1464, I1465, F1466))
set_option maxRecDepth 20000 in
set_option maxHeartbeats 4000000 in
theorem kf_X10_takeClause_j46 (s0 : Int32) (I : AI) (F : AF) : OK 4 mX10_takeClause true (f_X10_takeClause_j46 s0 I F) (46, [(0, .ref 49)], [.int s0], hp I F) := by
  rw [f_X10_takeClause_j46]
  refine OK_st 3 okX10_takeClause (S' := ((if s0 < 0 then 62 else 51), [(2, .int s0), (0, .ref 49)], [], hp I F)) rfl ⟨(by decide), trivial, trivial, trivial⟩ ?_
  refine OK_if (fun h1274 => ?_) (fun h1274 => ?_)
  · refine OK_st 4 okX10_takeClause (S' := (68, [(2, .int s0), (0, .ref 49)], [.int (I 28), .int (1 : Int32), .ref 49], hp I F)) rfl ⟨trivial, trivial, trivial, trivial, trivial⟩ ?_
    refine OK_cv [.int (1 : Int32), .int (I 28)] [] okX10_takeClause okX10_fails rfl rfl cl_RX10_128 rfl rfl (Nat.le_of_ble_eq_true rfl) (by decide) (Nat.le_of_ble_eq_true rfl) (kf_X10_fails (1 : Int32) (I 28) I F) (fun r1275 I1276 F1277 => ?_)
    exact OK_ri okX10_takeClause rfl rfl (Or.inl rfl)
  · refine OK_st 2 okX10_takeClause (S' := ((if s0 ≤ 0 then 72 else 55), [(2, .int s0), (0, .ref 49)], [], hp I F)) rfl ⟨trivial, trivial, trivial⟩ ?_
    refine OK_if (fun h1278 => ?_) (fun h1278 => ?_)
    · refine OK_pk [1, 0] rfl ?_
      exact kf_X10_takeClause_j72 s0 I F
    · refine OK_st 3 okX10_takeClause (S' := ((if ¬ (I 31) = 0 then 72 else 62), [(2, .int s0), (0, .ref 49)], [], hp I F)) rfl ⟨trivial, trivial, trivial, trivial⟩ ?_
      refine OK_if (fun h1463 => ?_) (fun h1463 => ?_)
      · refine OK_pk [1, 0] rfl ?_
        exact kf_X10_takeClause_j72 s0 I F
      · refine OK_st 4 okX10_takeClause (S' := (68, [(2, .int s0), (0, .ref 49)], [.int (I 28), .int (1 : Int32), .ref 49], hp I F)) rfl ⟨trivial, trivial, trivial, trivial, trivial⟩ ?_
        refine OK_cv [.int (1 : Int32), .int (I 28)] [] okX10_takeClause okX10_fails rfl rfl cl_RX10_128 rfl rfl (Nat.le_of_ble_eq_true rfl) (by decide) (Nat.le_of_ble_eq_true rfl) (kf_X10_fails (1 : Int32) (I 28) I F) (fun r1464 I1465 F1466 => ?_)
        exact OK_ri okX10_takeClause rfl rfl (Or.inl rfl)

def f_X10_takeClause (I : AI) (F : AF) : AQ :=
  ab_bd (f_X10_here I F) (fun r1267 I1268 F1269 =>
    if ¬ r1267 = (108 : Int32) then
      if ¬ r1267 = (99 : Int32) then
        if ¬ r1267 = (114 : Int32) then
          if ¬ r1267 = (104 : Int32) then
            f_X10_takeClause_j46 (-1 : Int32) I1268 F1269
          else
            f_X10_takeClause_j46 (3 : Int32) I1268 F1269
        else
          f_X10_takeClause_j46 (2 : Int32) I1268 F1269
      else
        f_X10_takeClause_j46 (1 : Int32) I1268 F1269
    else
      f_X10_takeClause_j46 (0 : Int32) I1268 F1269)
set_option maxRecDepth 20000 in
set_option maxHeartbeats 4000000 in
theorem kf_X10_takeClause (I : AI) (F : AF) : OK 4 mX10_takeClause true (f_X10_takeClause I F) (0, [(0, .ref 49)], [], hp I F) := by
  rw [f_X10_takeClause]
  refine OK_st 1 okX10_takeClause (S' := (1, [(0, .ref 49)], [.ref 49], hp I F)) rfl ⟨trivial, trivial⟩ ?_
  refine OK_cv [] [] okX10_takeClause okX10_here rfl rfl cl_RX10_120 rfl rfl (Nat.le_of_ble_eq_true rfl) (by decide) (Nat.le_of_ble_eq_true rfl) (kf_X10_here I F) (fun r1267 I1268 F1269 => ?_)
  refine OK_st 4 okX10_takeClause (S' := ((if ¬ r1267 = (108 : Int32) then 15 else 11), [(1, .int r1267), (0, .ref 49)], [], hp I1268 F1269)) rfl ⟨(by decide), trivial, trivial, trivial, trivial⟩ ?_
  refine OK_if (fun h1270 => ?_) (fun h1270 => ?_)
  · refine OK_st 3 okX10_takeClause (S' := ((if ¬ r1267 = (99 : Int32) then 25 else 21), [(1, .int r1267), (0, .ref 49)], [], hp I1268 F1269)) rfl ⟨trivial, trivial, trivial, trivial⟩ ?_
    refine OK_if (fun h1271 => ?_) (fun h1271 => ?_)
    · refine OK_st 3 okX10_takeClause (S' := ((if ¬ r1267 = (114 : Int32) then 35 else 31), [(1, .int r1267), (0, .ref 49)], [], hp I1268 F1269)) rfl ⟨trivial, trivial, trivial, trivial⟩ ?_
      refine OK_if (fun h1272 => ?_) (fun h1272 => ?_)
      · refine OK_st 3 okX10_takeClause (S' := ((if ¬ r1267 = (104 : Int32) then 45 else 41), [(1, .int r1267), (0, .ref 49)], [], hp I1268 F1269)) rfl ⟨trivial, trivial, trivial, trivial⟩ ?_
        refine OK_if (fun h1273 => ?_) (fun h1273 => ?_)
        · refine OK_st 1 okX10_takeClause (S' := (46, [(1, .int r1267), (0, .ref 49)], [.int (-1 : Int32)], hp I1268 F1269)) rfl ⟨trivial, trivial⟩ ?_
          refine OK_pk [1] rfl ?_
          exact kf_X10_takeClause_j46 (-1 : Int32) I1268 F1269
        · refine OK_st 2 okX10_takeClause (S' := (46, [(1, .int r1267), (0, .ref 49)], [.int (3 : Int32)], hp I1268 F1269)) rfl ⟨trivial, trivial, trivial⟩ ?_
          refine OK_pk [1] rfl ?_
          exact kf_X10_takeClause_j46 (3 : Int32) I1268 F1269
      · refine OK_st 2 okX10_takeClause (S' := (46, [(1, .int r1267), (0, .ref 49)], [.int (2 : Int32)], hp I1268 F1269)) rfl ⟨trivial, trivial, trivial⟩ ?_
        refine OK_pk [1] rfl ?_
        exact kf_X10_takeClause_j46 (2 : Int32) I1268 F1269
    · refine OK_st 2 okX10_takeClause (S' := (46, [(1, .int r1267), (0, .ref 49)], [.int (1 : Int32)], hp I1268 F1269)) rfl ⟨trivial, trivial, trivial⟩ ?_
      refine OK_pk [1] rfl ?_
      exact kf_X10_takeClause_j46 (1 : Int32) I1268 F1269
  · refine OK_st 2 okX10_takeClause (S' := (46, [(1, .int r1267), (0, .ref 49)], [.int (0 : Int32)], hp I1268 F1269)) rfl ⟨trivial, trivial, trivial⟩ ?_
    refine OK_pk [1] rfl ?_
    exact kf_X10_takeClause_j46 (0 : Int32) I1268 F1269

def f_X10_port_27 (ko : Int32 → AI → AF → AQ) : Nat → Int32 → AI → AF → AQ
  | 0, _, _, _ => none
  | n + 1, v1, I, F =>
    if ¬ v1 = 0 then
      ko v1 I F
    else
      ab_bd (f_X10_here I F) (fun r1263 I1264 F1265 =>
        if r1263 < 0 then
          ko v1 I1264 F1265
        else
          ab_bd (f_X10_takeClause I1264 F1265) (fun r1467 I1468 F1469 =>
            f_X10_port_27 ko n r1467 I1468 F1469))
set_option maxRecDepth 20000 in
set_option maxHeartbeats 4000000 in
theorem kf_X10_port_27 (ko : Int32 → AI → AF → AQ) (hko : ∀ v1 I F, OK 5 mX10_port true (ko v1 I F) (46, [(0, .ref 49), (1, .int v1)], [], hp I F)) : ∀ n v1 I F, OK 5 mX10_port true (f_X10_port_27 ko n v1 I F) (27, [(0, .ref 49), (1, .int v1)], [], hp I F) := by
  intro n
  induction n with
  | zero =>
    intro v1 I F
    exact OK_no
  | succ n ih =>
    intro v1 I F
    rw [f_X10_port_27]
    refine OK_st 2 okX10_port (S' := ((if ¬ v1 = 0 then 46 else 31), [(0, .ref 49), (1, .int v1)], [], hp I F)) rfl ⟨trivial, trivial, trivial⟩ ?_
    refine OK_if (fun h1254 => ?_) (fun h1254 => ?_)
    · exact hko v1 I F
    · refine OK_st 1 okX10_port (S' := (32, [(0, .ref 49), (1, .int v1)], [.ref 49], hp I F)) rfl ⟨trivial, trivial⟩ ?_
      refine OK_cv [] [] okX10_port okX10_here rfl rfl cl_RX10_120 rfl rfl (Nat.le_of_ble_eq_true rfl) (by decide) (Nat.le_of_ble_eq_true rfl) (kf_X10_here I F) (fun r1263 I1264 F1265 => ?_)
      refine OK_st 1 okX10_port (S' := ((if r1263 < 0 then 46 else 38), [(0, .ref 49), (1, .int v1)], [], hp I1264 F1265)) rfl ⟨trivial, trivial⟩ ?_
      refine OK_if (fun h1266 => ?_) (fun h1266 => ?_)
      · exact hko v1 I1264 F1265
      · refine OK_st 1 okX10_port (S' := (39, [(0, .ref 49), (1, .int v1)], [.ref 49], hp I1264 F1265)) rfl ⟨trivial, trivial⟩ ?_
        refine OK_cv [] [] okX10_port okX10_takeClause rfl rfl cl_RX10_172 rfl rfl (Nat.le_of_ble_eq_true rfl) (by decide) (Nat.le_of_ble_eq_true rfl) (kf_X10_takeClause I1264 F1265) (fun r1467 I1468 F1469 => ?_)
        refine OK_st 2 okX10_port (S' := (27, [(1, .int r1467), (0, .ref 49)], [], hp I1468 F1469)) rfl ⟨(by decide), trivial, trivial⟩ ?_
        refine OK_pk [1, 0] rfl ?_
        exact ih r1467 I1468 F1469

def f_X10_takeRead_26 (ko : Int32 → AI → AF → AQ) : Nat → Int32 → AI → AF → AQ
  | 0, _, _, _ => none
  | n + 1, v1, I, F =>
    if (12 : Int32) ≤ v1 then
      ko v1 I F
    else
      if (I 22) ≤ v1 then
        if (6 : Int32) ≤ v1 then
          bif ab_vin v1 22 then
            ab_lt (va_up F 47 (upd (F 47) v1.toNatClampNeg (-1 : Int32))) (fun F1480 =>
              f_X10_takeRead_26 ko n (v1 + (1 : Int32)) I F1480)
          else none
        else
          bif ab_vin v1 22 then
            ab_lt (va_up F 47 (upd (F 47) v1.toNatClampNeg (0 : Int32))) (fun F1482 =>
              f_X10_takeRead_26 ko n (v1 + (1 : Int32)) I F1482)
          else none
      else
        bif ab_vin v1 6 then
          bif ab_vin v1 22 then
            ab_lt (va_up F 47 (upd (F 47) v1.toNatClampNeg ((F 49) v1.toNatClampNeg))) (fun F1485 =>
              f_X10_takeRead_26 ko n (v1 + (1 : Int32)) I F1485)
          else none
        else none
set_option maxRecDepth 20000 in
set_option maxHeartbeats 4000000 in
theorem kf_X10_takeRead_26 (ko : Int32 → AI → AF → AQ) (hko : ∀ v1 I F, OK 0 mX10_takeRead false (ko v1 I F) (72, [(0, .ref 49), (1, .int v1)], [], hp I F)) : ∀ n v1 I F, OK 0 mX10_takeRead false (f_X10_takeRead_26 ko n v1 I F) (26, [(0, .ref 49), (1, .int v1)], [], hp I F) := by
  intro n
  induction n with
  | zero =>
    intro v1 I F
    exact OK_no
  | succ n ih =>
    intro v1 I F
    rw [f_X10_takeRead_26]
    refine OK_st 3 okX10_takeRead (S' := ((if (12 : Int32) ≤ v1 then 72 else 32), [(0, .ref 49), (1, .int v1)], [], hp I F)) rfl ⟨trivial, trivial, trivial, trivial⟩ ?_
    refine OK_if (fun h1476 => ?_) (fun h1476 => ?_)
    · exact hko v1 I F
    · refine OK_st 7 okX10_takeRead (S' := ((if (I 22) ≤ v1 then 54 else 45), [(0, .ref 49), (1, .int v1)], [.int v1, .ref 59], hp I F)) rfl ⟨trivial, trivial, trivial, trivial, trivial, trivial, trivial, trivial⟩ ?_
      refine OK_if (fun h1477 => ?_) (fun h1477 => ?_)
      · refine OK_st 3 okX10_takeRead (S' := ((if (6 : Int32) ≤ v1 then 64 else 60), [(0, .ref 49), (1, .int v1)], [.int v1, .ref 59], hp I F)) rfl ⟨trivial, trivial, trivial, trivial⟩ ?_
        refine OK_if (fun h1478 => ?_) (fun h1478 => ?_)
        · refine OK_gd (fun g1479 => ?_)
          refine OK_st 4 okX10_takeRead (S' := (26, [(1, .int (v1 + (1 : Int32))), (0, .ref 49)], [], hp I (va_up F 47 (upd (F 47) v1.toNatClampNeg (-1 : Int32))))) rfl ⟨trivial, (ab_vo g1479), (by decide), trivial, trivial⟩ ?_
          refine OK_lt (fun F1480 => (26, [(1, .int (v1 + (1 : Int32))), (0, .ref 49)], [], hp I F1480)) (fun F1480 => ?_)
          refine OK_pk [1, 0] rfl ?_
          exact ih (v1 + (1 : Int32)) I F1480
        · refine OK_gd (fun g1481 => ?_)
          refine OK_st 5 okX10_takeRead (S' := (26, [(1, .int (v1 + (1 : Int32))), (0, .ref 49)], [], hp I (va_up F 47 (upd (F 47) v1.toNatClampNeg (0 : Int32))))) rfl ⟨trivial, trivial, (ab_vo g1481), (by decide), trivial, trivial⟩ ?_
          refine OK_lt (fun F1482 => (26, [(1, .int (v1 + (1 : Int32))), (0, .ref 49)], [], hp I F1482)) (fun F1482 => ?_)
          refine OK_pk [1, 0] rfl ?_
          exact ih (v1 + (1 : Int32)) I F1482
      · refine OK_gd (fun g1483 => ?_)
        refine OK_gd (fun g1484 => ?_)
        refine OK_st 8 okX10_takeRead (S' := (26, [(1, .int (v1 + (1 : Int32))), (0, .ref 49)], [], hp I (va_up F 47 (upd (F 47) v1.toNatClampNeg ((F 49) v1.toNatClampNeg))))) rfl ⟨trivial, trivial, trivial, (ab_vo g1483), trivial, (ab_vo g1484), (by decide), trivial, trivial⟩ ?_
        refine OK_lt (fun F1485 => (26, [(1, .int (v1 + (1 : Int32))), (0, .ref 49)], [], hp I F1485)) (fun F1485 => ?_)
        refine OK_pk [1, 0] rfl ?_
        exact ih (v1 + (1 : Int32)) I F1485
