/-! methods as functions (by program) -/
def f_X8_areUnlike (v2 : Int32) (v3 : Int32) (I : AI) (F : AF) : AQ :=
  f_X8_areUnlike_3 v2 v3 (fun v4_1184 I1185 F1186 =>
    some ((1 : Int32), I1185, F1186)) ab_fu (1 : Int32) I F
set_option maxRecDepth 20000 in
set_option maxHeartbeats 4000000 in
theorem kf_X8_areUnlike (v2 : Int32) (v3 : Int32) (I : AI) (F : AF) : OK 3 mX8_areUnlike true (f_X8_areUnlike v2 v3 I F) (0, [(0, .ref 27), (1, .ref 16), (2, .int v2), (3, .int v3)], [], hp I F) := by
  rw [f_X8_areUnlike]
  refine OK_st 2 okX8_areUnlike (S' := (3, [(4, .int (1 : Int32)), (0, .ref 27), (1, .ref 16), (2, .int v2), (3, .int v3)], [], hp I F)) rfl ⟨trivial, (by decide), trivial⟩ ?_
  refine OK_pk [1, 2, 3, 4, 0] rfl ?_
  refine kf_X8_areUnlike_3 v2 v3 _ (fun v4_1184 I1185 F1186 => ?_) ab_fu (1 : Int32) I F
  refine OK_st 1 okX8_areUnlike (S' := (82, [(0, .ref 27), (1, .ref 16), (2, .int v2), (3, .int v3), (4, .int v4_1184)], [.int (1 : Int32)], hp I1185 F1186)) rfl ⟨trivial, trivial⟩ ?_
  exact OK_ri okX8_areUnlike rfl rfl (Or.inr ⟨rfl, Or.inr rfl⟩)

def f_X9_bale_28 (v1 : Int32) (ko : Int32 → AI → AF → AQ) : Nat → Int32 → AI → AF → AQ
  | 0, _, _, _ => none
  | n + 1, v2, I, F =>
    if (nI 4) ≤ v2 then
      ko v2 I F
    else
      ab_bd (f_X8_seasons I F) (fun r1167 I1168 F1169 =>
        ab_bd (f_X8_areUnlike v1 (r1167 + v2) I1168 F1169) (fun r1187 I1188 F1189 =>
          if r1187 = 0 then
            f_X9_bale_28 v1 ko n (v2 + (1 : Int32)) I1188 F1189
          else
            some (v2, I1188, F1189)))
set_option maxRecDepth 20000 in
set_option maxHeartbeats 4000000 in
theorem kf_X9_bale_28 (v1 : Int32) (ko : Int32 → AI → AF → AQ) (hko : ∀ v2 I F, OK 5 mX9_bale true (ko v2 I F) (65, [(0, .ref 0), (1, .int v1), (2, .int v2)], [], hp I F)) : ∀ n v2 I F, OK 5 mX9_bale true (f_X9_bale_28 v1 ko n v2 I F) (28, [(0, .ref 0), (1, .int v1), (2, .int v2)], [], hp I F) := by
  intro n
  induction n with
  | zero =>
    intro v2 I F
    exact OK_no
  | succ n ih =>
    intro v2 I F
    rw [f_X9_bale_28]
    refine OK_st 3 okX9_bale (S' := ((if (nI 4) ≤ v2 then 65 else 33), [(0, .ref 0), (1, .int v1), (2, .int v2)], [], hp I F)) rfl ⟨trivial, trivial, trivial, trivial⟩ ?_
    refine OK_if (fun h1166 => ?_) (fun h1166 => ?_)
    · exact hko v2 I F
    · refine OK_st 7 okX9_bale (S' := (46, [(0, .ref 0), (1, .int v1), (2, .int v2)], [.ref 27, .int v1, .ref 16, .ref 27], hp I F)) rfl ⟨trivial, trivial, trivial, trivial, trivial, trivial, trivial, trivial⟩ ?_
      refine OK_cv [] [.int v1, .ref 16, .ref 27] okX9_bale okX8_seasons rfl rfl cl_RX9_126 rfl rfl (Nat.le_of_ble_eq_true rfl) (by decide) (Nat.le_of_ble_eq_true rfl) (kf_X8_seasons I F) (fun r1167 I1168 F1169 => ?_)
      refine OK_st 2 okX9_bale (S' := (51, [(0, .ref 0), (1, .int v1), (2, .int v2)], [.int (r1167 + v2), .int v1, .ref 16, .ref 27], hp I1168 F1169)) rfl ⟨trivial, trivial, trivial⟩ ?_
      refine OK_cv [.ref 16, .int v1, .int (r1167 + v2)] [] okX9_bale okX8_areUnlike rfl rfl cl_RX9_312 rfl rfl (Nat.le_of_ble_eq_true rfl) (by decide) (Nat.le_of_ble_eq_true rfl) (kf_X8_areUnlike v1 (r1167 + v2) I1168 F1169) (fun r1187 I1188 F1189 => ?_)
      refine OK_st 1 okX9_bale (S' := ((if r1187 = 0 then 59 else 57), [(0, .ref 0), (1, .int v1), (2, .int v2)], [], hp I1188 F1189)) rfl ⟨trivial, trivial⟩ ?_
      refine OK_if (fun h1190 => ?_) (fun h1190 => ?_)
      · refine OK_st 2 okX9_bale (S' := (28, [(2, .int (v2 + (1 : Int32))), (0, .ref 0), (1, .int v1)], [], hp I1188 F1189)) rfl ⟨(by decide), trivial, trivial⟩ ?_
        refine OK_pk [1, 2, 0] rfl ?_
        exact ih (v2 + (1 : Int32)) I1188 F1189
      · refine OK_st 1 okX9_bale (S' := (58, [(0, .ref 0), (1, .int v1), (2, .int v2)], [.int v2], hp I1188 F1189)) rfl ⟨trivial, trivial⟩ ?_
        exact OK_ri okX9_bale rfl rfl (Or.inl rfl)

def f_X9_bale (I : AI) (F : AF) : AQ :=
  ab_bd (f_X3_fitting I F) (fun r1159 I1160 F1161 =>
    ab_bd (f_J6_bitCount_0f7a4 r1159 I1160 F1161) (fun r1162 I1163 F1164 =>
      if (nI 2) ≤ r1162 then
        f_X9_bale_28 r1159 (fun v2_1191 I1192 F1193 =>
          some ((-1 : Int32), I1192, F1193)) ab_fu (0 : Int32) I1163 F1164
      else
        some ((-1 : Int32), I1163, F1164)))
set_option maxRecDepth 20000 in
set_option maxHeartbeats 4000000 in
theorem kf_X9_bale (I : AI) (F : AF) : OK 5 mX9_bale true (f_X9_bale I F) (0, [(0, .ref 0)], [], hp I F) := by
  rw [f_X9_bale]
  refine OK_st 6 okX9_bale (S' := (12, [(0, .ref 0)], [.ref 27, .ref 16, .ref 32], hp I F)) rfl ⟨trivial, trivial, trivial, trivial, trivial, trivial, trivial⟩ ?_
  refine OK_cv [.ref 16, .ref 27] [] okX9_bale okX3_fitting rfl rfl cl_RX9_308 rfl rfl (Nat.le_of_ble_eq_true rfl) (by decide) (Nat.le_of_ble_eq_true rfl) (kf_X3_fitting I F) (fun r1159 I1160 F1161 => ?_)
  refine OK_st 2 okX9_bale (S' := (17, [(1, .int r1159), (0, .ref 0)], [.int r1159], hp I1160 F1161)) rfl ⟨(by decide), trivial, trivial⟩ ?_
  refine OK_cs [.int r1159] [] okX9_bale okJ6_bitCount_0f7a4 rfl rfl cl_RX9_271 (Nat.le_of_ble_eq_true rfl) (by decide) (Nat.le_of_ble_eq_true rfl) (kf_J6_bitCount_0f7a4 r1159 I1160 F1161) (fun r1162 I1163 F1164 => ?_)
  refine OK_st 2 okX9_bale (S' := ((if (nI 2) ≤ r1162 then 26 else 24), [(1, .int r1159), (0, .ref 0)], [], hp I1163 F1164)) rfl ⟨trivial, trivial, trivial⟩ ?_
  refine OK_if (fun h1165 => ?_) (fun h1165 => ?_)
  · refine OK_st 2 okX9_bale (S' := (28, [(2, .int (0 : Int32)), (1, .int r1159), (0, .ref 0)], [], hp I1163 F1164)) rfl ⟨trivial, (by decide), trivial⟩ ?_
    refine OK_pk [2, 1, 0] rfl ?_
    refine kf_X9_bale_28 r1159 _ (fun v2_1191 I1192 F1193 => ?_) ab_fu (0 : Int32) I1163 F1164
    refine OK_st 1 okX9_bale (S' := (66, [(0, .ref 0), (1, .int r1159), (2, .int v2_1191)], [.int (-1 : Int32)], hp I1192 F1193)) rfl ⟨trivial, trivial⟩ ?_
    exact OK_ri okX9_bale rfl rfl (Or.inl rfl)
  · refine OK_st 1 okX9_bale (S' := (25, [(1, .int r1159), (0, .ref 0)], [.int (-1 : Int32)], hp I1163 F1164)) rfl ⟨trivial, trivial⟩ ?_
    exact OK_ri okX9_bale rfl rfl (Or.inl rfl)

def f_X3_addEntry (v1 : Int32) (v2 : Int32) (I : AI) (F : AF) : AQ :=
  if (nI 15) ≤ (I 16) then
    some ((I 16), I, F)
  else
    bif ab_vin (I 16) 15 then
      bif ab_vin (I 16) 15 then
        ab_lt (va_up I 16 ((I 16) + (1 : Int32))) (fun I1204 =>
          ab_lt (va_up (va_up F 27 (upd (F 27) (I 16).toNatClampNeg v1)) 28 (upd (F 28) (I 16).toNatClampNeg v2)) (fun F1205 =>
            some ((I1204 16), I1204, F1205)))
      else none
    else none
set_option maxRecDepth 20000 in
set_option maxHeartbeats 4000000 in
theorem kf_X3_addEntry (v1 : Int32) (v2 : Int32) (I : AI) (F : AF) : OK 0 mX3_addEntry true (f_X3_addEntry v1 v2 I F) (0, [(0, .ref 32), (1, .int v1), (2, .int v2)], [], hp I F) := by
  rw [f_X3_addEntry]
  refine OK_st 4 okX3_addEntry (S' := ((if (nI 15) ≤ (I 16) then 39 else 9), [(0, .ref 32), (1, .int v1), (2, .int v2)], [], hp I F)) rfl ⟨trivial, trivial, trivial, trivial, trivial⟩ ?_
  refine OK_if (fun h1201 => ?_) (fun h1201 => ?_)
  · refine OK_st 2 okX3_addEntry (S' := (43, [(0, .ref 32), (1, .int v1), (2, .int v2)], [.int (I 16)], hp I F)) rfl ⟨trivial, trivial, trivial⟩ ?_
    exact OK_ri okX3_addEntry rfl rfl (Or.inl rfl)
  · refine OK_gd (fun g1202 => ?_)
    refine OK_gd (fun g1203 => ?_)
    refine OK_st 18 okX3_addEntry (S' := (39, [(0, .ref 32), (1, .int v1), (2, .int v2)], [], hp (va_up I 16 ((I 16) + (1 : Int32))) (va_up (va_up F 27 (upd (F 27) (I 16).toNatClampNeg v1)) 28 (upd (F 28) (I 16).toNatClampNeg v2)))) rfl ⟨trivial, trivial, trivial, trivial, trivial, (ab_vo g1202), trivial, trivial, trivial, trivial, trivial, (ab_vo g1203), trivial, rfl, trivial, trivial, trivial, trivial, trivial⟩ ?_
    refine OK_lt (fun I1204 => (39, [(0, .ref 32), (1, .int v1), (2, .int v2)], [], hp I1204 (va_up (va_up F 27 (upd (F 27) (I 16).toNatClampNeg v1)) 28 (upd (F 28) (I 16).toNatClampNeg v2)))) (fun I1204 => ?_)
    refine OK_lt (fun F1205 => (39, [(0, .ref 32), (1, .int v1), (2, .int v2)], [], hp I1204 F1205)) (fun F1205 => ?_)
    refine OK_st 2 okX3_addEntry (S' := (43, [(0, .ref 32), (1, .int v1), (2, .int v2)], [.int (I1204 16)], hp I1204 F1205)) rfl ⟨trivial, trivial, trivial⟩ ?_
    exact OK_ri okX3_addEntry rfl rfl (Or.inl rfl)

def f_X9_write (v1 : Int32) (v2 : Int32) (I : AI) (F : AF) : AQ :=
  ab_bd (f_X5_hasLimb v1 I F) (fun r1194 I1195 F1196 =>
    if ¬ r1194 = 0 then
      if v2 < 0 then
        some ((-1000000002 : Int32), I1195, F1196)
      else
        if v2 ≤ (nI 999) then
          if (I1195 16) < (nI 15) then
            ab_bd (f_X3_addEntry v1 v2 I1195 F1196) (fun r1206 I1207 F1208 =>
              some (r1206, I1207, F1208))
          else
            some ((-1000000004 : Int32), I1195, F1196)
        else
          some ((-1000000002 : Int32), I1195, F1196)
    else
      some ((-1000000001 : Int32), I1195, F1196))
set_option maxRecDepth 20000 in
set_option maxHeartbeats 4000000 in
theorem kf_X9_write (v1 : Int32) (v2 : Int32) (I : AI) (F : AF) : OK 1 mX9_write true (f_X9_write v1 v2 I F) (0, [(0, .ref 0), (1, .int v1), (2, .int v2)], [], hp I F) := by
  rw [f_X9_write]
  refine OK_st 3 okX9_write (S' := (5, [(0, .ref 0), (1, .int v1), (2, .int v2)], [.int v1, .ref 16], hp I F)) rfl ⟨trivial, trivial, trivial, trivial⟩ ?_
  refine OK_cv [.int v1] [] okX9_write okX5_hasLimb rfl rfl cl_RX9_151 rfl rfl (Nat.le_of_ble_eq_true rfl) (by decide) (Nat.le_of_ble_eq_true rfl) (kf_X5_hasLimb v1 I F) (fun r1194 I1195 F1196 => ?_)
  refine OK_st 1 okX9_write (S' := ((if ¬ r1194 = 0 then 14 else 11), [(0, .ref 0), (1, .int v1), (2, .int v2)], [], hp I1195 F1196)) rfl ⟨trivial, trivial⟩ ?_
  refine OK_if (fun h1197 => ?_) (fun h1197 => ?_)
  · refine OK_st 2 okX9_write (S' := ((if v2 < 0 then 25 else 18), [(0, .ref 0), (1, .int v1), (2, .int v2)], [], hp I1195 F1196)) rfl ⟨trivial, trivial, trivial⟩ ?_
    refine OK_if (fun h1198 => ?_) (fun h1198 => ?_)
    · refine OK_st 1 okX9_write (S' := (27, [(0, .ref 0), (1, .int v1), (2, .int v2)], [.int (-1000000002 : Int32)], hp I1195 F1196)) rfl ⟨trivial, trivial⟩ ?_
      exact OK_ri okX9_write rfl rfl (Or.inl rfl)
    · refine OK_st 3 okX9_write (S' := ((if v2 ≤ (nI 999) then 28 else 25), [(0, .ref 0), (1, .int v1), (2, .int v2)], [], hp I1195 F1196)) rfl ⟨trivial, trivial, trivial, trivial⟩ ?_
      refine OK_if (fun h1199 => ?_) (fun h1199 => ?_)
      · refine OK_st 5 okX9_write (S' := ((if (I1195 16) < (nI 15) then 43 else 40), [(0, .ref 0), (1, .int v1), (2, .int v2)], [], hp I1195 F1196)) rfl ⟨trivial, trivial, trivial, trivial, trivial, trivial⟩ ?_
        refine OK_if (fun h1200 => ?_) (fun h1200 => ?_)
        · refine OK_st 4 okX9_write (S' := (49, [(0, .ref 0), (1, .int v1), (2, .int v2)], [.int v2, .int v1, .ref 32], hp I1195 F1196)) rfl ⟨trivial, trivial, trivial, trivial, trivial⟩ ?_
          refine OK_cv [.int v1, .int v2] [] okX9_write okX3_addEntry rfl rfl cl_RX9_316 rfl rfl (Nat.le_of_ble_eq_true rfl) (by decide) (Nat.le_of_ble_eq_true rfl) (kf_X3_addEntry v1 v2 I1195 F1196) (fun r1206 I1207 F1208 => ?_)
          exact OK_ri okX9_write rfl rfl (Or.inl rfl)
        · refine OK_st 1 okX9_write (S' := (42, [(0, .ref 0), (1, .int v1), (2, .int v2)], [.int (-1000000004 : Int32)], hp I1195 F1196)) rfl ⟨trivial, trivial⟩ ?_
          exact OK_ri okX9_write rfl rfl (Or.inl rfl)
      · refine OK_st 1 okX9_write (S' := (27, [(0, .ref 0), (1, .int v1), (2, .int v2)], [.int (-1000000002 : Int32)], hp I1195 F1196)) rfl ⟨trivial, trivial⟩ ?_
        exact OK_ri okX9_write rfl rfl (Or.inl rfl)
  · refine OK_st 1 okX9_write (S' := (13, [(0, .ref 0), (1, .int v1), (2, .int v2)], [.int (-1000000001 : Int32)], hp I1195 F1196)) rfl ⟨trivial, trivial⟩ ?_
    exact OK_ri okX9_write rfl rfl (Or.inl rfl)

def f_X9_tear (I : AI) (F : AF) : AQ :=
  ab_bd (f_X3_clearAll I F) (fun r1209 I1210 F1211 =>
    some (((I 15) + (I 16)), I1210, F1211))
set_option maxRecDepth 20000 in
set_option maxHeartbeats 4000000 in
theorem kf_X9_tear (I : AI) (F : AF) : OK 1 mX9_tear true (f_X9_tear I F) (0, [(0, .ref 0)], [], hp I F) := by
  rw [f_X9_tear]
  refine OK_st 10 okX9_tear (S' := (20, [(1, .int ((I 15) + (I 16))), (0, .ref 0)], [.ref 32], hp I F)) rfl ⟨trivial, trivial, trivial, trivial, trivial, trivial, trivial, (by decide), trivial, trivial, trivial⟩ ?_
  refine OK_cv [] [] okX9_tear okX3_clearAll rfl rfl cl_RX9_105 rfl rfl (Nat.le_of_ble_eq_true rfl) (by decide) (Nat.le_of_ble_eq_true rfl) (kf_X3_clearAll I F) (fun r1209 I1210 F1211 => ?_)
  refine OK_st 1 okX9_tear (S' := (24, [(1, .int ((I 15) + (I 16))), (0, .ref 0)], [.int ((I 15) + (I 16))], hp I1210 F1211)) rfl ⟨trivial, trivial⟩ ?_
  exact OK_ri okX9_tear rfl rfl (Or.inl rfl)

def f_X3_firstWrong_2 (ko : Int32 → AI → AF → AQ) : Nat → Int32 → AI → AF → AQ
  | 0, _, _, _ => none
  | n + 1, v3, I, F =>
    if (I 16) ≤ v3 then
      ko v3 I F
    else
      bif ab_vin v3 15 then
        ab_bd (f_X8_measureNow ((F 27) v3.toNatClampNeg) I F) (fun r1214 I1215 F1216 =>
          bif ab_vin v3 15 then
            if r1214 = ((F1216 28) v3.toNatClampNeg) then
              f_X3_firstWrong_2 ko n (v3 + (1 : Int32)) I1215 F1216
            else
              some (v3, I1215, F1216)
          else none)
      else none
set_option maxRecDepth 20000 in
set_option maxHeartbeats 4000000 in
theorem kf_X3_firstWrong_2 (ko : Int32 → AI → AF → AQ) (hko : ∀ v3 I F, OK 4 mX3_firstWrong true (ko v3 I F) (38, [(0, .ref 32), (1, .ref 16), (2, .ref 27), (3, .int v3)], [], hp I F)) : ∀ n v3 I F, OK 4 mX3_firstWrong true (f_X3_firstWrong_2 ko n v3 I F) (2, [(0, .ref 32), (1, .ref 16), (2, .ref 27), (3, .int v3)], [], hp I F) := by
  intro n
  induction n with
  | zero =>
    intro v3 I F
    exact OK_no
  | succ n ih =>
    intro v3 I F
    rw [f_X3_firstWrong_2]
    refine OK_st 4 okX3_firstWrong (S' := ((if (I 16) ≤ v3 then 38 else 10), [(0, .ref 32), (1, .ref 16), (2, .ref 27), (3, .int v3)], [], hp I F)) rfl ⟨trivial, trivial, trivial, trivial, trivial⟩ ?_
    refine OK_if (fun h1212 => ?_) (fun h1212 => ?_)
    · exact hko v3 I F
    · refine OK_gd (fun g1213 => ?_)
      refine OK_st 6 okX3_firstWrong (S' := (18, [(0, .ref 32), (1, .ref 16), (2, .ref 27), (3, .int v3)], [.int ((F 27) v3.toNatClampNeg), .ref 16, .ref 27], hp I F)) rfl ⟨trivial, trivial, trivial, trivial, trivial, (ab_vo g1213), trivial⟩ ?_
      refine OK_cv [.ref 16, .int ((F 27) v3.toNatClampNeg)] [] okX3_firstWrong okX8_measureNow rfl rfl cl_RX3_36 rfl rfl (Nat.le_of_ble_eq_true rfl) (by decide) (Nat.le_of_ble_eq_true rfl) (kf_X8_measureNow ((F 27) v3.toNatClampNeg) I F) (fun r1214 I1215 F1216 => ?_)
      refine OK_gd (fun g1217 => ?_)
      refine OK_st 5 okX3_firstWrong (S' := ((if r1214 = ((F1216 28) v3.toNatClampNeg) then 32 else 30), [(0, .ref 32), (1, .ref 16), (2, .ref 27), (3, .int v3)], [], hp I1215 F1216)) rfl ⟨trivial, trivial, trivial, (ab_vo g1217), trivial, trivial⟩ ?_
      refine OK_if (fun h1218 => ?_) (fun h1218 => ?_)
      · refine OK_st 2 okX3_firstWrong (S' := (2, [(3, .int (v3 + (1 : Int32))), (0, .ref 32), (1, .ref 16), (2, .ref 27)], [], hp I1215 F1216)) rfl ⟨(by decide), trivial, trivial⟩ ?_
        refine OK_pk [1, 2, 3, 0] rfl ?_
        exact ih (v3 + (1 : Int32)) I1215 F1216
      · refine OK_st 1 okX3_firstWrong (S' := (31, [(0, .ref 32), (1, .ref 16), (2, .ref 27), (3, .int v3)], [.int v3], hp I1215 F1216)) rfl ⟨trivial, trivial⟩ ?_
        exact OK_ri okX3_firstWrong rfl rfl (Or.inl rfl)

def f_X3_firstWrong (I : AI) (F : AF) : AQ :=
  f_X3_firstWrong_2 (fun v3_1219 I1220 F1221 =>
    some ((-1 : Int32), I1220, F1221)) ab_fu (0 : Int32) I F
set_option maxRecDepth 20000 in
set_option maxHeartbeats 4000000 in
theorem kf_X3_firstWrong (I : AI) (F : AF) : OK 4 mX3_firstWrong true (f_X3_firstWrong I F) (0, [(0, .ref 32), (1, .ref 16), (2, .ref 27)], [], hp I F) := by
  rw [f_X3_firstWrong]
  refine OK_st 2 okX3_firstWrong (S' := (2, [(3, .int (0 : Int32)), (0, .ref 32), (1, .ref 16), (2, .ref 27)], [], hp I F)) rfl ⟨trivial, (by decide), trivial⟩ ?_
  refine OK_pk [1, 2, 3, 0] rfl ?_
  refine kf_X3_firstWrong_2 _ (fun v3_1219 I1220 F1221 => ?_) ab_fu (0 : Int32) I F
  refine OK_st 1 okX3_firstWrong (S' := (39, [(0, .ref 32), (1, .ref 16), (2, .ref 27), (3, .int v3_1219)], [.int (-1 : Int32)], hp I1220 F1221)) rfl ⟨trivial, trivial⟩ ?_
  exact OK_ri okX3_firstWrong rfl rfl (Or.inl rfl)

def f_X9_judge (I : AI) (F : AF) : AQ :=
  ab_bd (f_X3_firstWrong I F) (fun r1222 I1223 F1224 =>
    some (r1222, I1223, F1224))
set_option maxRecDepth 20000 in
set_option maxHeartbeats 4000000 in
theorem kf_X9_judge (I : AI) (F : AF) : OK 5 mX9_judge true (f_X9_judge I F) (0, [(0, .ref 0)], [], hp I F) := by
  rw [f_X9_judge]
  refine OK_st 6 okX9_judge (S' := (12, [(0, .ref 0)], [.ref 27, .ref 16, .ref 32], hp I F)) rfl ⟨trivial, trivial, trivial, trivial, trivial, trivial, trivial⟩ ?_
  refine OK_cv [.ref 16, .ref 27] [] okX9_judge okX3_firstWrong rfl rfl cl_RX9_319 rfl rfl (Nat.le_of_ble_eq_true rfl) (by decide) (Nat.le_of_ble_eq_true rfl) (kf_X3_firstWrong I F) (fun r1222 I1223 F1224 => ?_)
  exact OK_ri okX9_judge rfl rfl (Or.inl rfl)

def f_X8_seedNow (I : AI) (F : AF) : AQ :=
  some (((F 22) 20), I, F)
set_option maxRecDepth 20000 in
set_option maxHeartbeats 4000000 in
theorem kf_X8_seedNow (I : AI) (F : AF) : OK 0 mX8_seedNow true (f_X8_seedNow I F) (0, [(0, .ref 27)], [], hp I F) := by
  rw [f_X8_seedNow]
  refine OK_st 4 okX8_seedNow (S' := (7, [(0, .ref 27)], [.int ((F 22) 20)], hp I F)) rfl ⟨trivial, trivial, trivial, (ab_vo (by decide)), trivial⟩ ?_
  exact OK_ri okX8_seedNow rfl rfl (Or.inl rfl)

def f_X8_sow (v1 : Int32) (I : AI) (F : AF) : AQ :=
  some (0, I, (va_up F 22 (upd (F 22) 20 v1)))
set_option maxRecDepth 20000 in
set_option maxHeartbeats 4000000 in
theorem kf_X8_sow (v1 : Int32) (I : AI) (F : AF) : OK 0 mX8_sow false (f_X8_sow v1 I F) (0, [(0, .ref 27), (1, .int v1)], [], hp I F) := by
  rw [f_X8_sow]
  refine OK_st 5 okX8_sow (S' := (8, [(0, .ref 27), (1, .int v1)], [], hp I (va_up F 22 (upd (F 22) 20 v1)))) rfl ⟨trivial, trivial, trivial, trivial, (ab_vo (by decide)), trivial⟩ ?_
  exact OK_rv okX8_sow rfl rfl rfl

def f_X9_seed (v1 : Int32) (I : AI) (F : AF) : AQ :=
  if 0 ≤ v1 then
    ab_bd (f_X8_seedNow I F) (fun r1226 I1227 F1228 =>
      ab_bd (f_X8_sow v1 I1227 F1228) (fun r1229 I1230 F1231 =>
        some (r1226, I1230, F1231)))
  else
    some ((-1000000002 : Int32), I, F)
set_option maxRecDepth 20000 in
set_option maxHeartbeats 4000000 in
theorem kf_X9_seed (v1 : Int32) (I : AI) (F : AF) : OK 1 mX9_seed true (f_X9_seed v1 I F) (0, [(0, .ref 0), (1, .int v1)], [], hp I F) := by
  rw [f_X9_seed]
  refine OK_st 2 okX9_seed (S' := ((if 0 ≤ v1 then 7 else 4), [(0, .ref 0), (1, .int v1)], [], hp I F)) rfl ⟨trivial, trivial, trivial⟩ ?_
  refine OK_if (fun h1225 => ?_) (fun h1225 => ?_)
  · refine OK_st 2 okX9_seed (S' := (11, [(0, .ref 0), (1, .int v1)], [.ref 27], hp I F)) rfl ⟨trivial, trivial, trivial⟩ ?_
    refine OK_cv [] [] okX9_seed okX8_seedNow rfl rfl cl_RX9_322 rfl rfl (Nat.le_of_ble_eq_true rfl) (by decide) (Nat.le_of_ble_eq_true rfl) (kf_X8_seedNow I F) (fun r1226 I1227 F1228 => ?_)
    refine OK_st 4 okX9_seed (S' := (20, [(2, .int r1226), (0, .ref 0), (1, .int v1)], [.int v1, .ref 27], hp I1227 F1228)) rfl ⟨(by decide), trivial, trivial, trivial, trivial⟩ ?_
    refine OK_cv [.int v1] [] okX9_seed okX8_sow rfl rfl cl_RX9_325 rfl rfl (Nat.le_of_ble_eq_true rfl) (by decide) (Nat.le_of_ble_eq_true rfl) (kf_X8_sow v1 I1227 F1228) (fun r1229 I1230 F1231 => ?_)
    refine OK_st 1 okX9_seed (S' := (24, [(2, .int r1226), (0, .ref 0), (1, .int v1)], [.int r1226], hp I1230 F1231)) rfl ⟨trivial, trivial⟩ ?_
    exact OK_ri okX9_seed rfl rfl (Or.inl rfl)
  · refine OK_st 1 okX9_seed (S' := (6, [(0, .ref 0), (1, .int v1)], [.int (-1000000002 : Int32)], hp I F)) rfl ⟨trivial, trivial⟩ ?_
    exact OK_ri okX9_seed rfl rfl (Or.inl rfl)

def f_X9_isImage (v0 : Int32) (I : AI) (F : AF) : AQ :=
  if v0 < 0 then
    some ((0 : Int32), I, F)
  else
    if (nI 2) ≤ v0 then
      some ((0 : Int32), I, F)
    else
      some ((1 : Int32), I, F)
set_option maxRecDepth 20000 in
set_option maxHeartbeats 4000000 in
theorem kf_X9_isImage (v0 : Int32) (I : AI) (F : AF) : OK 0 mX9_isImage true (f_X9_isImage v0 I F) (0, [(0, .int v0)], [], hp I F) := by
  rw [f_X9_isImage]
  refine OK_st 2 okX9_isImage (S' := ((if v0 < 0 then 13 else 4), [(0, .int v0)], [], hp I F)) rfl ⟨trivial, trivial, trivial⟩ ?_
  refine OK_if (fun h1232 => ?_) (fun h1232 => ?_)
  · refine OK_st 1 okX9_isImage (S' := (14, [(0, .int v0)], [.int (0 : Int32)], hp I F)) rfl ⟨trivial, trivial⟩ ?_
    exact OK_ri okX9_isImage rfl rfl (Or.inr ⟨rfl, Or.inl rfl⟩)
  · refine OK_st 3 okX9_isImage (S' := ((if (nI 2) ≤ v0 then 13 else 9), [(0, .int v0)], [], hp I F)) rfl ⟨trivial, trivial, trivial, trivial⟩ ?_
    refine OK_if (fun h1233 => ?_) (fun h1233 => ?_)
    · refine OK_st 1 okX9_isImage (S' := (14, [(0, .int v0)], [.int (0 : Int32)], hp I F)) rfl ⟨trivial, trivial⟩ ?_
      exact OK_ri okX9_isImage rfl rfl (Or.inr ⟨rfl, Or.inl rfl⟩)
    · refine OK_st 2 okX9_isImage (S' := (14, [(0, .int v0)], [.int (1 : Int32)], hp I F)) rfl ⟨trivial, trivial, trivial⟩ ?_
      exact OK_ri okX9_isImage rfl rfl (Or.inr ⟨rfl, Or.inr rfl⟩)

def f_X4_keepImage (v1 : Int32) (I : AI) (F : AF) : AQ :=
  bif ab_cg (0 : Int32) (v1 * (nI 21)) (nI 21) 21 42 then
    some (0, (va_up I 14 ((I 14) ||| ((1 : Int32) <<< (v1 &&& 31)))), (va_up F 24 (va_cpy (F 22) (F 24) 0 (v1 * (nI 21)).toNatClampNeg 21)))
  else none
set_option maxRecDepth 20000 in
set_option maxHeartbeats 4000000 in
theorem kf_X4_keepImage (v1 : Int32) (I : AI) (F : AF) : OK 0 mX4_keepImage false (f_X4_keepImage v1 I F) (0, [(0, .ref 29), (1, .int v1), (2, .ref 27)], [], hp I F) := by
  rw [f_X4_keepImage]
  refine OK_gd (fun g1238 => ?_)
  refine OK_st 18 okX4_keepImage (S' := (30, [(0, .ref 29), (1, .int v1), (2, .ref 27)], [], hp (va_up I 14 ((I 14) ||| ((1 : Int32) <<< (v1 &&& 31)))) (va_up F 24 (va_cpy (F 22) (F 24) 0 (v1 * (nI 21)).toNatClampNeg 21)))) rfl ⟨trivial, trivial, trivial, trivial, trivial, trivial, trivial, trivial, trivial, ab_cgo g1238 (Nat.le_of_ble_eq_true rfl), trivial, rfl, trivial, trivial, trivial, trivial, trivial, trivial, trivial⟩ ?_
  exact OK_rv okX4_keepImage rfl rfl rfl

def f_X9_keep (v1 : Int32) (I : AI) (F : AF) : AQ :=
  ab_bd (f_X9_isImage v1 I F) (fun r1234 I1235 F1236 =>
    if ¬ r1234 = 0 then
      ab_bd (f_X4_keepImage v1 I1235 F1236) (fun r1239 I1240 F1241 =>
        ab_bd (f_X4_forgetUndone I1240 F1241) (fun r1242 I1243 F1244 =>
          some ((1 : Int32), I1243, F1244)))
    else
      some ((-1000000001 : Int32), I1235, F1236))
set_option maxRecDepth 20000 in
set_option maxHeartbeats 4000000 in
theorem kf_X9_keep (v1 : Int32) (I : AI) (F : AF) : OK 1 mX9_keep true (f_X9_keep v1 I F) (0, [(0, .ref 0), (1, .int v1)], [], hp I F) := by
  rw [f_X9_keep]
  refine OK_st 1 okX9_keep (S' := (1, [(0, .ref 0), (1, .int v1)], [.int v1], hp I F)) rfl ⟨trivial, trivial⟩ ?_
  refine OK_cs [.int v1] [] okX9_keep okX9_isImage rfl rfl cl_RX9_328 (Nat.le_of_ble_eq_true rfl) (by decide) (Nat.le_of_ble_eq_true rfl) (kf_X9_isImage v1 I F) (fun r1234 I1235 F1236 => ?_)
  refine OK_st 1 okX9_keep (S' := ((if ¬ r1234 = 0 then 10 else 7), [(0, .ref 0), (1, .int v1)], [], hp I1235 F1236)) rfl ⟨trivial, trivial⟩ ?_
  refine OK_if (fun h1237 => ?_) (fun h1237 => ?_)
  · refine OK_st 5 okX9_keep (S' := (19, [(0, .ref 0), (1, .int v1)], [.ref 27, .int v1, .ref 29], hp I1235 F1236)) rfl ⟨trivial, trivial, trivial, trivial, trivial, trivial⟩ ?_
    refine OK_cv [.int v1, .ref 27] [] okX9_keep okX4_keepImage rfl rfl cl_RX9_331 rfl rfl (Nat.le_of_ble_eq_true rfl) (by decide) (Nat.le_of_ble_eq_true rfl) (kf_X4_keepImage v1 I1235 F1236) (fun r1239 I1240 F1241 => ?_)
    refine OK_st 2 okX9_keep (S' := (26, [(0, .ref 0), (1, .int v1)], [.ref 29], hp I1240 F1241)) rfl ⟨trivial, trivial, trivial⟩ ?_
    refine OK_cv [] [] okX9_keep okX4_forgetUndone rfl rfl cl_RX9_108 rfl rfl (Nat.le_of_ble_eq_true rfl) (by decide) (Nat.le_of_ble_eq_true rfl) (kf_X4_forgetUndone I1240 F1241) (fun r1242 I1243 F1244 => ?_)
    refine OK_st 1 okX9_keep (S' := (30, [(0, .ref 0), (1, .int v1)], [.int (1 : Int32)], hp I1243 F1244)) rfl ⟨trivial, trivial⟩ ?_
    exact OK_ri okX9_keep rfl rfl (Or.inl rfl)
  · refine OK_st 1 okX9_keep (S' := (9, [(0, .ref 0), (1, .int v1)], [.int (-1000000001 : Int32)], hp I1235 F1236)) rfl ⟨trivial, trivial⟩ ?_
    exact OK_ri okX9_keep rfl rfl (Or.inl rfl)

def f_X4_hasImage (v1 : Int32) (I : AI) (F : AF) : AQ :=
  if (((I 14) >>> (v1 &&& 31)) &&& (1 : Int32)) = 0 then
    some ((0 : Int32), I, F)
  else
    some ((1 : Int32), I, F)
set_option maxRecDepth 20000 in
set_option maxHeartbeats 4000000 in
theorem kf_X4_hasImage (v1 : Int32) (I : AI) (F : AF) : OK 0 mX4_hasImage true (f_X4_hasImage v1 I F) (0, [(0, .ref 29), (1, .int v1)], [], hp I F) := by
  rw [f_X4_hasImage]
  refine OK_st 7 okX4_hasImage (S' := ((if (((I 14) >>> (v1 &&& 31)) &&& (1 : Int32)) = 0 then 15 else 11), [(0, .ref 29), (1, .int v1)], [], hp I F)) rfl ⟨trivial, trivial, trivial, trivial, trivial, trivial, trivial, trivial⟩ ?_
  refine OK_if (fun h1249 => ?_) (fun h1249 => ?_)
  · refine OK_st 1 okX4_hasImage (S' := (16, [(0, .ref 29), (1, .int v1)], [.int (0 : Int32)], hp I F)) rfl ⟨trivial, trivial⟩ ?_
    exact OK_ri okX4_hasImage rfl rfl (Or.inr ⟨rfl, Or.inl rfl⟩)
  · refine OK_st 2 okX4_hasImage (S' := (16, [(0, .ref 29), (1, .int v1)], [.int (1 : Int32)], hp I F)) rfl ⟨trivial, trivial, trivial⟩ ?_
    exact OK_ri okX4_hasImage rfl rfl (Or.inr ⟨rfl, Or.inr rfl⟩)

def f_X4_restoreImage (v1 : Int32) (I : AI) (F : AF) : AQ :=
  bif ab_cg (v1 * (nI 21)) (0 : Int32) (nI 21) 42 21 then
    some (0, I, (va_up F 22 (va_cpy (F 24) (F 22) (v1 * (nI 21)).toNatClampNeg 0 21)))
  else none
set_option maxRecDepth 20000 in
set_option maxHeartbeats 4000000 in
theorem kf_X4_restoreImage (v1 : Int32) (I : AI) (F : AF) : OK 0 mX4_restoreImage false (f_X4_restoreImage v1 I F) (0, [(0, .ref 29), (1, .int v1), (2, .ref 27)], [], hp I F) := by
  rw [f_X4_restoreImage]
  refine OK_gd (fun g1254 => ?_)
  refine OK_st 10 okX4_restoreImage (S' := (18, [(0, .ref 29), (1, .int v1), (2, .ref 27)], [], hp I (va_up F 22 (va_cpy (F 24) (F 22) (v1 * (nI 21)).toNatClampNeg 0 21)))) rfl ⟨trivial, trivial, trivial, trivial, trivial, trivial, trivial, trivial, trivial, ab_cgo g1254 (Nat.le_of_ble_eq_true rfl), trivial⟩ ?_
  exact OK_rv okX4_restoreImage rfl rfl rfl

def f_X9_goBack (v1 : Int32) (I : AI) (F : AF) : AQ :=
  ab_bd (f_X9_isImage v1 I F) (fun r1245 I1246 F1247 =>
    if ¬ r1245 = 0 then
      ab_bd (f_X4_hasImage v1 I1246 F1247) (fun r1250 I1251 F1252 =>
        if ¬ r1250 = 0 then
          ab_bd (f_X4_restoreImage v1 I1251 F1252) (fun r1255 I1256 F1257 =>
            ab_bd (f_X4_forgetUndone I1256 F1257) (fun r1258 I1259 F1260 =>
              some ((1 : Int32), I1259, F1260)))
        else
          some ((-1000000003 : Int32), I1251, F1252))
    else
      some ((-1000000001 : Int32), I1246, F1247))
set_option maxRecDepth 20000 in
set_option maxHeartbeats 4000000 in
theorem kf_X9_goBack (v1 : Int32) (I : AI) (F : AF) : OK 1 mX9_goBack true (f_X9_goBack v1 I F) (0, [(0, .ref 0), (1, .int v1)], [], hp I F) := by
  rw [f_X9_goBack]
  refine OK_st 1 okX9_goBack (S' := (1, [(0, .ref 0), (1, .int v1)], [.int v1], hp I F)) rfl ⟨trivial, trivial⟩ ?_
  refine OK_cs [.int v1] [] okX9_goBack okX9_isImage rfl rfl cl_RX9_328 (Nat.le_of_ble_eq_true rfl) (by decide) (Nat.le_of_ble_eq_true rfl) (kf_X9_isImage v1 I F) (fun r1245 I1246 F1247 => ?_)
  refine OK_st 1 okX9_goBack (S' := ((if ¬ r1245 = 0 then 10 else 7), [(0, .ref 0), (1, .int v1)], [], hp I1246 F1247)) rfl ⟨trivial, trivial⟩ ?_
  refine OK_if (fun h1248 => ?_) (fun h1248 => ?_)
  · refine OK_st 3 okX9_goBack (S' := (15, [(0, .ref 0), (1, .int v1)], [.int v1, .ref 29], hp I1246 F1247)) rfl ⟨trivial, trivial, trivial, trivial⟩ ?_
    refine OK_cv [.int v1] [] okX9_goBack okX4_hasImage rfl rfl cl_RX9_335 rfl rfl (Nat.le_of_ble_eq_true rfl) (by decide) (Nat.le_of_ble_eq_true rfl) (kf_X4_hasImage v1 I1246 F1247) (fun r1250 I1251 F1252 => ?_)
    refine OK_st 1 okX9_goBack (S' := ((if ¬ r1250 = 0 then 24 else 21), [(0, .ref 0), (1, .int v1)], [], hp I1251 F1252)) rfl ⟨trivial, trivial⟩ ?_
    refine OK_if (fun h1253 => ?_) (fun h1253 => ?_)
    · refine OK_st 5 okX9_goBack (S' := (33, [(0, .ref 0), (1, .int v1)], [.ref 27, .int v1, .ref 29], hp I1251 F1252)) rfl ⟨trivial, trivial, trivial, trivial, trivial, trivial⟩ ?_
      refine OK_cv [.int v1, .ref 27] [] okX9_goBack okX4_restoreImage rfl rfl cl_RX9_338 rfl rfl (Nat.le_of_ble_eq_true rfl) (by decide) (Nat.le_of_ble_eq_true rfl) (kf_X4_restoreImage v1 I1251 F1252) (fun r1255 I1256 F1257 => ?_)
      refine OK_st 2 okX9_goBack (S' := (40, [(0, .ref 0), (1, .int v1)], [.ref 29], hp I1256 F1257)) rfl ⟨trivial, trivial, trivial⟩ ?_
      refine OK_cv [] [] okX9_goBack okX4_forgetUndone rfl rfl cl_RX9_108 rfl rfl (Nat.le_of_ble_eq_true rfl) (by decide) (Nat.le_of_ble_eq_true rfl) (kf_X4_forgetUndone I1256 F1257) (fun r1258 I1259 F1260 => ?_)
      refine OK_st 1 okX9_goBack (S' := (44, [(0, .ref 0), (1, .int v1)], [.int (1 : Int32)], hp I1259 F1260)) rfl ⟨trivial, trivial⟩ ?_
      exact OK_ri okX9_goBack rfl rfl (Or.inl rfl)
    · refine OK_st 1 okX9_goBack (S' := (23, [(0, .ref 0), (1, .int v1)], [.int (-1000000003 : Int32)], hp I1251 F1252)) rfl ⟨trivial, trivial⟩ ?_
      exact OK_ri okX9_goBack rfl rfl (Or.inl rfl)
  · refine OK_st 1 okX9_goBack (S' := (9, [(0, .ref 0), (1, .int v1)], [.int (-1000000001 : Int32)], hp I1246 F1247)) rfl ⟨trivial, trivial⟩ ?_
    exact OK_ri okX9_goBack rfl rfl (Or.inl rfl)
