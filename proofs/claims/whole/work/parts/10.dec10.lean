/-! methods as functions (by program) -/
def f_X10_apartBy (v1 : Int32) (I : AI) (F : AF) : AQ :=
  f_X10_apartBy_7 v1 (fun v2_2136 v3_2137 v4_2138 I2139 F2140 =>
    some (v2_2136, I2139, F2140)) ab_fu (0 : Int32) (0 : Int32) (0 : Int32) I F
set_option maxRecDepth 20000 in
set_option maxHeartbeats 4000000 in
theorem kf_X10_apartBy (v1 : Int32) (I : AI) (F : AF) : OK 2 mX10_apartBy true (f_X10_apartBy v1 I F) (0, [(0, .ref 49), (1, .int v1)], [], hp I F) := by
  rw [f_X10_apartBy]
  refine OK_st 6 okX10_apartBy (S' := (7, [(4, .int (0 : Int32)), (3, .int (0 : Int32)), (2, .int (0 : Int32)), (0, .ref 49), (1, .int v1)], [], hp I F)) rfl ⟨trivial, (by decide), trivial, (by decide), trivial, (by decide), trivial⟩ ?_
  refine OK_pk [3, 4, 2, 1, 0] rfl ?_
  refine kf_X10_apartBy_7 v1 _ (fun v2_2136 v3_2137 v4_2138 I2139 F2140 => ?_) ab_fu (0 : Int32) (0 : Int32) (0 : Int32) I F
  refine OK_st 1 okX10_apartBy (S' := (99, [(0, .ref 49), (1, .int v1), (2, .int v2_2136), (3, .int v3_2137), (4, .int v4_2138)], [.int v2_2136], hp I2139 F2140)) rfl ⟨trivial, trivial⟩ ?_
  exact OK_ri okX10_apartBy rfl rfl (Or.inl rfl)

def f_X10_heirs_j85_54 (bk ko : Int32 → Int32 → Int32 → AI → AF → AQ) (v1 : Int32) (v2 : Int32) (v3 : Int32) (v4 : Int32) (v5 : Int32) (I : AI) (F : AF) : AQ :=
  if (0 : Int32) = 0 then
    if (0 : Int32) = 0 then
      bk v2 v3 (v4 + (1 : Int32)) I F
    else
      bk v2 v5 (v4 + (1 : Int32)) I F
  else
    if (0 : Int32) = 0 then
      bk v4 v3 (v4 + (1 : Int32)) I F
    else
      bk v4 v5 (v4 + (1 : Int32)) I F
set_option maxRecDepth 20000 in
set_option maxHeartbeats 4000000 in
theorem kf_X10_heirs_j85_54 (bk ko : Int32 → Int32 → Int32 → AI → AF → AQ) (v1 : Int32) (v2 : Int32) (v3 : Int32) (v4 : Int32) (v5 : Int32) (hbk : ∀ v2 v3 v4 I F, OK 3 mX10_heirs true (bk v2 v3 v4 I F) (54, [(0, .ref 49), (1, .int v1), (2, .int v2), (3, .int v3), (4, .int v4)], [], hp I F)) (hko : ∀ v2 v3 v4 I F, OK 3 mX10_heirs true (ko v2 v3 v4 I F) (118, [(0, .ref 49), (1, .int v1), (2, .int v2), (3, .int v3), (4, .int v4)], [], hp I F)) (I : AI) (F : AF) : OK 3 mX10_heirs true (f_X10_heirs_j85_54 bk ko v1 v2 v3 v4 v5 I F) (85, [(0, .ref 49), (1, .int v1), (2, .int v2), (3, .int v3), (4, .int v4), (5, .int v5)], [], hp I F) := by
  rw [f_X10_heirs_j85_54]
  refine OK_st 4 okX10_heirs (S' := ((if (0 : Int32) = 0 then 98 else 93), [(6, .int (0 : Int32)), (0, .ref 49), (1, .int v1), (2, .int v2), (3, .int v3), (4, .int v4), (5, .int v5)], [], hp I F)) rfl ⟨trivial, (by decide), trivial, trivial, trivial⟩ ?_
  refine OK_if (fun h2145 => ?_) (fun h2145 => ?_)
  · refine OK_st 4 okX10_heirs (S' := ((if (0 : Int32) = 0 then 110 else 105), [(2, .int v2), (6, .int (0 : Int32)), (0, .ref 49), (1, .int v1), (3, .int v3), (4, .int v4), (5, .int v5)], [], hp I F)) rfl ⟨trivial, (by decide), trivial, trivial, trivial⟩ ?_
    refine OK_if (fun h2146 => ?_) (fun h2146 => ?_)
    · refine OK_st 4 okX10_heirs (S' := (54, [(4, .int (v4 + (1 : Int32))), (3, .int v3), (2, .int v2), (6, .int (0 : Int32)), (0, .ref 49), (1, .int v1), (5, .int v5)], [], hp I F)) rfl ⟨trivial, (by decide), (by decide), trivial, trivial⟩ ?_
      refine OK_pk [4, 5, 2, 1, 0] rfl ?_
      exact hbk v2 v3 (v4 + (1 : Int32)) I F
    · refine OK_st 5 okX10_heirs (S' := (54, [(4, .int (v4 + (1 : Int32))), (3, .int v5), (2, .int v2), (6, .int (0 : Int32)), (0, .ref 49), (1, .int v1), (5, .int v5)], [], hp I F)) rfl ⟨trivial, trivial, (by decide), (by decide), trivial, trivial⟩ ?_
      refine OK_pk [4, 5, 2, 1, 0] rfl ?_
      exact hbk v2 v5 (v4 + (1 : Int32)) I F
  · refine OK_st 5 okX10_heirs (S' := ((if (0 : Int32) = 0 then 110 else 105), [(2, .int v4), (6, .int (0 : Int32)), (0, .ref 49), (1, .int v1), (3, .int v3), (4, .int v4), (5, .int v5)], [], hp I F)) rfl ⟨trivial, trivial, (by decide), trivial, trivial, trivial⟩ ?_
    refine OK_if (fun h2147 => ?_) (fun h2147 => ?_)
    · refine OK_st 4 okX10_heirs (S' := (54, [(4, .int (v4 + (1 : Int32))), (3, .int v3), (2, .int v4), (6, .int (0 : Int32)), (0, .ref 49), (1, .int v1), (5, .int v5)], [], hp I F)) rfl ⟨trivial, (by decide), (by decide), trivial, trivial⟩ ?_
      refine OK_pk [4, 5, 2, 1, 0] rfl ?_
      exact hbk v4 v3 (v4 + (1 : Int32)) I F
    · refine OK_st 5 okX10_heirs (S' := (54, [(4, .int (v4 + (1 : Int32))), (3, .int v5), (2, .int v4), (6, .int (0 : Int32)), (0, .ref 49), (1, .int v1), (5, .int v5)], [], hp I F)) rfl ⟨trivial, trivial, (by decide), (by decide), trivial, trivial⟩ ?_
      refine OK_pk [4, 5, 2, 1, 0] rfl ?_
      exact hbk v4 v5 (v4 + (1 : Int32)) I F

def f_X10_heirs_54 (v1 : Int32) (ko : Int32 → Int32 → Int32 → AI → AF → AQ) : Nat → Int32 → Int32 → Int32 → AI → AF → AQ
  | 0, _, _, _, _, _ => none
  | n + 1, v2, v3, v4, I, F =>
    if (46656 : Int32) ≤ v4 then
      ko v2 v3 v4 I F
    else
      ab_bd (f_X10_apartBy v4 I F) (fun r2141 I2142 F2143 =>
        if r2141 < 0 then
          f_X10_heirs_j85_54 (f_X10_heirs_54 v1 ko n) ko v1 v2 v3 v4 r2141 I2142 F2143
        else
          if v3 ≤ r2141 then
            f_X10_heirs_j85_54 (f_X10_heirs_54 v1 ko n) ko v1 v2 v3 v4 r2141 I2142 F2143
          else
            if (1 : Int32) = 0 then
              if (1 : Int32) = 0 then
                f_X10_heirs_54 v1 ko n v2 v3 (v4 + (1 : Int32)) I2142 F2143
              else
                f_X10_heirs_54 v1 ko n v2 r2141 (v4 + (1 : Int32)) I2142 F2143
            else
              if (1 : Int32) = 0 then
                f_X10_heirs_54 v1 ko n v4 v3 (v4 + (1 : Int32)) I2142 F2143
              else
                f_X10_heirs_54 v1 ko n v4 r2141 (v4 + (1 : Int32)) I2142 F2143)
set_option maxRecDepth 20000 in
set_option maxHeartbeats 4000000 in
theorem kf_X10_heirs_54 (v1 : Int32) (ko : Int32 → Int32 → Int32 → AI → AF → AQ) (hko : ∀ v2 v3 v4 I F, OK 3 mX10_heirs true (ko v2 v3 v4 I F) (118, [(0, .ref 49), (1, .int v1), (2, .int v2), (3, .int v3), (4, .int v4)], [], hp I F)) : ∀ n v2 v3 v4 I F, OK 3 mX10_heirs true (f_X10_heirs_54 v1 ko n v2 v3 v4 I F) (54, [(0, .ref 49), (1, .int v1), (2, .int v2), (3, .int v3), (4, .int v4)], [], hp I F) := by
  intro n
  induction n with
  | zero =>
    intro v2 v3 v4 I F
    exact OK_no
  | succ n ih =>
    intro v2 v3 v4 I F
    rw [f_X10_heirs_54]
    refine OK_st 3 okX10_heirs (S' := ((if (46656 : Int32) ≤ v4 then 118 else 62), [(0, .ref 49), (1, .int v1), (2, .int v2), (3, .int v3), (4, .int v4)], [], hp I F)) rfl ⟨trivial, trivial, trivial, trivial⟩ ?_
    refine OK_if (fun h2105 => ?_) (fun h2105 => ?_)
    · exact hko v2 v3 v4 I F
    · refine OK_st 2 okX10_heirs (S' := (65, [(0, .ref 49), (1, .int v1), (2, .int v2), (3, .int v3), (4, .int v4)], [.int v4, .ref 49], hp I F)) rfl ⟨trivial, trivial, trivial⟩ ?_
      refine OK_cv [.int v4] [] okX10_heirs okX10_apartBy rfl rfl cl_RX10_309 rfl rfl (Nat.le_of_ble_eq_true rfl) (by decide) (Nat.le_of_ble_eq_true rfl) (kf_X10_apartBy v4 I F) (fun r2141 I2142 F2143 => ?_)
      refine OK_st 3 okX10_heirs (S' := ((if r2141 < 0 then 85 else 75), [(5, .int r2141), (0, .ref 49), (1, .int v1), (2, .int v2), (3, .int v3), (4, .int v4)], [], hp I2142 F2143)) rfl ⟨(by decide), trivial, trivial, trivial⟩ ?_
      refine OK_if (fun h2144 => ?_) (fun h2144 => ?_)
      · refine OK_pk [1, 2, 3, 4, 5, 0] rfl ?_
        exact kf_X10_heirs_j85_54 (f_X10_heirs_54 v1 ko n) ko v1 v2 v3 v4 r2141 ih hko I2142 F2143
      · refine OK_st 3 okX10_heirs (S' := ((if v3 ≤ r2141 then 85 else 81), [(5, .int r2141), (0, .ref 49), (1, .int v1), (2, .int v2), (3, .int v3), (4, .int v4)], [], hp I2142 F2143)) rfl ⟨trivial, trivial, trivial, trivial⟩ ?_
        refine OK_if (fun h2148 => ?_) (fun h2148 => ?_)
        · refine OK_pk [1, 2, 3, 4, 5, 0] rfl ?_
          exact kf_X10_heirs_j85_54 (f_X10_heirs_54 v1 ko n) ko v1 v2 v3 v4 r2141 ih hko I2142 F2143
        · refine OK_st 5 okX10_heirs (S' := ((if (1 : Int32) = 0 then 98 else 93), [(6, .int (1 : Int32)), (5, .int r2141), (0, .ref 49), (1, .int v1), (2, .int v2), (3, .int v3), (4, .int v4)], [], hp I2142 F2143)) rfl ⟨trivial, trivial, (by decide), trivial, trivial, trivial⟩ ?_
          refine OK_if (fun h2149 => ?_) (fun h2149 => ?_)
          · refine OK_st 4 okX10_heirs (S' := ((if (1 : Int32) = 0 then 110 else 105), [(2, .int v2), (6, .int (1 : Int32)), (5, .int r2141), (0, .ref 49), (1, .int v1), (3, .int v3), (4, .int v4)], [], hp I2142 F2143)) rfl ⟨trivial, (by decide), trivial, trivial, trivial⟩ ?_
            refine OK_if (fun h2150 => ?_) (fun h2150 => ?_)
            · refine OK_st 4 okX10_heirs (S' := (54, [(4, .int (v4 + (1 : Int32))), (3, .int v3), (2, .int v2), (6, .int (1 : Int32)), (5, .int r2141), (0, .ref 49), (1, .int v1)], [], hp I2142 F2143)) rfl ⟨trivial, (by decide), (by decide), trivial, trivial⟩ ?_
              refine OK_pk [5, 6, 2, 1, 0] rfl ?_
              exact ih v2 v3 (v4 + (1 : Int32)) I2142 F2143
            · refine OK_st 5 okX10_heirs (S' := (54, [(4, .int (v4 + (1 : Int32))), (3, .int r2141), (2, .int v2), (6, .int (1 : Int32)), (5, .int r2141), (0, .ref 49), (1, .int v1)], [], hp I2142 F2143)) rfl ⟨trivial, trivial, (by decide), (by decide), trivial, trivial⟩ ?_
              refine OK_pk [5, 6, 2, 1, 0] rfl ?_
              exact ih v2 r2141 (v4 + (1 : Int32)) I2142 F2143
          · refine OK_st 5 okX10_heirs (S' := ((if (1 : Int32) = 0 then 110 else 105), [(2, .int v4), (6, .int (1 : Int32)), (5, .int r2141), (0, .ref 49), (1, .int v1), (3, .int v3), (4, .int v4)], [], hp I2142 F2143)) rfl ⟨trivial, trivial, (by decide), trivial, trivial, trivial⟩ ?_
            refine OK_if (fun h2151 => ?_) (fun h2151 => ?_)
            · refine OK_st 4 okX10_heirs (S' := (54, [(4, .int (v4 + (1 : Int32))), (3, .int v3), (2, .int v4), (6, .int (1 : Int32)), (5, .int r2141), (0, .ref 49), (1, .int v1)], [], hp I2142 F2143)) rfl ⟨trivial, (by decide), (by decide), trivial, trivial⟩ ?_
              refine OK_pk [5, 6, 2, 1, 0] rfl ?_
              exact ih v4 v3 (v4 + (1 : Int32)) I2142 F2143
            · refine OK_st 5 okX10_heirs (S' := (54, [(4, .int (v4 + (1 : Int32))), (3, .int r2141), (2, .int v4), (6, .int (1 : Int32)), (5, .int r2141), (0, .ref 49), (1, .int v1)], [], hp I2142 F2143)) rfl ⟨trivial, trivial, (by decide), (by decide), trivial, trivial⟩ ?_
              refine OK_pk [5, 6, 2, 1, 0] rfl ?_
              exact ih v4 r2141 (v4 + (1 : Int32)) I2142 F2143

def f_X10_heirs_j16 (v1 : Int32) (I : AI) (F : AF) : AQ :=
  ab_bd (f_X10_bits ((F 47) 18) I F) (fun r2100 I2101 F2102 =>
    if r2100 < (2 : Int32) then
      some ((-1 : Int32), I2101, F2102)
    else
      if v1 = (-1 : Int32) then
        f_X10_heirs_54 v1 (fun v2_2152 v3_2153 v4_2154 I2155 F2156 =>
          if ¬ v1 = (-1 : Int32) then
            ab_bd (f_X10_heirOf v2_2152 v1 I2155 F2156) (fun r2158 I2159 F2160 =>
              some (r2158, I2159, F2160))
          else
            some (v3_2153, I2155, F2156)) ab_fu (-1 : Int32) (1000000 : Int32) (0 : Int32) I2101 F2102
      else
        ab_bd (f_X10_lives v1 I2101 F2102) (fun r2161 I2162 F2163 =>
          if ¬ r2161 = 0 then
            f_X10_heirs_54 v1 (fun v2_2165 v3_2166 v4_2167 I2168 F2169 =>
              if ¬ v1 = (-1 : Int32) then
                ab_bd (f_X10_heirOf v2_2165 v1 I2168 F2169) (fun r2171 I2172 F2173 =>
                  some (r2171, I2172, F2173))
              else
                some (v3_2166, I2168, F2169)) ab_fu (-1 : Int32) (1000000 : Int32) (0 : Int32) I2162 F2163
          else
            some ((-1 : Int32), I2162, F2163)))
set_option maxRecDepth 20000 in
set_option maxHeartbeats 4000000 in
theorem kf_X10_heirs_j16 (v1 : Int32) (I : AI) (F : AF) : OK 3 mX10_heirs true (f_X10_heirs_j16 v1 I F) (16, [(0, .ref 49), (1, .int v1)], [], hp I F) := by
  rw [f_X10_heirs_j16]
  refine OK_st 4 okX10_heirs (S' := (23, [(0, .ref 49), (1, .int v1)], [.int ((F 47) 18)], hp I F)) rfl ⟨trivial, trivial, trivial, (ab_vo (by decide)), trivial⟩ ?_
  refine OK_cs [.int ((F 47) 18)] [] okX10_heirs okX10_bits rfl rfl cl_RX10_304 (Nat.le_of_ble_eq_true rfl) (by decide) (Nat.le_of_ble_eq_true rfl) (kf_X10_bits ((F 47) 18) I F) (fun r2100 I2101 F2102 => ?_)
  refine OK_st 2 okX10_heirs (S' := ((if r2100 < (2 : Int32) then 43 else 30), [(0, .ref 49), (1, .int v1)], [], hp I2101 F2102)) rfl ⟨trivial, trivial, trivial⟩ ?_
  refine OK_if (fun h2103 => ?_) (fun h2103 => ?_)
  · refine OK_st 1 okX10_heirs (S' := (44, [(0, .ref 49), (1, .int v1)], [.int (-1 : Int32)], hp I2101 F2102)) rfl ⟨trivial, trivial⟩ ?_
    exact OK_ri okX10_heirs rfl rfl (Or.inl rfl)
  · refine OK_st 3 okX10_heirs (S' := ((if v1 = (-1 : Int32) then 45 else 35), [(0, .ref 49), (1, .int v1)], [], hp I2101 F2102)) rfl ⟨trivial, trivial, trivial, trivial⟩ ?_
    refine OK_if (fun h2104 => ?_) (fun h2104 => ?_)
    · refine OK_st 6 okX10_heirs (S' := (54, [(4, .int (0 : Int32)), (3, .int (1000000 : Int32)), (2, .int (-1 : Int32)), (0, .ref 49), (1, .int v1)], [], hp I2101 F2102)) rfl ⟨trivial, (by decide), trivial, (by decide), trivial, (by decide), trivial⟩ ?_
      refine OK_pk [3, 4, 2, 1, 0] rfl ?_
      refine kf_X10_heirs_54 v1 _ (fun v2_2152 v3_2153 v4_2154 I2155 F2156 => ?_) ab_fu (-1 : Int32) (1000000 : Int32) (0 : Int32) I2101 F2102
      refine OK_st 3 okX10_heirs (S' := ((if ¬ v1 = (-1 : Int32) then 127 else 123), [(0, .ref 49), (1, .int v1), (2, .int v2_2152), (3, .int v3_2153), (4, .int v4_2154)], [], hp I2155 F2156)) rfl ⟨trivial, trivial, trivial, trivial⟩ ?_
      refine OK_if (fun h2157 => ?_) (fun h2157 => ?_)
      · refine OK_st 2 okX10_heirs (S' := (129, [(0, .ref 49), (1, .int v1), (2, .int v2_2152), (3, .int v3_2153), (4, .int v4_2154)], [.int v1, .int v2_2152], hp I2155 F2156)) rfl ⟨trivial, trivial, trivial⟩ ?_
        refine OK_cs [.int v2_2152, .int v1] [] okX10_heirs okX10_heirOf rfl rfl cl_RX10_298 (Nat.le_of_ble_eq_true rfl) (by decide) (Nat.le_of_ble_eq_true rfl) (kf_X10_heirOf v2_2152 v1 I2155 F2156) (fun r2158 I2159 F2160 => ?_)
        exact OK_ri okX10_heirs rfl rfl (Or.inl rfl)
      · refine OK_st 2 okX10_heirs (S' := (132, [(0, .ref 49), (1, .int v1), (2, .int v2_2152), (3, .int v3_2153), (4, .int v4_2154)], [.int v3_2153], hp I2155 F2156)) rfl ⟨trivial, trivial, trivial⟩ ?_
        exact OK_ri okX10_heirs rfl rfl (Or.inl rfl)
    · refine OK_st 2 okX10_heirs (S' := (37, [(0, .ref 49), (1, .int v1)], [.int v1, .ref 49], hp I2101 F2102)) rfl ⟨trivial, trivial, trivial⟩ ?_
      refine OK_cv [.int v1] [] okX10_heirs okX10_lives rfl rfl cl_RX10_190 rfl rfl (Nat.le_of_ble_eq_true rfl) (by decide) (Nat.le_of_ble_eq_true rfl) (kf_X10_lives v1 I2101 F2102) (fun r2161 I2162 F2163 => ?_)
      refine OK_st 1 okX10_heirs (S' := ((if ¬ r2161 = 0 then 45 else 43), [(0, .ref 49), (1, .int v1)], [], hp I2162 F2163)) rfl ⟨trivial, trivial⟩ ?_
      refine OK_if (fun h2164 => ?_) (fun h2164 => ?_)
      · refine OK_st 6 okX10_heirs (S' := (54, [(4, .int (0 : Int32)), (3, .int (1000000 : Int32)), (2, .int (-1 : Int32)), (0, .ref 49), (1, .int v1)], [], hp I2162 F2163)) rfl ⟨trivial, (by decide), trivial, (by decide), trivial, (by decide), trivial⟩ ?_
        refine OK_pk [3, 4, 2, 1, 0] rfl ?_
        refine kf_X10_heirs_54 v1 _ (fun v2_2165 v3_2166 v4_2167 I2168 F2169 => ?_) ab_fu (-1 : Int32) (1000000 : Int32) (0 : Int32) I2162 F2163
        refine OK_st 3 okX10_heirs (S' := ((if ¬ v1 = (-1 : Int32) then 127 else 123), [(0, .ref 49), (1, .int v1), (2, .int v2_2165), (3, .int v3_2166), (4, .int v4_2167)], [], hp I2168 F2169)) rfl ⟨trivial, trivial, trivial, trivial⟩ ?_
        refine OK_if (fun h2170 => ?_) (fun h2170 => ?_)
        · refine OK_st 2 okX10_heirs (S' := (129, [(0, .ref 49), (1, .int v1), (2, .int v2_2165), (3, .int v3_2166), (4, .int v4_2167)], [.int v1, .int v2_2165], hp I2168 F2169)) rfl ⟨trivial, trivial, trivial⟩ ?_
          refine OK_cs [.int v2_2165, .int v1] [] okX10_heirs okX10_heirOf rfl rfl cl_RX10_298 (Nat.le_of_ble_eq_true rfl) (by decide) (Nat.le_of_ble_eq_true rfl) (kf_X10_heirOf v2_2165 v1 I2168 F2169) (fun r2171 I2172 F2173 => ?_)
          exact OK_ri okX10_heirs rfl rfl (Or.inl rfl)
        · refine OK_st 2 okX10_heirs (S' := (132, [(0, .ref 49), (1, .int v1), (2, .int v2_2165), (3, .int v3_2166), (4, .int v4_2167)], [.int v3_2166], hp I2168 F2169)) rfl ⟨trivial, trivial, trivial⟩ ?_
          exact OK_ri okX10_heirs rfl rfl (Or.inl rfl)
      · refine OK_st 1 okX10_heirs (S' := (44, [(0, .ref 49), (1, .int v1)], [.int (-1 : Int32)], hp I2162 F2163)) rfl ⟨trivial, trivial⟩ ?_
        exact OK_ri okX10_heirs rfl rfl (Or.inl rfl)

def f_X10_heirs (v1 : Int32) (I : AI) (F : AF) : AQ :=
  if v1 = (-1 : Int32) then
    f_X10_heirs_j16 v1 I F
  else
    ab_bd (f_X10_isLimb v1 I F) (fun r2174 I2175 F2176 =>
      if ¬ r2174 = 0 then
        f_X10_heirs_j16 v1 I2175 F2176
      else
        some ((-1000000001 : Int32), I2175, F2176))
set_option maxRecDepth 20000 in
set_option maxHeartbeats 4000000 in
theorem kf_X10_heirs (v1 : Int32) (I : AI) (F : AF) : OK 3 mX10_heirs true (f_X10_heirs v1 I F) (0, [(0, .ref 49), (1, .int v1)], [], hp I F) := by
  rw [f_X10_heirs]
  refine OK_st 3 okX10_heirs (S' := ((if v1 = (-1 : Int32) then 16 else 5), [(0, .ref 49), (1, .int v1)], [], hp I F)) rfl ⟨trivial, trivial, trivial, trivial⟩ ?_
  refine OK_if (fun h2093 => ?_) (fun h2093 => ?_)
  · exact kf_X10_heirs_j16 v1 I F
  · refine OK_st 2 okX10_heirs (S' := (7, [(0, .ref 49), (1, .int v1)], [.int v1, .ref 49], hp I F)) rfl ⟨trivial, trivial, trivial⟩ ?_
    refine OK_cv [.int v1] [] okX10_heirs okX10_isLimb rfl rfl cl_RX10_200 rfl rfl (Nat.le_of_ble_eq_true rfl) (by decide) (Nat.le_of_ble_eq_true rfl) (kf_X10_isLimb v1 I F) (fun r2174 I2175 F2176 => ?_)
    refine OK_st 1 okX10_heirs (S' := ((if ¬ r2174 = 0 then 16 else 13), [(0, .ref 49), (1, .int v1)], [], hp I2175 F2176)) rfl ⟨trivial, trivial⟩ ?_
    refine OK_if (fun h2177 => ?_) (fun h2177 => ?_)
    · exact kf_X10_heirs_j16 v1 I2175 F2176
    · refine OK_st 1 okX10_heirs (S' := (15, [(0, .ref 49), (1, .int v1)], [.int (-1000000001 : Int32)], hp I2175 F2176)) rfl ⟨trivial, trivial⟩ ?_
      exact OK_ri okX10_heirs rfl rfl (Or.inl rfl)

def f_X10_reach_37 (v1 : Int32) (v2 : Int32) (ko : Int32 → Int32 → Int32 → AI → AF → AQ) : Nat → Int32 → Int32 → Int32 → AI → AF → AQ
  | 0, _, _, _, _, _ => none
  | n + 1, v3, v4, v5, I, F =>
    if (4 : Int32) ≤ v5 then
      ko v3 v4 v5 I F
    else
      ab_bd (f_X10_measure v1 v5 I F) (fun r2190 I2191 F2192 =>
        if v3 ≤ r2190 then
          if r2190 ≤ v4 then
            f_X10_reach_37 v1 v2 ko n v3 v4 (v5 + (1 : Int32)) I2191 F2192
          else
            f_X10_reach_37 v1 v2 ko n v3 r2190 (v5 + (1 : Int32)) I2191 F2192
        else
          if r2190 ≤ v4 then
            f_X10_reach_37 v1 v2 ko n r2190 v4 (v5 + (1 : Int32)) I2191 F2192
          else
            f_X10_reach_37 v1 v2 ko n r2190 r2190 (v5 + (1 : Int32)) I2191 F2192)
set_option maxRecDepth 20000 in
set_option maxHeartbeats 4000000 in
theorem kf_X10_reach_37 (v1 : Int32) (v2 : Int32) (ko : Int32 → Int32 → Int32 → AI → AF → AQ) (hko : ∀ v3 v4 v5 I F, OK 3 mX10_reach true (ko v3 v4 v5 I F) (87, [(0, .ref 49), (1, .int v1), (2, .int v2), (3, .int v3), (4, .int v4), (5, .int v5)], [], hp I F)) : ∀ n v3 v4 v5 I F, OK 3 mX10_reach true (f_X10_reach_37 v1 v2 ko n v3 v4 v5 I F) (37, [(0, .ref 49), (1, .int v1), (2, .int v2), (3, .int v3), (4, .int v4), (5, .int v5)], [], hp I F) := by
  intro n
  induction n with
  | zero =>
    intro v3 v4 v5 I F
    exact OK_no
  | succ n ih =>
    intro v3 v4 v5 I F
    rw [f_X10_reach_37]
    refine OK_st 3 okX10_reach (S' := ((if (4 : Int32) ≤ v5 then 87 else 43), [(0, .ref 49), (1, .int v1), (2, .int v2), (3, .int v3), (4, .int v4), (5, .int v5)], [], hp I F)) rfl ⟨trivial, trivial, trivial, trivial⟩ ?_
    refine OK_if (fun h2189 => ?_) (fun h2189 => ?_)
    · exact hko v3 v4 v5 I F
    · refine OK_st 3 okX10_reach (S' := (47, [(0, .ref 49), (1, .int v1), (2, .int v2), (3, .int v3), (4, .int v4), (5, .int v5)], [.int v5, .int v1, .ref 49], hp I F)) rfl ⟨trivial, trivial, trivial, trivial⟩ ?_
      refine OK_cv [.int v1, .int v5] [] okX10_reach okX10_measure rfl rfl cl_RX10_197 rfl rfl (Nat.le_of_ble_eq_true rfl) (by decide) (Nat.le_of_ble_eq_true rfl) (kf_X10_measure v1 v5 I F) (fun r2190 I2191 F2192 => ?_)
      refine OK_st 4 okX10_reach (S' := ((if v3 ≤ r2190 then 63 else 58), [(6, .int r2190), (0, .ref 49), (1, .int v1), (2, .int v2), (3, .int v3), (4, .int v4), (5, .int v5)], [], hp I2191 F2192)) rfl ⟨(by decide), trivial, trivial, trivial, trivial⟩ ?_
      refine OK_if (fun h2193 => ?_) (fun h2193 => ?_)
      · refine OK_st 5 okX10_reach (S' := ((if r2190 ≤ v4 then 77 else 72), [(3, .int v3), (6, .int r2190), (0, .ref 49), (1, .int v1), (2, .int v2), (4, .int v4), (5, .int v5)], [], hp I2191 F2192)) rfl ⟨trivial, (by decide), trivial, trivial, trivial, trivial⟩ ?_
        refine OK_if (fun h2194 => ?_) (fun h2194 => ?_)
        · refine OK_st 4 okX10_reach (S' := (37, [(5, .int (v5 + (1 : Int32))), (4, .int v4), (3, .int v3), (6, .int r2190), (0, .ref 49), (1, .int v1), (2, .int v2)], [], hp I2191 F2192)) rfl ⟨trivial, (by decide), (by decide), trivial, trivial⟩ ?_
          refine OK_pk [4, 5, 6, 2, 1, 0] rfl ?_
          exact ih v3 v4 (v5 + (1 : Int32)) I2191 F2192
        · refine OK_st 5 okX10_reach (S' := (37, [(5, .int (v5 + (1 : Int32))), (4, .int r2190), (3, .int v3), (6, .int r2190), (0, .ref 49), (1, .int v1), (2, .int v2)], [], hp I2191 F2192)) rfl ⟨trivial, trivial, (by decide), (by decide), trivial, trivial⟩ ?_
          refine OK_pk [4, 5, 6, 2, 1, 0] rfl ?_
          exact ih v3 r2190 (v5 + (1 : Int32)) I2191 F2192
      · refine OK_st 6 okX10_reach (S' := ((if r2190 ≤ v4 then 77 else 72), [(3, .int r2190), (6, .int r2190), (0, .ref 49), (1, .int v1), (2, .int v2), (4, .int v4), (5, .int v5)], [], hp I2191 F2192)) rfl ⟨trivial, trivial, (by decide), trivial, trivial, trivial, trivial⟩ ?_
        refine OK_if (fun h2195 => ?_) (fun h2195 => ?_)
        · refine OK_st 4 okX10_reach (S' := (37, [(5, .int (v5 + (1 : Int32))), (4, .int v4), (3, .int r2190), (6, .int r2190), (0, .ref 49), (1, .int v1), (2, .int v2)], [], hp I2191 F2192)) rfl ⟨trivial, (by decide), (by decide), trivial, trivial⟩ ?_
          refine OK_pk [4, 5, 6, 2, 1, 0] rfl ?_
          exact ih r2190 v4 (v5 + (1 : Int32)) I2191 F2192
        · refine OK_st 5 okX10_reach (S' := (37, [(5, .int (v5 + (1 : Int32))), (4, .int r2190), (3, .int r2190), (6, .int r2190), (0, .ref 49), (1, .int v1), (2, .int v2)], [], hp I2191 F2192)) rfl ⟨trivial, trivial, (by decide), (by decide), trivial, trivial⟩ ?_
          refine OK_pk [4, 5, 6, 2, 1, 0] rfl ?_
          exact ih r2190 r2190 (v5 + (1 : Int32)) I2191 F2192

def f_X10_reach (v1 : Int32) (v2 : Int32) (I : AI) (F : AF) : AQ :=
  ab_bd (f_X10_isLimb v1 I F) (fun r2178 I2179 F2180 =>
    if ¬ r2178 = 0 then
      ab_bd (f_X10_in v2.toInt64 (0 : Int64) (1 : Int64) I2179 F2180) (fun r2182 I2183 F2184 =>
        if ¬ r2182 = 0 then
          ab_bd (f_X10_measure v1 (0 : Int32) I2183 F2184) (fun r2186 I2187 F2188 =>
            f_X10_reach_37 v1 v2 (fun v3_2196 v4_2197 v5_2198 I2199 F2200 =>
              if ¬ v2 = 0 then
                some (v4_2197, I2199, F2200)
              else
                some (v3_2196, I2199, F2200)) ab_fu r2186 r2186 (1 : Int32) I2187 F2188)
        else
          some ((-1000000002 : Int32), I2183, F2184))
    else
      some ((-1000000001 : Int32), I2179, F2180))
set_option maxRecDepth 20000 in
set_option maxHeartbeats 4000000 in
theorem kf_X10_reach (v1 : Int32) (v2 : Int32) (I : AI) (F : AF) : OK 3 mX10_reach true (f_X10_reach v1 v2 I F) (0, [(0, .ref 49), (1, .int v1), (2, .int v2)], [], hp I F) := by
  rw [f_X10_reach]
  refine OK_st 2 okX10_reach (S' := (2, [(0, .ref 49), (1, .int v1), (2, .int v2)], [.int v1, .ref 49], hp I F)) rfl ⟨trivial, trivial, trivial⟩ ?_
  refine OK_cv [.int v1] [] okX10_reach okX10_isLimb rfl rfl cl_RX10_200 rfl rfl (Nat.le_of_ble_eq_true rfl) (by decide) (Nat.le_of_ble_eq_true rfl) (kf_X10_isLimb v1 I F) (fun r2178 I2179 F2180 => ?_)
  refine OK_st 1 okX10_reach (S' := ((if ¬ r2178 = 0 then 11 else 8), [(0, .ref 49), (1, .int v1), (2, .int v2)], [], hp I2179 F2180)) rfl ⟨trivial, trivial⟩ ?_
  refine OK_if (fun h2181 => ?_) (fun h2181 => ?_)
  · refine OK_st 4 okX10_reach (S' := (15, [(0, .ref 49), (1, .int v1), (2, .int v2)], [.long (1 : Int64), .long (0 : Int64), .long v2.toInt64], hp I2179 F2180)) rfl ⟨trivial, trivial, trivial, trivial, trivial⟩ ?_
    refine OK_cs [.long v2.toInt64, .long (0 : Int64), .long (1 : Int64)] [] okX10_reach okX10_in rfl rfl cl_RX10_102 (Nat.le_of_ble_eq_true rfl) (by decide) (Nat.le_of_ble_eq_true rfl) (kf_X10_in v2.toInt64 (0 : Int64) (1 : Int64) I2179 F2180) (fun r2182 I2183 F2184 => ?_)
    refine OK_st 1 okX10_reach (S' := ((if ¬ r2182 = 0 then 24 else 21), [(0, .ref 49), (1, .int v1), (2, .int v2)], [], hp I2183 F2184)) rfl ⟨trivial, trivial⟩ ?_
    refine OK_if (fun h2185 => ?_) (fun h2185 => ?_)
    · refine OK_st 3 okX10_reach (S' := (27, [(0, .ref 49), (1, .int v1), (2, .int v2)], [.int (0 : Int32), .int v1, .ref 49], hp I2183 F2184)) rfl ⟨trivial, trivial, trivial, trivial⟩ ?_
      refine OK_cv [.int v1, .int (0 : Int32)] [] okX10_reach okX10_measure rfl rfl cl_RX10_197 rfl rfl (Nat.le_of_ble_eq_true rfl) (by decide) (Nat.le_of_ble_eq_true rfl) (kf_X10_measure v1 (0 : Int32) I2183 F2184) (fun r2186 I2187 F2188 => ?_)
      refine OK_st 5 okX10_reach (S' := (37, [(5, .int (1 : Int32)), (4, .int r2186), (3, .int r2186), (0, .ref 49), (1, .int v1), (2, .int v2)], [], hp I2187 F2188)) rfl ⟨(by decide), trivial, (by decide), trivial, (by decide), trivial⟩ ?_
      refine OK_pk [3, 4, 5, 2, 1, 0] rfl ?_
      refine kf_X10_reach_37 v1 v2 _ (fun v3_2196 v4_2197 v5_2198 I2199 F2200 => ?_) ab_fu r2186 r2186 (1 : Int32) I2187 F2188
      refine OK_st 2 okX10_reach (S' := ((if ¬ v2 = 0 then 95 else 91), [(0, .ref 49), (1, .int v1), (2, .int v2), (3, .int v3_2196), (4, .int v4_2197), (5, .int v5_2198)], [], hp I2199 F2200)) rfl ⟨trivial, trivial, trivial⟩ ?_
      refine OK_if (fun h2201 => ?_) (fun h2201 => ?_)
      · refine OK_st 1 okX10_reach (S' := (97, [(0, .ref 49), (1, .int v1), (2, .int v2), (3, .int v3_2196), (4, .int v4_2197), (5, .int v5_2198)], [.int v4_2197], hp I2199 F2200)) rfl ⟨trivial, trivial⟩ ?_
        exact OK_ri okX10_reach rfl rfl (Or.inl rfl)
      · refine OK_st 2 okX10_reach (S' := (97, [(0, .ref 49), (1, .int v1), (2, .int v2), (3, .int v3_2196), (4, .int v4_2197), (5, .int v5_2198)], [.int v3_2196], hp I2199 F2200)) rfl ⟨trivial, trivial, trivial⟩ ?_
        exact OK_ri okX10_reach rfl rfl (Or.inl rfl)
    · refine OK_st 1 okX10_reach (S' := (23, [(0, .ref 49), (1, .int v1), (2, .int v2)], [.int (-1000000002 : Int32)], hp I2183 F2184)) rfl ⟨trivial, trivial⟩ ?_
      exact OK_ri okX10_reach rfl rfl (Or.inl rfl)
  · refine OK_st 1 okX10_reach (S' := (10, [(0, .ref 49), (1, .int v1), (2, .int v2)], [.int (-1000000001 : Int32)], hp I2179 F2180)) rfl ⟨trivial, trivial⟩ ?_
    exact OK_ri okX10_reach rfl rfl (Or.inl rfl)

def f_X10_bestCopy_52 (v1 : Int32) (v2 : Int32) (v3 : Int32) (v4 : Int32) (v5 : Int32) (ko : Int32 → Int32 → AI → AF → AQ) : Nat → Int32 → Int32 → AI → AF → AQ
  | 0, _, _, _, _ => none
  | n + 1, v6, v7, I, F =>
    if (4 : Int32) ≤ v7 then
      ko v6 v7 I F
    else
      ab_bd (f_X10_grown v1 v7 I F) (fun r2216 I2217 F2218 =>
        ab_bd (f_X10_grown v1 v5 I2217 F2218) (fun r2219 I2220 F2221 =>
          ab_bd (f_X10_apart r2216 r2219 I2220 F2221) (fun r2222 I2223 F2224 =>
            f_X10_bestCopy_52 v1 v2 v3 v4 v5 ko n (v6 + r2222) (v7 + (1 : Int32)) I2223 F2224)))
set_option maxRecDepth 20000 in
set_option maxHeartbeats 4000000 in
theorem kf_X10_bestCopy_52 (v1 : Int32) (v2 : Int32) (v3 : Int32) (v4 : Int32) (v5 : Int32) (ko : Int32 → Int32 → AI → AF → AQ) (hko : ∀ v6 v7 I F, OK 2 mX10_bestCopy true (ko v6 v7 I F) (86, [(0, .ref 49), (1, .int v1), (2, .int v2), (3, .int v3), (4, .int v4), (5, .int v5), (6, .int v6), (7, .int v7)], [], hp I F)) : ∀ n v6 v7 I F, OK 2 mX10_bestCopy true (f_X10_bestCopy_52 v1 v2 v3 v4 v5 ko n v6 v7 I F) (52, [(0, .ref 49), (1, .int v1), (2, .int v2), (3, .int v3), (4, .int v4), (5, .int v5), (6, .int v6), (7, .int v7)], [], hp I F) := by
  intro n
  induction n with
  | zero =>
    intro v6 v7 I F
    exact OK_no
  | succ n ih =>
    intro v6 v7 I F
    rw [f_X10_bestCopy_52]
    refine OK_st 3 okX10_bestCopy (S' := ((if (4 : Int32) ≤ v7 then 86 else 58), [(0, .ref 49), (1, .int v1), (2, .int v2), (3, .int v3), (4, .int v4), (5, .int v5), (6, .int v6), (7, .int v7)], [], hp I F)) rfl ⟨trivial, trivial, trivial, trivial⟩ ?_
    refine OK_if (fun h2215 => ?_) (fun h2215 => ?_)
    · exact hko v6 v7 I F
    · refine OK_st 4 okX10_bestCopy (S' := (64, [(0, .ref 49), (1, .int v1), (2, .int v2), (3, .int v3), (4, .int v4), (5, .int v5), (6, .int v6), (7, .int v7)], [.int v7, .int v1, .ref 49, .int v6], hp I F)) rfl ⟨trivial, trivial, trivial, trivial, trivial⟩ ?_
      refine OK_cv [.int v1, .int v7] [.int v6] okX10_bestCopy okX10_grown rfl rfl cl_RX10_194 rfl rfl (Nat.le_of_ble_eq_true rfl) (by decide) (Nat.le_of_ble_eq_true rfl) (kf_X10_grown v1 v7 I F) (fun r2216 I2217 F2218 => ?_)
      refine OK_st 3 okX10_bestCopy (S' := (71, [(0, .ref 49), (1, .int v1), (2, .int v2), (3, .int v3), (4, .int v4), (5, .int v5), (6, .int v6), (7, .int v7)], [.int v5, .int v1, .ref 49, .int r2216, .int v6], hp I2217 F2218)) rfl ⟨trivial, trivial, trivial, trivial⟩ ?_
      refine OK_cv [.int v1, .int v5] [.int r2216, .int v6] okX10_bestCopy okX10_grown rfl rfl cl_RX10_194 rfl rfl (Nat.le_of_ble_eq_true rfl) (by decide) (Nat.le_of_ble_eq_true rfl) (kf_X10_grown v1 v5 I2217 F2218) (fun r2219 I2220 F2221 => ?_)
      refine OK_cs [.int r2216, .int r2219] [.int v6] okX10_bestCopy okX10_apart rfl rfl cl_RX10_301 (Nat.le_of_ble_eq_true rfl) (by decide) (Nat.le_of_ble_eq_true rfl) (kf_X10_apart r2216 r2219 I2220 F2221) (fun r2222 I2223 F2224 => ?_)
      refine OK_st 4 okX10_bestCopy (S' := (52, [(7, .int (v7 + (1 : Int32))), (6, .int (v6 + r2222)), (0, .ref 49), (1, .int v1), (2, .int v2), (3, .int v3), (4, .int v4), (5, .int v5)], [], hp I2223 F2224)) rfl ⟨trivial, (by decide), (by decide), trivial, trivial⟩ ?_
      refine OK_pk [2, 3, 4, 5, 6, 7, 1, 0] rfl ?_
      exact ih (v6 + r2222) (v7 + (1 : Int32)) I2223 F2224

def f_X10_bestCopy_32 (v1 : Int32) (v2 : Int32) (ko : Int32 → Int32 → Int32 → AI → AF → AQ) : Nat → Int32 → Int32 → Int32 → AI → AF → AQ
  | 0, _, _, _, _, _ => none
  | n + 1, v3, v4, v5, I, F =>
    if (4 : Int32) ≤ v5 then
      ko v3 v4 v5 I F
    else
      ab_bd (f_X10_lives v1 I F) (fun r2211 I2212 F2213 =>
        if r2211 = 0 then
          ko v3 v4 v5 I2212 F2213
        else
          f_X10_bestCopy_52 v1 v2 v3 v4 v5 (fun v6_2225 v7_2226 I2227 F2228 =>
            if v3 < 0 then
              if v4 < 0 then
                f_X10_bestCopy_32 v1 v2 ko n v5 v6_2225 (v5 + (1 : Int32)) I2227 F2228
              else
                if v4 ≤ v6_2225 then
                  f_X10_bestCopy_32 v1 v2 ko n v5 v4 (v5 + (1 : Int32)) I2227 F2228
                else
                  f_X10_bestCopy_32 v1 v2 ko n v5 v6_2225 (v5 + (1 : Int32)) I2227 F2228
            else
              if v4 ≤ v6_2225 then
                if v4 < 0 then
                  f_X10_bestCopy_32 v1 v2 ko n v3 v6_2225 (v5 + (1 : Int32)) I2227 F2228
                else
                  if v4 ≤ v6_2225 then
                    f_X10_bestCopy_32 v1 v2 ko n v3 v4 (v5 + (1 : Int32)) I2227 F2228
                  else
                    f_X10_bestCopy_32 v1 v2 ko n v3 v6_2225 (v5 + (1 : Int32)) I2227 F2228
              else
                if v4 < 0 then
                  f_X10_bestCopy_32 v1 v2 ko n v5 v6_2225 (v5 + (1 : Int32)) I2227 F2228
                else
                  if v4 ≤ v6_2225 then
                    f_X10_bestCopy_32 v1 v2 ko n v5 v4 (v5 + (1 : Int32)) I2227 F2228
                  else
                    f_X10_bestCopy_32 v1 v2 ko n v5 v6_2225 (v5 + (1 : Int32)) I2227 F2228) ab_fu (0 : Int32) (0 : Int32) I2212 F2213)
set_option maxRecDepth 20000 in
set_option maxHeartbeats 4000000 in
theorem kf_X10_bestCopy_32 (v1 : Int32) (v2 : Int32) (ko : Int32 → Int32 → Int32 → AI → AF → AQ) (hko : ∀ v3 v4 v5 I F, OK 2 mX10_bestCopy true (ko v3 v4 v5 I F) (131, [(0, .ref 49), (1, .int v1), (2, .int v2), (3, .int v3), (4, .int v4), (5, .int v5)], [], hp I F)) : ∀ n v3 v4 v5 I F, OK 2 mX10_bestCopy true (f_X10_bestCopy_32 v1 v2 ko n v3 v4 v5 I F) (32, [(0, .ref 49), (1, .int v1), (2, .int v2), (3, .int v3), (4, .int v4), (5, .int v5)], [], hp I F) := by
  intro n
  induction n with
  | zero =>
    intro v3 v4 v5 I F
    exact OK_no
  | succ n ih =>
    intro v3 v4 v5 I F
    rw [f_X10_bestCopy_32]
    refine OK_st 3 okX10_bestCopy (S' := ((if (4 : Int32) ≤ v5 then 131 else 38), [(0, .ref 49), (1, .int v1), (2, .int v2), (3, .int v3), (4, .int v4), (5, .int v5)], [], hp I F)) rfl ⟨trivial, trivial, trivial, trivial⟩ ?_
    refine OK_if (fun h2210 => ?_) (fun h2210 => ?_)
    · exact hko v3 v4 v5 I F
    · refine OK_st 2 okX10_bestCopy (S' := (40, [(0, .ref 49), (1, .int v1), (2, .int v2), (3, .int v3), (4, .int v4), (5, .int v5)], [.int v1, .ref 49], hp I F)) rfl ⟨trivial, trivial, trivial⟩ ?_
      refine OK_cv [.int v1] [] okX10_bestCopy okX10_lives rfl rfl cl_RX10_190 rfl rfl (Nat.le_of_ble_eq_true rfl) (by decide) (Nat.le_of_ble_eq_true rfl) (kf_X10_lives v1 I F) (fun r2211 I2212 F2213 => ?_)
      refine OK_st 1 okX10_bestCopy (S' := ((if r2211 = 0 then 131 else 46), [(0, .ref 49), (1, .int v1), (2, .int v2), (3, .int v3), (4, .int v4), (5, .int v5)], [], hp I2212 F2213)) rfl ⟨trivial, trivial⟩ ?_
      refine OK_if (fun h2214 => ?_) (fun h2214 => ?_)
      · exact hko v3 v4 v5 I2212 F2213
      · refine OK_st 4 okX10_bestCopy (S' := (52, [(7, .int (0 : Int32)), (6, .int (0 : Int32)), (0, .ref 49), (1, .int v1), (2, .int v2), (3, .int v3), (4, .int v4), (5, .int v5)], [], hp I2212 F2213)) rfl ⟨trivial, (by decide), trivial, (by decide), trivial⟩ ?_
        refine OK_pk [2, 3, 4, 5, 6, 7, 1, 0] rfl ?_
        refine kf_X10_bestCopy_52 v1 v2 v3 v4 v5 _ (fun v6_2225 v7_2226 I2227 F2228 => ?_) ab_fu (0 : Int32) (0 : Int32) I2212 F2213
        refine OK_st 2 okX10_bestCopy (S' := ((if v3 < 0 then 97 else 90), [(0, .ref 49), (1, .int v1), (2, .int v2), (3, .int v3), (4, .int v4), (5, .int v5), (6, .int v6_2225), (7, .int v7_2226)], [], hp I2227 F2228)) rfl ⟨trivial, trivial, trivial⟩ ?_
        refine OK_if (fun h2229 => ?_) (fun h2229 => ?_)
        · refine OK_st 5 okX10_bestCopy (S' := ((if v4 < 0 then 116 else 109), [(3, .int v5), (0, .ref 49), (1, .int v1), (2, .int v2), (4, .int v4), (5, .int v5), (6, .int v6_2225), (7, .int v7_2226)], [], hp I2227 F2228)) rfl ⟨trivial, trivial, (by decide), trivial, trivial, trivial⟩ ?_
          refine OK_if (fun h2230 => ?_) (fun h2230 => ?_)
          · refine OK_st 5 okX10_bestCopy (S' := (32, [(5, .int (v5 + (1 : Int32))), (4, .int v6_2225), (3, .int v5), (0, .ref 49), (1, .int v1), (2, .int v2), (6, .int v6_2225), (7, .int v7_2226)], [], hp I2227 F2228)) rfl ⟨trivial, trivial, (by decide), (by decide), trivial, trivial⟩ ?_
            refine OK_pk [3, 4, 5, 2, 1, 0] rfl ?_
            exact ih v5 v6_2225 (v5 + (1 : Int32)) I2227 F2228
          · refine OK_st 3 okX10_bestCopy (S' := ((if v4 ≤ v6_2225 then 121 else 116), [(3, .int v5), (0, .ref 49), (1, .int v1), (2, .int v2), (4, .int v4), (5, .int v5), (6, .int v6_2225), (7, .int v7_2226)], [], hp I2227 F2228)) rfl ⟨trivial, trivial, trivial, trivial⟩ ?_
            refine OK_if (fun h2231 => ?_) (fun h2231 => ?_)
            · refine OK_st 4 okX10_bestCopy (S' := (32, [(5, .int (v5 + (1 : Int32))), (4, .int v4), (3, .int v5), (0, .ref 49), (1, .int v1), (2, .int v2), (6, .int v6_2225), (7, .int v7_2226)], [], hp I2227 F2228)) rfl ⟨trivial, (by decide), (by decide), trivial, trivial⟩ ?_
              refine OK_pk [3, 4, 5, 2, 1, 0] rfl ?_
              exact ih v5 v4 (v5 + (1 : Int32)) I2227 F2228
            · refine OK_st 5 okX10_bestCopy (S' := (32, [(5, .int (v5 + (1 : Int32))), (4, .int v6_2225), (3, .int v5), (0, .ref 49), (1, .int v1), (2, .int v2), (6, .int v6_2225), (7, .int v7_2226)], [], hp I2227 F2228)) rfl ⟨trivial, trivial, (by decide), (by decide), trivial, trivial⟩ ?_
              refine OK_pk [3, 4, 5, 2, 1, 0] rfl ?_
              exact ih v5 v6_2225 (v5 + (1 : Int32)) I2227 F2228
        · refine OK_st 3 okX10_bestCopy (S' := ((if v4 ≤ v6_2225 then 102 else 97), [(0, .ref 49), (1, .int v1), (2, .int v2), (3, .int v3), (4, .int v4), (5, .int v5), (6, .int v6_2225), (7, .int v7_2226)], [], hp I2227 F2228)) rfl ⟨trivial, trivial, trivial, trivial⟩ ?_
          refine OK_if (fun h2232 => ?_) (fun h2232 => ?_)
          · refine OK_st 4 okX10_bestCopy (S' := ((if v4 < 0 then 116 else 109), [(3, .int v3), (0, .ref 49), (1, .int v1), (2, .int v2), (4, .int v4), (5, .int v5), (6, .int v6_2225), (7, .int v7_2226)], [], hp I2227 F2228)) rfl ⟨trivial, (by decide), trivial, trivial, trivial⟩ ?_
            refine OK_if (fun h2233 => ?_) (fun h2233 => ?_)
            · refine OK_st 5 okX10_bestCopy (S' := (32, [(5, .int (v5 + (1 : Int32))), (4, .int v6_2225), (3, .int v3), (0, .ref 49), (1, .int v1), (2, .int v2), (6, .int v6_2225), (7, .int v7_2226)], [], hp I2227 F2228)) rfl ⟨trivial, trivial, (by decide), (by decide), trivial, trivial⟩ ?_
              refine OK_pk [3, 4, 5, 2, 1, 0] rfl ?_
              exact ih v3 v6_2225 (v5 + (1 : Int32)) I2227 F2228
            · refine OK_st 3 okX10_bestCopy (S' := ((if v4 ≤ v6_2225 then 121 else 116), [(3, .int v3), (0, .ref 49), (1, .int v1), (2, .int v2), (4, .int v4), (5, .int v5), (6, .int v6_2225), (7, .int v7_2226)], [], hp I2227 F2228)) rfl ⟨trivial, trivial, trivial, trivial⟩ ?_
              refine OK_if (fun h2234 => ?_) (fun h2234 => ?_)
              · refine OK_st 4 okX10_bestCopy (S' := (32, [(5, .int (v5 + (1 : Int32))), (4, .int v4), (3, .int v3), (0, .ref 49), (1, .int v1), (2, .int v2), (6, .int v6_2225), (7, .int v7_2226)], [], hp I2227 F2228)) rfl ⟨trivial, (by decide), (by decide), trivial, trivial⟩ ?_
                refine OK_pk [3, 4, 5, 2, 1, 0] rfl ?_
                exact ih v3 v4 (v5 + (1 : Int32)) I2227 F2228
              · refine OK_st 5 okX10_bestCopy (S' := (32, [(5, .int (v5 + (1 : Int32))), (4, .int v6_2225), (3, .int v3), (0, .ref 49), (1, .int v1), (2, .int v2), (6, .int v6_2225), (7, .int v7_2226)], [], hp I2227 F2228)) rfl ⟨trivial, trivial, (by decide), (by decide), trivial, trivial⟩ ?_
                refine OK_pk [3, 4, 5, 2, 1, 0] rfl ?_
                exact ih v3 v6_2225 (v5 + (1 : Int32)) I2227 F2228
          · refine OK_st 5 okX10_bestCopy (S' := ((if v4 < 0 then 116 else 109), [(3, .int v5), (0, .ref 49), (1, .int v1), (2, .int v2), (4, .int v4), (5, .int v5), (6, .int v6_2225), (7, .int v7_2226)], [], hp I2227 F2228)) rfl ⟨trivial, trivial, (by decide), trivial, trivial, trivial⟩ ?_
            refine OK_if (fun h2235 => ?_) (fun h2235 => ?_)
            · refine OK_st 5 okX10_bestCopy (S' := (32, [(5, .int (v5 + (1 : Int32))), (4, .int v6_2225), (3, .int v5), (0, .ref 49), (1, .int v1), (2, .int v2), (6, .int v6_2225), (7, .int v7_2226)], [], hp I2227 F2228)) rfl ⟨trivial, trivial, (by decide), (by decide), trivial, trivial⟩ ?_
              refine OK_pk [3, 4, 5, 2, 1, 0] rfl ?_
              exact ih v5 v6_2225 (v5 + (1 : Int32)) I2227 F2228
            · refine OK_st 3 okX10_bestCopy (S' := ((if v4 ≤ v6_2225 then 121 else 116), [(3, .int v5), (0, .ref 49), (1, .int v1), (2, .int v2), (4, .int v4), (5, .int v5), (6, .int v6_2225), (7, .int v7_2226)], [], hp I2227 F2228)) rfl ⟨trivial, trivial, trivial, trivial⟩ ?_
              refine OK_if (fun h2236 => ?_) (fun h2236 => ?_)
              · refine OK_st 4 okX10_bestCopy (S' := (32, [(5, .int (v5 + (1 : Int32))), (4, .int v4), (3, .int v5), (0, .ref 49), (1, .int v1), (2, .int v2), (6, .int v6_2225), (7, .int v7_2226)], [], hp I2227 F2228)) rfl ⟨trivial, (by decide), (by decide), trivial, trivial⟩ ?_
                refine OK_pk [3, 4, 5, 2, 1, 0] rfl ?_
                exact ih v5 v4 (v5 + (1 : Int32)) I2227 F2228
              · refine OK_st 5 okX10_bestCopy (S' := (32, [(5, .int (v5 + (1 : Int32))), (4, .int v6_2225), (3, .int v5), (0, .ref 49), (1, .int v1), (2, .int v2), (6, .int v6_2225), (7, .int v7_2226)], [], hp I2227 F2228)) rfl ⟨trivial, trivial, (by decide), (by decide), trivial, trivial⟩ ?_
                refine OK_pk [3, 4, 5, 2, 1, 0] rfl ?_
                exact ih v5 v6_2225 (v5 + (1 : Int32)) I2227 F2228

def f_X10_bestCopy (v1 : Int32) (v2 : Int32) (I : AI) (F : AF) : AQ :=
  ab_bd (f_X10_isLimb v1 I F) (fun r2202 I2203 F2204 =>
    if ¬ r2202 = 0 then
      ab_bd (f_X10_in v2.toInt64 (0 : Int64) (1 : Int64) I2203 F2204) (fun r2206 I2207 F2208 =>
        if ¬ r2206 = 0 then
          f_X10_bestCopy_32 v1 v2 (fun v3_2237 v4_2238 v5_2239 I2240 F2241 =>
            if ¬ v2 = 0 then
              some (v4_2238, I2240, F2241)
            else
              some (v3_2237, I2240, F2241)) ab_fu (-1 : Int32) (-1 : Int32) (0 : Int32) I2207 F2208
        else
          some ((-1000000002 : Int32), I2207, F2208))
    else
      some ((-1000000001 : Int32), I2203, F2204))
set_option maxRecDepth 20000 in
set_option maxHeartbeats 4000000 in
theorem kf_X10_bestCopy (v1 : Int32) (v2 : Int32) (I : AI) (F : AF) : OK 2 mX10_bestCopy true (f_X10_bestCopy v1 v2 I F) (0, [(0, .ref 49), (1, .int v1), (2, .int v2)], [], hp I F) := by
  rw [f_X10_bestCopy]
  refine OK_st 2 okX10_bestCopy (S' := (2, [(0, .ref 49), (1, .int v1), (2, .int v2)], [.int v1, .ref 49], hp I F)) rfl ⟨trivial, trivial, trivial⟩ ?_
  refine OK_cv [.int v1] [] okX10_bestCopy okX10_isLimb rfl rfl cl_RX10_200 rfl rfl (Nat.le_of_ble_eq_true rfl) (by decide) (Nat.le_of_ble_eq_true rfl) (kf_X10_isLimb v1 I F) (fun r2202 I2203 F2204 => ?_)
  refine OK_st 1 okX10_bestCopy (S' := ((if ¬ r2202 = 0 then 11 else 8), [(0, .ref 49), (1, .int v1), (2, .int v2)], [], hp I2203 F2204)) rfl ⟨trivial, trivial⟩ ?_
  refine OK_if (fun h2205 => ?_) (fun h2205 => ?_)
  · refine OK_st 4 okX10_bestCopy (S' := (15, [(0, .ref 49), (1, .int v1), (2, .int v2)], [.long (1 : Int64), .long (0 : Int64), .long v2.toInt64], hp I2203 F2204)) rfl ⟨trivial, trivial, trivial, trivial, trivial⟩ ?_
    refine OK_cs [.long v2.toInt64, .long (0 : Int64), .long (1 : Int64)] [] okX10_bestCopy okX10_in rfl rfl cl_RX10_102 (Nat.le_of_ble_eq_true rfl) (by decide) (Nat.le_of_ble_eq_true rfl) (kf_X10_in v2.toInt64 (0 : Int64) (1 : Int64) I2203 F2204) (fun r2206 I2207 F2208 => ?_)
    refine OK_st 1 okX10_bestCopy (S' := ((if ¬ r2206 = 0 then 24 else 21), [(0, .ref 49), (1, .int v1), (2, .int v2)], [], hp I2207 F2208)) rfl ⟨trivial, trivial⟩ ?_
    refine OK_if (fun h2209 => ?_) (fun h2209 => ?_)
    · refine OK_st 6 okX10_bestCopy (S' := (32, [(5, .int (0 : Int32)), (4, .int (-1 : Int32)), (3, .int (-1 : Int32)), (0, .ref 49), (1, .int v1), (2, .int v2)], [], hp I2207 F2208)) rfl ⟨trivial, (by decide), trivial, (by decide), trivial, (by decide), trivial⟩ ?_
      refine OK_pk [3, 4, 5, 2, 1, 0] rfl ?_
      refine kf_X10_bestCopy_32 v1 v2 _ (fun v3_2237 v4_2238 v5_2239 I2240 F2241 => ?_) ab_fu (-1 : Int32) (-1 : Int32) (0 : Int32) I2207 F2208
      refine OK_st 2 okX10_bestCopy (S' := ((if ¬ v2 = 0 then 139 else 135), [(0, .ref 49), (1, .int v1), (2, .int v2), (3, .int v3_2237), (4, .int v4_2238), (5, .int v5_2239)], [], hp I2240 F2241)) rfl ⟨trivial, trivial, trivial⟩ ?_
      refine OK_if (fun h2242 => ?_) (fun h2242 => ?_)
      · refine OK_st 1 okX10_bestCopy (S' := (141, [(0, .ref 49), (1, .int v1), (2, .int v2), (3, .int v3_2237), (4, .int v4_2238), (5, .int v5_2239)], [.int v4_2238], hp I2240 F2241)) rfl ⟨trivial, trivial⟩ ?_
        exact OK_ri okX10_bestCopy rfl rfl (Or.inl rfl)
      · refine OK_st 2 okX10_bestCopy (S' := (141, [(0, .ref 49), (1, .int v1), (2, .int v2), (3, .int v3_2237), (4, .int v4_2238), (5, .int v5_2239)], [.int v3_2237], hp I2240 F2241)) rfl ⟨trivial, trivial, trivial⟩ ?_
        exact OK_ri okX10_bestCopy rfl rfl (Or.inl rfl)
    · refine OK_st 1 okX10_bestCopy (S' := (23, [(0, .ref 49), (1, .int v1), (2, .int v2)], [.int (-1000000002 : Int32)], hp I2207 F2208)) rfl ⟨trivial, trivial⟩ ?_
      exact OK_ri okX10_bestCopy rfl rfl (Or.inl rfl)
  · refine OK_st 1 okX10_bestCopy (S' := (10, [(0, .ref 49), (1, .int v1), (2, .int v2)], [.int (-1000000001 : Int32)], hp I2203 F2204)) rfl ⟨trivial, trivial⟩ ?_
    exact OK_ri okX10_bestCopy rfl rfl (Or.inl rfl)

def f_X10_nearest_19 (v1 : Int32) (ko : Int32 → Int32 → AI → AF → AQ) : Nat → Int32 → Int32 → AI → AF → AQ
  | 0, _, _, _, _ => none
  | n + 1, v2, v3, I, F =>
    if (I 22) ≤ v3 then
      ko v2 v3 I F
    else
      if v2 < 0 then
        f_X10_nearest_19 v1 ko n v3 (v3 + (1 : Int32)) I F
      else
        ab_bd (f_X10_measureNow v3 I F) (fun r2249 I2250 F2251 =>
          ab_bd (f_X10_apart r2249 v1 I2250 F2251) (fun r2252 I2253 F2254 =>
            ab_bd (f_X10_measureNow v2 I2253 F2254) (fun r2255 I2256 F2257 =>
              ab_bd (f_X10_apart r2255 v1 I2256 F2257) (fun r2258 I2259 F2260 =>
                if r2258 ≤ r2252 then
                  f_X10_nearest_19 v1 ko n v2 (v3 + (1 : Int32)) I2259 F2260
                else
                  f_X10_nearest_19 v1 ko n v3 (v3 + (1 : Int32)) I2259 F2260))))
set_option maxRecDepth 20000 in
set_option maxHeartbeats 4000000 in
theorem kf_X10_nearest_19 (v1 : Int32) (ko : Int32 → Int32 → AI → AF → AQ) (hko : ∀ v2 v3 I F, OK 4 mX10_nearest true (ko v2 v3 I F) (64, [(0, .ref 49), (1, .int v1), (2, .int v2), (3, .int v3)], [], hp I F)) : ∀ n v2 v3 I F, OK 4 mX10_nearest true (f_X10_nearest_19 v1 ko n v2 v3 I F) (19, [(0, .ref 49), (1, .int v1), (2, .int v2), (3, .int v3)], [], hp I F) := by
  intro n
  induction n with
  | zero =>
    intro v2 v3 I F
    exact OK_no
  | succ n ih =>
    intro v2 v3 I F
    rw [f_X10_nearest_19]
    refine OK_st 4 okX10_nearest (S' := ((if (I 22) ≤ v3 then 64 else 27), [(0, .ref 49), (1, .int v1), (2, .int v2), (3, .int v3)], [], hp I F)) rfl ⟨trivial, trivial, trivial, trivial, trivial⟩ ?_
    refine OK_if (fun h2247 => ?_) (fun h2247 => ?_)
    · exact hko v2 v3 I F
    · refine OK_st 2 okX10_nearest (S' := ((if v2 < 0 then 52 else 31), [(0, .ref 49), (1, .int v1), (2, .int v2), (3, .int v3)], [], hp I F)) rfl ⟨trivial, trivial, trivial⟩ ?_
      refine OK_if (fun h2248 => ?_) (fun h2248 => ?_)
      · refine OK_st 5 okX10_nearest (S' := (19, [(3, .int (v3 + (1 : Int32))), (2, .int v3), (0, .ref 49), (1, .int v1)], [], hp I F)) rfl ⟨trivial, trivial, (by decide), (by decide), trivial, trivial⟩ ?_
        refine OK_pk [2, 3, 1, 0] rfl ?_
        exact ih v3 (v3 + (1 : Int32)) I F
      · refine OK_st 2 okX10_nearest (S' := (33, [(0, .ref 49), (1, .int v1), (2, .int v2), (3, .int v3)], [.int v3, .ref 49], hp I F)) rfl ⟨trivial, trivial, trivial⟩ ?_
        refine OK_cv [.int v3] [] okX10_nearest okX10_measureNow rfl rfl cl_RX10_204 rfl rfl (Nat.le_of_ble_eq_true rfl) (by decide) (Nat.le_of_ble_eq_true rfl) (kf_X10_measureNow v3 I F) (fun r2249 I2250 F2251 => ?_)
        refine OK_st 1 okX10_nearest (S' := (37, [(0, .ref 49), (1, .int v1), (2, .int v2), (3, .int v3)], [.int v1, .int r2249], hp I2250 F2251)) rfl ⟨trivial, trivial⟩ ?_
        refine OK_cs [.int r2249, .int v1] [] okX10_nearest okX10_apart rfl rfl cl_RX10_301 (Nat.le_of_ble_eq_true rfl) (by decide) (Nat.le_of_ble_eq_true rfl) (kf_X10_apart r2249 v1 I2250 F2251) (fun r2252 I2253 F2254 => ?_)
        refine OK_st 2 okX10_nearest (S' := (42, [(0, .ref 49), (1, .int v1), (2, .int v2), (3, .int v3)], [.int v2, .ref 49, .int r2252], hp I2253 F2254)) rfl ⟨trivial, trivial, trivial⟩ ?_
        refine OK_cv [.int v2] [.int r2252] okX10_nearest okX10_measureNow rfl rfl cl_RX10_204 rfl rfl (Nat.le_of_ble_eq_true rfl) (by decide) (Nat.le_of_ble_eq_true rfl) (kf_X10_measureNow v2 I2253 F2254) (fun r2255 I2256 F2257 => ?_)
        refine OK_st 1 okX10_nearest (S' := (46, [(0, .ref 49), (1, .int v1), (2, .int v2), (3, .int v3)], [.int v1, .int r2255, .int r2252], hp I2256 F2257)) rfl ⟨trivial, trivial⟩ ?_
        refine OK_cs [.int r2255, .int v1] [.int r2252] okX10_nearest okX10_apart rfl rfl cl_RX10_301 (Nat.le_of_ble_eq_true rfl) (by decide) (Nat.le_of_ble_eq_true rfl) (kf_X10_apart r2255 v1 I2256 F2257) (fun r2258 I2259 F2260 => ?_)
        refine OK_st 1 okX10_nearest (S' := ((if r2258 ≤ r2252 then 56 else 52), [(0, .ref 49), (1, .int v1), (2, .int v2), (3, .int v3)], [], hp I2259 F2260)) rfl ⟨trivial, trivial⟩ ?_
        refine OK_if (fun h2261 => ?_) (fun h2261 => ?_)
        · refine OK_st 4 okX10_nearest (S' := (19, [(3, .int (v3 + (1 : Int32))), (2, .int v2), (0, .ref 49), (1, .int v1)], [], hp I2259 F2260)) rfl ⟨trivial, (by decide), (by decide), trivial, trivial⟩ ?_
          refine OK_pk [2, 3, 1, 0] rfl ?_
          exact ih v2 (v3 + (1 : Int32)) I2259 F2260
        · refine OK_st 5 okX10_nearest (S' := (19, [(3, .int (v3 + (1 : Int32))), (2, .int v3), (0, .ref 49), (1, .int v1)], [], hp I2259 F2260)) rfl ⟨trivial, trivial, (by decide), (by decide), trivial, trivial⟩ ?_
          refine OK_pk [2, 3, 1, 0] rfl ?_
          exact ih v3 (v3 + (1 : Int32)) I2259 F2260

def f_X10_nearest (v1 : Int32) (I : AI) (F : AF) : AQ :=
  ab_bd (f_X10_in v1.toInt64 (0 : Int64) (999 : Int64) I F) (fun r2243 I2244 F2245 =>
    if ¬ r2243 = 0 then
      f_X10_nearest_19 v1 (fun v2_2262 v3_2263 I2264 F2265 =>
        some (v2_2262, I2264, F2265)) ab_fu (-1 : Int32) (0 : Int32) I2244 F2245
    else
      some ((-1000000002 : Int32), I2244, F2245))
set_option maxRecDepth 20000 in
set_option maxHeartbeats 4000000 in
theorem kf_X10_nearest (v1 : Int32) (I : AI) (F : AF) : OK 4 mX10_nearest true (f_X10_nearest v1 I F) (0, [(0, .ref 49), (1, .int v1)], [], hp I F) := by
  rw [f_X10_nearest]
  refine OK_st 4 okX10_nearest (S' := (6, [(0, .ref 49), (1, .int v1)], [.long (999 : Int64), .long (0 : Int64), .long v1.toInt64], hp I F)) rfl ⟨trivial, trivial, trivial, trivial, trivial⟩ ?_
  refine OK_cs [.long v1.toInt64, .long (0 : Int64), .long (999 : Int64)] [] okX10_nearest okX10_in rfl rfl cl_RX10_102 (Nat.le_of_ble_eq_true rfl) (by decide) (Nat.le_of_ble_eq_true rfl) (kf_X10_in v1.toInt64 (0 : Int64) (999 : Int64) I F) (fun r2243 I2244 F2245 => ?_)
  refine OK_st 1 okX10_nearest (S' := ((if ¬ r2243 = 0 then 15 else 12), [(0, .ref 49), (1, .int v1)], [], hp I2244 F2245)) rfl ⟨trivial, trivial⟩ ?_
  refine OK_if (fun h2246 => ?_) (fun h2246 => ?_)
  · refine OK_st 4 okX10_nearest (S' := (19, [(3, .int (0 : Int32)), (2, .int (-1 : Int32)), (0, .ref 49), (1, .int v1)], [], hp I2244 F2245)) rfl ⟨trivial, (by decide), trivial, (by decide), trivial⟩ ?_
    refine OK_pk [2, 3, 1, 0] rfl ?_
    refine kf_X10_nearest_19 v1 _ (fun v2_2262 v3_2263 I2264 F2265 => ?_) ab_fu (-1 : Int32) (0 : Int32) I2244 F2245
    refine OK_st 1 okX10_nearest (S' := (65, [(0, .ref 49), (1, .int v1), (2, .int v2_2262), (3, .int v3_2263)], [.int v2_2262], hp I2264 F2265)) rfl ⟨trivial, trivial⟩ ?_
    exact OK_ri okX10_nearest rfl rfl (Or.inl rfl)
  · refine OK_st 1 okX10_nearest (S' := (14, [(0, .ref 49), (1, .int v1)], [.int (-1000000002 : Int32)], hp I2244 F2245)) rfl ⟨trivial, trivial⟩ ?_
    exact OK_ri okX10_nearest rfl rfl (Or.inl rfl)

def f_X10_odds_68 (v2 : Int32) (ko : Int64 → Int32 → AI → AF → AQ) : Nat → Int64 → Int32 → AI → AF → AQ
  | 0, _, _, _, _ => none
  | n + 1, w5, v7, I, F =>
    if v2 ≤ v7 then
      ko w5 v7 I F
    else
      f_X10_odds_68 v2 ko n ((w5 * (((100 : Int32) - (100 : Int32)).toInt64)) / (100 : Int64)) (v7 + (1 : Int32)) I F
set_option maxRecDepth 20000 in
set_option maxHeartbeats 4000000 in
theorem kf_X10_odds_68 (v2 : Int32) (ko : Int64 → Int32 → AI → AF → AQ) (hko : ∀ w5 v7 I F, OK 2 mX10_odds true (ko w5 v7 I F) (95, [(2, .int v2), (4, .int (100 : Int32)), (5, .long w5), (7, .int v7)], [], hp I F)) : ∀ n w5 v7 I F, OK 2 mX10_odds true (f_X10_odds_68 v2 ko n w5 v7 I F) (68, [(2, .int v2), (4, .int (100 : Int32)), (5, .long w5), (7, .int v7)], [], hp I F) := by
  intro n
  induction n with
  | zero =>
    intro w5 v7 I F
    exact OK_no
  | succ n ih =>
    intro w5 v7 I F
    rw [f_X10_odds_68]
    refine OK_st 3 okX10_odds (S' := ((if v2 ≤ v7 then 95 else 74), [(2, .int v2), (4, .int (100 : Int32)), (5, .long w5), (7, .int v7)], [], hp I F)) rfl ⟨trivial, trivial, trivial, trivial⟩ ?_
    refine OK_if (fun h2279 => ?_) (fun h2279 => ?_)
    · exact hko w5 v7 I F
    · refine OK_st 11 okX10_odds (S' := (68, [(7, .int (v7 + (1 : Int32))), (5, .long ((w5 * (((100 : Int32) - (100 : Int32)).toInt64)) / (100 : Int64))), (2, .int v2), (4, .int (100 : Int32))], [], hp I F)) rfl ⟨trivial, trivial, trivial, trivial, trivial, trivial, trivial, (by decide), (by decide), (by decide), trivial, trivial⟩ ?_
      refine OK_pk [2, 3, 1, 0] rfl ?_
      exact ih ((w5 * (((100 : Int32) - (100 : Int32)).toInt64)) / (100 : Int64)) (v7 + (1 : Int32)) I F

def f_X10_odds (v1 : Int32) (v2 : Int32) (v3 : Int32) (I : AI) (F : AF) : AQ :=
  ab_bd (f_X10_isLimb v1 I F) (fun r2266 I2267 F2268 =>
    if ¬ r2266 = 0 then
      ab_bd (f_X10_in v2.toInt64 (0 : Int64) (60 : Int64) I2267 F2268) (fun r2270 I2271 F2272 =>
        if r2270 = 0 then
          some ((-1000000002 : Int32), I2271, F2272)
        else
          ab_bd (f_X10_in v3.toInt64 (0 : Int64) (100 : Int64) I2271 F2272) (fun r2274 I2275 F2276 =>
            if ¬ r2274 = 0 then
              if (100 : Int32) ≤ (v3 + ((2 : Int32) * v1)) then
                f_X10_odds_68 v2 (fun w5_2280 v7_2281 I2282 F2283 =>
                  some (w5_2280.toInt32, I2282, F2283)) ab_fu (1000000000 : Int64) (0 : Int32) I2275 F2276
              else
                f_X10_odds_68 v2 (v3 + ((2 : Int32) * v1)) (fun w5_2284 v7_2285 I2286 F2287 =>
                  some (w5_2284.toInt32, I2286, F2287)) ab_fu (1000000000 : Int64) (0 : Int32) I2275 F2276
            else
              some ((-1000000002 : Int32), I2275, F2276)))
    else
      some ((-1000000001 : Int32), I2267, F2268))
set_option maxRecDepth 20000 in
set_option maxHeartbeats 4000000 in
theorem kf_X10_odds (v1 : Int32) (v2 : Int32) (v3 : Int32) (I : AI) (F : AF) : OK 2 mX10_odds true (f_X10_odds v1 v2 v3 I F) (0, [(0, .ref 49), (1, .int v1), (2, .int v2), (3, .int v3)], [], hp I F) := by
  rw [f_X10_odds]
  refine OK_st 2 okX10_odds (S' := (2, [(0, .ref 49), (1, .int v1), (2, .int v2), (3, .int v3)], [.int v1, .ref 49], hp I F)) rfl ⟨trivial, trivial, trivial⟩ ?_
  refine OK_cv [.int v1] [] okX10_odds okX10_isLimb rfl rfl cl_RX10_200 rfl rfl (Nat.le_of_ble_eq_true rfl) (by decide) (Nat.le_of_ble_eq_true rfl) (kf_X10_isLimb v1 I F) (fun r2266 I2267 F2268 => ?_)
  refine OK_st 1 okX10_odds (S' := ((if ¬ r2266 = 0 then 11 else 8), [(0, .ref 49), (1, .int v1), (2, .int v2), (3, .int v3)], [], hp I2267 F2268)) rfl ⟨trivial, trivial⟩ ?_
  refine OK_if (fun h2269 => ?_) (fun h2269 => ?_)
  · refine OK_st 4 okX10_odds (S' := (17, [(0, .ref 49), (1, .int v1), (2, .int v2), (3, .int v3)], [.long (60 : Int64), .long (0 : Int64), .long v2.toInt64], hp I2267 F2268)) rfl ⟨trivial, trivial, trivial, trivial, trivial⟩ ?_
    refine OK_cs [.long v2.toInt64, .long (0 : Int64), .long (60 : Int64)] [] okX10_odds okX10_in rfl rfl cl_RX10_102 (Nat.le_of_ble_eq_true rfl) (by decide) (Nat.le_of_ble_eq_true rfl) (kf_X10_in v2.toInt64 (0 : Int64) (60 : Int64) I2267 F2268) (fun r2270 I2271 F2272 => ?_)
    refine OK_st 1 okX10_odds (S' := ((if r2270 = 0 then 35 else 23), [(0, .ref 49), (1, .int v1), (2, .int v2), (3, .int v3)], [], hp I2271 F2272)) rfl ⟨trivial, trivial⟩ ?_
    refine OK_if (fun h2273 => ?_) (fun h2273 => ?_)
    · refine OK_st 1 okX10_odds (S' := (37, [(0, .ref 49), (1, .int v1), (2, .int v2), (3, .int v3)], [.int (-1000000002 : Int32)], hp I2271 F2272)) rfl ⟨trivial, trivial⟩ ?_
      exact OK_ri okX10_odds rfl rfl (Or.inl rfl)
    · refine OK_st 4 okX10_odds (S' := (29, [(0, .ref 49), (1, .int v1), (2, .int v2), (3, .int v3)], [.long (100 : Int64), .long (0 : Int64), .long v3.toInt64], hp I2271 F2272)) rfl ⟨trivial, trivial, trivial, trivial, trivial⟩ ?_
      refine OK_cs [.long v3.toInt64, .long (0 : Int64), .long (100 : Int64)] [] okX10_odds okX10_in rfl rfl cl_RX10_102 (Nat.le_of_ble_eq_true rfl) (by decide) (Nat.le_of_ble_eq_true rfl) (kf_X10_in v3.toInt64 (0 : Int64) (100 : Int64) I2271 F2272) (fun r2274 I2275 F2276 => ?_)
      refine OK_st 1 okX10_odds (S' := ((if ¬ r2274 = 0 then 38 else 35), [(0, .ref 49), (1, .int v1), (2, .int v2), (3, .int v3)], [], hp I2275 F2276)) rfl ⟨trivial, trivial⟩ ?_
      refine OK_if (fun h2277 => ?_) (fun h2277 => ?_)
      · refine OK_st 7 okX10_odds (S' := ((if (100 : Int32) ≤ (v3 + ((2 : Int32) * v1)) then 56 else 48), [(0, .ref 49), (1, .int v1), (2, .int v2), (3, .int v3)], [], hp I2275 F2276)) rfl ⟨trivial, trivial, trivial, trivial, trivial, trivial, trivial, trivial⟩ ?_
        refine OK_if (fun h2278 => ?_) (fun h2278 => ?_)
        · refine OK_st 6 okX10_odds (S' := (68, [(7, .int (0 : Int32)), (5, .long (1000000000 : Int64)), (4, .int (100 : Int32)), (0, .ref 49), (1, .int v1), (2, .int v2), (3, .int v3)], [], hp I2275 F2276)) rfl ⟨trivial, (by decide), trivial, (by decide), trivial, (by decide), trivial⟩ ?_
          refine OK_pk [5, 2, 1, 0] rfl ?_
          refine kf_X10_odds_68 v2 _ (fun w5_2280 v7_2281 I2282 F2283 => ?_) ab_fu (1000000000 : Int64) (0 : Int32) I2275 F2276
          refine OK_st 2 okX10_odds (S' := (98, [(2, .int v2), (4, .int (100 : Int32)), (5, .long w5_2280), (7, .int v7_2281)], [.int w5_2280.toInt32], hp I2282 F2283)) rfl ⟨trivial, trivial, trivial⟩ ?_
          exact OK_ri okX10_odds rfl rfl (Or.inl rfl)
        · refine OK_st 11 okX10_odds (S' := (68, [(7, .int (0 : Int32)), (5, .long (1000000000 : Int64)), (4, .int (v3 + ((2 : Int32) * v1))), (0, .ref 49), (1, .int v1), (2, .int v2), (3, .int v3)], [], hp I2275 F2276)) rfl ⟨trivial, trivial, trivial, trivial, trivial, trivial, (by decide), trivial, (by decide), trivial, (by decide), trivial⟩ ?_
          refine OK_pk [5, 2, 1, 0] rfl ?_
          refine kf_X10_odds_68 v2 (v3 + ((2 : Int32) * v1)) _ (fun w5_2284 v7_2285 I2286 F2287 => ?_) ab_fu (1000000000 : Int64) (0 : Int32) I2275 F2276
          refine OK_st 2 okX10_odds (S' := (98, [(2, .int v2), (4, .int (v3 + ((2 : Int32) * v1))), (5, .long w5_2284), (7, .int v7_2285)], [.int w5_2284.toInt32], hp I2286 F2287)) rfl ⟨trivial, trivial, trivial⟩ ?_
          exact OK_ri okX10_odds rfl rfl (Or.inl rfl)
      · refine OK_st 1 okX10_odds (S' := (37, [(0, .ref 49), (1, .int v1), (2, .int v2), (3, .int v3)], [.int (-1000000002 : Int32)], hp I2275 F2276)) rfl ⟨trivial, trivial⟩ ?_
        exact OK_ri okX10_odds rfl rfl (Or.inl rfl)
  · refine OK_st 1 okX10_odds (S' := (10, [(0, .ref 49), (1, .int v1), (2, .int v2), (3, .int v3)], [.int (-1000000001 : Int32)], hp I2267 F2268)) rfl ⟨trivial, trivial⟩ ?_
    exact OK_ri okX10_odds rfl rfl (Or.inl rfl)

def f_X10_got (v1 : Int32) (v2 : Int32) (I : AI) (F : AF) : AQ :=
  ab_bd (f_X10_in v1.toInt64 (1 : Int64) (50 : Int64) I F) (fun r2288 I2289 F2290 =>
    if r2288 = 0 then
      some ((-1000000002 : Int32), I2289, F2290)
    else
      ab_bd (f_X10_in v2.toInt64 (0 : Int64) (9999 : Int64) I2289 F2290) (fun r2292 I2293 F2294 =>
        if ¬ r2292 = 0 then
          if ¬ (I2293 37) = (8 : Int32) then
            bif ab_vin (I2293 37) 8 then
              bif ab_vin (I2293 37) 8 then
                some (((I2293 37) + (1 : Int32)), (va_up I2293 37 ((I2293 37) + (1 : Int32))), (va_up (va_up F2294 60 (upd (F2294 60) (I2293 37).toNatClampNeg v1)) 61 (upd (F2294 61) (I2293 37).toNatClampNeg v2)))
              else none
            else none
          else
            some ((-1000000004 : Int32), I2293, F2294)
        else
          some ((-1000000002 : Int32), I2293, F2294)))
set_option maxRecDepth 20000 in
set_option maxHeartbeats 4000000 in
theorem kf_X10_got (v1 : Int32) (v2 : Int32) (I : AI) (F : AF) : OK 1 mX10_got true (f_X10_got v1 v2 I F) (0, [(0, .ref 49), (1, .int v1), (2, .int v2)], [], hp I F) := by
  rw [f_X10_got]
  refine OK_st 4 okX10_got (S' := (6, [(0, .ref 49), (1, .int v1), (2, .int v2)], [.long (50 : Int64), .long (1 : Int64), .long v1.toInt64], hp I F)) rfl ⟨trivial, trivial, trivial, trivial, trivial⟩ ?_
  refine OK_cs [.long v1.toInt64, .long (1 : Int64), .long (50 : Int64)] [] okX10_got okX10_in rfl rfl cl_RX10_102 (Nat.le_of_ble_eq_true rfl) (by decide) (Nat.le_of_ble_eq_true rfl) (kf_X10_in v1.toInt64 (1 : Int64) (50 : Int64) I F) (fun r2288 I2289 F2290 => ?_)
  refine OK_st 1 okX10_got (S' := ((if r2288 = 0 then 24 else 12), [(0, .ref 49), (1, .int v1), (2, .int v2)], [], hp I2289 F2290)) rfl ⟨trivial, trivial⟩ ?_
  refine OK_if (fun h2291 => ?_) (fun h2291 => ?_)
  · refine OK_st 1 okX10_got (S' := (26, [(0, .ref 49), (1, .int v1), (2, .int v2)], [.int (-1000000002 : Int32)], hp I2289 F2290)) rfl ⟨trivial, trivial⟩ ?_
    exact OK_ri okX10_got rfl rfl (Or.inl rfl)
  · refine OK_st 4 okX10_got (S' := (18, [(0, .ref 49), (1, .int v1), (2, .int v2)], [.long (9999 : Int64), .long (0 : Int64), .long v2.toInt64], hp I2289 F2290)) rfl ⟨trivial, trivial, trivial, trivial, trivial⟩ ?_
    refine OK_cs [.long v2.toInt64, .long (0 : Int64), .long (9999 : Int64)] [] okX10_got okX10_in rfl rfl cl_RX10_102 (Nat.le_of_ble_eq_true rfl) (by decide) (Nat.le_of_ble_eq_true rfl) (kf_X10_in v2.toInt64 (0 : Int64) (9999 : Int64) I2289 F2290) (fun r2292 I2293 F2294 => ?_)
    refine OK_st 1 okX10_got (S' := ((if ¬ r2292 = 0 then 27 else 24), [(0, .ref 49), (1, .int v1), (2, .int v2)], [], hp I2293 F2294)) rfl ⟨trivial, trivial⟩ ?_
    refine OK_if (fun h2295 => ?_) (fun h2295 => ?_)
    · refine OK_st 4 okX10_got (S' := ((if ¬ (I2293 37) = (8 : Int32) then 39 else 36), [(0, .ref 49), (1, .int v1), (2, .int v2)], [], hp I2293 F2294)) rfl ⟨trivial, trivial, trivial, trivial, trivial⟩ ?_
      refine OK_if (fun h2296 => ?_) (fun h2296 => ?_)
      · refine OK_gd (fun g2297 => ?_)
        refine OK_gd (fun g2298 => ?_)
        refine OK_st 20 okX10_got (S' := (73, [(0, .ref 49), (1, .int v1), (2, .int v2)], [.int ((I2293 37) + (1 : Int32))], hp (va_up I2293 37 ((I2293 37) + (1 : Int32))) (va_up (va_up F2294 60 (upd (F2294 60) (I2293 37).toNatClampNeg v1)) 61 (upd (F2294 61) (I2293 37).toNatClampNeg v2)))) rfl ⟨trivial, trivial, trivial, trivial, trivial, (ab_vo g2297), trivial, trivial, trivial, trivial, trivial, (ab_vo g2298), trivial, rfl, trivial, trivial, trivial, trivial, trivial, trivial, trivial⟩ ?_
        exact OK_ri okX10_got rfl rfl (Or.inl rfl)
      · refine OK_st 1 okX10_got (S' := (38, [(0, .ref 49), (1, .int v1), (2, .int v2)], [.int (-1000000004 : Int32)], hp I2293 F2294)) rfl ⟨trivial, trivial⟩ ?_
        exact OK_ri okX10_got rfl rfl (Or.inl rfl)
    · refine OK_st 1 okX10_got (S' := (26, [(0, .ref 49), (1, .int v1), (2, .int v2)], [.int (-1000000002 : Int32)], hp I2293 F2294)) rfl ⟨trivial, trivial⟩ ?_
      exact OK_ri okX10_got rfl rfl (Or.inl rfl)

def f_X10_used_17 (v1 : Int32) (v2 : Int32) (ko : Int32 → Int32 → AI → AF → AQ) : Nat → Int32 → Int32 → AI → AF → AQ
  | 0, _, _, _, _ => none
  | n + 1, v3, v4, I, F =>
    if (I 37) ≤ v4 then
      ko v3 v4 I F
    else
      if v3 = 0 then
        f_X10_used_17 v1 v2 ko n (0 : Int32) (v4 + (1 : Int32)) I F
      else
        bif ab_vin v4 8 then
          ab_bd (f_X10_measureNow v2 I F) (fun r2303 I2304 F2305 =>
            bif ab_vin v4 8 then
              if ¬ (((F 60) v4.toNatClampNeg) * r2303) = ((F2305 61) v4.toNatClampNeg) then
                f_X10_used_17 v1 v2 ko n (0 : Int32) (v4 + (1 : Int32)) I2304 F2305
              else
                f_X10_used_17 v1 v2 ko n (1 : Int32) (v4 + (1 : Int32)) I2304 F2305
            else none)
        else none
set_option maxRecDepth 20000 in
set_option maxHeartbeats 4000000 in
theorem kf_X10_used_17 (v1 : Int32) (v2 : Int32) (ko : Int32 → Int32 → AI → AF → AQ) (hko : ∀ v3 v4 I F, OK 4 mX10_used true (ko v3 v4 I F) (65, [(0, .ref 49), (1, .int v1), (2, .int v2), (3, .int v3), (4, .int v4)], [], hp I F)) : ∀ n v3 v4 I F, OK 4 mX10_used true (f_X10_used_17 v1 v2 ko n v3 v4 I F) (17, [(0, .ref 49), (1, .int v1), (2, .int v2), (3, .int v3), (4, .int v4)], [], hp I F) := by
  intro n
  induction n with
  | zero =>
    intro v3 v4 I F
    exact OK_no
  | succ n ih =>
    intro v3 v4 I F
    rw [f_X10_used_17]
    refine OK_st 4 okX10_used (S' := ((if (I 37) ≤ v4 then 65 else 26), [(0, .ref 49), (1, .int v1), (2, .int v2), (3, .int v3), (4, .int v4)], [], hp I F)) rfl ⟨trivial, trivial, trivial, trivial, trivial⟩ ?_
    refine OK_if (fun h2300 => ?_) (fun h2300 => ?_)
    · exact hko v3 v4 I F
    · refine OK_st 2 okX10_used (S' := ((if v3 = 0 then 57 else 30), [(0, .ref 49), (1, .int v1), (2, .int v2), (3, .int v3), (4, .int v4)], [], hp I F)) rfl ⟨trivial, trivial, trivial⟩ ?_
      refine OK_if (fun h2301 => ?_) (fun h2301 => ?_)
      · refine OK_st 4 okX10_used (S' := (17, [(4, .int (v4 + (1 : Int32))), (3, .int (0 : Int32)), (0, .ref 49), (1, .int v1), (2, .int v2)], [], hp I F)) rfl ⟨trivial, (by decide), (by decide), trivial, trivial⟩ ?_
        refine OK_pk [2, 3, 4, 1, 0] rfl ?_
        exact ih (0 : Int32) (v4 + (1 : Int32)) I F
      · refine OK_gd (fun g2302 => ?_)
        refine OK_st 6 okX10_used (S' := (39, [(0, .ref 49), (1, .int v1), (2, .int v2), (3, .int v3), (4, .int v4)], [.int v2, .ref 49, .int ((F 60) v4.toNatClampNeg)], hp I F)) rfl ⟨trivial, trivial, trivial, (ab_vo g2302), trivial, trivial, trivial⟩ ?_
        refine OK_cv [.int v2] [.int ((F 60) v4.toNatClampNeg)] okX10_used okX10_measureNow rfl rfl cl_RX10_204 rfl rfl (Nat.le_of_ble_eq_true rfl) (by decide) (Nat.le_of_ble_eq_true rfl) (kf_X10_measureNow v2 I F) (fun r2303 I2304 F2305 => ?_)
        refine OK_gd (fun g2306 => ?_)
        refine OK_st 6 okX10_used (S' := ((if ¬ (((F 60) v4.toNatClampNeg) * r2303) = ((F2305 61) v4.toNatClampNeg) then 57 else 53), [(0, .ref 49), (1, .int v1), (2, .int v2), (3, .int v3), (4, .int v4)], [], hp I2304 F2305)) rfl ⟨trivial, trivial, trivial, trivial, (ab_vo g2306), trivial, trivial⟩ ?_
        refine OK_if (fun h2307 => ?_) (fun h2307 => ?_)
        · refine OK_st 4 okX10_used (S' := (17, [(4, .int (v4 + (1 : Int32))), (3, .int (0 : Int32)), (0, .ref 49), (1, .int v1), (2, .int v2)], [], hp I2304 F2305)) rfl ⟨trivial, (by decide), (by decide), trivial, trivial⟩ ?_
          refine OK_pk [2, 3, 4, 1, 0] rfl ?_
          exact ih (0 : Int32) (v4 + (1 : Int32)) I2304 F2305
        · refine OK_st 5 okX10_used (S' := (17, [(4, .int (v4 + (1 : Int32))), (3, .int (1 : Int32)), (0, .ref 49), (1, .int v1), (2, .int v2)], [], hp I2304 F2305)) rfl ⟨trivial, trivial, (by decide), (by decide), trivial, trivial⟩ ?_
          refine OK_pk [2, 3, 4, 1, 0] rfl ?_
          exact ih (1 : Int32) (v4 + (1 : Int32)) I2304 F2305

def f_X10_used_4 (ko : Int32 → Int32 → AI → AF → AQ) : Nat → Int32 → Int32 → AI → AF → AQ
  | 0, _, _, _, _ => none
  | n + 1, v1, v2, I, F =>
    if (I 22) ≤ v2 then
      ko v1 v2 I F
    else
      f_X10_used_17 v1 v2 (fun v3_2308 v4_2309 I2310 F2311 =>
        if v3_2308 = 0 then
          f_X10_used_4 ko n (v1 ||| (0 : Int32)) (v2 + (1 : Int32)) I2310 F2311
        else
          ab_lt (v1 ||| ((1 : Int32) <<< (v2 &&& 31))) (fun x2313 =>
            f_X10_used_4 ko n x2313 (v2 + (1 : Int32)) I2310 F2311)) ab_fu (1 : Int32) (0 : Int32) I F
set_option maxRecDepth 20000 in
set_option maxHeartbeats 4000000 in
theorem kf_X10_used_4 (ko : Int32 → Int32 → AI → AF → AQ) (hko : ∀ v1 v2 I F, OK 4 mX10_used true (ko v1 v2 I F) (85, [(0, .ref 49), (1, .int v1), (2, .int v2)], [], hp I F)) : ∀ n v1 v2 I F, OK 4 mX10_used true (f_X10_used_4 ko n v1 v2 I F) (4, [(0, .ref 49), (1, .int v1), (2, .int v2)], [], hp I F) := by
  intro n
  induction n with
  | zero =>
    intro v1 v2 I F
    exact OK_no
  | succ n ih =>
    intro v1 v2 I F
    rw [f_X10_used_4]
    refine OK_st 4 okX10_used (S' := ((if (I 22) ≤ v2 then 85 else 12), [(0, .ref 49), (1, .int v1), (2, .int v2)], [], hp I F)) rfl ⟨trivial, trivial, trivial, trivial, trivial⟩ ?_
    refine OK_if (fun h2299 => ?_) (fun h2299 => ?_)
    · exact hko v1 v2 I F
    · refine OK_st 4 okX10_used (S' := (17, [(4, .int (0 : Int32)), (3, .int (1 : Int32)), (0, .ref 49), (1, .int v1), (2, .int v2)], [], hp I F)) rfl ⟨trivial, (by decide), trivial, (by decide), trivial⟩ ?_
      refine OK_pk [2, 3, 4, 1, 0] rfl ?_
      refine kf_X10_used_17 v1 v2 _ (fun v3_2308 v4_2309 I2310 F2311 => ?_) ab_fu (1 : Int32) (0 : Int32) I F
      refine OK_st 3 okX10_used (S' := ((if v3_2308 = 0 then 76 else 70), [(0, .ref 49), (1, .int v1), (2, .int v2), (3, .int v3_2308), (4, .int v4_2309)], [.int v1], hp I2310 F2311)) rfl ⟨trivial, trivial, trivial, trivial⟩ ?_
      refine OK_if (fun h2312 => ?_) (fun h2312 => ?_)
      · refine OK_st 5 okX10_used (S' := (4, [(2, .int (v2 + (1 : Int32))), (1, .int (v1 ||| (0 : Int32))), (0, .ref 49), (3, .int v3_2308), (4, .int v4_2309)], [], hp I2310 F2311)) rfl ⟨trivial, trivial, (by decide), (by decide), trivial, trivial⟩ ?_
        refine OK_pk [2, 1, 0] rfl ?_
        exact ih (v1 ||| (0 : Int32)) (v2 + (1 : Int32)) I2310 F2311
      · refine OK_st 6 okX10_used (S' := (79, [(1, .int (v1 ||| ((1 : Int32) <<< (v2 &&& 31)))), (0, .ref 49), (2, .int v2), (3, .int v3_2308), (4, .int v4_2309)], [], hp I2310 F2311)) rfl ⟨trivial, trivial, trivial, trivial, trivial, (by decide), trivial⟩ ?_
        refine OK_lt (fun x2313 => (79, [(1, .int x2313), (0, .ref 49), (2, .int v2), (3, .int v3_2308), (4, .int v4_2309)], [], hp I2310 F2311)) (fun x2313 => ?_)
        refine OK_st 2 okX10_used (S' := (4, [(2, .int (v2 + (1 : Int32))), (1, .int x2313), (0, .ref 49), (3, .int v3_2308), (4, .int v4_2309)], [], hp I2310 F2311)) rfl ⟨(by decide), trivial, trivial⟩ ?_
        refine OK_pk [2, 1, 0] rfl ?_
        exact ih x2313 (v2 + (1 : Int32)) I2310 F2311

def f_X10_used (I : AI) (F : AF) : AQ :=
  f_X10_used_4 (fun v1_2314 v2_2315 I2316 F2317 =>
    some (v1_2314, I2316, F2317)) ab_fu (0 : Int32) (0 : Int32) I F
set_option maxRecDepth 20000 in
set_option maxHeartbeats 4000000 in
theorem kf_X10_used (I : AI) (F : AF) : OK 4 mX10_used true (f_X10_used I F) (0, [(0, .ref 49)], [], hp I F) := by
  rw [f_X10_used]
  refine OK_st 4 okX10_used (S' := (4, [(2, .int (0 : Int32)), (1, .int (0 : Int32)), (0, .ref 49)], [], hp I F)) rfl ⟨trivial, (by decide), trivial, (by decide), trivial⟩ ?_
  refine OK_pk [2, 1, 0] rfl ?_
  refine kf_X10_used_4 _ (fun v1_2314 v2_2315 I2316 F2317 => ?_) ab_fu (0 : Int32) (0 : Int32) I F
  refine OK_st 1 okX10_used (S' := (86, [(0, .ref 49), (1, .int v1_2314), (2, .int v2_2315)], [.int v1_2314], hp I2316 F2317)) rfl ⟨trivial, trivial⟩ ?_
  exact OK_ri okX10_used rfl rfl (Or.inl rfl)

def f_X10_bale_j69_39 (bk ko : Int32 → Int32 → AI → AF → AQ) (v1 : Int32) (v2 : Int32) (v3 : Int32) (v4 : Int32) (v5 : Int32) (s0 : Int32) (I : AI) (F : AF) : AQ :=
  if v3 = 0 then
    bk (0 : Int32) (v5 + (1 : Int32)) I F
  else
    if s0 = 0 then
      bk (1 : Int32) (v5 + (1 : Int32)) I F
    else
      ab_bd (f_X10_measure v4 (((F 47) 19) + v2) I F) (fun r2334 I2335 F2336 =>
        ab_bd (f_X10_measure v5 (((F2336 47) 19) + v2) I2335 F2336) (fun r2337 I2338 F2339 =>
          if r2334 = r2337 then
            bk (0 : Int32) (v5 + (1 : Int32)) I2338 F2339
          else
            bk (1 : Int32) (v5 + (1 : Int32)) I2338 F2339))
set_option maxRecDepth 20000 in
set_option maxHeartbeats 4000000 in
theorem kf_X10_bale_j69_39 (bk ko : Int32 → Int32 → AI → AF → AQ) (v1 : Int32) (v2 : Int32) (v3 : Int32) (v4 : Int32) (v5 : Int32) (hbk : ∀ v3 v5 I F, OK 5 mX10_bale true (bk v3 v5 I F) (39, [(0, .ref 49), (1, .int v1), (2, .int v2), (3, .int v3), (4, .int v4), (5, .int v5)], [], hp I F)) (hko : ∀ v3 v5 I F, OK 5 mX10_bale true (ko v3 v5 I F) (125, [(0, .ref 49), (1, .int v1), (2, .int v2), (3, .int v3), (4, .int v4), (5, .int v5)], [], hp I F)) (s0 : Int32) (I : AI) (F : AF) : OK 5 mX10_bale true (f_X10_bale_j69_39 bk ko v1 v2 v3 v4 v5 s0 I F) (69, [(0, .ref 49), (1, .int v1), (2, .int v2), (3, .int v3), (4, .int v4), (5, .int v5)], [.int s0], hp I F) := by
  rw [f_X10_bale_j69_39]
  refine OK_st 3 okX10_bale (S' := ((if v3 = 0 then 117 else 75), [(6, .int s0), (0, .ref 49), (1, .int v1), (2, .int v2), (3, .int v3), (4, .int v4), (5, .int v5)], [], hp I F)) rfl ⟨(by decide), trivial, trivial, trivial⟩ ?_
  refine OK_if (fun h2332 => ?_) (fun h2332 => ?_)
  · refine OK_st 4 okX10_bale (S' := (39, [(5, .int (v5 + (1 : Int32))), (3, .int (0 : Int32)), (6, .int s0), (0, .ref 49), (1, .int v1), (2, .int v2), (4, .int v4)], [], hp I F)) rfl ⟨trivial, (by decide), (by decide), trivial, trivial⟩ ?_
    refine OK_pk [3, 4, 5, 1, 6, 0] rfl ?_
    exact hbk (0 : Int32) (v5 + (1 : Int32)) I F
  · refine OK_st 2 okX10_bale (S' := ((if s0 = 0 then 113 else 80), [(6, .int s0), (0, .ref 49), (1, .int v1), (2, .int v2), (3, .int v3), (4, .int v4), (5, .int v5)], [], hp I F)) rfl ⟨trivial, trivial, trivial⟩ ?_
    refine OK_if (fun h2333 => ?_) (fun h2333 => ?_)
    · refine OK_st 5 okX10_bale (S' := (39, [(5, .int (v5 + (1 : Int32))), (3, .int (1 : Int32)), (6, .int s0), (0, .ref 49), (1, .int v1), (2, .int v2), (4, .int v4)], [], hp I F)) rfl ⟨trivial, trivial, (by decide), (by decide), trivial, trivial⟩ ?_
      refine OK_pk [3, 4, 5, 1, 6, 0] rfl ?_
      exact hbk (1 : Int32) (v5 + (1 : Int32)) I F
    · refine OK_st 8 okX10_bale (S' := (92, [(6, .int s0), (0, .ref 49), (1, .int v1), (2, .int v2), (3, .int v3), (4, .int v4), (5, .int v5)], [.int (((F 47) 19) + v2), .int v4, .ref 49], hp I F)) rfl ⟨trivial, trivial, trivial, trivial, trivial, (ab_vo (by decide)), trivial, trivial, trivial⟩ ?_
      refine OK_cv [.int v4, .int (((F 47) 19) + v2)] [] okX10_bale okX10_measure rfl rfl cl_RX10_197 rfl rfl (Nat.le_of_ble_eq_true rfl) (by decide) (Nat.le_of_ble_eq_true rfl) (kf_X10_measure v4 (((F 47) 19) + v2) I F) (fun r2334 I2335 F2336 => ?_)
      refine OK_st 8 okX10_bale (S' := (107, [(6, .int s0), (0, .ref 49), (1, .int v1), (2, .int v2), (3, .int v3), (4, .int v4), (5, .int v5)], [.int (((F2336 47) 19) + v2), .int v5, .ref 49, .int r2334], hp I2335 F2336)) rfl ⟨trivial, trivial, trivial, trivial, trivial, (ab_vo (by decide)), trivial, trivial, trivial⟩ ?_
      refine OK_cv [.int v5, .int (((F2336 47) 19) + v2)] [.int r2334] okX10_bale okX10_measure rfl rfl cl_RX10_197 rfl rfl (Nat.le_of_ble_eq_true rfl) (by decide) (Nat.le_of_ble_eq_true rfl) (kf_X10_measure v5 (((F2336 47) 19) + v2) I2335 F2336) (fun r2337 I2338 F2339 => ?_)
      refine OK_st 1 okX10_bale (S' := ((if r2334 = r2337 then 117 else 113), [(6, .int s0), (0, .ref 49), (1, .int v1), (2, .int v2), (3, .int v3), (4, .int v4), (5, .int v5)], [], hp I2338 F2339)) rfl ⟨trivial, trivial⟩ ?_
      refine OK_if (fun h2340 => ?_) (fun h2340 => ?_)
      · refine OK_st 4 okX10_bale (S' := (39, [(5, .int (v5 + (1 : Int32))), (3, .int (0 : Int32)), (6, .int s0), (0, .ref 49), (1, .int v1), (2, .int v2), (4, .int v4)], [], hp I2338 F2339)) rfl ⟨trivial, (by decide), (by decide), trivial, trivial⟩ ?_
        refine OK_pk [3, 4, 5, 1, 6, 0] rfl ?_
        exact hbk (0 : Int32) (v5 + (1 : Int32)) I2338 F2339
      · refine OK_st 5 okX10_bale (S' := (39, [(5, .int (v5 + (1 : Int32))), (3, .int (1 : Int32)), (6, .int s0), (0, .ref 49), (1, .int v1), (2, .int v2), (4, .int v4)], [], hp I2338 F2339)) rfl ⟨trivial, trivial, (by decide), (by decide), trivial, trivial⟩ ?_
        refine OK_pk [3, 4, 5, 1, 6, 0] rfl ?_
        exact hbk (1 : Int32) (v5 + (1 : Int32)) I2338 F2339

def f_X10_bale_j68_39 (bk ko : Int32 → Int32 → AI → AF → AQ) (v1 : Int32) (v2 : Int32) (v3 : Int32) (v4 : Int32) (v5 : Int32) (I : AI) (F : AF) : AQ :=
  f_X10_bale_j69_39 (bk) ko v1 v2 v3 v4 v5 (0 : Int32) I F
set_option maxRecDepth 20000 in
set_option maxHeartbeats 4000000 in
theorem kf_X10_bale_j68_39 (bk ko : Int32 → Int32 → AI → AF → AQ) (v1 : Int32) (v2 : Int32) (v3 : Int32) (v4 : Int32) (v5 : Int32) (hbk : ∀ v3 v5 I F, OK 5 mX10_bale true (bk v3 v5 I F) (39, [(0, .ref 49), (1, .int v1), (2, .int v2), (3, .int v3), (4, .int v4), (5, .int v5)], [], hp I F)) (hko : ∀ v3 v5 I F, OK 5 mX10_bale true (ko v3 v5 I F) (125, [(0, .ref 49), (1, .int v1), (2, .int v2), (3, .int v3), (4, .int v4), (5, .int v5)], [], hp I F)) (I : AI) (F : AF) : OK 5 mX10_bale true (f_X10_bale_j68_39 bk ko v1 v2 v3 v4 v5 I F) (68, [(0, .ref 49), (1, .int v1), (2, .int v2), (3, .int v3), (4, .int v4), (5, .int v5)], [], hp I F) := by
  rw [f_X10_bale_j68_39]
  refine OK_st 1 okX10_bale (S' := (69, [(0, .ref 49), (1, .int v1), (2, .int v2), (3, .int v3), (4, .int v4), (5, .int v5)], [.int (0 : Int32)], hp I F)) rfl ⟨trivial, trivial⟩ ?_
  exact kf_X10_bale_j69_39 (bk) ko v1 v2 v3 v4 v5 hbk hko (0 : Int32) I F

def f_X10_bale_39 (v1 : Int32) (v2 : Int32) (v4 : Int32) (ko : Int32 → Int32 → AI → AF → AQ) : Nat → Int32 → Int32 → AI → AF → AQ
  | 0, _, _, _, _ => none
  | n + 1, v3, v5, I, F =>
    if v4 ≤ v5 then
      ko v3 v5 I F
    else
      ab_bd (f_X10_has v1 v4 I F) (fun r2328 I2329 F2330 =>
        if r2328 = 0 then
          f_X10_bale_j68_39 (f_X10_bale_39 v1 v2 v4 ko n) ko v1 v2 v3 v4 v5 I2329 F2330
        else
          ab_bd (f_X10_has v1 v5 I2329 F2330) (fun r2341 I2342 F2343 =>
            if r2341 = 0 then
              f_X10_bale_j68_39 (f_X10_bale_39 v1 v2 v4 ko n) ko v1 v2 v3 v4 v5 I2342 F2343
            else
              f_X10_bale_j69_39 (f_X10_bale_39 v1 v2 v4 ko n) ko v1 v2 v3 v4 v5 (1 : Int32) I2342 F2343))
set_option maxRecDepth 20000 in
set_option maxHeartbeats 4000000 in
theorem kf_X10_bale_39 (v1 : Int32) (v2 : Int32) (v4 : Int32) (ko : Int32 → Int32 → AI → AF → AQ) (hko : ∀ v3 v5 I F, OK 5 mX10_bale true (ko v3 v5 I F) (125, [(0, .ref 49), (1, .int v1), (2, .int v2), (3, .int v3), (4, .int v4), (5, .int v5)], [], hp I F)) : ∀ n v3 v5 I F, OK 5 mX10_bale true (f_X10_bale_39 v1 v2 v4 ko n v3 v5 I F) (39, [(0, .ref 49), (1, .int v1), (2, .int v2), (3, .int v3), (4, .int v4), (5, .int v5)], [], hp I F) := by
  intro n
  induction n with
  | zero =>
    intro v3 v5 I F
    exact OK_no
  | succ n ih =>
    intro v3 v5 I F
    rw [f_X10_bale_39]
    refine OK_st 3 okX10_bale (S' := ((if v4 ≤ v5 then 125 else 46), [(0, .ref 49), (1, .int v1), (2, .int v2), (3, .int v3), (4, .int v4), (5, .int v5)], [], hp I F)) rfl ⟨trivial, trivial, trivial, trivial⟩ ?_
    refine OK_if (fun h2327 => ?_) (fun h2327 => ?_)
    · exact hko v3 v5 I F
    · refine OK_st 2 okX10_bale (S' := (49, [(0, .ref 49), (1, .int v1), (2, .int v2), (3, .int v3), (4, .int v4), (5, .int v5)], [.int v4, .int v1], hp I F)) rfl ⟨trivial, trivial, trivial⟩ ?_
      refine OK_cs [.int v1, .int v4] [] okX10_bale okX10_has rfl rfl cl_RX10_106 (Nat.le_of_ble_eq_true rfl) (by decide) (Nat.le_of_ble_eq_true rfl) (kf_X10_has v1 v4 I F) (fun r2328 I2329 F2330 => ?_)
      refine OK_st 1 okX10_bale (S' := ((if r2328 = 0 then 68 else 55), [(0, .ref 49), (1, .int v1), (2, .int v2), (3, .int v3), (4, .int v4), (5, .int v5)], [], hp I2329 F2330)) rfl ⟨trivial, trivial⟩ ?_
      refine OK_if (fun h2331 => ?_) (fun h2331 => ?_)
      · exact kf_X10_bale_j68_39 (f_X10_bale_39 v1 v2 v4 ko n) ko v1 v2 v3 v4 v5 ih hko I2329 F2330
      · refine OK_st 2 okX10_bale (S' := (58, [(0, .ref 49), (1, .int v1), (2, .int v2), (3, .int v3), (4, .int v4), (5, .int v5)], [.int v5, .int v1], hp I2329 F2330)) rfl ⟨trivial, trivial, trivial⟩ ?_
        refine OK_cs [.int v1, .int v5] [] okX10_bale okX10_has rfl rfl cl_RX10_106 (Nat.le_of_ble_eq_true rfl) (by decide) (Nat.le_of_ble_eq_true rfl) (kf_X10_has v1 v5 I2329 F2330) (fun r2341 I2342 F2343 => ?_)
        refine OK_st 1 okX10_bale (S' := ((if r2341 = 0 then 68 else 64), [(0, .ref 49), (1, .int v1), (2, .int v2), (3, .int v3), (4, .int v4), (5, .int v5)], [], hp I2342 F2343)) rfl ⟨trivial, trivial⟩ ?_
        refine OK_if (fun h2344 => ?_) (fun h2344 => ?_)
        · exact kf_X10_bale_j68_39 (f_X10_bale_39 v1 v2 v4 ko n) ko v1 v2 v3 v4 v5 ih hko I2342 F2343
        · refine OK_st 2 okX10_bale (S' := (69, [(0, .ref 49), (1, .int v1), (2, .int v2), (3, .int v3), (4, .int v4), (5, .int v5)], [.int (1 : Int32)], hp I2342 F2343)) rfl ⟨trivial, trivial, trivial⟩ ?_
          exact kf_X10_bale_j69_39 (f_X10_bale_39 v1 v2 v4 ko n) ko v1 v2 v3 v4 v5 ih hko (1 : Int32) I2342 F2343

def f_X10_bale_27 (v1 : Int32) (v2 : Int32) (ko : Int32 → Int32 → AI → AF → AQ) : Nat → Int32 → Int32 → AI → AF → AQ
  | 0, _, _, _, _ => none
  | n + 1, v3, v4, I, F =>
    if (I 22) ≤ v4 then
      ko v3 v4 I F
    else
      f_X10_bale_39 v1 v2 v4 (fun v3_2345 v5_2346 I2347 F2348 =>
        f_X10_bale_27 v1 v2 ko n v3_2345 (v4 + (1 : Int32)) I2347 F2348) ab_fu v3 (0 : Int32) I F
set_option maxRecDepth 20000 in
set_option maxHeartbeats 4000000 in
theorem kf_X10_bale_27 (v1 : Int32) (v2 : Int32) (ko : Int32 → Int32 → AI → AF → AQ) (hko : ∀ v3 v4 I F, OK 5 mX10_bale true (ko v3 v4 I F) (131, [(0, .ref 49), (1, .int v1), (2, .int v2), (3, .int v3), (4, .int v4)], [], hp I F)) : ∀ n v3 v4 I F, OK 5 mX10_bale true (f_X10_bale_27 v1 v2 ko n v3 v4 I F) (27, [(0, .ref 49), (1, .int v1), (2, .int v2), (3, .int v3), (4, .int v4)], [], hp I F) := by
  intro n
  induction n with
  | zero =>
    intro v3 v4 I F
    exact OK_no
  | succ n ih =>
    intro v3 v4 I F
    rw [f_X10_bale_27]
    refine OK_st 4 okX10_bale (S' := ((if (I 22) ≤ v4 then 131 else 36), [(0, .ref 49), (1, .int v1), (2, .int v2), (3, .int v3), (4, .int v4)], [], hp I F)) rfl ⟨trivial, trivial, trivial, trivial, trivial⟩ ?_
    refine OK_if (fun h2326 => ?_) (fun h2326 => ?_)
    · exact hko v3 v4 I F
    · refine OK_st 2 okX10_bale (S' := (39, [(5, .int (0 : Int32)), (0, .ref 49), (1, .int v1), (2, .int v2), (3, .int v3), (4, .int v4)], [], hp I F)) rfl ⟨trivial, (by decide), trivial⟩ ?_
      refine OK_pk [1, 2, 3, 4, 5, 0] rfl ?_
      refine kf_X10_bale_39 v1 v2 v4 _ (fun v3_2345 v5_2346 I2347 F2348 => ?_) ab_fu v3 (0 : Int32) I F
      refine OK_st 2 okX10_bale (S' := (27, [(4, .int (v4 + (1 : Int32))), (0, .ref 49), (1, .int v1), (2, .int v2), (3, .int v3_2345), (5, .int v5_2346)], [], hp I2347 F2348)) rfl ⟨(by decide), trivial, trivial⟩ ?_
      refine OK_pk [1, 2, 3, 4, 0] rfl ?_
      exact ih v3_2345 (v4 + (1 : Int32)) I2347 F2348

def f_X10_bale_17 (v1 : Int32) (ko : Int32 → AI → AF → AQ) : Nat → Int32 → AI → AF → AQ
  | 0, _, _, _ => none
  | n + 1, v2, I, F =>
    if (4 : Int32) ≤ v2 then
      ko v2 I F
    else
      f_X10_bale_27 v1 v2 (fun v3_2349 v4_2350 I2351 F2352 =>
        if v3_2349 = 0 then
          f_X10_bale_17 v1 ko n (v2 + (1 : Int32)) I2351 F2352
        else
          some (v2, I2351, F2352)) ab_fu (1 : Int32) (0 : Int32) I F
set_option maxRecDepth 20000 in
set_option maxHeartbeats 4000000 in
theorem kf_X10_bale_17 (v1 : Int32) (ko : Int32 → AI → AF → AQ) (hko : ∀ v2 I F, OK 5 mX10_bale true (ko v2 I F) (143, [(0, .ref 49), (1, .int v1), (2, .int v2)], [], hp I F)) : ∀ n v2 I F, OK 5 mX10_bale true (f_X10_bale_17 v1 ko n v2 I F) (17, [(0, .ref 49), (1, .int v1), (2, .int v2)], [], hp I F) := by
  intro n
  induction n with
  | zero =>
    intro v2 I F
    exact OK_no
  | succ n ih =>
    intro v2 I F
    rw [f_X10_bale_17]
    refine OK_st 3 okX10_bale (S' := ((if (4 : Int32) ≤ v2 then 143 else 22), [(0, .ref 49), (1, .int v1), (2, .int v2)], [], hp I F)) rfl ⟨trivial, trivial, trivial, trivial⟩ ?_
    refine OK_if (fun h2325 => ?_) (fun h2325 => ?_)
    · exact hko v2 I F
    · refine OK_st 4 okX10_bale (S' := (27, [(4, .int (0 : Int32)), (3, .int (1 : Int32)), (0, .ref 49), (1, .int v1), (2, .int v2)], [], hp I F)) rfl ⟨trivial, (by decide), trivial, (by decide), trivial⟩ ?_
      refine OK_pk [2, 3, 4, 1, 0] rfl ?_
      refine kf_X10_bale_27 v1 v2 _ (fun v3_2349 v4_2350 I2351 F2352 => ?_) ab_fu (1 : Int32) (0 : Int32) I F
      refine OK_st 2 okX10_bale (S' := ((if v3_2349 = 0 then 137 else 135), [(0, .ref 49), (1, .int v1), (2, .int v2), (3, .int v3_2349), (4, .int v4_2350)], [], hp I2351 F2352)) rfl ⟨trivial, trivial, trivial⟩ ?_
      refine OK_if (fun h2353 => ?_) (fun h2353 => ?_)
      · refine OK_st 2 okX10_bale (S' := (17, [(2, .int (v2 + (1 : Int32))), (0, .ref 49), (1, .int v1), (3, .int v3_2349), (4, .int v4_2350)], [], hp I2351 F2352)) rfl ⟨(by decide), trivial, trivial⟩ ?_
        refine OK_pk [1, 2, 0] rfl ?_
        exact ih (v2 + (1 : Int32)) I2351 F2352
      · refine OK_st 1 okX10_bale (S' := (136, [(0, .ref 49), (1, .int v1), (2, .int v2), (3, .int v3_2349), (4, .int v4_2350)], [.int v2], hp I2351 F2352)) rfl ⟨trivial, trivial⟩ ?_
        exact OK_ri okX10_bale rfl rfl (Or.inl rfl)
