/-! methods as functions (by program) -/
def f_X10_apartBy (v1 : Int32) (I : AI) (F : AF) : AQ :=
  f_X10_apartBy_7 v1 (fun v2_2156 v3_2157 v4_2158 I2159 F2160 =>
    some (v2_2156, I2159, F2160)) ab_fu (0 : Int32) (0 : Int32) (0 : Int32) I F
set_option maxRecDepth 20000 in
set_option maxHeartbeats 4000000 in
theorem kf_X10_apartBy (v1 : Int32) (I : AI) (F : AF) : OK 2 mX10_apartBy true (f_X10_apartBy v1 I F) (0, [(0, .ref 49), (1, .int v1)], [], hp I F) := by
  rw [f_X10_apartBy]
  refine OK_st 6 okX10_apartBy (S' := (7, [(4, .int (0 : Int32)), (3, .int (0 : Int32)), (2, .int (0 : Int32)), (0, .ref 49), (1, .int v1)], [], hp I F)) rfl ⟨trivial, (by decide), trivial, (by decide), trivial, (by decide), trivial⟩ ?_
  refine OK_pk [3, 4, 2, 1, 0] rfl ?_
  refine kf_X10_apartBy_7 v1 _ (fun v2_2156 v3_2157 v4_2158 I2159 F2160 => ?_) ab_fu (0 : Int32) (0 : Int32) (0 : Int32) I F
  refine OK_st 1 okX10_apartBy (S' := (99, [(0, .ref 49), (1, .int v1), (2, .int v2_2156), (3, .int v3_2157), (4, .int v4_2158)], [.int v2_2156], hp I2159 F2160)) rfl ⟨trivial, trivial⟩ ?_
  exact OK_ri okX10_apartBy rfl rfl (Or.inl rfl)

def f_X10_heirs_j85_54 (bk ko : Int32 → Int32 → Int32 → AI → AF → AQ) (v1 : Int32) (v2 : Int32) (v3 : Int32) (v4 : Int32) (v5 : Int32) (I : AI) (F : AF) : AQ :=
  if (0 : Int32) = 0 then
    if (0 : Int32) = 0 then
      bk v2 v3 (v4 + (1 : Int32)) I F
    else
      bk v2 v5 (v4 + (1 : Int32)) I F
  else
    if (0 : Int32) = 0 then
      bk v4 v3 (v4 + (1 : Int32)) I F
    else
      bk v4 v5 (v4 + (1 : Int32)) I F
set_option maxRecDepth 20000 in
set_option maxHeartbeats 4000000 in
theorem kf_X10_heirs_j85_54 (bk ko : Int32 → Int32 → Int32 → AI → AF → AQ) (v1 : Int32) (v2 : Int32) (v3 : Int32) (v4 : Int32) (v5 : Int32) (hbk : ∀ v2 v3 v4 I F, OK 3 mX10_heirs true (bk v2 v3 v4 I F) (54, [(0, .ref 49), (1, .int v1), (2, .int v2), (3, .int v3), (4, .int v4)], [], hp I F)) (hko : ∀ v2 v3 v4 I F, OK 3 mX10_heirs true (ko v2 v3 v4 I F) (118, [(0, .ref 49), (1, .int v1), (2, .int v2), (3, .int v3), (4, .int v4)], [], hp I F)) (I : AI) (F : AF) : OK 3 mX10_heirs true (f_X10_heirs_j85_54 bk ko v1 v2 v3 v4 v5 I F) (85, [(0, .ref 49), (1, .int v1), (2, .int v2), (3, .int v3), (4, .int v4), (5, .int v5)], [], hp I F) := by
  rw [f_X10_heirs_j85_54]
  refine OK_st 4 okX10_heirs (S' := ((if (0 : Int32) = 0 then 98 else 93), [(6, .int (0 : Int32)), (0, .ref 49), (1, .int v1), (2, .int v2), (3, .int v3), (4, .int v4), (5, .int v5)], [], hp I F)) rfl ⟨trivial, (by decide), trivial, trivial, trivial⟩ ?_
  refine OK_if (fun h2165 => ?_) (fun h2165 => ?_)
  · refine OK_st 4 okX10_heirs (S' := ((if (0 : Int32) = 0 then 110 else 105), [(2, .int v2), (6, .int (0 : Int32)), (0, .ref 49), (1, .int v1), (3, .int v3), (4, .int v4), (5, .int v5)], [], hp I F)) rfl ⟨trivial, (by decide), trivial, trivial, trivial⟩ ?_
    refine OK_if (fun h2166 => ?_) (fun h2166 => ?_)
    · refine OK_st 4 okX10_heirs (S' := (54, [(4, .int (v4 + (1 : Int32))), (3, .int v3), (2, .int v2), (6, .int (0 : Int32)), (0, .ref 49), (1, .int v1), (5, .int v5)], [], hp I F)) rfl ⟨trivial, (by decide), (by decide), trivial, trivial⟩ ?_
      refine OK_pk [4, 5, 2, 1, 0] rfl ?_
      exact hbk v2 v3 (v4 + (1 : Int32)) I F
    · refine OK_st 5 okX10_heirs (S' := (54, [(4, .int (v4 + (1 : Int32))), (3, .int v5), (2, .int v2), (6, .int (0 : Int32)), (0, .ref 49), (1, .int v1), (5, .int v5)], [], hp I F)) rfl ⟨trivial, trivial, (by decide), (by decide), trivial, trivial⟩ ?_
      refine OK_pk [4, 5, 2, 1, 0] rfl ?_
      exact hbk v2 v5 (v4 + (1 : Int32)) I F
  · refine OK_st 5 okX10_heirs (S' := ((if (0 : Int32) = 0 then 110 else 105), [(2, .int v4), (6, .int (0 : Int32)), (0, .ref 49), (1, .int v1), (3, .int v3), (4, .int v4), (5, .int v5)], [], hp I F)) rfl ⟨trivial, trivial, (by decide), trivial, trivial, trivial⟩ ?_
    refine OK_if (fun h2167 => ?_) (fun h2167 => ?_)
    · refine OK_st 4 okX10_heirs (S' := (54, [(4, .int (v4 + (1 : Int32))), (3, .int v3), (2, .int v4), (6, .int (0 : Int32)), (0, .ref 49), (1, .int v1), (5, .int v5)], [], hp I F)) rfl ⟨trivial, (by decide), (by decide), trivial, trivial⟩ ?_
      refine OK_pk [4, 5, 2, 1, 0] rfl ?_
      exact hbk v4 v3 (v4 + (1 : Int32)) I F
    · refine OK_st 5 okX10_heirs (S' := (54, [(4, .int (v4 + (1 : Int32))), (3, .int v5), (2, .int v4), (6, .int (0 : Int32)), (0, .ref 49), (1, .int v1), (5, .int v5)], [], hp I F)) rfl ⟨trivial, trivial, (by decide), (by decide), trivial, trivial⟩ ?_
      refine OK_pk [4, 5, 2, 1, 0] rfl ?_
      exact hbk v4 v5 (v4 + (1 : Int32)) I F

def f_X10_heirs_54 (v1 : Int32) (ko : Int32 → Int32 → Int32 → AI → AF → AQ) : Nat → Int32 → Int32 → Int32 → AI → AF → AQ
  | 0, _, _, _, _, _ => none
  | n + 1, v2, v3, v4, I, F =>
    if (nI 46656) ≤ v4 then
      ko v2 v3 v4 I F
    else
      ab_bd (f_X10_apartBy v4 I F) (fun r2161 I2162 F2163 =>
        if r2161 < 0 then
          f_X10_heirs_j85_54 (f_X10_heirs_54 v1 ko n) ko v1 v2 v3 v4 r2161 I2162 F2163
        else
          if v3 ≤ r2161 then
            f_X10_heirs_j85_54 (f_X10_heirs_54 v1 ko n) ko v1 v2 v3 v4 r2161 I2162 F2163
          else
            if (1 : Int32) = 0 then
              if (1 : Int32) = 0 then
                f_X10_heirs_54 v1 ko n v2 v3 (v4 + (1 : Int32)) I2162 F2163
              else
                f_X10_heirs_54 v1 ko n v2 r2161 (v4 + (1 : Int32)) I2162 F2163
            else
              if (1 : Int32) = 0 then
                f_X10_heirs_54 v1 ko n v4 v3 (v4 + (1 : Int32)) I2162 F2163
              else
                f_X10_heirs_54 v1 ko n v4 r2161 (v4 + (1 : Int32)) I2162 F2163)
set_option maxRecDepth 20000 in
set_option maxHeartbeats 4000000 in
theorem kf_X10_heirs_54 (v1 : Int32) (ko : Int32 → Int32 → Int32 → AI → AF → AQ) (hko : ∀ v2 v3 v4 I F, OK 3 mX10_heirs true (ko v2 v3 v4 I F) (118, [(0, .ref 49), (1, .int v1), (2, .int v2), (3, .int v3), (4, .int v4)], [], hp I F)) : ∀ n v2 v3 v4 I F, OK 3 mX10_heirs true (f_X10_heirs_54 v1 ko n v2 v3 v4 I F) (54, [(0, .ref 49), (1, .int v1), (2, .int v2), (3, .int v3), (4, .int v4)], [], hp I F) := by
  intro n
  induction n with
  | zero =>
    intro v2 v3 v4 I F
    exact OK_no
  | succ n ih =>
    intro v2 v3 v4 I F
    rw [f_X10_heirs_54]
    refine OK_st 3 okX10_heirs (S' := ((if (nI 46656) ≤ v4 then 118 else 62), [(0, .ref 49), (1, .int v1), (2, .int v2), (3, .int v3), (4, .int v4)], [], hp I F)) rfl ⟨trivial, trivial, trivial, trivial⟩ ?_
    refine OK_if (fun h2125 => ?_) (fun h2125 => ?_)
    · exact hko v2 v3 v4 I F
    · refine OK_st 2 okX10_heirs (S' := (65, [(0, .ref 49), (1, .int v1), (2, .int v2), (3, .int v3), (4, .int v4)], [.int v4, .ref 49], hp I F)) rfl ⟨trivial, trivial, trivial⟩ ?_
      refine OK_cv [.int v4] [] okX10_heirs okX10_apartBy rfl rfl cl_RX10_309 rfl rfl (Nat.le_of_ble_eq_true rfl) (by decide) (Nat.le_of_ble_eq_true rfl) (kf_X10_apartBy v4 I F) (fun r2161 I2162 F2163 => ?_)
      refine OK_st 3 okX10_heirs (S' := ((if r2161 < 0 then 85 else 75), [(5, .int r2161), (0, .ref 49), (1, .int v1), (2, .int v2), (3, .int v3), (4, .int v4)], [], hp I2162 F2163)) rfl ⟨(by decide), trivial, trivial, trivial⟩ ?_
      refine OK_if (fun h2164 => ?_) (fun h2164 => ?_)
      · refine OK_pk [1, 2, 3, 4, 5, 0] rfl ?_
        exact kf_X10_heirs_j85_54 (f_X10_heirs_54 v1 ko n) ko v1 v2 v3 v4 r2161 ih hko I2162 F2163
      · refine OK_st 3 okX10_heirs (S' := ((if v3 ≤ r2161 then 85 else 81), [(5, .int r2161), (0, .ref 49), (1, .int v1), (2, .int v2), (3, .int v3), (4, .int v4)], [], hp I2162 F2163)) rfl ⟨trivial, trivial, trivial, trivial⟩ ?_
        refine OK_if (fun h2168 => ?_) (fun h2168 => ?_)
        · refine OK_pk [1, 2, 3, 4, 5, 0] rfl ?_
          exact kf_X10_heirs_j85_54 (f_X10_heirs_54 v1 ko n) ko v1 v2 v3 v4 r2161 ih hko I2162 F2163
        · refine OK_st 5 okX10_heirs (S' := ((if (1 : Int32) = 0 then 98 else 93), [(6, .int (1 : Int32)), (5, .int r2161), (0, .ref 49), (1, .int v1), (2, .int v2), (3, .int v3), (4, .int v4)], [], hp I2162 F2163)) rfl ⟨trivial, trivial, (by decide), trivial, trivial, trivial⟩ ?_
          refine OK_if (fun h2169 => ?_) (fun h2169 => ?_)
          · refine OK_st 4 okX10_heirs (S' := ((if (1 : Int32) = 0 then 110 else 105), [(2, .int v2), (6, .int (1 : Int32)), (5, .int r2161), (0, .ref 49), (1, .int v1), (3, .int v3), (4, .int v4)], [], hp I2162 F2163)) rfl ⟨trivial, (by decide), trivial, trivial, trivial⟩ ?_
            refine OK_if (fun h2170 => ?_) (fun h2170 => ?_)
            · refine OK_st 4 okX10_heirs (S' := (54, [(4, .int (v4 + (1 : Int32))), (3, .int v3), (2, .int v2), (6, .int (1 : Int32)), (5, .int r2161), (0, .ref 49), (1, .int v1)], [], hp I2162 F2163)) rfl ⟨trivial, (by decide), (by decide), trivial, trivial⟩ ?_
              refine OK_pk [5, 6, 2, 1, 0] rfl ?_
              exact ih v2 v3 (v4 + (1 : Int32)) I2162 F2163
            · refine OK_st 5 okX10_heirs (S' := (54, [(4, .int (v4 + (1 : Int32))), (3, .int r2161), (2, .int v2), (6, .int (1 : Int32)), (5, .int r2161), (0, .ref 49), (1, .int v1)], [], hp I2162 F2163)) rfl ⟨trivial, trivial, (by decide), (by decide), trivial, trivial⟩ ?_
              refine OK_pk [5, 6, 2, 1, 0] rfl ?_
              exact ih v2 r2161 (v4 + (1 : Int32)) I2162 F2163
          · refine OK_st 5 okX10_heirs (S' := ((if (1 : Int32) = 0 then 110 else 105), [(2, .int v4), (6, .int (1 : Int32)), (5, .int r2161), (0, .ref 49), (1, .int v1), (3, .int v3), (4, .int v4)], [], hp I2162 F2163)) rfl ⟨trivial, trivial, (by decide), trivial, trivial, trivial⟩ ?_
            refine OK_if (fun h2171 => ?_) (fun h2171 => ?_)
            · refine OK_st 4 okX10_heirs (S' := (54, [(4, .int (v4 + (1 : Int32))), (3, .int v3), (2, .int v4), (6, .int (1 : Int32)), (5, .int r2161), (0, .ref 49), (1, .int v1)], [], hp I2162 F2163)) rfl ⟨trivial, (by decide), (by decide), trivial, trivial⟩ ?_
              refine OK_pk [5, 6, 2, 1, 0] rfl ?_
              exact ih v4 v3 (v4 + (1 : Int32)) I2162 F2163
            · refine OK_st 5 okX10_heirs (S' := (54, [(4, .int (v4 + (1 : Int32))), (3, .int r2161), (2, .int v4), (6, .int (1 : Int32)), (5, .int r2161), (0, .ref 49), (1, .int v1)], [], hp I2162 F2163)) rfl ⟨trivial, trivial, (by decide), (by decide), trivial, trivial⟩ ?_
              refine OK_pk [5, 6, 2, 1, 0] rfl ?_
              exact ih v4 r2161 (v4 + (1 : Int32)) I2162 F2163

def f_X10_heirs_j16 (v1 : Int32) (I : AI) (F : AF) : AQ :=
  ab_bd (f_X10_bits ((F 47) 18) I F) (fun r2120 I2121 F2122 =>
    if r2120 < (nI 2) then
      some ((-1 : Int32), I2121, F2122)
    else
      if v1 = (-1 : Int32) then
        f_X10_heirs_54 v1 (fun v2_2172 v3_2173 v4_2174 I2175 F2176 =>
          if ¬ v1 = (-1 : Int32) then
            ab_bd (f_X10_heirOf v2_2172 v1 I2175 F2176) (fun r2178 I2179 F2180 =>
              some (r2178, I2179, F2180))
          else
            some (v3_2173, I2175, F2176)) ab_fu (-1 : Int32) (nI 1000000) (0 : Int32) I2121 F2122
      else
        ab_bd (f_X10_lives v1 I2121 F2122) (fun r2181 I2182 F2183 =>
          if ¬ r2181 = 0 then
            f_X10_heirs_54 v1 (fun v2_2185 v3_2186 v4_2187 I2188 F2189 =>
              if ¬ v1 = (-1 : Int32) then
                ab_bd (f_X10_heirOf v2_2185 v1 I2188 F2189) (fun r2191 I2192 F2193 =>
                  some (r2191, I2192, F2193))
              else
                some (v3_2186, I2188, F2189)) ab_fu (-1 : Int32) (nI 1000000) (0 : Int32) I2182 F2183
          else
            some ((-1 : Int32), I2182, F2183)))
set_option maxRecDepth 20000 in
set_option maxHeartbeats 4000000 in
theorem kf_X10_heirs_j16 (v1 : Int32) (I : AI) (F : AF) : OK 3 mX10_heirs true (f_X10_heirs_j16 v1 I F) (16, [(0, .ref 49), (1, .int v1)], [], hp I F) := by
  rw [f_X10_heirs_j16]
  refine OK_st 4 okX10_heirs (S' := (23, [(0, .ref 49), (1, .int v1)], [.int ((F 47) 18)], hp I F)) rfl ⟨trivial, trivial, trivial, (ab_vo (by decide)), trivial⟩ ?_
  refine OK_cs [.int ((F 47) 18)] [] okX10_heirs okX10_bits rfl rfl cl_RX10_304 (Nat.le_of_ble_eq_true rfl) (by decide) (Nat.le_of_ble_eq_true rfl) (kf_X10_bits ((F 47) 18) I F) (fun r2120 I2121 F2122 => ?_)
  refine OK_st 2 okX10_heirs (S' := ((if r2120 < (nI 2) then 43 else 30), [(0, .ref 49), (1, .int v1)], [], hp I2121 F2122)) rfl ⟨trivial, trivial, trivial⟩ ?_
  refine OK_if (fun h2123 => ?_) (fun h2123 => ?_)
  · refine OK_st 1 okX10_heirs (S' := (44, [(0, .ref 49), (1, .int v1)], [.int (-1 : Int32)], hp I2121 F2122)) rfl ⟨trivial, trivial⟩ ?_
    exact OK_ri okX10_heirs rfl rfl (Or.inl rfl)
  · refine OK_st 3 okX10_heirs (S' := ((if v1 = (-1 : Int32) then 45 else 35), [(0, .ref 49), (1, .int v1)], [], hp I2121 F2122)) rfl ⟨trivial, trivial, trivial, trivial⟩ ?_
    refine OK_if (fun h2124 => ?_) (fun h2124 => ?_)
    · refine OK_st 6 okX10_heirs (S' := (54, [(4, .int (0 : Int32)), (3, .int (nI 1000000)), (2, .int (-1 : Int32)), (0, .ref 49), (1, .int v1)], [], hp I2121 F2122)) rfl ⟨trivial, (by decide), trivial, (by decide), trivial, (by decide), trivial⟩ ?_
      refine OK_pk [3, 4, 2, 1, 0] rfl ?_
      refine kf_X10_heirs_54 v1 _ (fun v2_2172 v3_2173 v4_2174 I2175 F2176 => ?_) ab_fu (-1 : Int32) (nI 1000000) (0 : Int32) I2121 F2122
      refine OK_st 3 okX10_heirs (S' := ((if ¬ v1 = (-1 : Int32) then 127 else 123), [(0, .ref 49), (1, .int v1), (2, .int v2_2172), (3, .int v3_2173), (4, .int v4_2174)], [], hp I2175 F2176)) rfl ⟨trivial, trivial, trivial, trivial⟩ ?_
      refine OK_if (fun h2177 => ?_) (fun h2177 => ?_)
      · refine OK_st 2 okX10_heirs (S' := (129, [(0, .ref 49), (1, .int v1), (2, .int v2_2172), (3, .int v3_2173), (4, .int v4_2174)], [.int v1, .int v2_2172], hp I2175 F2176)) rfl ⟨trivial, trivial, trivial⟩ ?_
        refine OK_cs [.int v2_2172, .int v1] [] okX10_heirs okX10_heirOf rfl rfl cl_RX10_298 (Nat.le_of_ble_eq_true rfl) (by decide) (Nat.le_of_ble_eq_true rfl) (kf_X10_heirOf v2_2172 v1 I2175 F2176) (fun r2178 I2179 F2180 => ?_)
        exact OK_ri okX10_heirs rfl rfl (Or.inl rfl)
      · refine OK_st 2 okX10_heirs (S' := (132, [(0, .ref 49), (1, .int v1), (2, .int v2_2172), (3, .int v3_2173), (4, .int v4_2174)], [.int v3_2173], hp I2175 F2176)) rfl ⟨trivial, trivial, trivial⟩ ?_
        exact OK_ri okX10_heirs rfl rfl (Or.inl rfl)
    · refine OK_st 2 okX10_heirs (S' := (37, [(0, .ref 49), (1, .int v1)], [.int v1, .ref 49], hp I2121 F2122)) rfl ⟨trivial, trivial, trivial⟩ ?_
      refine OK_cv [.int v1] [] okX10_heirs okX10_lives rfl rfl cl_RX10_190 rfl rfl (Nat.le_of_ble_eq_true rfl) (by decide) (Nat.le_of_ble_eq_true rfl) (kf_X10_lives v1 I2121 F2122) (fun r2181 I2182 F2183 => ?_)
      refine OK_st 1 okX10_heirs (S' := ((if ¬ r2181 = 0 then 45 else 43), [(0, .ref 49), (1, .int v1)], [], hp I2182 F2183)) rfl ⟨trivial, trivial⟩ ?_
      refine OK_if (fun h2184 => ?_) (fun h2184 => ?_)
      · refine OK_st 6 okX10_heirs (S' := (54, [(4, .int (0 : Int32)), (3, .int (nI 1000000)), (2, .int (-1 : Int32)), (0, .ref 49), (1, .int v1)], [], hp I2182 F2183)) rfl ⟨trivial, (by decide), trivial, (by decide), trivial, (by decide), trivial⟩ ?_
        refine OK_pk [3, 4, 2, 1, 0] rfl ?_
        refine kf_X10_heirs_54 v1 _ (fun v2_2185 v3_2186 v4_2187 I2188 F2189 => ?_) ab_fu (-1 : Int32) (nI 1000000) (0 : Int32) I2182 F2183
        refine OK_st 3 okX10_heirs (S' := ((if ¬ v1 = (-1 : Int32) then 127 else 123), [(0, .ref 49), (1, .int v1), (2, .int v2_2185), (3, .int v3_2186), (4, .int v4_2187)], [], hp I2188 F2189)) rfl ⟨trivial, trivial, trivial, trivial⟩ ?_
        refine OK_if (fun h2190 => ?_) (fun h2190 => ?_)
        · refine OK_st 2 okX10_heirs (S' := (129, [(0, .ref 49), (1, .int v1), (2, .int v2_2185), (3, .int v3_2186), (4, .int v4_2187)], [.int v1, .int v2_2185], hp I2188 F2189)) rfl ⟨trivial, trivial, trivial⟩ ?_
          refine OK_cs [.int v2_2185, .int v1] [] okX10_heirs okX10_heirOf rfl rfl cl_RX10_298 (Nat.le_of_ble_eq_true rfl) (by decide) (Nat.le_of_ble_eq_true rfl) (kf_X10_heirOf v2_2185 v1 I2188 F2189) (fun r2191 I2192 F2193 => ?_)
          exact OK_ri okX10_heirs rfl rfl (Or.inl rfl)
        · refine OK_st 2 okX10_heirs (S' := (132, [(0, .ref 49), (1, .int v1), (2, .int v2_2185), (3, .int v3_2186), (4, .int v4_2187)], [.int v3_2186], hp I2188 F2189)) rfl ⟨trivial, trivial, trivial⟩ ?_
          exact OK_ri okX10_heirs rfl rfl (Or.inl rfl)
      · refine OK_st 1 okX10_heirs (S' := (44, [(0, .ref 49), (1, .int v1)], [.int (-1 : Int32)], hp I2182 F2183)) rfl ⟨trivial, trivial⟩ ?_
        exact OK_ri okX10_heirs rfl rfl (Or.inl rfl)

def f_X10_heirs (v1 : Int32) (I : AI) (F : AF) : AQ :=
  if v1 = (-1 : Int32) then
    f_X10_heirs_j16 v1 I F
  else
    ab_bd (f_X10_isLimb v1 I F) (fun r2194 I2195 F2196 =>
      if ¬ r2194 = 0 then
        f_X10_heirs_j16 v1 I2195 F2196
      else
        some ((-1000000001 : Int32), I2195, F2196))
set_option maxRecDepth 20000 in
set_option maxHeartbeats 4000000 in
theorem kf_X10_heirs (v1 : Int32) (I : AI) (F : AF) : OK 3 mX10_heirs true (f_X10_heirs v1 I F) (0, [(0, .ref 49), (1, .int v1)], [], hp I F) := by
  rw [f_X10_heirs]
  refine OK_st 3 okX10_heirs (S' := ((if v1 = (-1 : Int32) then 16 else 5), [(0, .ref 49), (1, .int v1)], [], hp I F)) rfl ⟨trivial, trivial, trivial, trivial⟩ ?_
  refine OK_if (fun h2113 => ?_) (fun h2113 => ?_)
  · exact kf_X10_heirs_j16 v1 I F
  · refine OK_st 2 okX10_heirs (S' := (7, [(0, .ref 49), (1, .int v1)], [.int v1, .ref 49], hp I F)) rfl ⟨trivial, trivial, trivial⟩ ?_
    refine OK_cv [.int v1] [] okX10_heirs okX10_isLimb rfl rfl cl_RX10_200 rfl rfl (Nat.le_of_ble_eq_true rfl) (by decide) (Nat.le_of_ble_eq_true rfl) (kf_X10_isLimb v1 I F) (fun r2194 I2195 F2196 => ?_)
    refine OK_st 1 okX10_heirs (S' := ((if ¬ r2194 = 0 then 16 else 13), [(0, .ref 49), (1, .int v1)], [], hp I2195 F2196)) rfl ⟨trivial, trivial⟩ ?_
    refine OK_if (fun h2197 => ?_) (fun h2197 => ?_)
    · exact kf_X10_heirs_j16 v1 I2195 F2196
    · refine OK_st 1 okX10_heirs (S' := (15, [(0, .ref 49), (1, .int v1)], [.int (-1000000001 : Int32)], hp I2195 F2196)) rfl ⟨trivial, trivial⟩ ?_
      exact OK_ri okX10_heirs rfl rfl (Or.inl rfl)

def f_X10_reach_37 (v1 : Int32) (v2 : Int32) (ko : Int32 → Int32 → Int32 → AI → AF → AQ) : Nat → Int32 → Int32 → Int32 → AI → AF → AQ
  | 0, _, _, _, _, _ => none
  | n + 1, v3, v4, v5, I, F =>
    if (nI 4) ≤ v5 then
      ko v3 v4 v5 I F
    else
      ab_bd (f_X10_measure v1 v5 I F) (fun r2210 I2211 F2212 =>
        if v3 ≤ r2210 then
          if r2210 ≤ v4 then
            f_X10_reach_37 v1 v2 ko n v3 v4 (v5 + (1 : Int32)) I2211 F2212
          else
            f_X10_reach_37 v1 v2 ko n v3 r2210 (v5 + (1 : Int32)) I2211 F2212
        else
          if r2210 ≤ v4 then
            f_X10_reach_37 v1 v2 ko n r2210 v4 (v5 + (1 : Int32)) I2211 F2212
          else
            f_X10_reach_37 v1 v2 ko n r2210 r2210 (v5 + (1 : Int32)) I2211 F2212)
set_option maxRecDepth 20000 in
set_option maxHeartbeats 4000000 in
theorem kf_X10_reach_37 (v1 : Int32) (v2 : Int32) (ko : Int32 → Int32 → Int32 → AI → AF → AQ) (hko : ∀ v3 v4 v5 I F, OK 3 mX10_reach true (ko v3 v4 v5 I F) (87, [(0, .ref 49), (1, .int v1), (2, .int v2), (3, .int v3), (4, .int v4), (5, .int v5)], [], hp I F)) : ∀ n v3 v4 v5 I F, OK 3 mX10_reach true (f_X10_reach_37 v1 v2 ko n v3 v4 v5 I F) (37, [(0, .ref 49), (1, .int v1), (2, .int v2), (3, .int v3), (4, .int v4), (5, .int v5)], [], hp I F) := by
  intro n
  induction n with
  | zero =>
    intro v3 v4 v5 I F
    exact OK_no
  | succ n ih =>
    intro v3 v4 v5 I F
    rw [f_X10_reach_37]
    refine OK_st 3 okX10_reach (S' := ((if (nI 4) ≤ v5 then 87 else 43), [(0, .ref 49), (1, .int v1), (2, .int v2), (3, .int v3), (4, .int v4), (5, .int v5)], [], hp I F)) rfl ⟨trivial, trivial, trivial, trivial⟩ ?_
    refine OK_if (fun h2209 => ?_) (fun h2209 => ?_)
    · exact hko v3 v4 v5 I F
    · refine OK_st 3 okX10_reach (S' := (47, [(0, .ref 49), (1, .int v1), (2, .int v2), (3, .int v3), (4, .int v4), (5, .int v5)], [.int v5, .int v1, .ref 49], hp I F)) rfl ⟨trivial, trivial, trivial, trivial⟩ ?_
      refine OK_cv [.int v1, .int v5] [] okX10_reach okX10_measure rfl rfl cl_RX10_197 rfl rfl (Nat.le_of_ble_eq_true rfl) (by decide) (Nat.le_of_ble_eq_true rfl) (kf_X10_measure v1 v5 I F) (fun r2210 I2211 F2212 => ?_)
      refine OK_st 4 okX10_reach (S' := ((if v3 ≤ r2210 then 63 else 58), [(6, .int r2210), (0, .ref 49), (1, .int v1), (2, .int v2), (3, .int v3), (4, .int v4), (5, .int v5)], [], hp I2211 F2212)) rfl ⟨(by decide), trivial, trivial, trivial, trivial⟩ ?_
      refine OK_if (fun h2213 => ?_) (fun h2213 => ?_)
      · refine OK_st 5 okX10_reach (S' := ((if r2210 ≤ v4 then 77 else 72), [(3, .int v3), (6, .int r2210), (0, .ref 49), (1, .int v1), (2, .int v2), (4, .int v4), (5, .int v5)], [], hp I2211 F2212)) rfl ⟨trivial, (by decide), trivial, trivial, trivial, trivial⟩ ?_
        refine OK_if (fun h2214 => ?_) (fun h2214 => ?_)
        · refine OK_st 4 okX10_reach (S' := (37, [(5, .int (v5 + (1 : Int32))), (4, .int v4), (3, .int v3), (6, .int r2210), (0, .ref 49), (1, .int v1), (2, .int v2)], [], hp I2211 F2212)) rfl ⟨trivial, (by decide), (by decide), trivial, trivial⟩ ?_
          refine OK_pk [4, 5, 6, 2, 1, 0] rfl ?_
          exact ih v3 v4 (v5 + (1 : Int32)) I2211 F2212
        · refine OK_st 5 okX10_reach (S' := (37, [(5, .int (v5 + (1 : Int32))), (4, .int r2210), (3, .int v3), (6, .int r2210), (0, .ref 49), (1, .int v1), (2, .int v2)], [], hp I2211 F2212)) rfl ⟨trivial, trivial, (by decide), (by decide), trivial, trivial⟩ ?_
          refine OK_pk [4, 5, 6, 2, 1, 0] rfl ?_
          exact ih v3 r2210 (v5 + (1 : Int32)) I2211 F2212
      · refine OK_st 6 okX10_reach (S' := ((if r2210 ≤ v4 then 77 else 72), [(3, .int r2210), (6, .int r2210), (0, .ref 49), (1, .int v1), (2, .int v2), (4, .int v4), (5, .int v5)], [], hp I2211 F2212)) rfl ⟨trivial, trivial, (by decide), trivial, trivial, trivial, trivial⟩ ?_
        refine OK_if (fun h2215 => ?_) (fun h2215 => ?_)
        · refine OK_st 4 okX10_reach (S' := (37, [(5, .int (v5 + (1 : Int32))), (4, .int v4), (3, .int r2210), (6, .int r2210), (0, .ref 49), (1, .int v1), (2, .int v2)], [], hp I2211 F2212)) rfl ⟨trivial, (by decide), (by decide), trivial, trivial⟩ ?_
          refine OK_pk [4, 5, 6, 2, 1, 0] rfl ?_
          exact ih r2210 v4 (v5 + (1 : Int32)) I2211 F2212
        · refine OK_st 5 okX10_reach (S' := (37, [(5, .int (v5 + (1 : Int32))), (4, .int r2210), (3, .int r2210), (6, .int r2210), (0, .ref 49), (1, .int v1), (2, .int v2)], [], hp I2211 F2212)) rfl ⟨trivial, trivial, (by decide), (by decide), trivial, trivial⟩ ?_
          refine OK_pk [4, 5, 6, 2, 1, 0] rfl ?_
          exact ih r2210 r2210 (v5 + (1 : Int32)) I2211 F2212

def f_X10_reach (v1 : Int32) (v2 : Int32) (I : AI) (F : AF) : AQ :=
  ab_bd (f_X10_isLimb v1 I F) (fun r2198 I2199 F2200 =>
    if ¬ r2198 = 0 then
      ab_bd (f_X10_in v2.toInt64 (0 : Int64) (1 : Int64) I2199 F2200) (fun r2202 I2203 F2204 =>
        if ¬ r2202 = 0 then
          ab_bd (f_X10_measure v1 (0 : Int32) I2203 F2204) (fun r2206 I2207 F2208 =>
            f_X10_reach_37 v1 v2 (fun v3_2216 v4_2217 v5_2218 I2219 F2220 =>
              if ¬ v2 = 0 then
                some (v4_2217, I2219, F2220)
              else
                some (v3_2216, I2219, F2220)) ab_fu r2206 r2206 (1 : Int32) I2207 F2208)
        else
          some ((-1000000002 : Int32), I2203, F2204))
    else
      some ((-1000000001 : Int32), I2199, F2200))
set_option maxRecDepth 20000 in
set_option maxHeartbeats 4000000 in
theorem kf_X10_reach (v1 : Int32) (v2 : Int32) (I : AI) (F : AF) : OK 3 mX10_reach true (f_X10_reach v1 v2 I F) (0, [(0, .ref 49), (1, .int v1), (2, .int v2)], [], hp I F) := by
  rw [f_X10_reach]
  refine OK_st 2 okX10_reach (S' := (2, [(0, .ref 49), (1, .int v1), (2, .int v2)], [.int v1, .ref 49], hp I F)) rfl ⟨trivial, trivial, trivial⟩ ?_
  refine OK_cv [.int v1] [] okX10_reach okX10_isLimb rfl rfl cl_RX10_200 rfl rfl (Nat.le_of_ble_eq_true rfl) (by decide) (Nat.le_of_ble_eq_true rfl) (kf_X10_isLimb v1 I F) (fun r2198 I2199 F2200 => ?_)
  refine OK_st 1 okX10_reach (S' := ((if ¬ r2198 = 0 then 11 else 8), [(0, .ref 49), (1, .int v1), (2, .int v2)], [], hp I2199 F2200)) rfl ⟨trivial, trivial⟩ ?_
  refine OK_if (fun h2201 => ?_) (fun h2201 => ?_)
  · refine OK_st 4 okX10_reach (S' := (15, [(0, .ref 49), (1, .int v1), (2, .int v2)], [.long (1 : Int64), .long (0 : Int64), .long v2.toInt64], hp I2199 F2200)) rfl ⟨trivial, trivial, trivial, trivial, trivial⟩ ?_
    refine OK_cs [.long v2.toInt64, .long (0 : Int64), .long (1 : Int64)] [] okX10_reach okX10_in rfl rfl cl_RX10_102 (Nat.le_of_ble_eq_true rfl) (by decide) (Nat.le_of_ble_eq_true rfl) (kf_X10_in v2.toInt64 (0 : Int64) (1 : Int64) I2199 F2200) (fun r2202 I2203 F2204 => ?_)
    refine OK_st 1 okX10_reach (S' := ((if ¬ r2202 = 0 then 24 else 21), [(0, .ref 49), (1, .int v1), (2, .int v2)], [], hp I2203 F2204)) rfl ⟨trivial, trivial⟩ ?_
    refine OK_if (fun h2205 => ?_) (fun h2205 => ?_)
    · refine OK_st 3 okX10_reach (S' := (27, [(0, .ref 49), (1, .int v1), (2, .int v2)], [.int (0 : Int32), .int v1, .ref 49], hp I2203 F2204)) rfl ⟨trivial, trivial, trivial, trivial⟩ ?_
      refine OK_cv [.int v1, .int (0 : Int32)] [] okX10_reach okX10_measure rfl rfl cl_RX10_197 rfl rfl (Nat.le_of_ble_eq_true rfl) (by decide) (Nat.le_of_ble_eq_true rfl) (kf_X10_measure v1 (0 : Int32) I2203 F2204) (fun r2206 I2207 F2208 => ?_)
      refine OK_st 5 okX10_reach (S' := (37, [(5, .int (1 : Int32)), (4, .int r2206), (3, .int r2206), (0, .ref 49), (1, .int v1), (2, .int v2)], [], hp I2207 F2208)) rfl ⟨(by decide), trivial, (by decide), trivial, (by decide), trivial⟩ ?_
      refine OK_pk [3, 4, 5, 2, 1, 0] rfl ?_
      refine kf_X10_reach_37 v1 v2 _ (fun v3_2216 v4_2217 v5_2218 I2219 F2220 => ?_) ab_fu r2206 r2206 (1 : Int32) I2207 F2208
      refine OK_st 2 okX10_reach (S' := ((if ¬ v2 = 0 then 95 else 91), [(0, .ref 49), (1, .int v1), (2, .int v2), (3, .int v3_2216), (4, .int v4_2217), (5, .int v5_2218)], [], hp I2219 F2220)) rfl ⟨trivial, trivial, trivial⟩ ?_
      refine OK_if (fun h2221 => ?_) (fun h2221 => ?_)
      · refine OK_st 1 okX10_reach (S' := (97, [(0, .ref 49), (1, .int v1), (2, .int v2), (3, .int v3_2216), (4, .int v4_2217), (5, .int v5_2218)], [.int v4_2217], hp I2219 F2220)) rfl ⟨trivial, trivial⟩ ?_
        exact OK_ri okX10_reach rfl rfl (Or.inl rfl)
      · refine OK_st 2 okX10_reach (S' := (97, [(0, .ref 49), (1, .int v1), (2, .int v2), (3, .int v3_2216), (4, .int v4_2217), (5, .int v5_2218)], [.int v3_2216], hp I2219 F2220)) rfl ⟨trivial, trivial, trivial⟩ ?_
        exact OK_ri okX10_reach rfl rfl (Or.inl rfl)
    · refine OK_st 1 okX10_reach (S' := (23, [(0, .ref 49), (1, .int v1), (2, .int v2)], [.int (-1000000002 : Int32)], hp I2203 F2204)) rfl ⟨trivial, trivial⟩ ?_
      exact OK_ri okX10_reach rfl rfl (Or.inl rfl)
  · refine OK_st 1 okX10_reach (S' := (10, [(0, .ref 49), (1, .int v1), (2, .int v2)], [.int (-1000000001 : Int32)], hp I2199 F2200)) rfl ⟨trivial, trivial⟩ ?_
    exact OK_ri okX10_reach rfl rfl (Or.inl rfl)

def f_X10_bestCopy_52 (v1 : Int32) (v2 : Int32) (v3 : Int32) (v4 : Int32) (v5 : Int32) (ko : Int32 → Int32 → AI → AF → AQ) : Nat → Int32 → Int32 → AI → AF → AQ
  | 0, _, _, _, _ => none
  | n + 1, v6, v7, I, F =>
    if (nI 4) ≤ v7 then
      ko v6 v7 I F
    else
      ab_bd (f_X10_grown v1 v7 I F) (fun r2236 I2237 F2238 =>
        ab_bd (f_X10_grown v1 v5 I2237 F2238) (fun r2239 I2240 F2241 =>
          ab_bd (f_X10_apart r2236 r2239 I2240 F2241) (fun r2242 I2243 F2244 =>
            f_X10_bestCopy_52 v1 v2 v3 v4 v5 ko n (v6 + r2242) (v7 + (1 : Int32)) I2243 F2244)))
set_option maxRecDepth 20000 in
set_option maxHeartbeats 4000000 in
theorem kf_X10_bestCopy_52 (v1 : Int32) (v2 : Int32) (v3 : Int32) (v4 : Int32) (v5 : Int32) (ko : Int32 → Int32 → AI → AF → AQ) (hko : ∀ v6 v7 I F, OK 2 mX10_bestCopy true (ko v6 v7 I F) (86, [(0, .ref 49), (1, .int v1), (2, .int v2), (3, .int v3), (4, .int v4), (5, .int v5), (6, .int v6), (7, .int v7)], [], hp I F)) : ∀ n v6 v7 I F, OK 2 mX10_bestCopy true (f_X10_bestCopy_52 v1 v2 v3 v4 v5 ko n v6 v7 I F) (52, [(0, .ref 49), (1, .int v1), (2, .int v2), (3, .int v3), (4, .int v4), (5, .int v5), (6, .int v6), (7, .int v7)], [], hp I F) := by
  intro n
  induction n with
  | zero =>
    intro v6 v7 I F
    exact OK_no
  | succ n ih =>
    intro v6 v7 I F
    rw [f_X10_bestCopy_52]
    refine OK_st 3 okX10_bestCopy (S' := ((if (nI 4) ≤ v7 then 86 else 58), [(0, .ref 49), (1, .int v1), (2, .int v2), (3, .int v3), (4, .int v4), (5, .int v5), (6, .int v6), (7, .int v7)], [], hp I F)) rfl ⟨trivial, trivial, trivial, trivial⟩ ?_
    refine OK_if (fun h2235 => ?_) (fun h2235 => ?_)
    · exact hko v6 v7 I F
    · refine OK_st 4 okX10_bestCopy (S' := (64, [(0, .ref 49), (1, .int v1), (2, .int v2), (3, .int v3), (4, .int v4), (5, .int v5), (6, .int v6), (7, .int v7)], [.int v7, .int v1, .ref 49, .int v6], hp I F)) rfl ⟨trivial, trivial, trivial, trivial, trivial⟩ ?_
      refine OK_cv [.int v1, .int v7] [.int v6] okX10_bestCopy okX10_grown rfl rfl cl_RX10_194 rfl rfl (Nat.le_of_ble_eq_true rfl) (by decide) (Nat.le_of_ble_eq_true rfl) (kf_X10_grown v1 v7 I F) (fun r2236 I2237 F2238 => ?_)
      refine OK_st 3 okX10_bestCopy (S' := (71, [(0, .ref 49), (1, .int v1), (2, .int v2), (3, .int v3), (4, .int v4), (5, .int v5), (6, .int v6), (7, .int v7)], [.int v5, .int v1, .ref 49, .int r2236, .int v6], hp I2237 F2238)) rfl ⟨trivial, trivial, trivial, trivial⟩ ?_
      refine OK_cv [.int v1, .int v5] [.int r2236, .int v6] okX10_bestCopy okX10_grown rfl rfl cl_RX10_194 rfl rfl (Nat.le_of_ble_eq_true rfl) (by decide) (Nat.le_of_ble_eq_true rfl) (kf_X10_grown v1 v5 I2237 F2238) (fun r2239 I2240 F2241 => ?_)
      refine OK_cs [.int r2236, .int r2239] [.int v6] okX10_bestCopy okX10_apart rfl rfl cl_RX10_301 (Nat.le_of_ble_eq_true rfl) (by decide) (Nat.le_of_ble_eq_true rfl) (kf_X10_apart r2236 r2239 I2240 F2241) (fun r2242 I2243 F2244 => ?_)
      refine OK_st 4 okX10_bestCopy (S' := (52, [(7, .int (v7 + (1 : Int32))), (6, .int (v6 + r2242)), (0, .ref 49), (1, .int v1), (2, .int v2), (3, .int v3), (4, .int v4), (5, .int v5)], [], hp I2243 F2244)) rfl ⟨trivial, (by decide), (by decide), trivial, trivial⟩ ?_
      refine OK_pk [2, 3, 4, 5, 6, 7, 1, 0] rfl ?_
      exact ih (v6 + r2242) (v7 + (1 : Int32)) I2243 F2244

def f_X10_bestCopy_32 (v1 : Int32) (v2 : Int32) (ko : Int32 → Int32 → Int32 → AI → AF → AQ) : Nat → Int32 → Int32 → Int32 → AI → AF → AQ
  | 0, _, _, _, _, _ => none
  | n + 1, v3, v4, v5, I, F =>
    if (nI 4) ≤ v5 then
      ko v3 v4 v5 I F
    else
      ab_bd (f_X10_lives v1 I F) (fun r2231 I2232 F2233 =>
        if r2231 = 0 then
          ko v3 v4 v5 I2232 F2233
        else
          f_X10_bestCopy_52 v1 v2 v3 v4 v5 (fun v6_2245 v7_2246 I2247 F2248 =>
            if v3 < 0 then
              if v4 < 0 then
                f_X10_bestCopy_32 v1 v2 ko n v5 v6_2245 (v5 + (1 : Int32)) I2247 F2248
              else
                if v4 ≤ v6_2245 then
                  f_X10_bestCopy_32 v1 v2 ko n v5 v4 (v5 + (1 : Int32)) I2247 F2248
                else
                  f_X10_bestCopy_32 v1 v2 ko n v5 v6_2245 (v5 + (1 : Int32)) I2247 F2248
            else
              if v4 ≤ v6_2245 then
                if v4 < 0 then
                  f_X10_bestCopy_32 v1 v2 ko n v3 v6_2245 (v5 + (1 : Int32)) I2247 F2248
                else
                  if v4 ≤ v6_2245 then
                    f_X10_bestCopy_32 v1 v2 ko n v3 v4 (v5 + (1 : Int32)) I2247 F2248
                  else
                    f_X10_bestCopy_32 v1 v2 ko n v3 v6_2245 (v5 + (1 : Int32)) I2247 F2248
              else
                if v4 < 0 then
                  f_X10_bestCopy_32 v1 v2 ko n v5 v6_2245 (v5 + (1 : Int32)) I2247 F2248
                else
                  if v4 ≤ v6_2245 then
                    f_X10_bestCopy_32 v1 v2 ko n v5 v4 (v5 + (1 : Int32)) I2247 F2248
                  else
                    f_X10_bestCopy_32 v1 v2 ko n v5 v6_2245 (v5 + (1 : Int32)) I2247 F2248) ab_fu (0 : Int32) (0 : Int32) I2232 F2233)
set_option maxRecDepth 20000 in
set_option maxHeartbeats 4000000 in
theorem kf_X10_bestCopy_32 (v1 : Int32) (v2 : Int32) (ko : Int32 → Int32 → Int32 → AI → AF → AQ) (hko : ∀ v3 v4 v5 I F, OK 2 mX10_bestCopy true (ko v3 v4 v5 I F) (131, [(0, .ref 49), (1, .int v1), (2, .int v2), (3, .int v3), (4, .int v4), (5, .int v5)], [], hp I F)) : ∀ n v3 v4 v5 I F, OK 2 mX10_bestCopy true (f_X10_bestCopy_32 v1 v2 ko n v3 v4 v5 I F) (32, [(0, .ref 49), (1, .int v1), (2, .int v2), (3, .int v3), (4, .int v4), (5, .int v5)], [], hp I F) := by
  intro n
  induction n with
  | zero =>
    intro v3 v4 v5 I F
    exact OK_no
  | succ n ih =>
    intro v3 v4 v5 I F
    rw [f_X10_bestCopy_32]
    refine OK_st 3 okX10_bestCopy (S' := ((if (nI 4) ≤ v5 then 131 else 38), [(0, .ref 49), (1, .int v1), (2, .int v2), (3, .int v3), (4, .int v4), (5, .int v5)], [], hp I F)) rfl ⟨trivial, trivial, trivial, trivial⟩ ?_
    refine OK_if (fun h2230 => ?_) (fun h2230 => ?_)
    · exact hko v3 v4 v5 I F
    · refine OK_st 2 okX10_bestCopy (S' := (40, [(0, .ref 49), (1, .int v1), (2, .int v2), (3, .int v3), (4, .int v4), (5, .int v5)], [.int v1, .ref 49], hp I F)) rfl ⟨trivial, trivial, trivial⟩ ?_
      refine OK_cv [.int v1] [] okX10_bestCopy okX10_lives rfl rfl cl_RX10_190 rfl rfl (Nat.le_of_ble_eq_true rfl) (by decide) (Nat.le_of_ble_eq_true rfl) (kf_X10_lives v1 I F) (fun r2231 I2232 F2233 => ?_)
      refine OK_st 1 okX10_bestCopy (S' := ((if r2231 = 0 then 131 else 46), [(0, .ref 49), (1, .int v1), (2, .int v2), (3, .int v3), (4, .int v4), (5, .int v5)], [], hp I2232 F2233)) rfl ⟨trivial, trivial⟩ ?_
      refine OK_if (fun h2234 => ?_) (fun h2234 => ?_)
      · exact hko v3 v4 v5 I2232 F2233
      · refine OK_st 4 okX10_bestCopy (S' := (52, [(7, .int (0 : Int32)), (6, .int (0 : Int32)), (0, .ref 49), (1, .int v1), (2, .int v2), (3, .int v3), (4, .int v4), (5, .int v5)], [], hp I2232 F2233)) rfl ⟨trivial, (by decide), trivial, (by decide), trivial⟩ ?_
        refine OK_pk [2, 3, 4, 5, 6, 7, 1, 0] rfl ?_
        refine kf_X10_bestCopy_52 v1 v2 v3 v4 v5 _ (fun v6_2245 v7_2246 I2247 F2248 => ?_) ab_fu (0 : Int32) (0 : Int32) I2232 F2233
        refine OK_st 2 okX10_bestCopy (S' := ((if v3 < 0 then 97 else 90), [(0, .ref 49), (1, .int v1), (2, .int v2), (3, .int v3), (4, .int v4), (5, .int v5), (6, .int v6_2245), (7, .int v7_2246)], [], hp I2247 F2248)) rfl ⟨trivial, trivial, trivial⟩ ?_
        refine OK_if (fun h2249 => ?_) (fun h2249 => ?_)
        · refine OK_st 5 okX10_bestCopy (S' := ((if v4 < 0 then 116 else 109), [(3, .int v5), (0, .ref 49), (1, .int v1), (2, .int v2), (4, .int v4), (5, .int v5), (6, .int v6_2245), (7, .int v7_2246)], [], hp I2247 F2248)) rfl ⟨trivial, trivial, (by decide), trivial, trivial, trivial⟩ ?_
          refine OK_if (fun h2250 => ?_) (fun h2250 => ?_)
          · refine OK_st 5 okX10_bestCopy (S' := (32, [(5, .int (v5 + (1 : Int32))), (4, .int v6_2245), (3, .int v5), (0, .ref 49), (1, .int v1), (2, .int v2), (6, .int v6_2245), (7, .int v7_2246)], [], hp I2247 F2248)) rfl ⟨trivial, trivial, (by decide), (by decide), trivial, trivial⟩ ?_
            refine OK_pk [3, 4, 5, 2, 1, 0] rfl ?_
            exact ih v5 v6_2245 (v5 + (1 : Int32)) I2247 F2248
          · refine OK_st 3 okX10_bestCopy (S' := ((if v4 ≤ v6_2245 then 121 else 116), [(3, .int v5), (0, .ref 49), (1, .int v1), (2, .int v2), (4, .int v4), (5, .int v5), (6, .int v6_2245), (7, .int v7_2246)], [], hp I2247 F2248)) rfl ⟨trivial, trivial, trivial, trivial⟩ ?_
            refine OK_if (fun h2251 => ?_) (fun h2251 => ?_)
            · refine OK_st 4 okX10_bestCopy (S' := (32, [(5, .int (v5 + (1 : Int32))), (4, .int v4), (3, .int v5), (0, .ref 49), (1, .int v1), (2, .int v2), (6, .int v6_2245), (7, .int v7_2246)], [], hp I2247 F2248)) rfl ⟨trivial, (by decide), (by decide), trivial, trivial⟩ ?_
              refine OK_pk [3, 4, 5, 2, 1, 0] rfl ?_
              exact ih v5 v4 (v5 + (1 : Int32)) I2247 F2248
            · refine OK_st 5 okX10_bestCopy (S' := (32, [(5, .int (v5 + (1 : Int32))), (4, .int v6_2245), (3, .int v5), (0, .ref 49), (1, .int v1), (2, .int v2), (6, .int v6_2245), (7, .int v7_2246)], [], hp I2247 F2248)) rfl ⟨trivial, trivial, (by decide), (by decide), trivial, trivial⟩ ?_
              refine OK_pk [3, 4, 5, 2, 1, 0] rfl ?_
              exact ih v5 v6_2245 (v5 + (1 : Int32)) I2247 F2248
        · refine OK_st 3 okX10_bestCopy (S' := ((if v4 ≤ v6_2245 then 102 else 97), [(0, .ref 49), (1, .int v1), (2, .int v2), (3, .int v3), (4, .int v4), (5, .int v5), (6, .int v6_2245), (7, .int v7_2246)], [], hp I2247 F2248)) rfl ⟨trivial, trivial, trivial, trivial⟩ ?_
          refine OK_if (fun h2252 => ?_) (fun h2252 => ?_)
          · refine OK_st 4 okX10_bestCopy (S' := ((if v4 < 0 then 116 else 109), [(3, .int v3), (0, .ref 49), (1, .int v1), (2, .int v2), (4, .int v4), (5, .int v5), (6, .int v6_2245), (7, .int v7_2246)], [], hp I2247 F2248)) rfl ⟨trivial, (by decide), trivial, trivial, trivial⟩ ?_
            refine OK_if (fun h2253 => ?_) (fun h2253 => ?_)
            · refine OK_st 5 okX10_bestCopy (S' := (32, [(5, .int (v5 + (1 : Int32))), (4, .int v6_2245), (3, .int v3), (0, .ref 49), (1, .int v1), (2, .int v2), (6, .int v6_2245), (7, .int v7_2246)], [], hp I2247 F2248)) rfl ⟨trivial, trivial, (by decide), (by decide), trivial, trivial⟩ ?_
              refine OK_pk [3, 4, 5, 2, 1, 0] rfl ?_
              exact ih v3 v6_2245 (v5 + (1 : Int32)) I2247 F2248
            · refine OK_st 3 okX10_bestCopy (S' := ((if v4 ≤ v6_2245 then 121 else 116), [(3, .int v3), (0, .ref 49), (1, .int v1), (2, .int v2), (4, .int v4), (5, .int v5), (6, .int v6_2245), (7, .int v7_2246)], [], hp I2247 F2248)) rfl ⟨trivial, trivial, trivial, trivial⟩ ?_
              refine OK_if (fun h2254 => ?_) (fun h2254 => ?_)
              · refine OK_st 4 okX10_bestCopy (S' := (32, [(5, .int (v5 + (1 : Int32))), (4, .int v4), (3, .int v3), (0, .ref 49), (1, .int v1), (2, .int v2), (6, .int v6_2245), (7, .int v7_2246)], [], hp I2247 F2248)) rfl ⟨trivial, (by decide), (by decide), trivial, trivial⟩ ?_
                refine OK_pk [3, 4, 5, 2, 1, 0] rfl ?_
                exact ih v3 v4 (v5 + (1 : Int32)) I2247 F2248
              · refine OK_st 5 okX10_bestCopy (S' := (32, [(5, .int (v5 + (1 : Int32))), (4, .int v6_2245), (3, .int v3), (0, .ref 49), (1, .int v1), (2, .int v2), (6, .int v6_2245), (7, .int v7_2246)], [], hp I2247 F2248)) rfl ⟨trivial, trivial, (by decide), (by decide), trivial, trivial⟩ ?_
                refine OK_pk [3, 4, 5, 2, 1, 0] rfl ?_
                exact ih v3 v6_2245 (v5 + (1 : Int32)) I2247 F2248
          · refine OK_st 5 okX10_bestCopy (S' := ((if v4 < 0 then 116 else 109), [(3, .int v5), (0, .ref 49), (1, .int v1), (2, .int v2), (4, .int v4), (5, .int v5), (6, .int v6_2245), (7, .int v7_2246)], [], hp I2247 F2248)) rfl ⟨trivial, trivial, (by decide), trivial, trivial, trivial⟩ ?_
            refine OK_if (fun h2255 => ?_) (fun h2255 => ?_)
            · refine OK_st 5 okX10_bestCopy (S' := (32, [(5, .int (v5 + (1 : Int32))), (4, .int v6_2245), (3, .int v5), (0, .ref 49), (1, .int v1), (2, .int v2), (6, .int v6_2245), (7, .int v7_2246)], [], hp I2247 F2248)) rfl ⟨trivial, trivial, (by decide), (by decide), trivial, trivial⟩ ?_
              refine OK_pk [3, 4, 5, 2, 1, 0] rfl ?_
              exact ih v5 v6_2245 (v5 + (1 : Int32)) I2247 F2248
            · refine OK_st 3 okX10_bestCopy (S' := ((if v4 ≤ v6_2245 then 121 else 116), [(3, .int v5), (0, .ref 49), (1, .int v1), (2, .int v2), (4, .int v4), (5, .int v5), (6, .int v6_2245), (7, .int v7_2246)], [], hp I2247 F2248)) rfl ⟨trivial, trivial, trivial, trivial⟩ ?_
              refine OK_if (fun h2256 => ?_) (fun h2256 => ?_)
              · refine OK_st 4 okX10_bestCopy (S' := (32, [(5, .int (v5 + (1 : Int32))), (4, .int v4), (3, .int v5), (0, .ref 49), (1, .int v1), (2, .int v2), (6, .int v6_2245), (7, .int v7_2246)], [], hp I2247 F2248)) rfl ⟨trivial, (by decide), (by decide), trivial, trivial⟩ ?_
                refine OK_pk [3, 4, 5, 2, 1, 0] rfl ?_
                exact ih v5 v4 (v5 + (1 : Int32)) I2247 F2248
              · refine OK_st 5 okX10_bestCopy (S' := (32, [(5, .int (v5 + (1 : Int32))), (4, .int v6_2245), (3, .int v5), (0, .ref 49), (1, .int v1), (2, .int v2), (6, .int v6_2245), (7, .int v7_2246)], [], hp I2247 F2248)) rfl ⟨trivial, trivial, (by decide), (by decide), trivial, trivial⟩ ?_
                refine OK_pk [3, 4, 5, 2, 1, 0] rfl ?_
                exact ih v5 v6_2245 (v5 + (1 : Int32)) I2247 F2248

def f_X10_bestCopy (v1 : Int32) (v2 : Int32) (I : AI) (F : AF) : AQ :=
  ab_bd (f_X10_isLimb v1 I F) (fun r2222 I2223 F2224 =>
    if ¬ r2222 = 0 then
      ab_bd (f_X10_in v2.toInt64 (0 : Int64) (1 : Int64) I2223 F2224) (fun r2226 I2227 F2228 =>
        if ¬ r2226 = 0 then
          f_X10_bestCopy_32 v1 v2 (fun v3_2257 v4_2258 v5_2259 I2260 F2261 =>
            if ¬ v2 = 0 then
              some (v4_2258, I2260, F2261)
            else
              some (v3_2257, I2260, F2261)) ab_fu (-1 : Int32) (-1 : Int32) (0 : Int32) I2227 F2228
        else
          some ((-1000000002 : Int32), I2227, F2228))
    else
      some ((-1000000001 : Int32), I2223, F2224))
set_option maxRecDepth 20000 in
set_option maxHeartbeats 4000000 in
theorem kf_X10_bestCopy (v1 : Int32) (v2 : Int32) (I : AI) (F : AF) : OK 2 mX10_bestCopy true (f_X10_bestCopy v1 v2 I F) (0, [(0, .ref 49), (1, .int v1), (2, .int v2)], [], hp I F) := by
  rw [f_X10_bestCopy]
  refine OK_st 2 okX10_bestCopy (S' := (2, [(0, .ref 49), (1, .int v1), (2, .int v2)], [.int v1, .ref 49], hp I F)) rfl ⟨trivial, trivial, trivial⟩ ?_
  refine OK_cv [.int v1] [] okX10_bestCopy okX10_isLimb rfl rfl cl_RX10_200 rfl rfl (Nat.le_of_ble_eq_true rfl) (by decide) (Nat.le_of_ble_eq_true rfl) (kf_X10_isLimb v1 I F) (fun r2222 I2223 F2224 => ?_)
  refine OK_st 1 okX10_bestCopy (S' := ((if ¬ r2222 = 0 then 11 else 8), [(0, .ref 49), (1, .int v1), (2, .int v2)], [], hp I2223 F2224)) rfl ⟨trivial, trivial⟩ ?_
  refine OK_if (fun h2225 => ?_) (fun h2225 => ?_)
  · refine OK_st 4 okX10_bestCopy (S' := (15, [(0, .ref 49), (1, .int v1), (2, .int v2)], [.long (1 : Int64), .long (0 : Int64), .long v2.toInt64], hp I2223 F2224)) rfl ⟨trivial, trivial, trivial, trivial, trivial⟩ ?_
    refine OK_cs [.long v2.toInt64, .long (0 : Int64), .long (1 : Int64)] [] okX10_bestCopy okX10_in rfl rfl cl_RX10_102 (Nat.le_of_ble_eq_true rfl) (by decide) (Nat.le_of_ble_eq_true rfl) (kf_X10_in v2.toInt64 (0 : Int64) (1 : Int64) I2223 F2224) (fun r2226 I2227 F2228 => ?_)
    refine OK_st 1 okX10_bestCopy (S' := ((if ¬ r2226 = 0 then 24 else 21), [(0, .ref 49), (1, .int v1), (2, .int v2)], [], hp I2227 F2228)) rfl ⟨trivial, trivial⟩ ?_
    refine OK_if (fun h2229 => ?_) (fun h2229 => ?_)
    · refine OK_st 6 okX10_bestCopy (S' := (32, [(5, .int (0 : Int32)), (4, .int (-1 : Int32)), (3, .int (-1 : Int32)), (0, .ref 49), (1, .int v1), (2, .int v2)], [], hp I2227 F2228)) rfl ⟨trivial, (by decide), trivial, (by decide), trivial, (by decide), trivial⟩ ?_
      refine OK_pk [3, 4, 5, 2, 1, 0] rfl ?_
      refine kf_X10_bestCopy_32 v1 v2 _ (fun v3_2257 v4_2258 v5_2259 I2260 F2261 => ?_) ab_fu (-1 : Int32) (-1 : Int32) (0 : Int32) I2227 F2228
      refine OK_st 2 okX10_bestCopy (S' := ((if ¬ v2 = 0 then 139 else 135), [(0, .ref 49), (1, .int v1), (2, .int v2), (3, .int v3_2257), (4, .int v4_2258), (5, .int v5_2259)], [], hp I2260 F2261)) rfl ⟨trivial, trivial, trivial⟩ ?_
      refine OK_if (fun h2262 => ?_) (fun h2262 => ?_)
      · refine OK_st 1 okX10_bestCopy (S' := (141, [(0, .ref 49), (1, .int v1), (2, .int v2), (3, .int v3_2257), (4, .int v4_2258), (5, .int v5_2259)], [.int v4_2258], hp I2260 F2261)) rfl ⟨trivial, trivial⟩ ?_
        exact OK_ri okX10_bestCopy rfl rfl (Or.inl rfl)
      · refine OK_st 2 okX10_bestCopy (S' := (141, [(0, .ref 49), (1, .int v1), (2, .int v2), (3, .int v3_2257), (4, .int v4_2258), (5, .int v5_2259)], [.int v3_2257], hp I2260 F2261)) rfl ⟨trivial, trivial, trivial⟩ ?_
        exact OK_ri okX10_bestCopy rfl rfl (Or.inl rfl)
    · refine OK_st 1 okX10_bestCopy (S' := (23, [(0, .ref 49), (1, .int v1), (2, .int v2)], [.int (-1000000002 : Int32)], hp I2227 F2228)) rfl ⟨trivial, trivial⟩ ?_
      exact OK_ri okX10_bestCopy rfl rfl (Or.inl rfl)
  · refine OK_st 1 okX10_bestCopy (S' := (10, [(0, .ref 49), (1, .int v1), (2, .int v2)], [.int (-1000000001 : Int32)], hp I2223 F2224)) rfl ⟨trivial, trivial⟩ ?_
    exact OK_ri okX10_bestCopy rfl rfl (Or.inl rfl)

def f_X10_nearest_19 (v1 : Int32) (ko : Int32 → Int32 → AI → AF → AQ) : Nat → Int32 → Int32 → AI → AF → AQ
  | 0, _, _, _, _ => none
  | n + 1, v2, v3, I, F =>
    if (I 22) ≤ v3 then
      ko v2 v3 I F
    else
      if v2 < 0 then
        f_X10_nearest_19 v1 ko n v3 (v3 + (1 : Int32)) I F
      else
        ab_bd (f_X10_measureNow v3 I F) (fun r2269 I2270 F2271 =>
          ab_bd (f_X10_apart r2269 v1 I2270 F2271) (fun r2272 I2273 F2274 =>
            ab_bd (f_X10_measureNow v2 I2273 F2274) (fun r2275 I2276 F2277 =>
              ab_bd (f_X10_apart r2275 v1 I2276 F2277) (fun r2278 I2279 F2280 =>
                if r2278 ≤ r2272 then
                  f_X10_nearest_19 v1 ko n v2 (v3 + (1 : Int32)) I2279 F2280
                else
                  f_X10_nearest_19 v1 ko n v3 (v3 + (1 : Int32)) I2279 F2280))))
set_option maxRecDepth 20000 in
set_option maxHeartbeats 4000000 in
theorem kf_X10_nearest_19 (v1 : Int32) (ko : Int32 → Int32 → AI → AF → AQ) (hko : ∀ v2 v3 I F, OK 4 mX10_nearest true (ko v2 v3 I F) (64, [(0, .ref 49), (1, .int v1), (2, .int v2), (3, .int v3)], [], hp I F)) : ∀ n v2 v3 I F, OK 4 mX10_nearest true (f_X10_nearest_19 v1 ko n v2 v3 I F) (19, [(0, .ref 49), (1, .int v1), (2, .int v2), (3, .int v3)], [], hp I F) := by
  intro n
  induction n with
  | zero =>
    intro v2 v3 I F
    exact OK_no
  | succ n ih =>
    intro v2 v3 I F
    rw [f_X10_nearest_19]
    refine OK_st 4 okX10_nearest (S' := ((if (I 22) ≤ v3 then 64 else 27), [(0, .ref 49), (1, .int v1), (2, .int v2), (3, .int v3)], [], hp I F)) rfl ⟨trivial, trivial, trivial, trivial, trivial⟩ ?_
    refine OK_if (fun h2267 => ?_) (fun h2267 => ?_)
    · exact hko v2 v3 I F
    · refine OK_st 2 okX10_nearest (S' := ((if v2 < 0 then 52 else 31), [(0, .ref 49), (1, .int v1), (2, .int v2), (3, .int v3)], [], hp I F)) rfl ⟨trivial, trivial, trivial⟩ ?_
      refine OK_if (fun h2268 => ?_) (fun h2268 => ?_)
      · refine OK_st 5 okX10_nearest (S' := (19, [(3, .int (v3 + (1 : Int32))), (2, .int v3), (0, .ref 49), (1, .int v1)], [], hp I F)) rfl ⟨trivial, trivial, (by decide), (by decide), trivial, trivial⟩ ?_
        refine OK_pk [2, 3, 1, 0] rfl ?_
        exact ih v3 (v3 + (1 : Int32)) I F
      · refine OK_st 2 okX10_nearest (S' := (33, [(0, .ref 49), (1, .int v1), (2, .int v2), (3, .int v3)], [.int v3, .ref 49], hp I F)) rfl ⟨trivial, trivial, trivial⟩ ?_
        refine OK_cv [.int v3] [] okX10_nearest okX10_measureNow rfl rfl cl_RX10_204 rfl rfl (Nat.le_of_ble_eq_true rfl) (by decide) (Nat.le_of_ble_eq_true rfl) (kf_X10_measureNow v3 I F) (fun r2269 I2270 F2271 => ?_)
        refine OK_st 1 okX10_nearest (S' := (37, [(0, .ref 49), (1, .int v1), (2, .int v2), (3, .int v3)], [.int v1, .int r2269], hp I2270 F2271)) rfl ⟨trivial, trivial⟩ ?_
        refine OK_cs [.int r2269, .int v1] [] okX10_nearest okX10_apart rfl rfl cl_RX10_301 (Nat.le_of_ble_eq_true rfl) (by decide) (Nat.le_of_ble_eq_true rfl) (kf_X10_apart r2269 v1 I2270 F2271) (fun r2272 I2273 F2274 => ?_)
        refine OK_st 2 okX10_nearest (S' := (42, [(0, .ref 49), (1, .int v1), (2, .int v2), (3, .int v3)], [.int v2, .ref 49, .int r2272], hp I2273 F2274)) rfl ⟨trivial, trivial, trivial⟩ ?_
        refine OK_cv [.int v2] [.int r2272] okX10_nearest okX10_measureNow rfl rfl cl_RX10_204 rfl rfl (Nat.le_of_ble_eq_true rfl) (by decide) (Nat.le_of_ble_eq_true rfl) (kf_X10_measureNow v2 I2273 F2274) (fun r2275 I2276 F2277 => ?_)
        refine OK_st 1 okX10_nearest (S' := (46, [(0, .ref 49), (1, .int v1), (2, .int v2), (3, .int v3)], [.int v1, .int r2275, .int r2272], hp I2276 F2277)) rfl ⟨trivial, trivial⟩ ?_
        refine OK_cs [.int r2275, .int v1] [.int r2272] okX10_nearest okX10_apart rfl rfl cl_RX10_301 (Nat.le_of_ble_eq_true rfl) (by decide) (Nat.le_of_ble_eq_true rfl) (kf_X10_apart r2275 v1 I2276 F2277) (fun r2278 I2279 F2280 => ?_)
        refine OK_st 1 okX10_nearest (S' := ((if r2278 ≤ r2272 then 56 else 52), [(0, .ref 49), (1, .int v1), (2, .int v2), (3, .int v3)], [], hp I2279 F2280)) rfl ⟨trivial, trivial⟩ ?_
        refine OK_if (fun h2281 => ?_) (fun h2281 => ?_)
        · refine OK_st 4 okX10_nearest (S' := (19, [(3, .int (v3 + (1 : Int32))), (2, .int v2), (0, .ref 49), (1, .int v1)], [], hp I2279 F2280)) rfl ⟨trivial, (by decide), (by decide), trivial, trivial⟩ ?_
          refine OK_pk [2, 3, 1, 0] rfl ?_
          exact ih v2 (v3 + (1 : Int32)) I2279 F2280
        · refine OK_st 5 okX10_nearest (S' := (19, [(3, .int (v3 + (1 : Int32))), (2, .int v3), (0, .ref 49), (1, .int v1)], [], hp I2279 F2280)) rfl ⟨trivial, trivial, (by decide), (by decide), trivial, trivial⟩ ?_
          refine OK_pk [2, 3, 1, 0] rfl ?_
          exact ih v3 (v3 + (1 : Int32)) I2279 F2280

def f_X10_nearest (v1 : Int32) (I : AI) (F : AF) : AQ :=
  ab_bd (f_X10_in v1.toInt64 (0 : Int64) (999 : Int64) I F) (fun r2263 I2264 F2265 =>
    if ¬ r2263 = 0 then
      f_X10_nearest_19 v1 (fun v2_2282 v3_2283 I2284 F2285 =>
        some (v2_2282, I2284, F2285)) ab_fu (-1 : Int32) (0 : Int32) I2264 F2265
    else
      some ((-1000000002 : Int32), I2264, F2265))
set_option maxRecDepth 20000 in
set_option maxHeartbeats 4000000 in
theorem kf_X10_nearest (v1 : Int32) (I : AI) (F : AF) : OK 4 mX10_nearest true (f_X10_nearest v1 I F) (0, [(0, .ref 49), (1, .int v1)], [], hp I F) := by
  rw [f_X10_nearest]
  refine OK_st 4 okX10_nearest (S' := (6, [(0, .ref 49), (1, .int v1)], [.long (999 : Int64), .long (0 : Int64), .long v1.toInt64], hp I F)) rfl ⟨trivial, trivial, trivial, trivial, trivial⟩ ?_
  refine OK_cs [.long v1.toInt64, .long (0 : Int64), .long (999 : Int64)] [] okX10_nearest okX10_in rfl rfl cl_RX10_102 (Nat.le_of_ble_eq_true rfl) (by decide) (Nat.le_of_ble_eq_true rfl) (kf_X10_in v1.toInt64 (0 : Int64) (999 : Int64) I F) (fun r2263 I2264 F2265 => ?_)
  refine OK_st 1 okX10_nearest (S' := ((if ¬ r2263 = 0 then 15 else 12), [(0, .ref 49), (1, .int v1)], [], hp I2264 F2265)) rfl ⟨trivial, trivial⟩ ?_
  refine OK_if (fun h2266 => ?_) (fun h2266 => ?_)
  · refine OK_st 4 okX10_nearest (S' := (19, [(3, .int (0 : Int32)), (2, .int (-1 : Int32)), (0, .ref 49), (1, .int v1)], [], hp I2264 F2265)) rfl ⟨trivial, (by decide), trivial, (by decide), trivial⟩ ?_
    refine OK_pk [2, 3, 1, 0] rfl ?_
    refine kf_X10_nearest_19 v1 _ (fun v2_2282 v3_2283 I2284 F2285 => ?_) ab_fu (-1 : Int32) (0 : Int32) I2264 F2265
    refine OK_st 1 okX10_nearest (S' := (65, [(0, .ref 49), (1, .int v1), (2, .int v2_2282), (3, .int v3_2283)], [.int v2_2282], hp I2284 F2285)) rfl ⟨trivial, trivial⟩ ?_
    exact OK_ri okX10_nearest rfl rfl (Or.inl rfl)
  · refine OK_st 1 okX10_nearest (S' := (14, [(0, .ref 49), (1, .int v1)], [.int (-1000000002 : Int32)], hp I2264 F2265)) rfl ⟨trivial, trivial⟩ ?_
    exact OK_ri okX10_nearest rfl rfl (Or.inl rfl)

def f_X10_odds_68 (v2 : Int32) (v4 : Int32) (ko : Int64 → Int32 → AI → AF → AQ) : Nat → Int64 → Int32 → AI → AF → AQ
  | 0, _, _, _, _ => none
  | n + 1, w5, v7, I, F =>
    if v2 ≤ v7 then
      ko w5 v7 I F
    else
      f_X10_odds_68 v2 v4 ko n ((w5 * (((nI 100) - v4).toInt64)) / (100 : Int64)) (v7 + (1 : Int32)) I F
set_option maxRecDepth 20000 in
set_option maxHeartbeats 4000000 in
theorem kf_X10_odds_68 (v2 : Int32) (v4 : Int32) (ko : Int64 → Int32 → AI → AF → AQ) (hko : ∀ w5 v7 I F, OK 2 mX10_odds true (ko w5 v7 I F) (95, [(2, .int v2), (4, .int v4), (5, .long w5), (7, .int v7)], [], hp I F)) : ∀ n w5 v7 I F, OK 2 mX10_odds true (f_X10_odds_68 v2 v4 ko n w5 v7 I F) (68, [(2, .int v2), (4, .int v4), (5, .long w5), (7, .int v7)], [], hp I F) := by
  intro n
  induction n with
  | zero =>
    intro w5 v7 I F
    exact OK_no
  | succ n ih =>
    intro w5 v7 I F
    rw [f_X10_odds_68]
    refine OK_st 3 okX10_odds (S' := ((if v2 ≤ v7 then 95 else 74), [(2, .int v2), (4, .int v4), (5, .long w5), (7, .int v7)], [], hp I F)) rfl ⟨trivial, trivial, trivial, trivial⟩ ?_
    refine OK_if (fun h2299 => ?_) (fun h2299 => ?_)
    · exact hko w5 v7 I F
    · refine OK_st 11 okX10_odds (S' := (68, [(7, .int (v7 + (1 : Int32))), (5, .long ((w5 * (((nI 100) - v4).toInt64)) / (100 : Int64))), (2, .int v2), (4, .int v4)], [], hp I F)) rfl ⟨trivial, trivial, trivial, trivial, trivial, trivial, trivial, (by decide), (by decide), (by decide), trivial, trivial⟩ ?_
      refine OK_pk [2, 3, 1, 0] rfl ?_
      exact ih ((w5 * (((nI 100) - v4).toInt64)) / (100 : Int64)) (v7 + (1 : Int32)) I F

def f_X10_odds (v1 : Int32) (v2 : Int32) (v3 : Int32) (I : AI) (F : AF) : AQ :=
  ab_bd (f_X10_isLimb v1 I F) (fun r2286 I2287 F2288 =>
    if ¬ r2286 = 0 then
      ab_bd (f_X10_in v2.toInt64 (0 : Int64) (60 : Int64) I2287 F2288) (fun r2290 I2291 F2292 =>
        if r2290 = 0 then
          some ((-1000000002 : Int32), I2291, F2292)
        else
          ab_bd (f_X10_in v3.toInt64 (0 : Int64) (100 : Int64) I2291 F2292) (fun r2294 I2295 F2296 =>
            if ¬ r2294 = 0 then
              if (nI 100) ≤ (v3 + ((nI 2) * v1)) then
                f_X10_odds_68 v2 (nI 100) (fun w5_2300 v7_2301 I2302 F2303 =>
                  some (w5_2300.toInt32, I2302, F2303)) ab_fu (1000000000 : Int64) (0 : Int32) I2295 F2296
              else
                f_X10_odds_68 v2 (v3 + ((nI 2) * v1)) (fun w5_2304 v7_2305 I2306 F2307 =>
                  some (w5_2304.toInt32, I2306, F2307)) ab_fu (1000000000 : Int64) (0 : Int32) I2295 F2296
            else
              some ((-1000000002 : Int32), I2295, F2296)))
    else
      some ((-1000000001 : Int32), I2287, F2288))
set_option maxRecDepth 20000 in
set_option maxHeartbeats 4000000 in
theorem kf_X10_odds (v1 : Int32) (v2 : Int32) (v3 : Int32) (I : AI) (F : AF) : OK 2 mX10_odds true (f_X10_odds v1 v2 v3 I F) (0, [(0, .ref 49), (1, .int v1), (2, .int v2), (3, .int v3)], [], hp I F) := by
  rw [f_X10_odds]
  refine OK_st 2 okX10_odds (S' := (2, [(0, .ref 49), (1, .int v1), (2, .int v2), (3, .int v3)], [.int v1, .ref 49], hp I F)) rfl ⟨trivial, trivial, trivial⟩ ?_
  refine OK_cv [.int v1] [] okX10_odds okX10_isLimb rfl rfl cl_RX10_200 rfl rfl (Nat.le_of_ble_eq_true rfl) (by decide) (Nat.le_of_ble_eq_true rfl) (kf_X10_isLimb v1 I F) (fun r2286 I2287 F2288 => ?_)
  refine OK_st 1 okX10_odds (S' := ((if ¬ r2286 = 0 then 11 else 8), [(0, .ref 49), (1, .int v1), (2, .int v2), (3, .int v3)], [], hp I2287 F2288)) rfl ⟨trivial, trivial⟩ ?_
  refine OK_if (fun h2289 => ?_) (fun h2289 => ?_)
  · refine OK_st 4 okX10_odds (S' := (17, [(0, .ref 49), (1, .int v1), (2, .int v2), (3, .int v3)], [.long (60 : Int64), .long (0 : Int64), .long v2.toInt64], hp I2287 F2288)) rfl ⟨trivial, trivial, trivial, trivial, trivial⟩ ?_
    refine OK_cs [.long v2.toInt64, .long (0 : Int64), .long (60 : Int64)] [] okX10_odds okX10_in rfl rfl cl_RX10_102 (Nat.le_of_ble_eq_true rfl) (by decide) (Nat.le_of_ble_eq_true rfl) (kf_X10_in v2.toInt64 (0 : Int64) (60 : Int64) I2287 F2288) (fun r2290 I2291 F2292 => ?_)
    refine OK_st 1 okX10_odds (S' := ((if r2290 = 0 then 35 else 23), [(0, .ref 49), (1, .int v1), (2, .int v2), (3, .int v3)], [], hp I2291 F2292)) rfl ⟨trivial, trivial⟩ ?_
    refine OK_if (fun h2293 => ?_) (fun h2293 => ?_)
    · refine OK_st 1 okX10_odds (S' := (37, [(0, .ref 49), (1, .int v1), (2, .int v2), (3, .int v3)], [.int (-1000000002 : Int32)], hp I2291 F2292)) rfl ⟨trivial, trivial⟩ ?_
      exact OK_ri okX10_odds rfl rfl (Or.inl rfl)
    · refine OK_st 4 okX10_odds (S' := (29, [(0, .ref 49), (1, .int v1), (2, .int v2), (3, .int v3)], [.long (100 : Int64), .long (0 : Int64), .long v3.toInt64], hp I2291 F2292)) rfl ⟨trivial, trivial, trivial, trivial, trivial⟩ ?_
      refine OK_cs [.long v3.toInt64, .long (0 : Int64), .long (100 : Int64)] [] okX10_odds okX10_in rfl rfl cl_RX10_102 (Nat.le_of_ble_eq_true rfl) (by decide) (Nat.le_of_ble_eq_true rfl) (kf_X10_in v3.toInt64 (0 : Int64) (100 : Int64) I2291 F2292) (fun r2294 I2295 F2296 => ?_)
      refine OK_st 1 okX10_odds (S' := ((if ¬ r2294 = 0 then 38 else 35), [(0, .ref 49), (1, .int v1), (2, .int v2), (3, .int v3)], [], hp I2295 F2296)) rfl ⟨trivial, trivial⟩ ?_
      refine OK_if (fun h2297 => ?_) (fun h2297 => ?_)
      · refine OK_st 7 okX10_odds (S' := ((if (nI 100) ≤ (v3 + ((nI 2) * v1)) then 56 else 48), [(0, .ref 49), (1, .int v1), (2, .int v2), (3, .int v3)], [], hp I2295 F2296)) rfl ⟨trivial, trivial, trivial, trivial, trivial, trivial, trivial, trivial⟩ ?_
        refine OK_if (fun h2298 => ?_) (fun h2298 => ?_)
        · refine OK_st 6 okX10_odds (S' := (68, [(7, .int (0 : Int32)), (5, .long (1000000000 : Int64)), (4, .int (nI 100)), (0, .ref 49), (1, .int v1), (2, .int v2), (3, .int v3)], [], hp I2295 F2296)) rfl ⟨trivial, (by decide), trivial, (by decide), trivial, (by decide), trivial⟩ ?_
          refine OK_pk [5, 2, 1, 0] rfl ?_
          refine kf_X10_odds_68 v2 (nI 100) _ (fun w5_2300 v7_2301 I2302 F2303 => ?_) ab_fu (1000000000 : Int64) (0 : Int32) I2295 F2296
          refine OK_st 2 okX10_odds (S' := (98, [(2, .int v2), (4, .int (nI 100)), (5, .long w5_2300), (7, .int v7_2301)], [.int w5_2300.toInt32], hp I2302 F2303)) rfl ⟨trivial, trivial, trivial⟩ ?_
          exact OK_ri okX10_odds rfl rfl (Or.inl rfl)
        · refine OK_st 11 okX10_odds (S' := (68, [(7, .int (0 : Int32)), (5, .long (1000000000 : Int64)), (4, .int (v3 + ((nI 2) * v1))), (0, .ref 49), (1, .int v1), (2, .int v2), (3, .int v3)], [], hp I2295 F2296)) rfl ⟨trivial, trivial, trivial, trivial, trivial, trivial, (by decide), trivial, (by decide), trivial, (by decide), trivial⟩ ?_
          refine OK_pk [5, 2, 1, 0] rfl ?_
          refine kf_X10_odds_68 v2 (v3 + ((nI 2) * v1)) _ (fun w5_2304 v7_2305 I2306 F2307 => ?_) ab_fu (1000000000 : Int64) (0 : Int32) I2295 F2296
          refine OK_st 2 okX10_odds (S' := (98, [(2, .int v2), (4, .int (v3 + ((nI 2) * v1))), (5, .long w5_2304), (7, .int v7_2305)], [.int w5_2304.toInt32], hp I2306 F2307)) rfl ⟨trivial, trivial, trivial⟩ ?_
          exact OK_ri okX10_odds rfl rfl (Or.inl rfl)
      · refine OK_st 1 okX10_odds (S' := (37, [(0, .ref 49), (1, .int v1), (2, .int v2), (3, .int v3)], [.int (-1000000002 : Int32)], hp I2295 F2296)) rfl ⟨trivial, trivial⟩ ?_
        exact OK_ri okX10_odds rfl rfl (Or.inl rfl)
  · refine OK_st 1 okX10_odds (S' := (10, [(0, .ref 49), (1, .int v1), (2, .int v2), (3, .int v3)], [.int (-1000000001 : Int32)], hp I2287 F2288)) rfl ⟨trivial, trivial⟩ ?_
    exact OK_ri okX10_odds rfl rfl (Or.inl rfl)

def f_X10_got (v1 : Int32) (v2 : Int32) (I : AI) (F : AF) : AQ :=
  ab_bd (f_X10_in v1.toInt64 (1 : Int64) (50 : Int64) I F) (fun r2308 I2309 F2310 =>
    if r2308 = 0 then
      some ((-1000000002 : Int32), I2309, F2310)
    else
      ab_bd (f_X10_in v2.toInt64 (0 : Int64) (9999 : Int64) I2309 F2310) (fun r2312 I2313 F2314 =>
        if ¬ r2312 = 0 then
          if ¬ (I2313 37) = (nI 8) then
            bif ab_vin (I2313 37) 8 then
              bif ab_vin (I2313 37) 8 then
                ab_lt (va_up I2313 37 ((I2313 37) + (1 : Int32))) (fun I2319 =>
                  ab_lt (va_up (va_up F2314 60 (upd (F2314 60) (I2313 37).toNatClampNeg v1)) 61 (upd (F2314 61) (I2313 37).toNatClampNeg v2)) (fun F2320 =>
                    some ((I2319 37), I2319, F2320)))
              else none
            else none
          else
            some ((-1000000004 : Int32), I2313, F2314)
        else
          some ((-1000000002 : Int32), I2313, F2314)))
set_option maxRecDepth 20000 in
set_option maxHeartbeats 4000000 in
theorem kf_X10_got (v1 : Int32) (v2 : Int32) (I : AI) (F : AF) : OK 1 mX10_got true (f_X10_got v1 v2 I F) (0, [(0, .ref 49), (1, .int v1), (2, .int v2)], [], hp I F) := by
  rw [f_X10_got]
  refine OK_st 4 okX10_got (S' := (6, [(0, .ref 49), (1, .int v1), (2, .int v2)], [.long (50 : Int64), .long (1 : Int64), .long v1.toInt64], hp I F)) rfl ⟨trivial, trivial, trivial, trivial, trivial⟩ ?_
  refine OK_cs [.long v1.toInt64, .long (1 : Int64), .long (50 : Int64)] [] okX10_got okX10_in rfl rfl cl_RX10_102 (Nat.le_of_ble_eq_true rfl) (by decide) (Nat.le_of_ble_eq_true rfl) (kf_X10_in v1.toInt64 (1 : Int64) (50 : Int64) I F) (fun r2308 I2309 F2310 => ?_)
  refine OK_st 1 okX10_got (S' := ((if r2308 = 0 then 24 else 12), [(0, .ref 49), (1, .int v1), (2, .int v2)], [], hp I2309 F2310)) rfl ⟨trivial, trivial⟩ ?_
  refine OK_if (fun h2311 => ?_) (fun h2311 => ?_)
  · refine OK_st 1 okX10_got (S' := (26, [(0, .ref 49), (1, .int v1), (2, .int v2)], [.int (-1000000002 : Int32)], hp I2309 F2310)) rfl ⟨trivial, trivial⟩ ?_
    exact OK_ri okX10_got rfl rfl (Or.inl rfl)
  · refine OK_st 4 okX10_got (S' := (18, [(0, .ref 49), (1, .int v1), (2, .int v2)], [.long (9999 : Int64), .long (0 : Int64), .long v2.toInt64], hp I2309 F2310)) rfl ⟨trivial, trivial, trivial, trivial, trivial⟩ ?_
    refine OK_cs [.long v2.toInt64, .long (0 : Int64), .long (9999 : Int64)] [] okX10_got okX10_in rfl rfl cl_RX10_102 (Nat.le_of_ble_eq_true rfl) (by decide) (Nat.le_of_ble_eq_true rfl) (kf_X10_in v2.toInt64 (0 : Int64) (9999 : Int64) I2309 F2310) (fun r2312 I2313 F2314 => ?_)
    refine OK_st 1 okX10_got (S' := ((if ¬ r2312 = 0 then 27 else 24), [(0, .ref 49), (1, .int v1), (2, .int v2)], [], hp I2313 F2314)) rfl ⟨trivial, trivial⟩ ?_
    refine OK_if (fun h2315 => ?_) (fun h2315 => ?_)
    · refine OK_st 4 okX10_got (S' := ((if ¬ (I2313 37) = (nI 8) then 39 else 36), [(0, .ref 49), (1, .int v1), (2, .int v2)], [], hp I2313 F2314)) rfl ⟨trivial, trivial, trivial, trivial, trivial⟩ ?_
      refine OK_if (fun h2316 => ?_) (fun h2316 => ?_)
      · refine OK_gd (fun g2317 => ?_)
        refine OK_gd (fun g2318 => ?_)
        refine OK_st 18 okX10_got (S' := (69, [(0, .ref 49), (1, .int v1), (2, .int v2)], [], hp (va_up I2313 37 ((I2313 37) + (1 : Int32))) (va_up (va_up F2314 60 (upd (F2314 60) (I2313 37).toNatClampNeg v1)) 61 (upd (F2314 61) (I2313 37).toNatClampNeg v2)))) rfl ⟨trivial, trivial, trivial, trivial, trivial, (ab_vo g2317), trivial, trivial, trivial, trivial, trivial, (ab_vo g2318), trivial, rfl, trivial, trivial, trivial, trivial, trivial⟩ ?_
        refine OK_lt (fun I2319 => (69, [(0, .ref 49), (1, .int v1), (2, .int v2)], [], hp I2319 (va_up (va_up F2314 60 (upd (F2314 60) (I2313 37).toNatClampNeg v1)) 61 (upd (F2314 61) (I2313 37).toNatClampNeg v2)))) (fun I2319 => ?_)
        refine OK_lt (fun F2320 => (69, [(0, .ref 49), (1, .int v1), (2, .int v2)], [], hp I2319 F2320)) (fun F2320 => ?_)
        refine OK_st 2 okX10_got (S' := (73, [(0, .ref 49), (1, .int v1), (2, .int v2)], [.int (I2319 37)], hp I2319 F2320)) rfl ⟨trivial, trivial, trivial⟩ ?_
        exact OK_ri okX10_got rfl rfl (Or.inl rfl)
      · refine OK_st 1 okX10_got (S' := (38, [(0, .ref 49), (1, .int v1), (2, .int v2)], [.int (-1000000004 : Int32)], hp I2313 F2314)) rfl ⟨trivial, trivial⟩ ?_
        exact OK_ri okX10_got rfl rfl (Or.inl rfl)
    · refine OK_st 1 okX10_got (S' := (26, [(0, .ref 49), (1, .int v1), (2, .int v2)], [.int (-1000000002 : Int32)], hp I2313 F2314)) rfl ⟨trivial, trivial⟩ ?_
      exact OK_ri okX10_got rfl rfl (Or.inl rfl)

def f_X10_used_17 (v1 : Int32) (v2 : Int32) (ko : Int32 → Int32 → AI → AF → AQ) : Nat → Int32 → Int32 → AI → AF → AQ
  | 0, _, _, _, _ => none
  | n + 1, v3, v4, I, F =>
    if (I 37) ≤ v4 then
      ko v3 v4 I F
    else
      if v3 = 0 then
        f_X10_used_17 v1 v2 ko n (0 : Int32) (v4 + (1 : Int32)) I F
      else
        bif ab_vin v4 8 then
          ab_bd (f_X10_measureNow v2 I F) (fun r2325 I2326 F2327 =>
            bif ab_vin v4 8 then
              if ¬ (((F 60) v4.toNatClampNeg) * r2325) = ((F2327 61) v4.toNatClampNeg) then
                f_X10_used_17 v1 v2 ko n (0 : Int32) (v4 + (1 : Int32)) I2326 F2327
              else
                f_X10_used_17 v1 v2 ko n (1 : Int32) (v4 + (1 : Int32)) I2326 F2327
            else none)
        else none
set_option maxRecDepth 20000 in
set_option maxHeartbeats 4000000 in
theorem kf_X10_used_17 (v1 : Int32) (v2 : Int32) (ko : Int32 → Int32 → AI → AF → AQ) (hko : ∀ v3 v4 I F, OK 4 mX10_used true (ko v3 v4 I F) (65, [(0, .ref 49), (1, .int v1), (2, .int v2), (3, .int v3), (4, .int v4)], [], hp I F)) : ∀ n v3 v4 I F, OK 4 mX10_used true (f_X10_used_17 v1 v2 ko n v3 v4 I F) (17, [(0, .ref 49), (1, .int v1), (2, .int v2), (3, .int v3), (4, .int v4)], [], hp I F) := by
  intro n
  induction n with
  | zero =>
    intro v3 v4 I F
    exact OK_no
  | succ n ih =>
    intro v3 v4 I F
    rw [f_X10_used_17]
    refine OK_st 4 okX10_used (S' := ((if (I 37) ≤ v4 then 65 else 26), [(0, .ref 49), (1, .int v1), (2, .int v2), (3, .int v3), (4, .int v4)], [], hp I F)) rfl ⟨trivial, trivial, trivial, trivial, trivial⟩ ?_
    refine OK_if (fun h2322 => ?_) (fun h2322 => ?_)
    · exact hko v3 v4 I F
    · refine OK_st 2 okX10_used (S' := ((if v3 = 0 then 57 else 30), [(0, .ref 49), (1, .int v1), (2, .int v2), (3, .int v3), (4, .int v4)], [], hp I F)) rfl ⟨trivial, trivial, trivial⟩ ?_
      refine OK_if (fun h2323 => ?_) (fun h2323 => ?_)
      · refine OK_st 4 okX10_used (S' := (17, [(4, .int (v4 + (1 : Int32))), (3, .int (0 : Int32)), (0, .ref 49), (1, .int v1), (2, .int v2)], [], hp I F)) rfl ⟨trivial, (by decide), (by decide), trivial, trivial⟩ ?_
        refine OK_pk [2, 3, 4, 1, 0] rfl ?_
        exact ih (0 : Int32) (v4 + (1 : Int32)) I F
      · refine OK_gd (fun g2324 => ?_)
        refine OK_st 6 okX10_used (S' := (39, [(0, .ref 49), (1, .int v1), (2, .int v2), (3, .int v3), (4, .int v4)], [.int v2, .ref 49, .int ((F 60) v4.toNatClampNeg)], hp I F)) rfl ⟨trivial, trivial, trivial, (ab_vo g2324), trivial, trivial, trivial⟩ ?_
        refine OK_cv [.int v2] [.int ((F 60) v4.toNatClampNeg)] okX10_used okX10_measureNow rfl rfl cl_RX10_204 rfl rfl (Nat.le_of_ble_eq_true rfl) (by decide) (Nat.le_of_ble_eq_true rfl) (kf_X10_measureNow v2 I F) (fun r2325 I2326 F2327 => ?_)
        refine OK_gd (fun g2328 => ?_)
        refine OK_st 6 okX10_used (S' := ((if ¬ (((F 60) v4.toNatClampNeg) * r2325) = ((F2327 61) v4.toNatClampNeg) then 57 else 53), [(0, .ref 49), (1, .int v1), (2, .int v2), (3, .int v3), (4, .int v4)], [], hp I2326 F2327)) rfl ⟨trivial, trivial, trivial, trivial, (ab_vo g2328), trivial, trivial⟩ ?_
        refine OK_if (fun h2329 => ?_) (fun h2329 => ?_)
        · refine OK_st 4 okX10_used (S' := (17, [(4, .int (v4 + (1 : Int32))), (3, .int (0 : Int32)), (0, .ref 49), (1, .int v1), (2, .int v2)], [], hp I2326 F2327)) rfl ⟨trivial, (by decide), (by decide), trivial, trivial⟩ ?_
          refine OK_pk [2, 3, 4, 1, 0] rfl ?_
          exact ih (0 : Int32) (v4 + (1 : Int32)) I2326 F2327
        · refine OK_st 5 okX10_used (S' := (17, [(4, .int (v4 + (1 : Int32))), (3, .int (1 : Int32)), (0, .ref 49), (1, .int v1), (2, .int v2)], [], hp I2326 F2327)) rfl ⟨trivial, trivial, (by decide), (by decide), trivial, trivial⟩ ?_
          refine OK_pk [2, 3, 4, 1, 0] rfl ?_
          exact ih (1 : Int32) (v4 + (1 : Int32)) I2326 F2327

def f_X10_used_4 (ko : Int32 → Int32 → AI → AF → AQ) : Nat → Int32 → Int32 → AI → AF → AQ
  | 0, _, _, _, _ => none
  | n + 1, v1, v2, I, F =>
    if (I 22) ≤ v2 then
      ko v1 v2 I F
    else
      f_X10_used_17 v1 v2 (fun v3_2330 v4_2331 I2332 F2333 =>
        if v3_2330 = 0 then
          f_X10_used_4 ko n (v1 ||| (0 : Int32)) (v2 + (1 : Int32)) I2332 F2333
        else
          ab_lt (v1 ||| ((1 : Int32) <<< (v2 &&& 31))) (fun x2335 =>
            f_X10_used_4 ko n x2335 (v2 + (1 : Int32)) I2332 F2333)) ab_fu (1 : Int32) (0 : Int32) I F
set_option maxRecDepth 20000 in
set_option maxHeartbeats 4000000 in
theorem kf_X10_used_4 (ko : Int32 → Int32 → AI → AF → AQ) (hko : ∀ v1 v2 I F, OK 4 mX10_used true (ko v1 v2 I F) (85, [(0, .ref 49), (1, .int v1), (2, .int v2)], [], hp I F)) : ∀ n v1 v2 I F, OK 4 mX10_used true (f_X10_used_4 ko n v1 v2 I F) (4, [(0, .ref 49), (1, .int v1), (2, .int v2)], [], hp I F) := by
  intro n
  induction n with
  | zero =>
    intro v1 v2 I F
    exact OK_no
  | succ n ih =>
    intro v1 v2 I F
    rw [f_X10_used_4]
    refine OK_st 4 okX10_used (S' := ((if (I 22) ≤ v2 then 85 else 12), [(0, .ref 49), (1, .int v1), (2, .int v2)], [], hp I F)) rfl ⟨trivial, trivial, trivial, trivial, trivial⟩ ?_
    refine OK_if (fun h2321 => ?_) (fun h2321 => ?_)
    · exact hko v1 v2 I F
    · refine OK_st 4 okX10_used (S' := (17, [(4, .int (0 : Int32)), (3, .int (1 : Int32)), (0, .ref 49), (1, .int v1), (2, .int v2)], [], hp I F)) rfl ⟨trivial, (by decide), trivial, (by decide), trivial⟩ ?_
      refine OK_pk [2, 3, 4, 1, 0] rfl ?_
      refine kf_X10_used_17 v1 v2 _ (fun v3_2330 v4_2331 I2332 F2333 => ?_) ab_fu (1 : Int32) (0 : Int32) I F
      refine OK_st 3 okX10_used (S' := ((if v3_2330 = 0 then 76 else 70), [(0, .ref 49), (1, .int v1), (2, .int v2), (3, .int v3_2330), (4, .int v4_2331)], [.int v1], hp I2332 F2333)) rfl ⟨trivial, trivial, trivial, trivial⟩ ?_
      refine OK_if (fun h2334 => ?_) (fun h2334 => ?_)
      · refine OK_st 5 okX10_used (S' := (4, [(2, .int (v2 + (1 : Int32))), (1, .int (v1 ||| (0 : Int32))), (0, .ref 49), (3, .int v3_2330), (4, .int v4_2331)], [], hp I2332 F2333)) rfl ⟨trivial, trivial, (by decide), (by decide), trivial, trivial⟩ ?_
        refine OK_pk [2, 1, 0] rfl ?_
        exact ih (v1 ||| (0 : Int32)) (v2 + (1 : Int32)) I2332 F2333
      · refine OK_st 6 okX10_used (S' := (79, [(1, .int (v1 ||| ((1 : Int32) <<< (v2 &&& 31)))), (0, .ref 49), (2, .int v2), (3, .int v3_2330), (4, .int v4_2331)], [], hp I2332 F2333)) rfl ⟨trivial, trivial, trivial, trivial, trivial, (by decide), trivial⟩ ?_
        refine OK_lt (fun x2335 => (79, [(1, .int x2335), (0, .ref 49), (2, .int v2), (3, .int v3_2330), (4, .int v4_2331)], [], hp I2332 F2333)) (fun x2335 => ?_)
        refine OK_st 2 okX10_used (S' := (4, [(2, .int (v2 + (1 : Int32))), (1, .int x2335), (0, .ref 49), (3, .int v3_2330), (4, .int v4_2331)], [], hp I2332 F2333)) rfl ⟨(by decide), trivial, trivial⟩ ?_
        refine OK_pk [2, 1, 0] rfl ?_
        exact ih x2335 (v2 + (1 : Int32)) I2332 F2333

def f_X10_used (I : AI) (F : AF) : AQ :=
  f_X10_used_4 (fun v1_2336 v2_2337 I2338 F2339 =>
    some (v1_2336, I2338, F2339)) ab_fu (0 : Int32) (0 : Int32) I F
set_option maxRecDepth 20000 in
set_option maxHeartbeats 4000000 in
theorem kf_X10_used (I : AI) (F : AF) : OK 4 mX10_used true (f_X10_used I F) (0, [(0, .ref 49)], [], hp I F) := by
  rw [f_X10_used]
  refine OK_st 4 okX10_used (S' := (4, [(2, .int (0 : Int32)), (1, .int (0 : Int32)), (0, .ref 49)], [], hp I F)) rfl ⟨trivial, (by decide), trivial, (by decide), trivial⟩ ?_
  refine OK_pk [2, 1, 0] rfl ?_
  refine kf_X10_used_4 _ (fun v1_2336 v2_2337 I2338 F2339 => ?_) ab_fu (0 : Int32) (0 : Int32) I F
  refine OK_st 1 okX10_used (S' := (86, [(0, .ref 49), (1, .int v1_2336), (2, .int v2_2337)], [.int v1_2336], hp I2338 F2339)) rfl ⟨trivial, trivial⟩ ?_
  exact OK_ri okX10_used rfl rfl (Or.inl rfl)

def f_X10_bale_j69_39 (bk ko : Int32 → Int32 → AI → AF → AQ) (v1 : Int32) (v2 : Int32) (v3 : Int32) (v4 : Int32) (v5 : Int32) (s0 : Int32) (I : AI) (F : AF) : AQ :=
  if v3 = 0 then
    bk (0 : Int32) (v5 + (1 : Int32)) I F
  else
    if s0 = 0 then
      bk (1 : Int32) (v5 + (1 : Int32)) I F
    else
      ab_bd (f_X10_measure v4 (((F 47) 19) + v2) I F) (fun r2356 I2357 F2358 =>
        ab_bd (f_X10_measure v5 (((F2358 47) 19) + v2) I2357 F2358) (fun r2359 I2360 F2361 =>
          if r2356 = r2359 then
            bk (0 : Int32) (v5 + (1 : Int32)) I2360 F2361
          else
            bk (1 : Int32) (v5 + (1 : Int32)) I2360 F2361))
set_option maxRecDepth 20000 in
set_option maxHeartbeats 4000000 in
theorem kf_X10_bale_j69_39 (bk ko : Int32 → Int32 → AI → AF → AQ) (v1 : Int32) (v2 : Int32) (v3 : Int32) (v4 : Int32) (v5 : Int32) (hbk : ∀ v3 v5 I F, OK 5 mX10_bale true (bk v3 v5 I F) (39, [(0, .ref 49), (1, .int v1), (2, .int v2), (3, .int v3), (4, .int v4), (5, .int v5)], [], hp I F)) (hko : ∀ v3 v5 I F, OK 5 mX10_bale true (ko v3 v5 I F) (125, [(0, .ref 49), (1, .int v1), (2, .int v2), (3, .int v3), (4, .int v4), (5, .int v5)], [], hp I F)) (s0 : Int32) (I : AI) (F : AF) : OK 5 mX10_bale true (f_X10_bale_j69_39 bk ko v1 v2 v3 v4 v5 s0 I F) (69, [(0, .ref 49), (1, .int v1), (2, .int v2), (3, .int v3), (4, .int v4), (5, .int v5)], [.int s0], hp I F) := by
  rw [f_X10_bale_j69_39]
  refine OK_st 3 okX10_bale (S' := ((if v3 = 0 then 117 else 75), [(6, .int s0), (0, .ref 49), (1, .int v1), (2, .int v2), (3, .int v3), (4, .int v4), (5, .int v5)], [], hp I F)) rfl ⟨(by decide), trivial, trivial, trivial⟩ ?_
  refine OK_if (fun h2354 => ?_) (fun h2354 => ?_)
  · refine OK_st 4 okX10_bale (S' := (39, [(5, .int (v5 + (1 : Int32))), (3, .int (0 : Int32)), (6, .int s0), (0, .ref 49), (1, .int v1), (2, .int v2), (4, .int v4)], [], hp I F)) rfl ⟨trivial, (by decide), (by decide), trivial, trivial⟩ ?_
    refine OK_pk [3, 4, 5, 1, 6, 0] rfl ?_
    exact hbk (0 : Int32) (v5 + (1 : Int32)) I F
  · refine OK_st 2 okX10_bale (S' := ((if s0 = 0 then 113 else 80), [(6, .int s0), (0, .ref 49), (1, .int v1), (2, .int v2), (3, .int v3), (4, .int v4), (5, .int v5)], [], hp I F)) rfl ⟨trivial, trivial, trivial⟩ ?_
    refine OK_if (fun h2355 => ?_) (fun h2355 => ?_)
    · refine OK_st 5 okX10_bale (S' := (39, [(5, .int (v5 + (1 : Int32))), (3, .int (1 : Int32)), (6, .int s0), (0, .ref 49), (1, .int v1), (2, .int v2), (4, .int v4)], [], hp I F)) rfl ⟨trivial, trivial, (by decide), (by decide), trivial, trivial⟩ ?_
      refine OK_pk [3, 4, 5, 1, 6, 0] rfl ?_
      exact hbk (1 : Int32) (v5 + (1 : Int32)) I F
    · refine OK_st 8 okX10_bale (S' := (92, [(6, .int s0), (0, .ref 49), (1, .int v1), (2, .int v2), (3, .int v3), (4, .int v4), (5, .int v5)], [.int (((F 47) 19) + v2), .int v4, .ref 49], hp I F)) rfl ⟨trivial, trivial, trivial, trivial, trivial, (ab_vo (by decide)), trivial, trivial, trivial⟩ ?_
      refine OK_cv [.int v4, .int (((F 47) 19) + v2)] [] okX10_bale okX10_measure rfl rfl cl_RX10_197 rfl rfl (Nat.le_of_ble_eq_true rfl) (by decide) (Nat.le_of_ble_eq_true rfl) (kf_X10_measure v4 (((F 47) 19) + v2) I F) (fun r2356 I2357 F2358 => ?_)
      refine OK_st 8 okX10_bale (S' := (107, [(6, .int s0), (0, .ref 49), (1, .int v1), (2, .int v2), (3, .int v3), (4, .int v4), (5, .int v5)], [.int (((F2358 47) 19) + v2), .int v5, .ref 49, .int r2356], hp I2357 F2358)) rfl ⟨trivial, trivial, trivial, trivial, trivial, (ab_vo (by decide)), trivial, trivial, trivial⟩ ?_
      refine OK_cv [.int v5, .int (((F2358 47) 19) + v2)] [.int r2356] okX10_bale okX10_measure rfl rfl cl_RX10_197 rfl rfl (Nat.le_of_ble_eq_true rfl) (by decide) (Nat.le_of_ble_eq_true rfl) (kf_X10_measure v5 (((F2358 47) 19) + v2) I2357 F2358) (fun r2359 I2360 F2361 => ?_)
      refine OK_st 1 okX10_bale (S' := ((if r2356 = r2359 then 117 else 113), [(6, .int s0), (0, .ref 49), (1, .int v1), (2, .int v2), (3, .int v3), (4, .int v4), (5, .int v5)], [], hp I2360 F2361)) rfl ⟨trivial, trivial⟩ ?_
      refine OK_if (fun h2362 => ?_) (fun h2362 => ?_)
      · refine OK_st 4 okX10_bale (S' := (39, [(5, .int (v5 + (1 : Int32))), (3, .int (0 : Int32)), (6, .int s0), (0, .ref 49), (1, .int v1), (2, .int v2), (4, .int v4)], [], hp I2360 F2361)) rfl ⟨trivial, (by decide), (by decide), trivial, trivial⟩ ?_
        refine OK_pk [3, 4, 5, 1, 6, 0] rfl ?_
        exact hbk (0 : Int32) (v5 + (1 : Int32)) I2360 F2361
      · refine OK_st 5 okX10_bale (S' := (39, [(5, .int (v5 + (1 : Int32))), (3, .int (1 : Int32)), (6, .int s0), (0, .ref 49), (1, .int v1), (2, .int v2), (4, .int v4)], [], hp I2360 F2361)) rfl ⟨trivial, trivial, (by decide), (by decide), trivial, trivial⟩ ?_
        refine OK_pk [3, 4, 5, 1, 6, 0] rfl ?_
        exact hbk (1 : Int32) (v5 + (1 : Int32)) I2360 F2361

def f_X10_bale_j68_39 (bk ko : Int32 → Int32 → AI → AF → AQ) (v1 : Int32) (v2 : Int32) (v3 : Int32) (v4 : Int32) (v5 : Int32) (I : AI) (F : AF) : AQ :=
  f_X10_bale_j69_39 (bk) ko v1 v2 v3 v4 v5 (0 : Int32) I F
set_option maxRecDepth 20000 in
set_option maxHeartbeats 4000000 in
theorem kf_X10_bale_j68_39 (bk ko : Int32 → Int32 → AI → AF → AQ) (v1 : Int32) (v2 : Int32) (v3 : Int32) (v4 : Int32) (v5 : Int32) (hbk : ∀ v3 v5 I F, OK 5 mX10_bale true (bk v3 v5 I F) (39, [(0, .ref 49), (1, .int v1), (2, .int v2), (3, .int v3), (4, .int v4), (5, .int v5)], [], hp I F)) (hko : ∀ v3 v5 I F, OK 5 mX10_bale true (ko v3 v5 I F) (125, [(0, .ref 49), (1, .int v1), (2, .int v2), (3, .int v3), (4, .int v4), (5, .int v5)], [], hp I F)) (I : AI) (F : AF) : OK 5 mX10_bale true (f_X10_bale_j68_39 bk ko v1 v2 v3 v4 v5 I F) (68, [(0, .ref 49), (1, .int v1), (2, .int v2), (3, .int v3), (4, .int v4), (5, .int v5)], [], hp I F) := by
  rw [f_X10_bale_j68_39]
  refine OK_st 1 okX10_bale (S' := (69, [(0, .ref 49), (1, .int v1), (2, .int v2), (3, .int v3), (4, .int v4), (5, .int v5)], [.int (0 : Int32)], hp I F)) rfl ⟨trivial, trivial⟩ ?_
  exact kf_X10_bale_j69_39 (bk) ko v1 v2 v3 v4 v5 hbk hko (0 : Int32) I F

def f_X10_bale_39 (v1 : Int32) (v2 : Int32) (v4 : Int32) (ko : Int32 → Int32 → AI → AF → AQ) : Nat → Int32 → Int32 → AI → AF → AQ
  | 0, _, _, _, _ => none
  | n + 1, v3, v5, I, F =>
    if v4 ≤ v5 then
      ko v3 v5 I F
    else
      ab_bd (f_X10_has v1 v4 I F) (fun r2350 I2351 F2352 =>
        if r2350 = 0 then
          f_X10_bale_j68_39 (f_X10_bale_39 v1 v2 v4 ko n) ko v1 v2 v3 v4 v5 I2351 F2352
        else
          ab_bd (f_X10_has v1 v5 I2351 F2352) (fun r2363 I2364 F2365 =>
            if r2363 = 0 then
              f_X10_bale_j68_39 (f_X10_bale_39 v1 v2 v4 ko n) ko v1 v2 v3 v4 v5 I2364 F2365
            else
              f_X10_bale_j69_39 (f_X10_bale_39 v1 v2 v4 ko n) ko v1 v2 v3 v4 v5 (1 : Int32) I2364 F2365))
set_option maxRecDepth 20000 in
set_option maxHeartbeats 4000000 in
theorem kf_X10_bale_39 (v1 : Int32) (v2 : Int32) (v4 : Int32) (ko : Int32 → Int32 → AI → AF → AQ) (hko : ∀ v3 v5 I F, OK 5 mX10_bale true (ko v3 v5 I F) (125, [(0, .ref 49), (1, .int v1), (2, .int v2), (3, .int v3), (4, .int v4), (5, .int v5)], [], hp I F)) : ∀ n v3 v5 I F, OK 5 mX10_bale true (f_X10_bale_39 v1 v2 v4 ko n v3 v5 I F) (39, [(0, .ref 49), (1, .int v1), (2, .int v2), (3, .int v3), (4, .int v4), (5, .int v5)], [], hp I F) := by
  intro n
  induction n with
  | zero =>
    intro v3 v5 I F
    exact OK_no
  | succ n ih =>
    intro v3 v5 I F
    rw [f_X10_bale_39]
    refine OK_st 3 okX10_bale (S' := ((if v4 ≤ v5 then 125 else 46), [(0, .ref 49), (1, .int v1), (2, .int v2), (3, .int v3), (4, .int v4), (5, .int v5)], [], hp I F)) rfl ⟨trivial, trivial, trivial, trivial⟩ ?_
    refine OK_if (fun h2349 => ?_) (fun h2349 => ?_)
    · exact hko v3 v5 I F
    · refine OK_st 2 okX10_bale (S' := (49, [(0, .ref 49), (1, .int v1), (2, .int v2), (3, .int v3), (4, .int v4), (5, .int v5)], [.int v4, .int v1], hp I F)) rfl ⟨trivial, trivial, trivial⟩ ?_
      refine OK_cs [.int v1, .int v4] [] okX10_bale okX10_has rfl rfl cl_RX10_106 (Nat.le_of_ble_eq_true rfl) (by decide) (Nat.le_of_ble_eq_true rfl) (kf_X10_has v1 v4 I F) (fun r2350 I2351 F2352 => ?_)
      refine OK_st 1 okX10_bale (S' := ((if r2350 = 0 then 68 else 55), [(0, .ref 49), (1, .int v1), (2, .int v2), (3, .int v3), (4, .int v4), (5, .int v5)], [], hp I2351 F2352)) rfl ⟨trivial, trivial⟩ ?_
      refine OK_if (fun h2353 => ?_) (fun h2353 => ?_)
      · exact kf_X10_bale_j68_39 (f_X10_bale_39 v1 v2 v4 ko n) ko v1 v2 v3 v4 v5 ih hko I2351 F2352
      · refine OK_st 2 okX10_bale (S' := (58, [(0, .ref 49), (1, .int v1), (2, .int v2), (3, .int v3), (4, .int v4), (5, .int v5)], [.int v5, .int v1], hp I2351 F2352)) rfl ⟨trivial, trivial, trivial⟩ ?_
        refine OK_cs [.int v1, .int v5] [] okX10_bale okX10_has rfl rfl cl_RX10_106 (Nat.le_of_ble_eq_true rfl) (by decide) (Nat.le_of_ble_eq_true rfl) (kf_X10_has v1 v5 I2351 F2352) (fun r2363 I2364 F2365 => ?_)
        refine OK_st 1 okX10_bale (S' := ((if r2363 = 0 then 68 else 64), [(0, .ref 49), (1, .int v1), (2, .int v2), (3, .int v3), (4, .int v4), (5, .int v5)], [], hp I2364 F2365)) rfl ⟨trivial, trivial⟩ ?_
        refine OK_if (fun h2366 => ?_) (fun h2366 => ?_)
        · exact kf_X10_bale_j68_39 (f_X10_bale_39 v1 v2 v4 ko n) ko v1 v2 v3 v4 v5 ih hko I2364 F2365
        · refine OK_st 2 okX10_bale (S' := (69, [(0, .ref 49), (1, .int v1), (2, .int v2), (3, .int v3), (4, .int v4), (5, .int v5)], [.int (1 : Int32)], hp I2364 F2365)) rfl ⟨trivial, trivial, trivial⟩ ?_
          exact kf_X10_bale_j69_39 (f_X10_bale_39 v1 v2 v4 ko n) ko v1 v2 v3 v4 v5 ih hko (1 : Int32) I2364 F2365

def f_X10_bale_27 (v1 : Int32) (v2 : Int32) (ko : Int32 → Int32 → AI → AF → AQ) : Nat → Int32 → Int32 → AI → AF → AQ
  | 0, _, _, _, _ => none
  | n + 1, v3, v4, I, F =>
    if (I 22) ≤ v4 then
      ko v3 v4 I F
    else
      f_X10_bale_39 v1 v2 v4 (fun v3_2367 v5_2368 I2369 F2370 =>
        f_X10_bale_27 v1 v2 ko n v3_2367 (v4 + (1 : Int32)) I2369 F2370) ab_fu v3 (0 : Int32) I F
set_option maxRecDepth 20000 in
set_option maxHeartbeats 4000000 in
theorem kf_X10_bale_27 (v1 : Int32) (v2 : Int32) (ko : Int32 → Int32 → AI → AF → AQ) (hko : ∀ v3 v4 I F, OK 5 mX10_bale true (ko v3 v4 I F) (131, [(0, .ref 49), (1, .int v1), (2, .int v2), (3, .int v3), (4, .int v4)], [], hp I F)) : ∀ n v3 v4 I F, OK 5 mX10_bale true (f_X10_bale_27 v1 v2 ko n v3 v4 I F) (27, [(0, .ref 49), (1, .int v1), (2, .int v2), (3, .int v3), (4, .int v4)], [], hp I F) := by
  intro n
  induction n with
  | zero =>
    intro v3 v4 I F
    exact OK_no
  | succ n ih =>
    intro v3 v4 I F
    rw [f_X10_bale_27]
    refine OK_st 4 okX10_bale (S' := ((if (I 22) ≤ v4 then 131 else 36), [(0, .ref 49), (1, .int v1), (2, .int v2), (3, .int v3), (4, .int v4)], [], hp I F)) rfl ⟨trivial, trivial, trivial, trivial, trivial⟩ ?_
    refine OK_if (fun h2348 => ?_) (fun h2348 => ?_)
    · exact hko v3 v4 I F
    · refine OK_st 2 okX10_bale (S' := (39, [(5, .int (0 : Int32)), (0, .ref 49), (1, .int v1), (2, .int v2), (3, .int v3), (4, .int v4)], [], hp I F)) rfl ⟨trivial, (by decide), trivial⟩ ?_
      refine OK_pk [1, 2, 3, 4, 5, 0] rfl ?_
      refine kf_X10_bale_39 v1 v2 v4 _ (fun v3_2367 v5_2368 I2369 F2370 => ?_) ab_fu v3 (0 : Int32) I F
      refine OK_st 2 okX10_bale (S' := (27, [(4, .int (v4 + (1 : Int32))), (0, .ref 49), (1, .int v1), (2, .int v2), (3, .int v3_2367), (5, .int v5_2368)], [], hp I2369 F2370)) rfl ⟨(by decide), trivial, trivial⟩ ?_
      refine OK_pk [1, 2, 3, 4, 0] rfl ?_
      exact ih v3_2367 (v4 + (1 : Int32)) I2369 F2370

def f_X10_bale_17 (v1 : Int32) (ko : Int32 → AI → AF → AQ) : Nat → Int32 → AI → AF → AQ
  | 0, _, _, _ => none
  | n + 1, v2, I, F =>
    if (nI 4) ≤ v2 then
      ko v2 I F
    else
      f_X10_bale_27 v1 v2 (fun v3_2371 v4_2372 I2373 F2374 =>
        if v3_2371 = 0 then
          f_X10_bale_17 v1 ko n (v2 + (1 : Int32)) I2373 F2374
        else
          some (v2, I2373, F2374)) ab_fu (1 : Int32) (0 : Int32) I F
set_option maxRecDepth 20000 in
set_option maxHeartbeats 4000000 in
theorem kf_X10_bale_17 (v1 : Int32) (ko : Int32 → AI → AF → AQ) (hko : ∀ v2 I F, OK 5 mX10_bale true (ko v2 I F) (143, [(0, .ref 49), (1, .int v1), (2, .int v2)], [], hp I F)) : ∀ n v2 I F, OK 5 mX10_bale true (f_X10_bale_17 v1 ko n v2 I F) (17, [(0, .ref 49), (1, .int v1), (2, .int v2)], [], hp I F) := by
  intro n
  induction n with
  | zero =>
    intro v2 I F
    exact OK_no
  | succ n ih =>
    intro v2 I F
    rw [f_X10_bale_17]
    refine OK_st 3 okX10_bale (S' := ((if (nI 4) ≤ v2 then 143 else 22), [(0, .ref 49), (1, .int v1), (2, .int v2)], [], hp I F)) rfl ⟨trivial, trivial, trivial, trivial⟩ ?_
    refine OK_if (fun h2347 => ?_) (fun h2347 => ?_)
    · exact hko v2 I F
    · refine OK_st 4 okX10_bale (S' := (27, [(4, .int (0 : Int32)), (3, .int (1 : Int32)), (0, .ref 49), (1, .int v1), (2, .int v2)], [], hp I F)) rfl ⟨trivial, (by decide), trivial, (by decide), trivial⟩ ?_
      refine OK_pk [2, 3, 4, 1, 0] rfl ?_
      refine kf_X10_bale_27 v1 v2 _ (fun v3_2371 v4_2372 I2373 F2374 => ?_) ab_fu (1 : Int32) (0 : Int32) I F
      refine OK_st 2 okX10_bale (S' := ((if v3_2371 = 0 then 137 else 135), [(0, .ref 49), (1, .int v1), (2, .int v2), (3, .int v3_2371), (4, .int v4_2372)], [], hp I2373 F2374)) rfl ⟨trivial, trivial, trivial⟩ ?_
      refine OK_if (fun h2375 => ?_) (fun h2375 => ?_)
      · refine OK_st 2 okX10_bale (S' := (17, [(2, .int (v2 + (1 : Int32))), (0, .ref 49), (1, .int v1), (3, .int v3_2371), (4, .int v4_2372)], [], hp I2373 F2374)) rfl ⟨(by decide), trivial, trivial⟩ ?_
        refine OK_pk [1, 2, 0] rfl ?_
        exact ih (v2 + (1 : Int32)) I2373 F2374
      · refine OK_st 1 okX10_bale (S' := (136, [(0, .ref 49), (1, .int v1), (2, .int v2), (3, .int v3_2371), (4, .int v4_2372)], [.int v2], hp I2373 F2374)) rfl ⟨trivial, trivial⟩ ?_
        exact OK_ri okX10_bale rfl rfl (Or.inl rfl)
