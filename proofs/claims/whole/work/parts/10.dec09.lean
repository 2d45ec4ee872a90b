/-! methods as functions (by program) -/
def f_X10_limbsOf (v0 : Int32) (I : AI) (F : AF) : AQ :=
  f_X10_limbsOf_4 v0 (fun v1_1932 v2_1933 I1934 F1935 =>
    some (v1_1932, I1934, F1935)) ab_fu (0 : Int32) (0 : Int32) I F
set_option maxRecDepth 20000 in
set_option maxHeartbeats 4000000 in
theorem kf_X10_limbsOf (v0 : Int32) (I : AI) (F : AF) : OK 1 mX10_limbsOf true (f_X10_limbsOf v0 I F) (0, [(0, .int v0)], [], hp I F) := by
  rw [f_X10_limbsOf]
  refine OK_st 4 okX10_limbsOf (S' := (4, [(2, .int (0 : Int32)), (1, .int (0 : Int32)), (0, .int v0)], [], hp I F)) rfl ⟨trivial, (by decide), trivial, (by decide), trivial⟩ ?_
  refine OK_pk [2, 1, 0] rfl ?_
  refine kf_X10_limbsOf_4 v0 _ (fun v1_1932 v2_1933 I1934 F1935 => ?_) ab_fu (0 : Int32) (0 : Int32) I F
  refine OK_st 1 okX10_limbsOf (S' := (33, [(0, .int v0), (1, .int v1_1932), (2, .int v2_1933)], [.int v1_1932], hp I1934 F1935)) rfl ⟨trivial, trivial⟩ ?_
  exact OK_ri okX10_limbsOf rfl rfl (Or.inl rfl)

def f_X10_isBasket (v1 : Int32) (I : AI) (F : AF) : AQ :=
  f_X10_isBasket_2 v1 (fun v2_1910 I1911 F1912 =>
    ab_bd (f_X10_basketAt v1 (0 : Int32) I1911 F1912) (fun r1924 I1925 F1926 =>
      ab_bd (f_X10_limbsOf v1 I1925 F1926) (fun r1936 I1937 F1938 =>
        ab_bd (f_X10_in r1936.toInt64 (1 : Int64) (3 : Int64) I1937 F1938) (fun r1939 I1940 F1941 =>
          if r1939 = 0 then
            some ((0 : Int32), I1940, F1941)
          else
            ab_bd (f_X10_basketAt v1 (1 : Int32) I1940 F1941) (fun r1943 I1944 F1945 =>
              if ¬ r1924 = r1943 then
                some ((0 : Int32), I1944, F1945)
              else
                ab_bd (f_X10_basketAt v1 (nI 2) I1944 F1945) (fun r1947 I1948 F1949 =>
                  if ¬ r1924 = r1947 then
                    some ((0 : Int32), I1948, F1949)
                  else
                    ab_bd (f_X10_basketAt v1 (nI 3) I1948 F1949) (fun r1951 I1952 F1953 =>
                      if ¬ r1924 = r1951 then
                        some ((0 : Int32), I1952, F1953)
                      else
                        some ((1 : Int32), I1952, F1953)))))))) ab_fu (0 : Int32) I F
set_option maxRecDepth 20000 in
set_option maxHeartbeats 4000000 in
theorem kf_X10_isBasket (v1 : Int32) (I : AI) (F : AF) : OK 3 mX10_isBasket true (f_X10_isBasket v1 I F) (0, [(0, .ref 49), (1, .int v1)], [], hp I F) := by
  rw [f_X10_isBasket]
  refine OK_st 2 okX10_isBasket (S' := (2, [(2, .int (0 : Int32)), (0, .ref 49), (1, .int v1)], [], hp I F)) rfl ⟨trivial, (by decide), trivial⟩ ?_
  refine OK_pk [1, 2, 0] rfl ?_
  refine kf_X10_isBasket_2 v1 _ (fun v2_1910 I1911 F1912 => ?_) ab_fu (0 : Int32) I F
  refine OK_st 3 okX10_isBasket (S' := (35, [(0, .ref 49), (1, .int v1), (2, .int v2_1910)], [.int (0 : Int32), .int v1, .ref 49], hp I1911 F1912)) rfl ⟨trivial, trivial, trivial, trivial⟩ ?_
  refine OK_cv [.int v1, .int (0 : Int32)] [] okX10_isBasket okX10_basketAt rfl rfl cl_RX10_258 rfl rfl (Nat.le_of_ble_eq_true rfl) (by decide) (Nat.le_of_ble_eq_true rfl) (kf_X10_basketAt v1 (0 : Int32) I1911 F1912) (fun r1924 I1925 F1926 => ?_)
  refine OK_st 2 okX10_isBasket (S' := (40, [(2, .int r1924), (0, .ref 49), (1, .int v1)], [.int v1], hp I1925 F1926)) rfl ⟨(by decide), trivial, trivial⟩ ?_
  refine OK_cs [.int v1] [] okX10_isBasket okX10_limbsOf rfl rfl cl_RX10_261 (Nat.le_of_ble_eq_true rfl) (by decide) (Nat.le_of_ble_eq_true rfl) (kf_X10_limbsOf v1 I1925 F1926) (fun r1936 I1937 F1938 => ?_)
  refine OK_st 3 okX10_isBasket (S' := (48, [(2, .int r1924), (0, .ref 49), (1, .int v1)], [.long (3 : Int64), .long (1 : Int64), .long r1936.toInt64], hp I1937 F1938)) rfl ⟨trivial, trivial, trivial, trivial⟩ ?_
  refine OK_cs [.long r1936.toInt64, .long (1 : Int64), .long (3 : Int64)] [] okX10_isBasket okX10_in rfl rfl cl_RX10_102 (Nat.le_of_ble_eq_true rfl) (by decide) (Nat.le_of_ble_eq_true rfl) (kf_X10_in r1936.toInt64 (1 : Int64) (3 : Int64) I1937 F1938) (fun r1939 I1940 F1941 => ?_)
  refine OK_st 1 okX10_isBasket (S' := ((if r1939 = 0 then 88 else 54), [(2, .int r1924), (0, .ref 49), (1, .int v1)], [], hp I1940 F1941)) rfl ⟨trivial, trivial⟩ ?_
  refine OK_if (fun h1942 => ?_) (fun h1942 => ?_)
  · refine OK_st 1 okX10_isBasket (S' := (89, [(2, .int r1924), (0, .ref 49), (1, .int v1)], [.int (0 : Int32)], hp I1940 F1941)) rfl ⟨trivial, trivial⟩ ?_
    exact OK_ri okX10_isBasket rfl rfl (Or.inr ⟨rfl, Or.inl rfl⟩)
  · refine OK_st 4 okX10_isBasket (S' := (58, [(2, .int r1924), (0, .ref 49), (1, .int v1)], [.int (1 : Int32), .int v1, .ref 49, .int r1924], hp I1940 F1941)) rfl ⟨trivial, trivial, trivial, trivial, trivial⟩ ?_
    refine OK_cv [.int v1, .int (1 : Int32)] [.int r1924] okX10_isBasket okX10_basketAt rfl rfl cl_RX10_258 rfl rfl (Nat.le_of_ble_eq_true rfl) (by decide) (Nat.le_of_ble_eq_true rfl) (kf_X10_basketAt v1 (1 : Int32) I1940 F1941) (fun r1943 I1944 F1945 => ?_)
    refine OK_st 1 okX10_isBasket (S' := ((if ¬ r1924 = r1943 then 88 else 64), [(2, .int r1924), (0, .ref 49), (1, .int v1)], [], hp I1944 F1945)) rfl ⟨trivial, trivial⟩ ?_
    refine OK_if (fun h1946 => ?_) (fun h1946 => ?_)
    · refine OK_st 1 okX10_isBasket (S' := (89, [(2, .int r1924), (0, .ref 49), (1, .int v1)], [.int (0 : Int32)], hp I1944 F1945)) rfl ⟨trivial, trivial⟩ ?_
      exact OK_ri okX10_isBasket rfl rfl (Or.inr ⟨rfl, Or.inl rfl⟩)
    · refine OK_st 4 okX10_isBasket (S' := (68, [(2, .int r1924), (0, .ref 49), (1, .int v1)], [.int (nI 2), .int v1, .ref 49, .int r1924], hp I1944 F1945)) rfl ⟨trivial, trivial, trivial, trivial, trivial⟩ ?_
      refine OK_cv [.int v1, .int (nI 2)] [.int r1924] okX10_isBasket okX10_basketAt rfl rfl cl_RX10_258 rfl rfl (Nat.le_of_ble_eq_true rfl) (by decide) (Nat.le_of_ble_eq_true rfl) (kf_X10_basketAt v1 (nI 2) I1944 F1945) (fun r1947 I1948 F1949 => ?_)
      refine OK_st 1 okX10_isBasket (S' := ((if ¬ r1924 = r1947 then 88 else 74), [(2, .int r1924), (0, .ref 49), (1, .int v1)], [], hp I1948 F1949)) rfl ⟨trivial, trivial⟩ ?_
      refine OK_if (fun h1950 => ?_) (fun h1950 => ?_)
      · refine OK_st 1 okX10_isBasket (S' := (89, [(2, .int r1924), (0, .ref 49), (1, .int v1)], [.int (0 : Int32)], hp I1948 F1949)) rfl ⟨trivial, trivial⟩ ?_
        exact OK_ri okX10_isBasket rfl rfl (Or.inr ⟨rfl, Or.inl rfl⟩)
      · refine OK_st 4 okX10_isBasket (S' := (78, [(2, .int r1924), (0, .ref 49), (1, .int v1)], [.int (nI 3), .int v1, .ref 49, .int r1924], hp I1948 F1949)) rfl ⟨trivial, trivial, trivial, trivial, trivial⟩ ?_
        refine OK_cv [.int v1, .int (nI 3)] [.int r1924] okX10_isBasket okX10_basketAt rfl rfl cl_RX10_258 rfl rfl (Nat.le_of_ble_eq_true rfl) (by decide) (Nat.le_of_ble_eq_true rfl) (kf_X10_basketAt v1 (nI 3) I1948 F1949) (fun r1951 I1952 F1953 => ?_)
        refine OK_st 1 okX10_isBasket (S' := ((if ¬ r1924 = r1951 then 88 else 84), [(2, .int r1924), (0, .ref 49), (1, .int v1)], [], hp I1952 F1953)) rfl ⟨trivial, trivial⟩ ?_
        refine OK_if (fun h1954 => ?_) (fun h1954 => ?_)
        · refine OK_st 1 okX10_isBasket (S' := (89, [(2, .int r1924), (0, .ref 49), (1, .int v1)], [.int (0 : Int32)], hp I1952 F1953)) rfl ⟨trivial, trivial⟩ ?_
          exact OK_ri okX10_isBasket rfl rfl (Or.inr ⟨rfl, Or.inl rfl⟩)
        · refine OK_st 2 okX10_isBasket (S' := (89, [(2, .int r1924), (0, .ref 49), (1, .int v1)], [.int (1 : Int32)], hp I1952 F1953)) rfl ⟨trivial, trivial, trivial⟩ ?_
          exact OK_ri okX10_isBasket rfl rfl (Or.inr ⟨rfl, Or.inr rfl⟩)

def f_X10_timesOf_4 (v0 : Int32) (ko : Int32 → Int32 → AI → AF → AQ) : Nat → Int32 → Int32 → AI → AF → AQ
  | 0, _, _, _, _ => none
  | n + 1, v1, v2, I, F =>
    if (nI 6) ≤ v2 then
      ko v1 v2 I F
    else
      ab_bd (f_X10_times v0 v2 I F) (fun r1961 I1962 F1963 =>
        f_X10_timesOf_4 v0 ko n (v1 + r1961) (v2 + (1 : Int32)) I1962 F1963)
set_option maxRecDepth 20000 in
set_option maxHeartbeats 4000000 in
theorem kf_X10_timesOf_4 (v0 : Int32) (ko : Int32 → Int32 → AI → AF → AQ) (hko : ∀ v1 v2 I F, OK 1 mX10_timesOf true (ko v1 v2 I F) (24, [(0, .int v0), (1, .int v1), (2, .int v2)], [], hp I F)) : ∀ n v1 v2 I F, OK 1 mX10_timesOf true (f_X10_timesOf_4 v0 ko n v1 v2 I F) (4, [(0, .int v0), (1, .int v1), (2, .int v2)], [], hp I F) := by
  intro n
  induction n with
  | zero =>
    intro v1 v2 I F
    exact OK_no
  | succ n ih =>
    intro v1 v2 I F
    rw [f_X10_timesOf_4]
    refine OK_st 3 okX10_timesOf (S' := ((if (nI 6) ≤ v2 then 24 else 10), [(0, .int v0), (1, .int v1), (2, .int v2)], [], hp I F)) rfl ⟨trivial, trivial, trivial, trivial⟩ ?_
    refine OK_if (fun h1960 => ?_) (fun h1960 => ?_)
    · exact hko v1 v2 I F
    · refine OK_st 3 okX10_timesOf (S' := (13, [(0, .int v0), (1, .int v1), (2, .int v2)], [.int v2, .int v0, .int v1], hp I F)) rfl ⟨trivial, trivial, trivial, trivial⟩ ?_
      refine OK_cs [.int v0, .int v2] [.int v1] okX10_timesOf okX10_times rfl rfl cl_RX10_252 (Nat.le_of_ble_eq_true rfl) (by decide) (Nat.le_of_ble_eq_true rfl) (kf_X10_times v0 v2 I F) (fun r1961 I1962 F1963 => ?_)
      refine OK_st 4 okX10_timesOf (S' := (4, [(2, .int (v2 + (1 : Int32))), (1, .int (v1 + r1961)), (0, .int v0)], [], hp I1962 F1963)) rfl ⟨trivial, (by decide), (by decide), trivial, trivial⟩ ?_
      refine OK_pk [2, 1, 0] rfl ?_
      exact ih (v1 + r1961) (v2 + (1 : Int32)) I1962 F1963

def f_X10_timesOf (v0 : Int32) (I : AI) (F : AF) : AQ :=
  f_X10_timesOf_4 v0 (fun v1_1964 v2_1965 I1966 F1967 =>
    some (v1_1964, I1966, F1967)) ab_fu (0 : Int32) (0 : Int32) I F
set_option maxRecDepth 20000 in
set_option maxHeartbeats 4000000 in
theorem kf_X10_timesOf (v0 : Int32) (I : AI) (F : AF) : OK 1 mX10_timesOf true (f_X10_timesOf v0 I F) (0, [(0, .int v0)], [], hp I F) := by
  rw [f_X10_timesOf]
  refine OK_st 4 okX10_timesOf (S' := (4, [(2, .int (0 : Int32)), (1, .int (0 : Int32)), (0, .int v0)], [], hp I F)) rfl ⟨trivial, (by decide), trivial, (by decide), trivial⟩ ?_
  refine OK_pk [2, 1, 0] rfl ?_
  refine kf_X10_timesOf_4 v0 _ (fun v1_1964 v2_1965 I1966 F1967 => ?_) ab_fu (0 : Int32) (0 : Int32) I F
  refine OK_st 1 okX10_timesOf (S' := (25, [(0, .int v0), (1, .int v1_1964), (2, .int v2_1965)], [.int v1_1964], hp I1966 F1967)) rfl ⟨trivial, trivial⟩ ?_
  exact OK_ri okX10_timesOf rfl rfl (Or.inl rfl)

def f_X10_isAhead_2 (v0 : Int32) (v1 : Int32) (ko : Int32 → AI → AF → AQ) : Nat → Int32 → AI → AF → AQ
  | 0, _, _, _ => none
  | n + 1, v2, I, F =>
    if (nI 6) ≤ v2 then
      ko v2 I F
    else
      ab_bd (f_X10_times v0 v2 I F) (fun r1980 I1981 F1982 =>
        ab_bd (f_X10_times v1 v2 I1981 F1982) (fun r1983 I1984 F1985 =>
          if r1980 = r1983 then
            f_X10_isAhead_2 v0 v1 ko n (v2 + (1 : Int32)) I1984 F1985
          else
            if r1980 ≤ 0 then
              some ((0 : Int32), I1984, F1985)
            else
              if r1983 = 0 then
                some ((1 : Int32), I1984, F1985)
              else
                if r1983 ≤ r1980 then
                  some ((0 : Int32), I1984, F1985)
                else
                  some ((1 : Int32), I1984, F1985)))
set_option maxRecDepth 20000 in
set_option maxHeartbeats 4000000 in
theorem kf_X10_isAhead_2 (v0 : Int32) (v1 : Int32) (ko : Int32 → AI → AF → AQ) (hko : ∀ v2 I F, OK 1 mX10_isAhead true (ko v2 I F) (54, [(0, .int v0), (1, .int v1), (2, .int v2)], [], hp I F)) : ∀ n v2 I F, OK 1 mX10_isAhead true (f_X10_isAhead_2 v0 v1 ko n v2 I F) (2, [(0, .int v0), (1, .int v1), (2, .int v2)], [], hp I F) := by
  intro n
  induction n with
  | zero =>
    intro v2 I F
    exact OK_no
  | succ n ih =>
    intro v2 I F
    rw [f_X10_isAhead_2]
    refine OK_st 3 okX10_isAhead (S' := ((if (nI 6) ≤ v2 then 54 else 8), [(0, .int v0), (1, .int v1), (2, .int v2)], [], hp I F)) rfl ⟨trivial, trivial, trivial, trivial⟩ ?_
    refine OK_if (fun h1979 => ?_) (fun h1979 => ?_)
    · exact hko v2 I F
    · refine OK_st 2 okX10_isAhead (S' := (10, [(0, .int v0), (1, .int v1), (2, .int v2)], [.int v2, .int v0], hp I F)) rfl ⟨trivial, trivial, trivial⟩ ?_
      refine OK_cs [.int v0, .int v2] [] okX10_isAhead okX10_times rfl rfl cl_RX10_252 (Nat.le_of_ble_eq_true rfl) (by decide) (Nat.le_of_ble_eq_true rfl) (kf_X10_times v0 v2 I F) (fun r1980 I1981 F1982 => ?_)
      refine OK_st 3 okX10_isAhead (S' := (16, [(3, .int r1980), (0, .int v0), (1, .int v1), (2, .int v2)], [.int v2, .int v1], hp I1981 F1982)) rfl ⟨(by decide), trivial, trivial, trivial⟩ ?_
      refine OK_cs [.int v1, .int v2] [] okX10_isAhead okX10_times rfl rfl cl_RX10_252 (Nat.le_of_ble_eq_true rfl) (by decide) (Nat.le_of_ble_eq_true rfl) (kf_X10_times v1 v2 I1981 F1982) (fun r1983 I1984 F1985 => ?_)
      refine OK_st 4 okX10_isAhead (S' := ((if r1980 = r1983 then 48 else 27), [(4, .int r1983), (3, .int r1980), (0, .int v0), (1, .int v1), (2, .int v2)], [], hp I1984 F1985)) rfl ⟨(by decide), trivial, trivial, trivial, trivial⟩ ?_
      refine OK_if (fun h1986 => ?_) (fun h1986 => ?_)
      · refine OK_st 2 okX10_isAhead (S' := (2, [(2, .int (v2 + (1 : Int32))), (4, .int r1983), (3, .int r1980), (0, .int v0), (1, .int v1)], [], hp I1984 F1985)) rfl ⟨(by decide), trivial, trivial⟩ ?_
        refine OK_pk [3, 4, 0] rfl ?_
        exact ih (v2 + (1 : Int32)) I1984 F1985
      · refine OK_st 2 okX10_isAhead (S' := ((if r1980 ≤ 0 then 46 else 31), [(4, .int r1983), (3, .int r1980), (0, .int v0), (1, .int v1), (2, .int v2)], [], hp I1984 F1985)) rfl ⟨trivial, trivial, trivial⟩ ?_
        refine OK_if (fun h1987 => ?_) (fun h1987 => ?_)
        · refine OK_st 1 okX10_isAhead (S' := (47, [(4, .int r1983), (3, .int r1980), (0, .int v0), (1, .int v1), (2, .int v2)], [.int (0 : Int32)], hp I1984 F1985)) rfl ⟨trivial, trivial⟩ ?_
          exact OK_ri okX10_isAhead rfl rfl (Or.inr ⟨rfl, Or.inl rfl⟩)
        · refine OK_st 2 okX10_isAhead (S' := ((if r1983 = 0 then 42 else 36), [(4, .int r1983), (3, .int r1980), (0, .int v0), (1, .int v1), (2, .int v2)], [], hp I1984 F1985)) rfl ⟨trivial, trivial, trivial⟩ ?_
          refine OK_if (fun h1988 => ?_) (fun h1988 => ?_)
          · refine OK_st 2 okX10_isAhead (S' := (47, [(4, .int r1983), (3, .int r1980), (0, .int v0), (1, .int v1), (2, .int v2)], [.int (1 : Int32)], hp I1984 F1985)) rfl ⟨trivial, trivial, trivial⟩ ?_
            exact OK_ri okX10_isAhead rfl rfl (Or.inr ⟨rfl, Or.inr rfl⟩)
          · refine OK_st 3 okX10_isAhead (S' := ((if r1983 ≤ r1980 then 46 else 42), [(4, .int r1983), (3, .int r1980), (0, .int v0), (1, .int v1), (2, .int v2)], [], hp I1984 F1985)) rfl ⟨trivial, trivial, trivial, trivial⟩ ?_
            refine OK_if (fun h1989 => ?_) (fun h1989 => ?_)
            · refine OK_st 1 okX10_isAhead (S' := (47, [(4, .int r1983), (3, .int r1980), (0, .int v0), (1, .int v1), (2, .int v2)], [.int (0 : Int32)], hp I1984 F1985)) rfl ⟨trivial, trivial⟩ ?_
              exact OK_ri okX10_isAhead rfl rfl (Or.inr ⟨rfl, Or.inl rfl⟩)
            · refine OK_st 2 okX10_isAhead (S' := (47, [(4, .int r1983), (3, .int r1980), (0, .int v0), (1, .int v1), (2, .int v2)], [.int (1 : Int32)], hp I1984 F1985)) rfl ⟨trivial, trivial, trivial⟩ ?_
              exact OK_ri okX10_isAhead rfl rfl (Or.inr ⟨rfl, Or.inr rfl⟩)

def f_X10_isAhead (v0 : Int32) (v1 : Int32) (I : AI) (F : AF) : AQ :=
  f_X10_isAhead_2 v0 v1 (fun v2_1990 I1991 F1992 =>
    some ((0 : Int32), I1991, F1992)) ab_fu (0 : Int32) I F
set_option maxRecDepth 20000 in
set_option maxHeartbeats 4000000 in
theorem kf_X10_isAhead (v0 : Int32) (v1 : Int32) (I : AI) (F : AF) : OK 1 mX10_isAhead true (f_X10_isAhead v0 v1 I F) (0, [(0, .int v0), (1, .int v1)], [], hp I F) := by
  rw [f_X10_isAhead]
  refine OK_st 2 okX10_isAhead (S' := (2, [(2, .int (0 : Int32)), (0, .int v0), (1, .int v1)], [], hp I F)) rfl ⟨trivial, (by decide), trivial⟩ ?_
  refine OK_pk [1, 2, 0] rfl ?_
  refine kf_X10_isAhead_2 v0 v1 _ (fun v2_1990 I1991 F1992 => ?_) ab_fu (0 : Int32) I F
  refine OK_st 1 okX10_isAhead (S' := (55, [(0, .int v0), (1, .int v1), (2, .int v2_1990)], [.int (0 : Int32)], hp I1991 F1992)) rfl ⟨trivial, trivial⟩ ?_
  exact OK_ri okX10_isAhead rfl rfl (Or.inr ⟨rfl, Or.inl rfl⟩)

def f_X10_findBasket_j66_7 (bk ko : Int32 → AI → AF → AQ) (v1 : Int32) (s0 : Int32) (I : AI) (F : AF) : AQ :=
  if s0 < 0 then
    ab_lt (va_up I 35 v1) (fun I1976 =>
      bk (v1 + (1 : Int32)) I1976 F)
  else
    if ¬ s0 = 0 then
      ab_lt (va_up I 35 (I 35)) (fun I1978 =>
        bk (v1 + (1 : Int32)) I1978 F)
    else
      ab_bd (f_X10_isAhead v1 (I 35) I F) (fun r1993 I1994 F1995 =>
        if r1993 = 0 then
          ab_lt (va_up I1994 35 (I1994 35)) (fun I1997 =>
            bk (v1 + (1 : Int32)) I1997 F1995)
        else
          ab_lt (va_up I1994 35 v1) (fun I1998 =>
            bk (v1 + (1 : Int32)) I1998 F1995))
set_option maxRecDepth 20000 in
set_option maxHeartbeats 4000000 in
theorem kf_X10_findBasket_j66_7 (bk ko : Int32 → AI → AF → AQ) (v1 : Int32) (hbk : ∀ v1 I F, OK 4 mX10_findBasket false (bk v1 I F) (7, [(0, .ref 49), (1, .int v1)], [], hp I F)) (hko : ∀ v1 I F, OK 4 mX10_findBasket false (ko v1 I F) (104, [(0, .ref 49), (1, .int v1)], [], hp I F)) (s0 : Int32) (I : AI) (F : AF) : OK 4 mX10_findBasket false (f_X10_findBasket_j66_7 bk ko v1 s0 I F) (66, [(0, .ref 49), (1, .int v1)], [.int s0], hp I F) := by
  rw [f_X10_findBasket_j66_7]
  refine OK_st 4 okX10_findBasket (S' := ((if s0 < 0 then 87 else 72), [(2, .int s0), (0, .ref 49), (1, .int v1)], [.ref 49], hp I F)) rfl ⟨(by decide), trivial, trivial, trivial, trivial⟩ ?_
  refine OK_if (fun h1975 => ?_) (fun h1975 => ?_)
  · refine OK_st 5 okX10_findBasket (S' := (7, [(1, .int (v1 + (1 : Int32))), (2, .int s0), (0, .ref 49)], [], hp (va_up I 35 v1) F)) rfl ⟨trivial, trivial, trivial, (by decide), trivial, trivial⟩ ?_
    refine OK_lt (fun I1976 => (7, [(1, .int (v1 + (1 : Int32))), (2, .int s0), (0, .ref 49)], [], hp I1976 F)) (fun I1976 => ?_)
    refine OK_pk [2, 0] rfl ?_
    exact hbk (v1 + (1 : Int32)) I1976 F
  · refine OK_st 2 okX10_findBasket (S' := ((if ¬ s0 = 0 then 91 else 76), [(2, .int s0), (0, .ref 49), (1, .int v1)], [.ref 49], hp I F)) rfl ⟨trivial, trivial, trivial⟩ ?_
    refine OK_if (fun h1977 => ?_) (fun h1977 => ?_)
    · refine OK_st 5 okX10_findBasket (S' := (7, [(1, .int (v1 + (1 : Int32))), (2, .int s0), (0, .ref 49)], [], hp (va_up I 35 (I 35)) F)) rfl ⟨trivial, trivial, trivial, (by decide), trivial, trivial⟩ ?_
      refine OK_lt (fun I1978 => (7, [(1, .int (v1 + (1 : Int32))), (2, .int s0), (0, .ref 49)], [], hp I1978 F)) (fun I1978 => ?_)
      refine OK_pk [2, 0] rfl ?_
      exact hbk (v1 + (1 : Int32)) I1978 F
    · refine OK_st 3 okX10_findBasket (S' := (81, [(2, .int s0), (0, .ref 49), (1, .int v1)], [.int (I 35), .int v1, .ref 49], hp I F)) rfl ⟨trivial, trivial, trivial, trivial⟩ ?_
      refine OK_cs [.int v1, .int (I 35)] [.ref 49] okX10_findBasket okX10_isAhead rfl rfl cl_RX10_275 (Nat.le_of_ble_eq_true rfl) (by decide) (Nat.le_of_ble_eq_true rfl) (kf_X10_isAhead v1 (I 35) I F) (fun r1993 I1994 F1995 => ?_)
      refine OK_st 1 okX10_findBasket (S' := ((if r1993 = 0 then 91 else 87), [(2, .int s0), (0, .ref 49), (1, .int v1)], [.ref 49], hp I1994 F1995)) rfl ⟨trivial, trivial⟩ ?_
      refine OK_if (fun h1996 => ?_) (fun h1996 => ?_)
      · refine OK_st 5 okX10_findBasket (S' := (7, [(1, .int (v1 + (1 : Int32))), (2, .int s0), (0, .ref 49)], [], hp (va_up I1994 35 (I1994 35)) F1995)) rfl ⟨trivial, trivial, trivial, (by decide), trivial, trivial⟩ ?_
        refine OK_lt (fun I1997 => (7, [(1, .int (v1 + (1 : Int32))), (2, .int s0), (0, .ref 49)], [], hp I1997 F1995)) (fun I1997 => ?_)
        refine OK_pk [2, 0] rfl ?_
        exact hbk (v1 + (1 : Int32)) I1997 F1995
      · refine OK_st 5 okX10_findBasket (S' := (7, [(1, .int (v1 + (1 : Int32))), (2, .int s0), (0, .ref 49)], [], hp (va_up I1994 35 v1) F1995)) rfl ⟨trivial, trivial, trivial, (by decide), trivial, trivial⟩ ?_
        refine OK_lt (fun I1998 => (7, [(1, .int (v1 + (1 : Int32))), (2, .int s0), (0, .ref 49)], [], hp I1998 F1995)) (fun I1998 => ?_)
        refine OK_pk [2, 0] rfl ?_
        exact hbk (v1 + (1 : Int32)) I1998 F1995

def f_X10_findBasket_j45_7 (bk ko : Int32 → AI → AF → AQ) (v1 : Int32) (s0 : Int32) (I : AI) (F : AF) : AQ :=
  if ¬ s0 = 0 then
    f_X10_findBasket_j66_7 (bk) ko v1 s0 I F
  else
    ab_bd (f_X10_limbsOf v1 I F) (fun r1999 I2000 F2001 =>
      ab_bd (f_X10_limbsOf (I2000 35) I2000 F2001) (fun r2002 I2003 F2004 =>
        f_X10_findBasket_j66_7 (bk) ko v1 (r1999 - r2002) I2003 F2004))
set_option maxRecDepth 20000 in
set_option maxHeartbeats 4000000 in
theorem kf_X10_findBasket_j45_7 (bk ko : Int32 → AI → AF → AQ) (v1 : Int32) (hbk : ∀ v1 I F, OK 4 mX10_findBasket false (bk v1 I F) (7, [(0, .ref 49), (1, .int v1)], [], hp I F)) (hko : ∀ v1 I F, OK 4 mX10_findBasket false (ko v1 I F) (104, [(0, .ref 49), (1, .int v1)], [], hp I F)) (s0 : Int32) (I : AI) (F : AF) : OK 4 mX10_findBasket false (f_X10_findBasket_j45_7 bk ko v1 s0 I F) (45, [(0, .ref 49), (1, .int v1)], [.int s0], hp I F) := by
  rw [f_X10_findBasket_j45_7]
  refine OK_st 3 okX10_findBasket (S' := ((if ¬ s0 = 0 then 65 else 50), [(2, .int s0), (0, .ref 49), (1, .int v1)], [], hp I F)) rfl ⟨(by decide), trivial, trivial, trivial⟩ ?_
  refine OK_if (fun h1974 => ?_) (fun h1974 => ?_)
  · refine OK_st 1 okX10_findBasket (S' := (66, [(2, .int s0), (0, .ref 49), (1, .int v1)], [.int s0], hp I F)) rfl ⟨trivial, trivial⟩ ?_
    refine OK_pk [1, 2] rfl ?_
    exact kf_X10_findBasket_j66_7 (bk) ko v1 hbk hko s0 I F
  · refine OK_st 1 okX10_findBasket (S' := (51, [(2, .int s0), (0, .ref 49), (1, .int v1)], [.int v1], hp I F)) rfl ⟨trivial, trivial⟩ ?_
    refine OK_cs [.int v1] [] okX10_findBasket okX10_limbsOf rfl rfl cl_RX10_261 (Nat.le_of_ble_eq_true rfl) (by decide) (Nat.le_of_ble_eq_true rfl) (kf_X10_limbsOf v1 I F) (fun r1999 I2000 F2001 => ?_)
    refine OK_st 2 okX10_findBasket (S' := (58, [(2, .int s0), (0, .ref 49), (1, .int v1)], [.int (I2000 35), .int r1999], hp I2000 F2001)) rfl ⟨trivial, trivial, trivial⟩ ?_
    refine OK_cs [.int (I2000 35)] [.int r1999] okX10_findBasket okX10_limbsOf rfl rfl cl_RX10_261 (Nat.le_of_ble_eq_true rfl) (by decide) (Nat.le_of_ble_eq_true rfl) (kf_X10_limbsOf (I2000 35) I2000 F2001) (fun r2002 I2003 F2004 => ?_)
    refine OK_st 2 okX10_findBasket (S' := (66, [(2, .int s0), (0, .ref 49), (1, .int v1)], [.int (r1999 - r2002)], hp I2003 F2004)) rfl ⟨trivial, trivial, trivial⟩ ?_
    refine OK_pk [1, 2] rfl ?_
    exact kf_X10_findBasket_j66_7 (bk) ko v1 hbk hko (r1999 - r2002) I2003 F2004

def f_X10_findBasket_7 (ko : Int32 → AI → AF → AQ) : Nat → Int32 → AI → AF → AQ
  | 0, _, _, _ => none
  | n + 1, v1, I, F =>
    if (nI 15625) ≤ v1 then
      ko v1 I F
    else
      ab_bd (f_X10_isBasket v1 I F) (fun r1955 I1956 F1957 =>
        if r1955 = 0 then
          f_X10_findBasket_7 ko n (v1 + (1 : Int32)) I1956 F1957
        else
          if 0 ≤ (I1956 35) then
            ab_bd (f_X10_timesOf v1 I1956 F1957) (fun r1968 I1969 F1970 =>
              ab_bd (f_X10_timesOf (I1969 35) I1969 F1970) (fun r1971 I1972 F1973 =>
                f_X10_findBasket_j45_7 (f_X10_findBasket_7 ko n) ko v1 (r1968 - r1971) I1972 F1973))
          else
            f_X10_findBasket_j45_7 (f_X10_findBasket_7 ko n) ko v1 (-1 : Int32) I1956 F1957)
set_option maxRecDepth 20000 in
set_option maxHeartbeats 4000000 in
theorem kf_X10_findBasket_7 (ko : Int32 → AI → AF → AQ) (hko : ∀ v1 I F, OK 4 mX10_findBasket false (ko v1 I F) (104, [(0, .ref 49), (1, .int v1)], [], hp I F)) : ∀ n v1 I F, OK 4 mX10_findBasket false (f_X10_findBasket_7 ko n v1 I F) (7, [(0, .ref 49), (1, .int v1)], [], hp I F) := by
  intro n
  induction n with
  | zero =>
    intro v1 I F
    exact OK_no
  | succ n ih =>
    intro v1 I F
    rw [f_X10_findBasket_7]
    refine OK_st 3 okX10_findBasket (S' := ((if (nI 15625) ≤ v1 then 104 else 14), [(0, .ref 49), (1, .int v1)], [], hp I F)) rfl ⟨trivial, trivial, trivial, trivial⟩ ?_
    refine OK_if (fun h1885 => ?_) (fun h1885 => ?_)
    · exact hko v1 I F
    · refine OK_st 2 okX10_findBasket (S' := (16, [(0, .ref 49), (1, .int v1)], [.int v1, .ref 49], hp I F)) rfl ⟨trivial, trivial, trivial⟩ ?_
      refine OK_cv [.int v1] [] okX10_findBasket okX10_isBasket rfl rfl cl_RX10_269 rfl rfl (Nat.le_of_ble_eq_true rfl) (by decide) (Nat.le_of_ble_eq_true rfl) (kf_X10_isBasket v1 I F) (fun r1955 I1956 F1957 => ?_)
      refine OK_st 1 okX10_findBasket (S' := ((if r1955 = 0 then 98 else 22), [(0, .ref 49), (1, .int v1)], [], hp I1956 F1957)) rfl ⟨trivial, trivial⟩ ?_
      refine OK_if (fun h1958 => ?_) (fun h1958 => ?_)
      · refine OK_st 2 okX10_findBasket (S' := (7, [(1, .int (v1 + (1 : Int32))), (0, .ref 49)], [], hp I1956 F1957)) rfl ⟨(by decide), trivial, trivial⟩ ?_
        refine OK_pk [1, 0] rfl ?_
        exact ih (v1 + (1 : Int32)) I1956 F1957
      · refine OK_st 3 okX10_findBasket (S' := ((if 0 ≤ (I1956 35) then 33 else 29), [(0, .ref 49), (1, .int v1)], [], hp I1956 F1957)) rfl ⟨trivial, trivial, trivial, trivial⟩ ?_
        refine OK_if (fun h1959 => ?_) (fun h1959 => ?_)
        · refine OK_st 1 okX10_findBasket (S' := (34, [(0, .ref 49), (1, .int v1)], [.int v1], hp I1956 F1957)) rfl ⟨trivial, trivial⟩ ?_
          refine OK_cs [.int v1] [] okX10_findBasket okX10_timesOf rfl rfl cl_RX10_272 (Nat.le_of_ble_eq_true rfl) (by decide) (Nat.le_of_ble_eq_true rfl) (kf_X10_timesOf v1 I1956 F1957) (fun r1968 I1969 F1970 => ?_)
          refine OK_st 2 okX10_findBasket (S' := (41, [(0, .ref 49), (1, .int v1)], [.int (I1969 35), .int r1968], hp I1969 F1970)) rfl ⟨trivial, trivial, trivial⟩ ?_
          refine OK_cs [.int (I1969 35)] [.int r1968] okX10_findBasket okX10_timesOf rfl rfl cl_RX10_272 (Nat.le_of_ble_eq_true rfl) (by decide) (Nat.le_of_ble_eq_true rfl) (kf_X10_timesOf (I1969 35) I1969 F1970) (fun r1971 I1972 F1973 => ?_)
          refine OK_st 1 okX10_findBasket (S' := (45, [(0, .ref 49), (1, .int v1)], [.int (r1968 - r1971)], hp I1972 F1973)) rfl ⟨trivial, trivial⟩ ?_
          exact kf_X10_findBasket_j45_7 (f_X10_findBasket_7 ko n) ko v1 ih hko (r1968 - r1971) I1972 F1973
        · refine OK_st 2 okX10_findBasket (S' := (45, [(0, .ref 49), (1, .int v1)], [.int (-1 : Int32)], hp I1956 F1957)) rfl ⟨trivial, trivial, trivial⟩ ?_
          exact kf_X10_findBasket_j45_7 (f_X10_findBasket_7 ko n) ko v1 ih hko (-1 : Int32) I1956 F1957

def f_X10_findBasket (I : AI) (F : AF) : AQ :=
  ab_lt (va_up I 35 (-1 : Int32)) (fun I1884 =>
    f_X10_findBasket_7 (fun v1_2005 I2006 F2007 =>
      some (0, I2006, F2007)) ab_fu (1 : Int32) I1884 F)
set_option maxRecDepth 20000 in
set_option maxHeartbeats 4000000 in
theorem kf_X10_findBasket (I : AI) (F : AF) : OK 4 mX10_findBasket false (f_X10_findBasket I F) (0, [(0, .ref 49)], [], hp I F) := by
  rw [f_X10_findBasket]
  refine OK_st 5 okX10_findBasket (S' := (7, [(1, .int (1 : Int32)), (0, .ref 49)], [], hp (va_up I 35 (-1 : Int32)) F)) rfl ⟨trivial, trivial, trivial, trivial, (by decide), trivial⟩ ?_
  refine OK_lt (fun I1884 => (7, [(1, .int (1 : Int32)), (0, .ref 49)], [], hp I1884 F)) (fun I1884 => ?_)
  refine OK_pk [1, 0] rfl ?_
  refine kf_X10_findBasket_7 _ (fun v1_2005 I2006 F2007 => ?_) ab_fu (1 : Int32) I1884 F
  exact OK_rv okX10_findBasket rfl rfl rfl

def f_X10_basket_j16 (v1 : Int32) (I : AI) (F : AF) : AQ :=
  ab_bd (f_X10_findBasket I F) (fun r2008 I2009 F2010 =>
    if 0 ≤ (I2009 35) then
      if ¬ v1 = (-1 : Int32) then
        ab_bd (f_X10_times (I2009 35) v1 I2009 F2010) (fun r2013 I2014 F2015 =>
          some (r2013, I2014, F2015))
      else
        ab_bd (f_X10_timesOf (I2009 35) I2009 F2010) (fun r2016 I2017 F2018 =>
          some (r2016, I2017, F2018))
    else
      some ((-1 : Int32), I2009, F2010))
set_option maxRecDepth 20000 in
set_option maxHeartbeats 4000000 in
theorem kf_X10_basket_j16 (v1 : Int32) (I : AI) (F : AF) : OK 5 mX10_basket true (f_X10_basket_j16 v1 I F) (16, [(0, .ref 49), (1, .int v1)], [], hp I F) := by
  rw [f_X10_basket_j16]
  refine OK_st 1 okX10_basket (S' := (17, [(0, .ref 49), (1, .int v1)], [.ref 49], hp I F)) rfl ⟨trivial, trivial⟩ ?_
  refine OK_cv [] [] okX10_basket okX10_findBasket rfl rfl cl_RX10_278 rfl rfl (Nat.le_of_ble_eq_true rfl) (by decide) (Nat.le_of_ble_eq_true rfl) (kf_X10_findBasket I F) (fun r2008 I2009 F2010 => ?_)
  refine OK_st 3 okX10_basket (S' := ((if 0 ≤ (I2009 35) then 31 else 27), [(0, .ref 49), (1, .int v1)], [], hp I2009 F2010)) rfl ⟨trivial, trivial, trivial, trivial⟩ ?_
  refine OK_if (fun h2011 => ?_) (fun h2011 => ?_)
  · refine OK_st 3 okX10_basket (S' := ((if ¬ v1 = (-1 : Int32) then 46 else 36), [(0, .ref 49), (1, .int v1)], [], hp I2009 F2010)) rfl ⟨trivial, trivial, trivial, trivial⟩ ?_
    refine OK_if (fun h2012 => ?_) (fun h2012 => ?_)
    · refine OK_st 3 okX10_basket (S' := (51, [(0, .ref 49), (1, .int v1)], [.int v1, .int (I2009 35)], hp I2009 F2010)) rfl ⟨trivial, trivial, trivial, trivial⟩ ?_
      refine OK_cs [.int (I2009 35), .int v1] [] okX10_basket okX10_times rfl rfl cl_RX10_252 (Nat.le_of_ble_eq_true rfl) (by decide) (Nat.le_of_ble_eq_true rfl) (kf_X10_times (I2009 35) v1 I2009 F2010) (fun r2013 I2014 F2015 => ?_)
      exact OK_ri okX10_basket rfl rfl (Or.inl rfl)
    · refine OK_st 2 okX10_basket (S' := (40, [(0, .ref 49), (1, .int v1)], [.int (I2009 35)], hp I2009 F2010)) rfl ⟨trivial, trivial, trivial⟩ ?_
      refine OK_cs [.int (I2009 35)] [] okX10_basket okX10_timesOf rfl rfl cl_RX10_272 (Nat.le_of_ble_eq_true rfl) (by decide) (Nat.le_of_ble_eq_true rfl) (kf_X10_timesOf (I2009 35) I2009 F2010) (fun r2016 I2017 F2018 => ?_)
      refine OK_st 1 okX10_basket (S' := (54, [(0, .ref 49), (1, .int v1)], [.int r2016], hp I2017 F2018)) rfl ⟨trivial, trivial⟩ ?_
      exact OK_ri okX10_basket rfl rfl (Or.inl rfl)
  · refine OK_st 2 okX10_basket (S' := (54, [(0, .ref 49), (1, .int v1)], [.int (-1 : Int32)], hp I2009 F2010)) rfl ⟨trivial, trivial, trivial⟩ ?_
    exact OK_ri okX10_basket rfl rfl (Or.inl rfl)

def f_X10_basket (v1 : Int32) (I : AI) (F : AF) : AQ :=
  if v1 = (-1 : Int32) then
    f_X10_basket_j16 v1 I F
  else
    ab_bd (f_X10_isLimb v1 I F) (fun r2019 I2020 F2021 =>
      if ¬ r2019 = 0 then
        f_X10_basket_j16 v1 I2020 F2021
      else
        some ((-1000000001 : Int32), I2020, F2021))
set_option maxRecDepth 20000 in
set_option maxHeartbeats 4000000 in
theorem kf_X10_basket (v1 : Int32) (I : AI) (F : AF) : OK 5 mX10_basket true (f_X10_basket v1 I F) (0, [(0, .ref 49), (1, .int v1)], [], hp I F) := by
  rw [f_X10_basket]
  refine OK_st 3 okX10_basket (S' := ((if v1 = (-1 : Int32) then 16 else 5), [(0, .ref 49), (1, .int v1)], [], hp I F)) rfl ⟨trivial, trivial, trivial, trivial⟩ ?_
  refine OK_if (fun h1883 => ?_) (fun h1883 => ?_)
  · exact kf_X10_basket_j16 v1 I F
  · refine OK_st 2 okX10_basket (S' := (7, [(0, .ref 49), (1, .int v1)], [.int v1, .ref 49], hp I F)) rfl ⟨trivial, trivial, trivial⟩ ?_
    refine OK_cv [.int v1] [] okX10_basket okX10_isLimb rfl rfl cl_RX10_200 rfl rfl (Nat.le_of_ble_eq_true rfl) (by decide) (Nat.le_of_ble_eq_true rfl) (kf_X10_isLimb v1 I F) (fun r2019 I2020 F2021 => ?_)
    refine OK_st 1 okX10_basket (S' := ((if ¬ r2019 = 0 then 16 else 13), [(0, .ref 49), (1, .int v1)], [], hp I2020 F2021)) rfl ⟨trivial, trivial⟩ ?_
    refine OK_if (fun h2022 => ?_) (fun h2022 => ?_)
    · exact kf_X10_basket_j16 v1 I2020 F2021
    · refine OK_st 1 okX10_basket (S' := (15, [(0, .ref 49), (1, .int v1)], [.int (-1000000001 : Int32)], hp I2020 F2021)) rfl ⟨trivial, trivial⟩ ?_
      exact OK_ri okX10_basket rfl rfl (Or.inl rfl)

def f_X10_figure (v0 : Int32) (v1 : Int32) (v2 : Int32) (I : AI) (F : AF) : AQ :=
  some (((v0 >>> (((nI 3) * ((v1 - (1 : Int32)) - v2)) &&& 31)) &&& (nI 7)), I, F)
set_option maxRecDepth 20000 in
set_option maxHeartbeats 4000000 in
theorem kf_X10_figure (v0 : Int32) (v1 : Int32) (v2 : Int32) (I : AI) (F : AF) : OK 0 mX10_figure true (f_X10_figure v0 v1 v2 I F) (0, [(0, .int v0), (1, .int v1), (2, .int v2)], [], hp I F) := by
  rw [f_X10_figure]
  refine OK_st 11 okX10_figure (S' := (12, [(0, .int v0), (1, .int v1), (2, .int v2)], [.int ((v0 >>> (((nI 3) * ((v1 - (1 : Int32)) - v2)) &&& 31)) &&& (nI 7))], hp I F)) rfl ⟨trivial, trivial, trivial, trivial, trivial, trivial, trivial, trivial, trivial, trivial, trivial, trivial⟩ ?_
  exact OK_ri okX10_figure rfl rfl (Or.inl rfl)

def f_X10_isRow_5 (v1 : Int32) (v2 : Int32) (ko : Int32 → Int32 → AI → AF → AQ) : Nat → Int32 → Int32 → AI → AF → AQ
  | 0, _, _, _, _ => none
  | n + 1, v3, v4, I, F =>
    if v2 ≤ v4 then
      ko v3 v4 I F
    else
      ab_bd (f_X10_figure v1 v2 v4 I F) (fun r2027 I2028 F2029 =>
        bif ab_nz v2 then
          ab_bd (f_X10_figure v1 v2 ((v4 + (1 : Int32)) - (v4 + (1 : Int32)) / v2 * v2) I2028 F2029) (fun r2031 I2032 F2033 =>
            if (I2032 24) ≤ r2027 then
              some ((0 : Int32), I2032, F2033)
            else
              if (I2032 24) ≤ r2031 then
                some ((0 : Int32), I2032, F2033)
              else
                bif ab_vin r2027 8 then
                  bif ab_vin r2031 8 then
                    if ¬ ((F2033 44) r2027.toNatClampNeg) = ((F2033 43) r2031.toNatClampNeg) then
                      some ((0 : Int32), I2032, F2033)
                    else
                      bif ab_vin r2027 8 then
                        ab_bd (f_X10_has v3 ((F2033 43) r2027.toNatClampNeg) I2032 F2033) (fun r2040 I2041 F2042 =>
                          if r2040 = 0 then
                            bif ab_vin r2027 8 then
                              ab_lt (v3 ||| ((1 : Int32) <<< (((F2042 43) r2027.toNatClampNeg) &&& 31))) (fun x2045 =>
                                f_X10_isRow_5 v1 v2 ko n x2045 (v4 + (1 : Int32)) I2041 F2042)
                            else none
                          else
                            some ((0 : Int32), I2041, F2042))
                      else none
                  else none
                else none)
        else none)
set_option maxRecDepth 20000 in
set_option maxHeartbeats 4000000 in
theorem kf_X10_isRow_5 (v1 : Int32) (v2 : Int32) (ko : Int32 → Int32 → AI → AF → AQ) (hko : ∀ v3 v4 I F, OK 1 mX10_isRow true (ko v3 v4 I F) (102, [(0, .ref 49), (1, .int v1), (2, .int v2), (3, .int v3), (4, .int v4)], [], hp I F)) : ∀ n v3 v4 I F, OK 1 mX10_isRow true (f_X10_isRow_5 v1 v2 ko n v3 v4 I F) (5, [(0, .ref 49), (1, .int v1), (2, .int v2), (3, .int v3), (4, .int v4)], [], hp I F) := by
  intro n
  induction n with
  | zero =>
    intro v3 v4 I F
    exact OK_no
  | succ n ih =>
    intro v3 v4 I F
    rw [f_X10_isRow_5]
    refine OK_st 3 okX10_isRow (S' := ((if v2 ≤ v4 then 102 else 11), [(0, .ref 49), (1, .int v1), (2, .int v2), (3, .int v3), (4, .int v4)], [], hp I F)) rfl ⟨trivial, trivial, trivial, trivial⟩ ?_
    refine OK_if (fun h2026 => ?_) (fun h2026 => ?_)
    · exact hko v3 v4 I F
    · refine OK_st 3 okX10_isRow (S' := (15, [(0, .ref 49), (1, .int v1), (2, .int v2), (3, .int v3), (4, .int v4)], [.int v4, .int v2, .int v1], hp I F)) rfl ⟨trivial, trivial, trivial, trivial⟩ ?_
      refine OK_cs [.int v1, .int v2, .int v4] [] okX10_isRow okX10_figure rfl rfl cl_RX10_281 (Nat.le_of_ble_eq_true rfl) (by decide) (Nat.le_of_ble_eq_true rfl) (kf_X10_figure v1 v2 v4 I F) (fun r2027 I2028 F2029 => ?_)
      refine OK_gd (fun g2030 => ?_)
      refine OK_st 8 okX10_isRow (S' := (28, [(5, .int r2027), (0, .ref 49), (1, .int v1), (2, .int v2), (3, .int v3), (4, .int v4)], [.int ((v4 + (1 : Int32)) - (v4 + (1 : Int32)) / v2 * v2), .int v2, .int v1], hp I2028 F2029)) rfl ⟨(by decide), trivial, trivial, trivial, trivial, trivial, trivial, (ab_nzo g2030), trivial⟩ ?_
      refine OK_cs [.int v1, .int v2, .int ((v4 + (1 : Int32)) - (v4 + (1 : Int32)) / v2 * v2)] [] okX10_isRow okX10_figure rfl rfl cl_RX10_281 (Nat.le_of_ble_eq_true rfl) (by decide) (Nat.le_of_ble_eq_true rfl) (kf_X10_figure v1 v2 ((v4 + (1 : Int32)) - (v4 + (1 : Int32)) / v2 * v2) I2028 F2029) (fun r2031 I2032 F2033 => ?_)
      refine OK_st 5 okX10_isRow (S' := ((if (I2032 24) ≤ r2027 then 82 else 42), [(6, .int r2031), (5, .int r2027), (0, .ref 49), (1, .int v1), (2, .int v2), (3, .int v3), (4, .int v4)], [], hp I2032 F2033)) rfl ⟨(by decide), trivial, trivial, trivial, trivial, trivial⟩ ?_
      refine OK_if (fun h2034 => ?_) (fun h2034 => ?_)
      · refine OK_st 1 okX10_isRow (S' := (83, [(6, .int r2031), (5, .int r2027), (0, .ref 49), (1, .int v1), (2, .int v2), (3, .int v3), (4, .int v4)], [.int (0 : Int32)], hp I2032 F2033)) rfl ⟨trivial, trivial⟩ ?_
        exact OK_ri okX10_isRow rfl rfl (Or.inr ⟨rfl, Or.inl rfl⟩)
      · refine OK_st 4 okX10_isRow (S' := ((if (I2032 24) ≤ r2031 then 82 else 51), [(6, .int r2031), (5, .int r2027), (0, .ref 49), (1, .int v1), (2, .int v2), (3, .int v3), (4, .int v4)], [], hp I2032 F2033)) rfl ⟨trivial, trivial, trivial, trivial, trivial⟩ ?_
        refine OK_if (fun h2035 => ?_) (fun h2035 => ?_)
        · refine OK_st 1 okX10_isRow (S' := (83, [(6, .int r2031), (5, .int r2027), (0, .ref 49), (1, .int v1), (2, .int v2), (3, .int v3), (4, .int v4)], [.int (0 : Int32)], hp I2032 F2033)) rfl ⟨trivial, trivial⟩ ?_
          exact OK_ri okX10_isRow rfl rfl (Or.inr ⟨rfl, Or.inl rfl⟩)
        · refine OK_gd (fun g2036 => ?_)
          refine OK_gd (fun g2037 => ?_)
          refine OK_st 9 okX10_isRow (S' := ((if ¬ ((F2033 44) r2027.toNatClampNeg) = ((F2033 43) r2031.toNatClampNeg) then 82 else 68), [(6, .int r2031), (5, .int r2027), (0, .ref 49), (1, .int v1), (2, .int v2), (3, .int v3), (4, .int v4)], [], hp I2032 F2033)) rfl ⟨trivial, trivial, trivial, (ab_vo g2036), trivial, trivial, trivial, (ab_vo g2037), trivial, trivial⟩ ?_
          refine OK_if (fun h2038 => ?_) (fun h2038 => ?_)
          · refine OK_st 1 okX10_isRow (S' := (83, [(6, .int r2031), (5, .int r2027), (0, .ref 49), (1, .int v1), (2, .int v2), (3, .int v3), (4, .int v4)], [.int (0 : Int32)], hp I2032 F2033)) rfl ⟨trivial, trivial⟩ ?_
            exact OK_ri okX10_isRow rfl rfl (Or.inr ⟨rfl, Or.inl rfl⟩)
          · refine OK_gd (fun g2039 => ?_)
            refine OK_st 5 okX10_isRow (S' := (76, [(6, .int r2031), (5, .int r2027), (0, .ref 49), (1, .int v1), (2, .int v2), (3, .int v3), (4, .int v4)], [.int ((F2033 43) r2027.toNatClampNeg), .int v3], hp I2032 F2033)) rfl ⟨trivial, trivial, trivial, trivial, (ab_vo g2039), trivial⟩ ?_
            refine OK_cs [.int v3, .int ((F2033 43) r2027.toNatClampNeg)] [] okX10_isRow okX10_has rfl rfl cl_RX10_106 (Nat.le_of_ble_eq_true rfl) (by decide) (Nat.le_of_ble_eq_true rfl) (kf_X10_has v3 ((F2033 43) r2027.toNatClampNeg) I2032 F2033) (fun r2040 I2041 F2042 => ?_)
            refine OK_st 1 okX10_isRow (S' := ((if r2040 = 0 then 84 else 82), [(6, .int r2031), (5, .int r2027), (0, .ref 49), (1, .int v1), (2, .int v2), (3, .int v3), (4, .int v4)], [], hp I2041 F2042)) rfl ⟨trivial, trivial⟩ ?_
            refine OK_if (fun h2043 => ?_) (fun h2043 => ?_)
            · refine OK_gd (fun g2044 => ?_)
              refine OK_st 9 okX10_isRow (S' := (96, [(3, .int (v3 ||| ((1 : Int32) <<< (((F2042 43) r2027.toNatClampNeg) &&& 31)))), (6, .int r2031), (5, .int r2027), (0, .ref 49), (1, .int v1), (2, .int v2), (4, .int v4)], [], hp I2041 F2042)) rfl ⟨trivial, trivial, trivial, trivial, trivial, (ab_vo g2044), trivial, trivial, (by decide), trivial⟩ ?_
              refine OK_lt (fun x2045 => (96, [(3, .int x2045), (6, .int r2031), (5, .int r2027), (0, .ref 49), (1, .int v1), (2, .int v2), (4, .int v4)], [], hp I2041 F2042)) (fun x2045 => ?_)
              refine OK_st 2 okX10_isRow (S' := (5, [(4, .int (v4 + (1 : Int32))), (3, .int x2045), (6, .int r2031), (5, .int r2027), (0, .ref 49), (1, .int v1), (2, .int v2)], [], hp I2041 F2042)) rfl ⟨(by decide), trivial, trivial⟩ ?_
              refine OK_pk [4, 5, 6, 1, 0] rfl ?_
              exact ih x2045 (v4 + (1 : Int32)) I2041 F2042
            · refine OK_st 1 okX10_isRow (S' := (83, [(6, .int r2031), (5, .int r2027), (0, .ref 49), (1, .int v1), (2, .int v2), (3, .int v3), (4, .int v4)], [.int (0 : Int32)], hp I2041 F2042)) rfl ⟨trivial, trivial⟩ ?_
              exact OK_ri okX10_isRow rfl rfl (Or.inr ⟨rfl, Or.inl rfl⟩)

def f_X10_isRow (v1 : Int32) (v2 : Int32) (I : AI) (F : AF) : AQ :=
  f_X10_isRow_5 v1 v2 (fun v3_2046 v4_2047 I2048 F2049 =>
    some ((1 : Int32), I2048, F2049)) ab_fu (0 : Int32) (0 : Int32) I F
set_option maxRecDepth 20000 in
set_option maxHeartbeats 4000000 in
theorem kf_X10_isRow (v1 : Int32) (v2 : Int32) (I : AI) (F : AF) : OK 1 mX10_isRow true (f_X10_isRow v1 v2 I F) (0, [(0, .ref 49), (1, .int v1), (2, .int v2)], [], hp I F) := by
  rw [f_X10_isRow]
  refine OK_st 4 okX10_isRow (S' := (5, [(4, .int (0 : Int32)), (3, .int (0 : Int32)), (0, .ref 49), (1, .int v1), (2, .int v2)], [], hp I F)) rfl ⟨trivial, (by decide), trivial, (by decide), trivial⟩ ?_
  refine OK_pk [2, 3, 4, 1, 0] rfl ?_
  refine kf_X10_isRow_5 v1 v2 _ (fun v3_2046 v4_2047 I2048 F2049 => ?_) ab_fu (0 : Int32) (0 : Int32) I F
  refine OK_st 1 okX10_isRow (S' := (103, [(0, .ref 49), (1, .int v1), (2, .int v2), (3, .int v3_2046), (4, .int v4_2047)], [.int (1 : Int32)], hp I2048 F2049)) rfl ⟨trivial, trivial⟩ ?_
  exact OK_ri okX10_isRow rfl rfl (Or.inr ⟨rfl, Or.inr rfl⟩)

def f_X10_gains_9 (v1 : Int32) (v2 : Int32) (v3 : Int32) (ko : Int64 → Int64 → Int32 → AI → AF → AQ) : Nat → Int64 → Int64 → Int32 → AI → AF → AQ
  | 0, _, _, _, _, _ => none
  | n + 1, w4, w6, v8, I, F =>
    if v2 ≤ v8 then
      ko w4 w6 v8 I F
    else
      ab_bd (f_X10_figure v1 v2 v8 I F) (fun r2055 I2056 F2057 =>
        bif ab_vin r2055 8 then
          if ¬ r2055 = v3 then
            bif ab_vin r2055 8 then
              f_X10_gains_9 v1 v2 v3 ko n (w4 * (((F2057 45) r2055.toNatClampNeg).toInt64)) (w6 * (((F2057 46) r2055.toNatClampNeg).toInt64)) (v8 + (1 : Int32)) I2056 F2057
            else none
          else
            bif ab_vin r2055 8 then
              if ((F2057 46) r2055.toNatClampNeg) ≤ (1 : Int32) then
                bif ab_vin r2055 8 then
                  f_X10_gains_9 v1 v2 v3 ko n (w4 * (((F2057 45) r2055.toNatClampNeg).toInt64)) (w6 * (((F2057 46) r2055.toNatClampNeg).toInt64)) (v8 + (1 : Int32)) I2056 F2057
                else none
              else
                bif ab_vin r2055 8 then
                  f_X10_gains_9 v1 v2 v3 ko n (w4 * (((F2057 45) r2055.toNatClampNeg).toInt64)) (w6 * ((((F2057 46) r2055.toNatClampNeg) - (1 : Int32)).toInt64)) (v8 + (1 : Int32)) I2056 F2057
                else none
            else none
        else none)
set_option maxRecDepth 20000 in
set_option maxHeartbeats 4000000 in
theorem kf_X10_gains_9 (v1 : Int32) (v2 : Int32) (v3 : Int32) (ko : Int64 → Int64 → Int32 → AI → AF → AQ) (hko : ∀ w4 w6 v8 I F, OK 1 mX10_gains true (ko w4 w6 v8 I F) (86, [(0, .ref 49), (1, .int v1), (2, .int v2), (3, .int v3), (4, .long w4), (6, .long w6), (8, .int v8)], [], hp I F)) : ∀ n w4 w6 v8 I F, OK 1 mX10_gains true (f_X10_gains_9 v1 v2 v3 ko n w4 w6 v8 I F) (9, [(0, .ref 49), (1, .int v1), (2, .int v2), (3, .int v3), (4, .long w4), (6, .long w6), (8, .int v8)], [], hp I F) := by
  intro n
  induction n with
  | zero =>
    intro w4 w6 v8 I F
    exact OK_no
  | succ n ih =>
    intro w4 w6 v8 I F
    rw [f_X10_gains_9]
    refine OK_st 3 okX10_gains (S' := ((if v2 ≤ v8 then 86 else 15), [(0, .ref 49), (1, .int v1), (2, .int v2), (3, .int v3), (4, .long w4), (6, .long w6), (8, .int v8)], [], hp I F)) rfl ⟨trivial, trivial, trivial, trivial⟩ ?_
    refine OK_if (fun h2054 => ?_) (fun h2054 => ?_)
    · exact hko w4 w6 v8 I F
    · refine OK_st 3 okX10_gains (S' := (19, [(0, .ref 49), (1, .int v1), (2, .int v2), (3, .int v3), (4, .long w4), (6, .long w6), (8, .int v8)], [.int v8, .int v2, .int v1], hp I F)) rfl ⟨trivial, trivial, trivial, trivial⟩ ?_
      refine OK_cs [.int v1, .int v2, .int v8] [] okX10_gains okX10_figure rfl rfl cl_RX10_281 (Nat.le_of_ble_eq_true rfl) (by decide) (Nat.le_of_ble_eq_true rfl) (kf_X10_figure v1 v2 v8 I F) (fun r2055 I2056 F2057 => ?_)
      refine OK_gd (fun g2058 => ?_)
      refine OK_st 13 okX10_gains (S' := ((if ¬ r2055 = v3 then 69 else 45), [(4, .long (w4 * (((F2057 45) r2055.toNatClampNeg).toInt64))), (9, .int r2055), (0, .ref 49), (1, .int v1), (2, .int v2), (3, .int v3), (6, .long w6), (8, .int v8)], [.long w6], hp I2056 F2057)) rfl ⟨(by decide), trivial, trivial, trivial, trivial, (ab_vo g2058), trivial, trivial, (by decide), trivial, trivial, trivial, trivial, trivial⟩ ?_
      refine OK_if (fun h2059 => ?_) (fun h2059 => ?_)
      · refine OK_gd (fun g2060 => ?_)
        refine OK_st 9 okX10_gains (S' := (9, [(8, .int (v8 + (1 : Int32))), (6, .long (w6 * (((F2057 46) r2055.toNatClampNeg).toInt64))), (4, .long (w4 * (((F2057 45) r2055.toNatClampNeg).toInt64))), (9, .int r2055), (0, .ref 49), (1, .int v1), (2, .int v2), (3, .int v3)], [], hp I2056 F2057)) rfl ⟨trivial, trivial, trivial, (ab_vo g2060), trivial, trivial, (by decide), (by decide), trivial, trivial⟩ ?_
        refine OK_pk [4, 5, 6, 7, 2, 1, 0] rfl ?_
        exact ih (w4 * (((F2057 45) r2055.toNatClampNeg).toInt64)) (w6 * (((F2057 46) r2055.toNatClampNeg).toInt64)) (v8 + (1 : Int32)) I2056 F2057
      · refine OK_gd (fun g2061 => ?_)
        refine OK_st 6 okX10_gains (S' := ((if ((F2057 46) r2055.toNatClampNeg) ≤ (1 : Int32) then 69 else 56), [(4, .long (w4 * (((F2057 45) r2055.toNatClampNeg).toInt64))), (9, .int r2055), (0, .ref 49), (1, .int v1), (2, .int v2), (3, .int v3), (6, .long w6), (8, .int v8)], [.long w6], hp I2056 F2057)) rfl ⟨trivial, trivial, trivial, (ab_vo g2061), trivial, trivial, trivial⟩ ?_
        refine OK_if (fun h2062 => ?_) (fun h2062 => ?_)
        · refine OK_gd (fun g2063 => ?_)
          refine OK_st 9 okX10_gains (S' := (9, [(8, .int (v8 + (1 : Int32))), (6, .long (w6 * (((F2057 46) r2055.toNatClampNeg).toInt64))), (4, .long (w4 * (((F2057 45) r2055.toNatClampNeg).toInt64))), (9, .int r2055), (0, .ref 49), (1, .int v1), (2, .int v2), (3, .int v3)], [], hp I2056 F2057)) rfl ⟨trivial, trivial, trivial, (ab_vo g2063), trivial, trivial, (by decide), (by decide), trivial, trivial⟩ ?_
          refine OK_pk [4, 5, 6, 7, 2, 1, 0] rfl ?_
          exact ih (w4 * (((F2057 45) r2055.toNatClampNeg).toInt64)) (w6 * (((F2057 46) r2055.toNatClampNeg).toInt64)) (v8 + (1 : Int32)) I2056 F2057
        · refine OK_gd (fun g2064 => ?_)
          refine OK_st 12 okX10_gains (S' := (9, [(8, .int (v8 + (1 : Int32))), (6, .long (w6 * ((((F2057 46) r2055.toNatClampNeg) - (1 : Int32)).toInt64))), (4, .long (w4 * (((F2057 45) r2055.toNatClampNeg).toInt64))), (9, .int r2055), (0, .ref 49), (1, .int v1), (2, .int v2), (3, .int v3)], [], hp I2056 F2057)) rfl ⟨trivial, trivial, trivial, (ab_vo g2064), trivial, trivial, trivial, trivial, trivial, (by decide), (by decide), trivial, trivial⟩ ?_
          refine OK_pk [4, 5, 6, 7, 2, 1, 0] rfl ?_
          exact ih (w4 * (((F2057 45) r2055.toNatClampNeg).toInt64)) (w6 * ((((F2057 46) r2055.toNatClampNeg) - (1 : Int32)).toInt64)) (v8 + (1 : Int32)) I2056 F2057

def f_X10_gains (v1 : Int32) (v2 : Int32) (v3 : Int32) (I : AI) (F : AF) : AQ :=
  f_X10_gains_9 v1 v2 v3 (fun w4_2065 w6_2066 v8_2067 I2068 F2069 =>
    if (lg_cmp w6_2066 w4_2065) ≤ 0 then
      some ((0 : Int32), I2068, F2069)
    else
      some ((1 : Int32), I2068, F2069)) ab_fu (1 : Int64) (1 : Int64) (0 : Int32) I F
set_option maxRecDepth 20000 in
set_option maxHeartbeats 4000000 in
theorem kf_X10_gains (v1 : Int32) (v2 : Int32) (v3 : Int32) (I : AI) (F : AF) : OK 1 mX10_gains true (f_X10_gains v1 v2 v3 I F) (0, [(0, .ref 49), (1, .int v1), (2, .int v2), (3, .int v3)], [], hp I F) := by
  rw [f_X10_gains]
  refine OK_st 6 okX10_gains (S' := (9, [(8, .int (0 : Int32)), (6, .long (1 : Int64)), (4, .long (1 : Int64)), (0, .ref 49), (1, .int v1), (2, .int v2), (3, .int v3)], [], hp I F)) rfl ⟨trivial, (by decide), trivial, (by decide), trivial, (by decide), trivial⟩ ?_
  refine OK_pk [3, 4, 5, 6, 2, 1, 0] rfl ?_
  refine kf_X10_gains_9 v1 v2 v3 _ (fun w4_2065 w6_2066 v8_2067 I2068 F2069 => ?_) ab_fu (1 : Int64) (1 : Int64) (0 : Int32) I F
  refine OK_st 4 okX10_gains (S' := ((if (lg_cmp w6_2066 w4_2065) ≤ 0 then 98 else 94), [(0, .ref 49), (1, .int v1), (2, .int v2), (3, .int v3), (4, .long w4_2065), (6, .long w6_2066), (8, .int v8_2067)], [], hp I2068 F2069)) rfl ⟨trivial, trivial, trivial, trivial, trivial⟩ ?_
  refine OK_if (fun h2070 => ?_) (fun h2070 => ?_)
  · refine OK_st 1 okX10_gains (S' := (99, [(0, .ref 49), (1, .int v1), (2, .int v2), (3, .int v3), (4, .long w4_2065), (6, .long w6_2066), (8, .int v8_2067)], [.int (0 : Int32)], hp I2068 F2069)) rfl ⟨trivial, trivial⟩ ?_
    exact OK_ri okX10_gains rfl rfl (Or.inr ⟨rfl, Or.inl rfl⟩)
  · refine OK_st 2 okX10_gains (S' := (99, [(0, .ref 49), (1, .int v1), (2, .int v2), (3, .int v3), (4, .long w4_2065), (6, .long w6_2066), (8, .int v8_2067)], [.int (1 : Int32)], hp I2068 F2069)) rfl ⟨trivial, trivial, trivial⟩ ?_
    exact OK_ri okX10_gains rfl rfl (Or.inr ⟨rfl, Or.inr rfl⟩)

def f_X10_findRing_14 (v1 : Int32) (ko : Int32 → AI → AF → AQ) : Nat → Int32 → AI → AF → AQ
  | 0, _, _, _ => none
  | n + 1, v2, I, F =>
    if ((1 : Int32) <<< (((nI 3) * v1) &&& 31)) ≤ v2 then
      ko v2 I F
    else
      ab_bd (f_X10_isRow v2 v1 I F) (fun r2050 I2051 F2052 =>
        if r2050 = 0 then
          f_X10_findRing_14 v1 ko n (v2 + (1 : Int32)) I2051 F2052
        else
          ab_bd (f_X10_gains v2 v1 (-1 : Int32) I2051 F2052) (fun r2071 I2072 F2073 =>
            if r2071 = 0 then
              f_X10_findRing_14 v1 ko n (v2 + (1 : Int32)) I2072 F2073
            else
              some (v2, I2072, F2073)))
set_option maxRecDepth 20000 in
set_option maxHeartbeats 4000000 in
theorem kf_X10_findRing_14 (v1 : Int32) (ko : Int32 → AI → AF → AQ) (hko : ∀ v2 I F, OK 2 mX10_findRing true (ko v2 I F) (50, [(0, .ref 49), (1, .int v1), (2, .int v2)], [], hp I F)) : ∀ n v2 I F, OK 2 mX10_findRing true (f_X10_findRing_14 v1 ko n v2 I F) (14, [(0, .ref 49), (1, .int v1), (2, .int v2)], [], hp I F) := by
  intro n
  induction n with
  | zero =>
    intro v2 I F
    exact OK_no
  | succ n ih =>
    intro v2 I F
    rw [f_X10_findRing_14]
    refine OK_st 7 okX10_findRing (S' := ((if ((1 : Int32) <<< (((nI 3) * v1) &&& 31)) ≤ v2 then 50 else 23), [(0, .ref 49), (1, .int v1), (2, .int v2)], [], hp I F)) rfl ⟨trivial, trivial, trivial, trivial, trivial, trivial, trivial, trivial⟩ ?_
    refine OK_if (fun h2025 => ?_) (fun h2025 => ?_)
    · exact hko v2 I F
    · refine OK_st 3 okX10_findRing (S' := (26, [(0, .ref 49), (1, .int v1), (2, .int v2)], [.int v1, .int v2, .ref 49], hp I F)) rfl ⟨trivial, trivial, trivial, trivial⟩ ?_
      refine OK_cv [.int v2, .int v1] [] okX10_findRing okX10_isRow rfl rfl cl_RX10_288 rfl rfl (Nat.le_of_ble_eq_true rfl) (by decide) (Nat.le_of_ble_eq_true rfl) (kf_X10_isRow v2 v1 I F) (fun r2050 I2051 F2052 => ?_)
      refine OK_st 1 okX10_findRing (S' := ((if r2050 = 0 then 44 else 32), [(0, .ref 49), (1, .int v1), (2, .int v2)], [], hp I2051 F2052)) rfl ⟨trivial, trivial⟩ ?_
      refine OK_if (fun h2053 => ?_) (fun h2053 => ?_)
      · refine OK_st 2 okX10_findRing (S' := (14, [(2, .int (v2 + (1 : Int32))), (0, .ref 49), (1, .int v1)], [], hp I2051 F2052)) rfl ⟨(by decide), trivial, trivial⟩ ?_
        refine OK_pk [1, 2, 0] rfl ?_
        exact ih (v2 + (1 : Int32)) I2051 F2052
      · refine OK_st 4 okX10_findRing (S' := (36, [(0, .ref 49), (1, .int v1), (2, .int v2)], [.int (-1 : Int32), .int v1, .int v2, .ref 49], hp I2051 F2052)) rfl ⟨trivial, trivial, trivial, trivial, trivial⟩ ?_
        refine OK_cv [.int v2, .int v1, .int (-1 : Int32)] [] okX10_findRing okX10_gains rfl rfl cl_RX10_291 rfl rfl (Nat.le_of_ble_eq_true rfl) (by decide) (Nat.le_of_ble_eq_true rfl) (kf_X10_gains v2 v1 (-1 : Int32) I2051 F2052) (fun r2071 I2072 F2073 => ?_)
        refine OK_st 1 okX10_findRing (S' := ((if r2071 = 0 then 44 else 42), [(0, .ref 49), (1, .int v1), (2, .int v2)], [], hp I2072 F2073)) rfl ⟨trivial, trivial⟩ ?_
        refine OK_if (fun h2074 => ?_) (fun h2074 => ?_)
        · refine OK_st 2 okX10_findRing (S' := (14, [(2, .int (v2 + (1 : Int32))), (0, .ref 49), (1, .int v1)], [], hp I2072 F2073)) rfl ⟨(by decide), trivial, trivial⟩ ?_
          refine OK_pk [1, 2, 0] rfl ?_
          exact ih (v2 + (1 : Int32)) I2072 F2073
        · refine OK_st 1 okX10_findRing (S' := (43, [(0, .ref 49), (1, .int v1), (2, .int v2)], [.int v2], hp I2072 F2073)) rfl ⟨trivial, trivial⟩ ?_
          exact OK_ri okX10_findRing rfl rfl (Or.inl rfl)

def f_X10_findRing_2 (ko : Int32 → AI → AF → AQ) : Nat → Int32 → AI → AF → AQ
  | 0, _, _, _ => none
  | n + 1, v1, I, F =>
    if (nI 5) ≤ v1 then
      ko v1 I F
    else
      ab_lt (va_up I 36 v1) (fun I2024 =>
        f_X10_findRing_14 v1 (fun v2_2075 I2076 F2077 =>
          f_X10_findRing_2 ko n (v1 + (1 : Int32)) I2076 F2077) ab_fu (0 : Int32) I2024 F)
set_option maxRecDepth 20000 in
set_option maxHeartbeats 4000000 in
theorem kf_X10_findRing_2 (ko : Int32 → AI → AF → AQ) (hko : ∀ v1 I F, OK 2 mX10_findRing true (ko v1 I F) (56, [(0, .ref 49), (1, .int v1)], [], hp I F)) : ∀ n v1 I F, OK 2 mX10_findRing true (f_X10_findRing_2 ko n v1 I F) (2, [(0, .ref 49), (1, .int v1)], [], hp I F) := by
  intro n
  induction n with
  | zero =>
    intro v1 I F
    exact OK_no
  | succ n ih =>
    intro v1 I F
    rw [f_X10_findRing_2]
    refine OK_st 3 okX10_findRing (S' := ((if (nI 5) ≤ v1 then 56 else 7), [(0, .ref 49), (1, .int v1)], [], hp I F)) rfl ⟨trivial, trivial, trivial, trivial⟩ ?_
    refine OK_if (fun h2023 => ?_) (fun h2023 => ?_)
    · exact hko v1 I F
    · refine OK_st 5 okX10_findRing (S' := (14, [(2, .int (0 : Int32)), (0, .ref 49), (1, .int v1)], [], hp (va_up I 36 v1) F)) rfl ⟨trivial, trivial, trivial, trivial, (by decide), trivial⟩ ?_
      refine OK_lt (fun I2024 => (14, [(2, .int (0 : Int32)), (0, .ref 49), (1, .int v1)], [], hp I2024 F)) (fun I2024 => ?_)
      refine OK_pk [1, 2, 0] rfl ?_
      refine kf_X10_findRing_14 v1 _ (fun v2_2075 I2076 F2077 => ?_) ab_fu (0 : Int32) I2024 F
      refine OK_st 2 okX10_findRing (S' := (2, [(1, .int (v1 + (1 : Int32))), (0, .ref 49), (2, .int v2_2075)], [], hp I2076 F2077)) rfl ⟨(by decide), trivial, trivial⟩ ?_
      refine OK_pk [1, 0] rfl ?_
      exact ih (v1 + (1 : Int32)) I2076 F2077

def f_X10_findRing (I : AI) (F : AF) : AQ :=
  f_X10_findRing_2 (fun v1_2078 I2079 F2080 =>
    some ((-1 : Int32), I2079, F2080)) ab_fu (nI 2) I F
set_option maxRecDepth 20000 in
set_option maxHeartbeats 4000000 in
theorem kf_X10_findRing (I : AI) (F : AF) : OK 2 mX10_findRing true (f_X10_findRing I F) (0, [(0, .ref 49)], [], hp I F) := by
  rw [f_X10_findRing]
  refine OK_st 2 okX10_findRing (S' := (2, [(1, .int (nI 2)), (0, .ref 49)], [], hp I F)) rfl ⟨trivial, (by decide), trivial⟩ ?_
  refine OK_pk [1, 0] rfl ?_
  refine kf_X10_findRing_2 _ (fun v1_2078 I2079 F2080 => ?_) ab_fu (nI 2) I F
  refine OK_st 1 okX10_findRing (S' := (57, [(0, .ref 49), (1, .int v1_2078)], [.int (-1 : Int32)], hp I2079 F2080)) rfl ⟨trivial, trivial⟩ ?_
  exact OK_ri okX10_findRing rfl rfl (Or.inl rfl)

def f_X10_ring (v1 : Int32) (I : AI) (F : AF) : AQ :=
  ab_bd (f_X10_findRing I F) (fun r2081 I2082 F2083 =>
    if r2081 < 0 then
      if 0 ≤ r2081 then
        some ((I2082 36), I2082, F2083)
      else
        some ((-1 : Int32), I2082, F2083)
    else
      if ¬ v1 = (-1 : Int32) then
        ab_bd (f_X10_in v1.toInt64 (0 : Int64) (((I2082 36) - (1 : Int32)).toInt64) I2082 F2083) (fun r2087 I2088 F2089 =>
          if r2087 = 0 then
            some ((-1 : Int32), I2088, F2089)
          else
            ab_bd (f_X10_figure r2081 (I2088 36) v1 I2088 F2089) (fun r2091 I2092 F2093 =>
              some (r2091, I2092, F2093)))
      else
        if 0 ≤ r2081 then
          some ((I2082 36), I2082, F2083)
        else
          some ((-1 : Int32), I2082, F2083))
set_option maxRecDepth 20000 in
set_option maxHeartbeats 4000000 in
theorem kf_X10_ring (v1 : Int32) (I : AI) (F : AF) : OK 3 mX10_ring true (f_X10_ring v1 I F) (0, [(0, .ref 49), (1, .int v1)], [], hp I F) := by
  rw [f_X10_ring]
  refine OK_st 1 okX10_ring (S' := (1, [(0, .ref 49), (1, .int v1)], [.ref 49], hp I F)) rfl ⟨trivial, trivial⟩ ?_
  refine OK_cv [] [] okX10_ring okX10_findRing rfl rfl cl_RX10_295 rfl rfl (Nat.le_of_ble_eq_true rfl) (by decide) (Nat.le_of_ble_eq_true rfl) (kf_X10_findRing I F) (fun r2081 I2082 F2083 => ?_)
  refine OK_st 3 okX10_ring (S' := ((if r2081 < 0 then 14 else 9), [(2, .int r2081), (0, .ref 49), (1, .int v1)], [], hp I2082 F2083)) rfl ⟨(by decide), trivial, trivial, trivial⟩ ?_
  refine OK_if (fun h2084 => ?_) (fun h2084 => ?_)
  · refine OK_st 2 okX10_ring (S' := ((if 0 ≤ r2081 then 22 else 18), [(2, .int r2081), (0, .ref 49), (1, .int v1)], [], hp I2082 F2083)) rfl ⟨trivial, trivial, trivial⟩ ?_
    refine OK_if (fun h2085 => ?_) (fun h2085 => ?_)
    · refine OK_st 2 okX10_ring (S' := (26, [(2, .int r2081), (0, .ref 49), (1, .int v1)], [.int (I2082 36)], hp I2082 F2083)) rfl ⟨trivial, trivial, trivial⟩ ?_
      exact OK_ri okX10_ring rfl rfl (Or.inl rfl)
    · refine OK_st 2 okX10_ring (S' := (26, [(2, .int r2081), (0, .ref 49), (1, .int v1)], [.int (-1 : Int32)], hp I2082 F2083)) rfl ⟨trivial, trivial, trivial⟩ ?_
      exact OK_ri okX10_ring rfl rfl (Or.inl rfl)
  · refine OK_st 3 okX10_ring (S' := ((if ¬ v1 = (-1 : Int32) then 27 else 14), [(2, .int r2081), (0, .ref 49), (1, .int v1)], [], hp I2082 F2083)) rfl ⟨trivial, trivial, trivial, trivial⟩ ?_
    refine OK_if (fun h2086 => ?_) (fun h2086 => ?_)
    · refine OK_st 8 okX10_ring (S' := (37, [(2, .int r2081), (0, .ref 49), (1, .int v1)], [.long ((I2082 36) - (1 : Int32)).toInt64, .long (0 : Int64), .long v1.toInt64], hp I2082 F2083)) rfl ⟨trivial, trivial, trivial, trivial, trivial, trivial, trivial, trivial, trivial⟩ ?_
      refine OK_cs [.long v1.toInt64, .long (0 : Int64), .long ((I2082 36) - (1 : Int32)).toInt64] [] okX10_ring okX10_in rfl rfl cl_RX10_102 (Nat.le_of_ble_eq_true rfl) (by decide) (Nat.le_of_ble_eq_true rfl) (kf_X10_in v1.toInt64 (0 : Int64) (((I2082 36) - (1 : Int32)).toInt64) I2082 F2083) (fun r2087 I2088 F2089 => ?_)
      refine OK_st 1 okX10_ring (S' := ((if r2087 = 0 then 55 else 43), [(2, .int r2081), (0, .ref 49), (1, .int v1)], [], hp I2088 F2089)) rfl ⟨trivial, trivial⟩ ?_
      refine OK_if (fun h2090 => ?_) (fun h2090 => ?_)
      · refine OK_st 1 okX10_ring (S' := (56, [(2, .int r2081), (0, .ref 49), (1, .int v1)], [.int (-1 : Int32)], hp I2088 F2089)) rfl ⟨trivial, trivial⟩ ?_
        exact OK_ri okX10_ring rfl rfl (Or.inl rfl)
      · refine OK_st 4 okX10_ring (S' := (49, [(2, .int r2081), (0, .ref 49), (1, .int v1)], [.int v1, .int (I2088 36), .int r2081], hp I2088 F2089)) rfl ⟨trivial, trivial, trivial, trivial, trivial⟩ ?_
        refine OK_cs [.int r2081, .int (I2088 36), .int v1] [] okX10_ring okX10_figure rfl rfl cl_RX10_281 (Nat.le_of_ble_eq_true rfl) (by decide) (Nat.le_of_ble_eq_true rfl) (kf_X10_figure r2081 (I2088 36) v1 I2088 F2089) (fun r2091 I2092 F2093 => ?_)
        refine OK_st 1 okX10_ring (S' := (56, [(2, .int r2081), (0, .ref 49), (1, .int v1)], [.int r2091], hp I2092 F2093)) rfl ⟨trivial, trivial⟩ ?_
        exact OK_ri okX10_ring rfl rfl (Or.inl rfl)
    · refine OK_st 2 okX10_ring (S' := ((if 0 ≤ r2081 then 22 else 18), [(2, .int r2081), (0, .ref 49), (1, .int v1)], [], hp I2082 F2083)) rfl ⟨trivial, trivial, trivial⟩ ?_
      refine OK_if (fun h2094 => ?_) (fun h2094 => ?_)
      · refine OK_st 2 okX10_ring (S' := (26, [(2, .int r2081), (0, .ref 49), (1, .int v1)], [.int (I2082 36)], hp I2082 F2083)) rfl ⟨trivial, trivial, trivial⟩ ?_
        exact OK_ri okX10_ring rfl rfl (Or.inl rfl)
      · refine OK_st 2 okX10_ring (S' := (26, [(2, .int r2081), (0, .ref 49), (1, .int v1)], [.int (-1 : Int32)], hp I2082 F2083)) rfl ⟨trivial, trivial, trivial⟩ ?_
        exact OK_ri okX10_ring rfl rfl (Or.inl rfl)

def f_X10_mended_9 (v1 : Int32) (ko : Int32 → Int32 → AI → AF → AQ) : Nat → Int32 → Int32 → AI → AF → AQ
  | 0, _, _, _, _ => none
  | n + 1, v2, v3, I, F =>
    if (I 36) ≤ v3 then
      ko v2 v3 I F
    else
      if v1 < 0 then
        ko v2 v3 I F
      else
        ab_bd (f_X10_figure v1 (I 36) v3 I F) (fun r2100 I2101 F2102 =>
          ab_bd (f_X10_gains v1 (I2101 36) r2100 I2101 F2102) (fun r2103 I2104 F2105 =>
            if ¬ r2103 = 0 then
              f_X10_mended_9 v1 ko n v2 (v3 + (1 : Int32)) I2104 F2105
            else
              if v2 < 0 then
                f_X10_mended_9 v1 ko n r2100 (v3 + (1 : Int32)) I2104 F2105
              else
                if v2 ≤ r2100 then
                  f_X10_mended_9 v1 ko n v2 (v3 + (1 : Int32)) I2104 F2105
                else
                  f_X10_mended_9 v1 ko n r2100 (v3 + (1 : Int32)) I2104 F2105))
set_option maxRecDepth 20000 in
set_option maxHeartbeats 4000000 in
theorem kf_X10_mended_9 (v1 : Int32) (ko : Int32 → Int32 → AI → AF → AQ) (hko : ∀ v2 v3 I F, OK 3 mX10_mended true (ko v2 v3 I F) (69, [(0, .ref 49), (1, .int v1), (2, .int v2), (3, .int v3)], [], hp I F)) : ∀ n v2 v3 I F, OK 3 mX10_mended true (f_X10_mended_9 v1 ko n v2 v3 I F) (9, [(0, .ref 49), (1, .int v1), (2, .int v2), (3, .int v3)], [], hp I F) := by
  intro n
  induction n with
  | zero =>
    intro v2 v3 I F
    exact OK_no
  | succ n ih =>
    intro v2 v3 I F
    rw [f_X10_mended_9]
    refine OK_st 4 okX10_mended (S' := ((if (I 36) ≤ v3 then 69 else 17), [(0, .ref 49), (1, .int v1), (2, .int v2), (3, .int v3)], [], hp I F)) rfl ⟨trivial, trivial, trivial, trivial, trivial⟩ ?_
    refine OK_if (fun h2098 => ?_) (fun h2098 => ?_)
    · exact hko v2 v3 I F
    · refine OK_st 2 okX10_mended (S' := ((if v1 < 0 then 69 else 21), [(0, .ref 49), (1, .int v1), (2, .int v2), (3, .int v3)], [], hp I F)) rfl ⟨trivial, trivial, trivial⟩ ?_
      refine OK_if (fun h2099 => ?_) (fun h2099 => ?_)
      · exact hko v2 v3 I F
      · refine OK_st 4 okX10_mended (S' := (27, [(0, .ref 49), (1, .int v1), (2, .int v2), (3, .int v3)], [.int v3, .int (I 36), .int v1], hp I F)) rfl ⟨trivial, trivial, trivial, trivial, trivial⟩ ?_
        refine OK_cs [.int v1, .int (I 36), .int v3] [] okX10_mended okX10_figure rfl rfl cl_RX10_281 (Nat.le_of_ble_eq_true rfl) (by decide) (Nat.le_of_ble_eq_true rfl) (kf_X10_figure v1 (I 36) v3 I F) (fun r2100 I2101 F2102 => ?_)
        refine OK_st 6 okX10_mended (S' := (40, [(4, .int r2100), (0, .ref 49), (1, .int v1), (2, .int v2), (3, .int v3)], [.int r2100, .int (I2101 36), .int v1, .ref 49], hp I2101 F2102)) rfl ⟨(by decide), trivial, trivial, trivial, trivial, trivial, trivial⟩ ?_
        refine OK_cv [.int v1, .int (I2101 36), .int r2100] [] okX10_mended okX10_gains rfl rfl cl_RX10_291 rfl rfl (Nat.le_of_ble_eq_true rfl) (by decide) (Nat.le_of_ble_eq_true rfl) (kf_X10_gains v1 (I2101 36) r2100 I2101 F2102) (fun r2103 I2104 F2105 => ?_)
        refine OK_st 1 okX10_mended (S' := ((if ¬ r2103 = 0 then 61 else 46), [(4, .int r2100), (0, .ref 49), (1, .int v1), (2, .int v2), (3, .int v3)], [], hp I2104 F2105)) rfl ⟨trivial, trivial⟩ ?_
        refine OK_if (fun h2106 => ?_) (fun h2106 => ?_)
        · refine OK_st 4 okX10_mended (S' := (9, [(3, .int (v3 + (1 : Int32))), (2, .int v2), (4, .int r2100), (0, .ref 49), (1, .int v1)], [], hp I2104 F2105)) rfl ⟨trivial, (by decide), (by decide), trivial, trivial⟩ ?_
          refine OK_pk [3, 4, 1, 0] rfl ?_
          exact ih v2 (v3 + (1 : Int32)) I2104 F2105
        · refine OK_st 2 okX10_mended (S' := ((if v2 < 0 then 56 else 50), [(4, .int r2100), (0, .ref 49), (1, .int v1), (2, .int v2), (3, .int v3)], [], hp I2104 F2105)) rfl ⟨trivial, trivial, trivial⟩ ?_
          refine OK_if (fun h2107 => ?_) (fun h2107 => ?_)
          · refine OK_st 5 okX10_mended (S' := (9, [(3, .int (v3 + (1 : Int32))), (2, .int r2100), (4, .int r2100), (0, .ref 49), (1, .int v1)], [], hp I2104 F2105)) rfl ⟨trivial, trivial, (by decide), (by decide), trivial, trivial⟩ ?_
            refine OK_pk [3, 4, 1, 0] rfl ?_
            exact ih r2100 (v3 + (1 : Int32)) I2104 F2105
          · refine OK_st 3 okX10_mended (S' := ((if v2 ≤ r2100 then 61 else 56), [(4, .int r2100), (0, .ref 49), (1, .int v1), (2, .int v2), (3, .int v3)], [], hp I2104 F2105)) rfl ⟨trivial, trivial, trivial, trivial⟩ ?_
            refine OK_if (fun h2108 => ?_) (fun h2108 => ?_)
            · refine OK_st 4 okX10_mended (S' := (9, [(3, .int (v3 + (1 : Int32))), (2, .int v2), (4, .int r2100), (0, .ref 49), (1, .int v1)], [], hp I2104 F2105)) rfl ⟨trivial, (by decide), (by decide), trivial, trivial⟩ ?_
              refine OK_pk [3, 4, 1, 0] rfl ?_
              exact ih v2 (v3 + (1 : Int32)) I2104 F2105
            · refine OK_st 5 okX10_mended (S' := (9, [(3, .int (v3 + (1 : Int32))), (2, .int r2100), (4, .int r2100), (0, .ref 49), (1, .int v1)], [], hp I2104 F2105)) rfl ⟨trivial, trivial, (by decide), (by decide), trivial, trivial⟩ ?_
              refine OK_pk [3, 4, 1, 0] rfl ?_
              exact ih r2100 (v3 + (1 : Int32)) I2104 F2105

def f_X10_mended (I : AI) (F : AF) : AQ :=
  ab_bd (f_X10_findRing I F) (fun r2095 I2096 F2097 =>
    f_X10_mended_9 r2095 (fun v2_2109 v3_2110 I2111 F2112 =>
      some (v2_2109, I2111, F2112)) ab_fu (-1 : Int32) (0 : Int32) I2096 F2097)
set_option maxRecDepth 20000 in
set_option maxHeartbeats 4000000 in
theorem kf_X10_mended (I : AI) (F : AF) : OK 3 mX10_mended true (f_X10_mended I F) (0, [(0, .ref 49)], [], hp I F) := by
  rw [f_X10_mended]
  refine OK_st 1 okX10_mended (S' := (1, [(0, .ref 49)], [.ref 49], hp I F)) rfl ⟨trivial, trivial⟩ ?_
  refine OK_cv [] [] okX10_mended okX10_findRing rfl rfl cl_RX10_295 rfl rfl (Nat.le_of_ble_eq_true rfl) (by decide) (Nat.le_of_ble_eq_true rfl) (kf_X10_findRing I F) (fun r2095 I2096 F2097 => ?_)
  refine OK_st 5 okX10_mended (S' := (9, [(3, .int (0 : Int32)), (2, .int (-1 : Int32)), (1, .int r2095), (0, .ref 49)], [], hp I2096 F2097)) rfl ⟨(by decide), trivial, (by decide), trivial, (by decide), trivial⟩ ?_
  refine OK_pk [3, 2, 1, 0] rfl ?_
  refine kf_X10_mended_9 r2095 _ (fun v2_2109 v3_2110 I2111 F2112 => ?_) ab_fu (-1 : Int32) (0 : Int32) I2096 F2097
  refine OK_st 1 okX10_mended (S' := (70, [(0, .ref 49), (1, .int r2095), (2, .int v2_2109), (3, .int v3_2110)], [.int v2_2109], hp I2111 F2112)) rfl ⟨trivial, trivial⟩ ?_
  exact OK_ri okX10_mended rfl rfl (Or.inl rfl)

def f_X10_bits_4 (v0 : Int32) (ko : Int32 → Int32 → AI → AF → AQ) : Nat → Int32 → Int32 → AI → AF → AQ
  | 0, _, _, _, _ => none
  | n + 1, v1, v2, I, F =>
    if (nI 6) ≤ v2 then
      ko v1 v2 I F
    else
      ab_lt (v1 + ((v0 >>> (v2 &&& 31)) &&& (1 : Int32))) (fun x2115 =>
        f_X10_bits_4 v0 ko n x2115 (v2 + (1 : Int32)) I F)
set_option maxRecDepth 20000 in
set_option maxHeartbeats 4000000 in
theorem kf_X10_bits_4 (v0 : Int32) (ko : Int32 → Int32 → AI → AF → AQ) (hko : ∀ v1 v2 I F, OK 0 mX10_bits true (ko v1 v2 I F) (24, [(0, .int v0), (1, .int v1), (2, .int v2)], [], hp I F)) : ∀ n v1 v2 I F, OK 0 mX10_bits true (f_X10_bits_4 v0 ko n v1 v2 I F) (4, [(0, .int v0), (1, .int v1), (2, .int v2)], [], hp I F) := by
  intro n
  induction n with
  | zero =>
    intro v1 v2 I F
    exact OK_no
  | succ n ih =>
    intro v1 v2 I F
    rw [f_X10_bits_4]
    refine OK_st 3 okX10_bits (S' := ((if (nI 6) ≤ v2 then 24 else 10), [(0, .int v0), (1, .int v1), (2, .int v2)], [], hp I F)) rfl ⟨trivial, trivial, trivial, trivial⟩ ?_
    refine OK_if (fun h2114 => ?_) (fun h2114 => ?_)
    · exact hko v1 v2 I F
    · refine OK_st 8 okX10_bits (S' := (18, [(1, .int (v1 + ((v0 >>> (v2 &&& 31)) &&& (1 : Int32)))), (0, .int v0), (2, .int v2)], [], hp I F)) rfl ⟨trivial, trivial, trivial, trivial, trivial, trivial, trivial, (by decide), trivial⟩ ?_
      refine OK_lt (fun x2115 => (18, [(1, .int x2115), (0, .int v0), (2, .int v2)], [], hp I F)) (fun x2115 => ?_)
      refine OK_st 2 okX10_bits (S' := (4, [(2, .int (v2 + (1 : Int32))), (1, .int x2115), (0, .int v0)], [], hp I F)) rfl ⟨(by decide), trivial, trivial⟩ ?_
      refine OK_pk [2, 1, 0] rfl ?_
      exact ih x2115 (v2 + (1 : Int32)) I F

def f_X10_bits (v0 : Int32) (I : AI) (F : AF) : AQ :=
  f_X10_bits_4 v0 (fun v1_2116 v2_2117 I2118 F2119 =>
    some (v1_2116, I2118, F2119)) ab_fu (0 : Int32) (0 : Int32) I F
set_option maxRecDepth 20000 in
set_option maxHeartbeats 4000000 in
theorem kf_X10_bits (v0 : Int32) (I : AI) (F : AF) : OK 0 mX10_bits true (f_X10_bits v0 I F) (0, [(0, .int v0)], [], hp I F) := by
  rw [f_X10_bits]
  refine OK_st 4 okX10_bits (S' := (4, [(2, .int (0 : Int32)), (1, .int (0 : Int32)), (0, .int v0)], [], hp I F)) rfl ⟨trivial, (by decide), trivial, (by decide), trivial⟩ ?_
  refine OK_pk [2, 1, 0] rfl ?_
  refine kf_X10_bits_4 v0 _ (fun v1_2116 v2_2117 I2118 F2119 => ?_) ab_fu (0 : Int32) (0 : Int32) I F
  refine OK_st 1 okX10_bits (S' := (25, [(0, .int v0), (1, .int v1_2116), (2, .int v2_2117)], [.int v1_2116], hp I2118 F2119)) rfl ⟨trivial, trivial⟩ ?_
  exact OK_ri okX10_bits rfl rfl (Or.inl rfl)

def f_X10_heirOf_4 (v1 : Int32) (ko : Int32 → Int32 → AI → AF → AQ) : Nat → Int32 → Int32 → AI → AF → AQ
  | 0, _, _, _, _ => none
  | n + 1, v2, v3, I, F =>
    if v3 ≤ v1 then
      ko v2 v3 I F
    else
      f_X10_heirOf_4 v1 ko n (v2 / (nI 6)) (v3 + (-1 : Int32)) I F
set_option maxRecDepth 20000 in
set_option maxHeartbeats 4000000 in
theorem kf_X10_heirOf_4 (v1 : Int32) (ko : Int32 → Int32 → AI → AF → AQ) (hko : ∀ v2 v3 I F, OK 0 mX10_heirOf true (ko v2 v3 I F) (20, [(1, .int v1), (2, .int v2), (3, .int v3)], [], hp I F)) : ∀ n v2 v3 I F, OK 0 mX10_heirOf true (f_X10_heirOf_4 v1 ko n v2 v3 I F) (4, [(1, .int v1), (2, .int v2), (3, .int v3)], [], hp I F) := by
  intro n
  induction n with
  | zero =>
    intro v2 v3 I F
    exact OK_no
  | succ n ih =>
    intro v2 v3 I F
    rw [f_X10_heirOf_4]
    refine OK_st 3 okX10_heirOf (S' := ((if v3 ≤ v1 then 20 else 9), [(1, .int v1), (2, .int v2), (3, .int v3)], [], hp I F)) rfl ⟨trivial, trivial, trivial, trivial⟩ ?_
    refine OK_if (fun h2127 => ?_) (fun h2127 => ?_)
    · exact hko v2 v3 I F
    · refine OK_st 6 okX10_heirOf (S' := (4, [(3, .int (v3 + (-1 : Int32))), (2, .int (v2 / (nI 6))), (1, .int v1)], [], hp I F)) rfl ⟨trivial, trivial, (by decide), (by decide), (by decide), trivial, trivial⟩ ?_
      refine OK_pk [2, 1, 0] rfl ?_
      exact ih (v2 / (nI 6)) (v3 + (-1 : Int32)) I F

def f_X10_heirOf (v0 : Int32) (v1 : Int32) (I : AI) (F : AF) : AQ :=
  f_X10_heirOf_4 v1 (fun v2_2128 v3_2129 I2130 F2131 =>
    some ((v2_2128 - v2_2128 / (nI 6) * (nI 6)), I2130, F2131)) ab_fu v0 (nI 5) I F
set_option maxRecDepth 20000 in
set_option maxHeartbeats 4000000 in
theorem kf_X10_heirOf (v0 : Int32) (v1 : Int32) (I : AI) (F : AF) : OK 0 mX10_heirOf true (f_X10_heirOf v0 v1 I F) (0, [(0, .int v0), (1, .int v1)], [], hp I F) := by
  rw [f_X10_heirOf]
  refine OK_st 4 okX10_heirOf (S' := (4, [(3, .int (nI 5)), (2, .int v0), (0, .int v0), (1, .int v1)], [], hp I F)) rfl ⟨trivial, (by decide), trivial, (by decide), trivial⟩ ?_
  refine OK_pk [3, 1, 0] rfl ?_
  refine kf_X10_heirOf_4 v1 _ (fun v2_2128 v3_2129 I2130 F2131 => ?_) ab_fu v0 (nI 5) I F
  refine OK_st 3 okX10_heirOf (S' := (24, [(1, .int v1), (2, .int v2_2128), (3, .int v3_2129)], [.int (v2_2128 - v2_2128 / (nI 6) * (nI 6))], hp I2130 F2131)) rfl ⟨trivial, trivial, (by decide), trivial⟩ ?_
  exact OK_ri okX10_heirOf rfl rfl (Or.inl rfl)

def f_X10_apart (v0 : Int32) (v1 : Int32) (I : AI) (F : AF) : AQ :=
  if v0 ≤ v1 then
    some ((v1 - v0), I, F)
  else
    some ((v0 - v1), I, F)
set_option maxRecDepth 20000 in
set_option maxHeartbeats 4000000 in
theorem kf_X10_apart (v0 : Int32) (v1 : Int32) (I : AI) (F : AF) : OK 0 mX10_apart true (f_X10_apart v0 v1 I F) (0, [(0, .int v0), (1, .int v1)], [], hp I F) := by
  rw [f_X10_apart]
  refine OK_st 3 okX10_apart (S' := ((if v0 ≤ v1 then 11 else 5), [(0, .int v0), (1, .int v1)], [], hp I F)) rfl ⟨trivial, trivial, trivial, trivial⟩ ?_
  refine OK_if (fun h2151 => ?_) (fun h2151 => ?_)
  · refine OK_st 3 okX10_apart (S' := (14, [(0, .int v0), (1, .int v1)], [.int (v1 - v0)], hp I F)) rfl ⟨trivial, trivial, trivial, trivial⟩ ?_
    exact OK_ri okX10_apart rfl rfl (Or.inl rfl)
  · refine OK_st 4 okX10_apart (S' := (14, [(0, .int v0), (1, .int v1)], [.int (v0 - v1)], hp I F)) rfl ⟨trivial, trivial, trivial, trivial, trivial⟩ ?_
    exact OK_ri okX10_apart rfl rfl (Or.inl rfl)

def f_X10_apartBy_7 (v1 : Int32) (ko : Int32 → Int32 → Int32 → AI → AF → AQ) : Nat → Int32 → Int32 → Int32 → AI → AF → AQ
  | 0, _, _, _, _, _ => none
  | n + 1, v2, v3, v4, I, F =>
    if (nI 6) ≤ v4 then
      ko v2 v3 v4 I F
    else
      ab_bd (f_X10_heirOf v1 v4 I F) (fun r2132 I2133 F2134 =>
        ab_bd (f_X10_lives v4 I2133 F2134) (fun r2135 I2136 F2137 =>
          if ¬ r2135 = 0 then
            if r2132 = v4 then
              some ((-1 : Int32), I2136, F2137)
            else
              ab_bd (f_X10_lives r2132 I2136 F2137) (fun r2140 I2141 F2142 =>
                if r2140 = 0 then
                  some ((-1 : Int32), I2141, F2142)
                else
                  ab_bd (f_X10_has v3 r2132 I2141 F2142) (fun r2144 I2145 F2146 =>
                    if r2144 = 0 then
                      ab_lt (v3 ||| ((1 : Int32) <<< (r2132 &&& 31))) (fun x2148 =>
                        bif ab_vin v4 22 then
                          bif ab_vin r2132 22 then
                            ab_bd (f_X10_apart ((F2146 47) v4.toNatClampNeg) ((F2146 47) r2132.toNatClampNeg) I2145 F2146) (fun r2152 I2153 F2154 =>
                              f_X10_apartBy_7 v1 ko n (v2 + r2152) x2148 (v4 + (1 : Int32)) I2153 F2154)
                          else none
                        else none)
                    else
                      some ((-1 : Int32), I2145, F2146)))
          else
            if r2132 ≤ 0 then
              f_X10_apartBy_7 v1 ko n v2 v3 (v4 + (1 : Int32)) I2136 F2137
            else
              some ((-1 : Int32), I2136, F2137)))
set_option maxRecDepth 20000 in
set_option maxHeartbeats 4000000 in
theorem kf_X10_apartBy_7 (v1 : Int32) (ko : Int32 → Int32 → Int32 → AI → AF → AQ) (hko : ∀ v2 v3 v4 I F, OK 2 mX10_apartBy true (ko v2 v3 v4 I F) (98, [(0, .ref 49), (1, .int v1), (2, .int v2), (3, .int v3), (4, .int v4)], [], hp I F)) : ∀ n v2 v3 v4 I F, OK 2 mX10_apartBy true (f_X10_apartBy_7 v1 ko n v2 v3 v4 I F) (7, [(0, .ref 49), (1, .int v1), (2, .int v2), (3, .int v3), (4, .int v4)], [], hp I F) := by
  intro n
  induction n with
  | zero =>
    intro v2 v3 v4 I F
    exact OK_no
  | succ n ih =>
    intro v2 v3 v4 I F
    rw [f_X10_apartBy_7]
    refine OK_st 3 okX10_apartBy (S' := ((if (nI 6) ≤ v4 then 98 else 14), [(0, .ref 49), (1, .int v1), (2, .int v2), (3, .int v3), (4, .int v4)], [], hp I F)) rfl ⟨trivial, trivial, trivial, trivial⟩ ?_
    refine OK_if (fun h2126 => ?_) (fun h2126 => ?_)
    · exact hko v2 v3 v4 I F
    · refine OK_st 2 okX10_apartBy (S' := (17, [(0, .ref 49), (1, .int v1), (2, .int v2), (3, .int v3), (4, .int v4)], [.int v4, .int v1], hp I F)) rfl ⟨trivial, trivial, trivial⟩ ?_
      refine OK_cs [.int v1, .int v4] [] okX10_apartBy okX10_heirOf rfl rfl cl_RX10_298 (Nat.le_of_ble_eq_true rfl) (by decide) (Nat.le_of_ble_eq_true rfl) (kf_X10_heirOf v1 v4 I F) (fun r2132 I2133 F2134 => ?_)
      refine OK_st 3 okX10_apartBy (S' := (25, [(5, .int r2132), (0, .ref 49), (1, .int v1), (2, .int v2), (3, .int v3), (4, .int v4)], [.int v4, .ref 49], hp I2133 F2134)) rfl ⟨(by decide), trivial, trivial, trivial⟩ ?_
      refine OK_cv [.int v4] [] okX10_apartBy okX10_lives rfl rfl cl_RX10_190 rfl rfl (Nat.le_of_ble_eq_true rfl) (by decide) (Nat.le_of_ble_eq_true rfl) (kf_X10_lives v4 I2133 F2134) (fun r2135 I2136 F2137 => ?_)
      refine OK_st 1 okX10_apartBy (S' := ((if ¬ r2135 = 0 then 38 else 31), [(5, .int r2132), (0, .ref 49), (1, .int v1), (2, .int v2), (3, .int v3), (4, .int v4)], [], hp I2136 F2137)) rfl ⟨trivial, trivial⟩ ?_
      refine OK_if (fun h2138 => ?_) (fun h2138 => ?_)
      · refine OK_st 3 okX10_apartBy (S' := ((if r2132 = v4 then 63 else 45), [(5, .int r2132), (0, .ref 49), (1, .int v1), (2, .int v2), (3, .int v3), (4, .int v4)], [], hp I2136 F2137)) rfl ⟨trivial, trivial, trivial, trivial⟩ ?_
        refine OK_if (fun h2139 => ?_) (fun h2139 => ?_)
        · refine OK_st 1 okX10_apartBy (S' := (64, [(5, .int r2132), (0, .ref 49), (1, .int v1), (2, .int v2), (3, .int v3), (4, .int v4)], [.int (-1 : Int32)], hp I2136 F2137)) rfl ⟨trivial, trivial⟩ ?_
          exact OK_ri okX10_apartBy rfl rfl (Or.inl rfl)
        · refine OK_st 2 okX10_apartBy (S' := (48, [(5, .int r2132), (0, .ref 49), (1, .int v1), (2, .int v2), (3, .int v3), (4, .int v4)], [.int r2132, .ref 49], hp I2136 F2137)) rfl ⟨trivial, trivial, trivial⟩ ?_
          refine OK_cv [.int r2132] [] okX10_apartBy okX10_lives rfl rfl cl_RX10_190 rfl rfl (Nat.le_of_ble_eq_true rfl) (by decide) (Nat.le_of_ble_eq_true rfl) (kf_X10_lives r2132 I2136 F2137) (fun r2140 I2141 F2142 => ?_)
          refine OK_st 1 okX10_apartBy (S' := ((if r2140 = 0 then 63 else 54), [(5, .int r2132), (0, .ref 49), (1, .int v1), (2, .int v2), (3, .int v3), (4, .int v4)], [], hp I2141 F2142)) rfl ⟨trivial, trivial⟩ ?_
          refine OK_if (fun h2143 => ?_) (fun h2143 => ?_)
          · refine OK_st 1 okX10_apartBy (S' := (64, [(5, .int r2132), (0, .ref 49), (1, .int v1), (2, .int v2), (3, .int v3), (4, .int v4)], [.int (-1 : Int32)], hp I2141 F2142)) rfl ⟨trivial, trivial⟩ ?_
            exact OK_ri okX10_apartBy rfl rfl (Or.inl rfl)
          · refine OK_st 2 okX10_apartBy (S' := (57, [(5, .int r2132), (0, .ref 49), (1, .int v1), (2, .int v2), (3, .int v3), (4, .int v4)], [.int r2132, .int v3], hp I2141 F2142)) rfl ⟨trivial, trivial, trivial⟩ ?_
            refine OK_cs [.int v3, .int r2132] [] okX10_apartBy okX10_has rfl rfl cl_RX10_106 (Nat.le_of_ble_eq_true rfl) (by decide) (Nat.le_of_ble_eq_true rfl) (kf_X10_has v3 r2132 I2141 F2142) (fun r2144 I2145 F2146 => ?_)
            refine OK_st 1 okX10_apartBy (S' := ((if r2144 = 0 then 65 else 63), [(5, .int r2132), (0, .ref 49), (1, .int v1), (2, .int v2), (3, .int v3), (4, .int v4)], [], hp I2145 F2146)) rfl ⟨trivial, trivial⟩ ?_
            refine OK_if (fun h2147 => ?_) (fun h2147 => ?_)
            · refine OK_st 6 okX10_apartBy (S' := (72, [(3, .int (v3 ||| ((1 : Int32) <<< (r2132 &&& 31)))), (5, .int r2132), (0, .ref 49), (1, .int v1), (2, .int v2), (4, .int v4)], [], hp I2145 F2146)) rfl ⟨trivial, trivial, trivial, trivial, trivial, (by decide), trivial⟩ ?_
              refine OK_lt (fun x2148 => (72, [(3, .int x2148), (5, .int r2132), (0, .ref 49), (1, .int v1), (2, .int v2), (4, .int v4)], [], hp I2145 F2146)) (fun x2148 => ?_)
              refine OK_gd (fun g2149 => ?_)
              refine OK_gd (fun g2150 => ?_)
              refine OK_st 9 okX10_apartBy (S' := (87, [(3, .int x2148), (5, .int r2132), (0, .ref 49), (1, .int v1), (2, .int v2), (4, .int v4)], [.int ((F2146 47) r2132.toNatClampNeg), .int ((F2146 47) v4.toNatClampNeg), .int v2], hp I2145 F2146)) rfl ⟨trivial, trivial, trivial, trivial, (ab_vo g2149), trivial, trivial, trivial, (ab_vo g2150), trivial⟩ ?_
              refine OK_cs [.int ((F2146 47) v4.toNatClampNeg), .int ((F2146 47) r2132.toNatClampNeg)] [.int v2] okX10_apartBy okX10_apart rfl rfl cl_RX10_301 (Nat.le_of_ble_eq_true rfl) (by decide) (Nat.le_of_ble_eq_true rfl) (kf_X10_apart ((F2146 47) v4.toNatClampNeg) ((F2146 47) r2132.toNatClampNeg) I2145 F2146) (fun r2152 I2153 F2154 => ?_)
              refine OK_st 4 okX10_apartBy (S' := (7, [(4, .int (v4 + (1 : Int32))), (2, .int (v2 + r2152)), (3, .int x2148), (5, .int r2132), (0, .ref 49), (1, .int v1)], [], hp I2153 F2154)) rfl ⟨trivial, (by decide), (by decide), trivial, trivial⟩ ?_
              refine OK_pk [4, 5, 1, 2, 0] rfl ?_
              exact ih (v2 + r2152) x2148 (v4 + (1 : Int32)) I2153 F2154
            · refine OK_st 1 okX10_apartBy (S' := (64, [(5, .int r2132), (0, .ref 49), (1, .int v1), (2, .int v2), (3, .int v3), (4, .int v4)], [.int (-1 : Int32)], hp I2145 F2146)) rfl ⟨trivial, trivial⟩ ?_
              exact OK_ri okX10_apartBy rfl rfl (Or.inl rfl)
      · refine OK_st 2 okX10_apartBy (S' := ((if r2132 ≤ 0 then 92 else 36), [(5, .int r2132), (0, .ref 49), (1, .int v1), (2, .int v2), (3, .int v3), (4, .int v4)], [], hp I2136 F2137)) rfl ⟨trivial, trivial, trivial⟩ ?_
        refine OK_if (fun h2155 => ?_) (fun h2155 => ?_)
        · refine OK_st 2 okX10_apartBy (S' := (7, [(4, .int (v4 + (1 : Int32))), (5, .int r2132), (0, .ref 49), (1, .int v1), (2, .int v2), (3, .int v3)], [], hp I2136 F2137)) rfl ⟨(by decide), trivial, trivial⟩ ?_
          refine OK_pk [2, 3, 4, 5, 0] rfl ?_
          exact ih v2 v3 (v4 + (1 : Int32)) I2136 F2137
        · refine OK_st 1 okX10_apartBy (S' := (37, [(5, .int r2132), (0, .ref 49), (1, .int v1), (2, .int v2), (3, .int v3), (4, .int v4)], [.int (-1 : Int32)], hp I2136 F2137)) rfl ⟨trivial, trivial⟩ ?_
          exact OK_ri okX10_apartBy rfl rfl (Or.inl rfl)
