/-! methods as functions (by program) -/
def f_X10_limbsOf (v0 : Int32) (I : AI) (F : AF) : AQ :=
  f_X10_limbsOf_4 v0 (fun v1_1912 v2_1913 I1914 F1915 =>
    some (v1_1912, I1914, F1915)) ab_fu (0 : Int32) (0 : Int32) I F
set_option maxRecDepth 20000 in
set_option maxHeartbeats 4000000 in
theorem kf_X10_limbsOf (v0 : Int32) (I : AI) (F : AF) : OK 1 mX10_limbsOf true (f_X10_limbsOf v0 I F) (0, [(0, .int v0)], [], hp I F) := by
  rw [f_X10_limbsOf]
  refine OK_st 4 okX10_limbsOf (S' := (4, [(2, .int (0 : Int32)), (1, .int (0 : Int32)), (0, .int v0)], [], hp I F)) rfl ⟨trivial, (by decide), trivial, (by decide), trivial⟩ ?_
  refine OK_pk [2, 1, 0] rfl ?_
  refine kf_X10_limbsOf_4 v0 _ (fun v1_1912 v2_1913 I1914 F1915 => ?_) ab_fu (0 : Int32) (0 : Int32) I F
  refine OK_st 1 okX10_limbsOf (S' := (33, [(0, .int v0), (1, .int v1_1912), (2, .int v2_1913)], [.int v1_1912], hp I1914 F1915)) rfl ⟨trivial, trivial⟩ ?_
  exact OK_ri okX10_limbsOf rfl rfl (Or.inl rfl)

def f_X10_isBasket (v1 : Int32) (I : AI) (F : AF) : AQ :=
  f_X10_isBasket_2 v1 (fun v2_1890 I1891 F1892 =>
    ab_bd (f_X10_basketAt v1 (0 : Int32) I1891 F1892) (fun r1904 I1905 F1906 =>
      ab_bd (f_X10_limbsOf v1 I1905 F1906) (fun r1916 I1917 F1918 =>
        ab_bd (f_X10_in r1916.toInt64 (1 : Int64) (3 : Int64) I1917 F1918) (fun r1919 I1920 F1921 =>
          if r1919 = 0 then
            some ((0 : Int32), I1920, F1921)
          else
            ab_bd (f_X10_basketAt v1 (1 : Int32) I1920 F1921) (fun r1923 I1924 F1925 =>
              if ¬ r1904 = r1923 then
                some ((0 : Int32), I1924, F1925)
              else
                ab_bd (f_X10_basketAt v1 (2 : Int32) I1924 F1925) (fun r1927 I1928 F1929 =>
                  if ¬ r1904 = r1927 then
                    some ((0 : Int32), I1928, F1929)
                  else
                    ab_bd (f_X10_basketAt v1 (3 : Int32) I1928 F1929) (fun r1931 I1932 F1933 =>
                      if ¬ r1904 = r1931 then
                        some ((0 : Int32), I1932, F1933)
                      else
                        some ((1 : Int32), I1932, F1933)))))))) ab_fu (0 : Int32) I F
set_option maxRecDepth 20000 in
set_option maxHeartbeats 4000000 in
theorem kf_X10_isBasket (v1 : Int32) (I : AI) (F : AF) : OK 3 mX10_isBasket true (f_X10_isBasket v1 I F) (0, [(0, .ref 49), (1, .int v1)], [], hp I F) := by
  rw [f_X10_isBasket]
  refine OK_st 2 okX10_isBasket (S' := (2, [(2, .int (0 : Int32)), (0, .ref 49), (1, .int v1)], [], hp I F)) rfl ⟨trivial, (by decide), trivial⟩ ?_
  refine OK_pk [1, 2, 0] rfl ?_
  refine kf_X10_isBasket_2 v1 _ (fun v2_1890 I1891 F1892 => ?_) ab_fu (0 : Int32) I F
  refine OK_st 3 okX10_isBasket (S' := (35, [(0, .ref 49), (1, .int v1), (2, .int v2_1890)], [.int (0 : Int32), .int v1, .ref 49], hp I1891 F1892)) rfl ⟨trivial, trivial, trivial, trivial⟩ ?_
  refine OK_cv [.int v1, .int (0 : Int32)] [] okX10_isBasket okX10_basketAt rfl rfl cl_RX10_258 rfl rfl (Nat.le_of_ble_eq_true rfl) (by decide) (Nat.le_of_ble_eq_true rfl) (kf_X10_basketAt v1 (0 : Int32) I1891 F1892) (fun r1904 I1905 F1906 => ?_)
  refine OK_st 2 okX10_isBasket (S' := (40, [(2, .int r1904), (0, .ref 49), (1, .int v1)], [.int v1], hp I1905 F1906)) rfl ⟨(by decide), trivial, trivial⟩ ?_
  refine OK_cs [.int v1] [] okX10_isBasket okX10_limbsOf rfl rfl cl_RX10_261 (Nat.le_of_ble_eq_true rfl) (by decide) (Nat.le_of_ble_eq_true rfl) (kf_X10_limbsOf v1 I1905 F1906) (fun r1916 I1917 F1918 => ?_)
  refine OK_st 3 okX10_isBasket (S' := (48, [(2, .int r1904), (0, .ref 49), (1, .int v1)], [.long (3 : Int64), .long (1 : Int64), .long r1916.toInt64], hp I1917 F1918)) rfl ⟨trivial, trivial, trivial, trivial⟩ ?_
  refine OK_cs [.long r1916.toInt64, .long (1 : Int64), .long (3 : Int64)] [] okX10_isBasket okX10_in rfl rfl cl_RX10_102 (Nat.le_of_ble_eq_true rfl) (by decide) (Nat.le_of_ble_eq_true rfl) (kf_X10_in r1916.toInt64 (1 : Int64) (3 : Int64) I1917 F1918) (fun r1919 I1920 F1921 => ?_)
  refine OK_st 1 okX10_isBasket (S' := ((if r1919 = 0 then 88 else 54), [(2, .int r1904), (0, .ref 49), (1, .int v1)], [], hp I1920 F1921)) rfl ⟨trivial, trivial⟩ ?_
  refine OK_if (fun h1922 => ?_) (fun h1922 => ?_)
  · refine OK_st 1 okX10_isBasket (S' := (89, [(2, .int r1904), (0, .ref 49), (1, .int v1)], [.int (0 : Int32)], hp I1920 F1921)) rfl ⟨trivial, trivial⟩ ?_
    exact OK_ri okX10_isBasket rfl rfl (Or.inr ⟨rfl, Or.inl rfl⟩)
  · refine OK_st 4 okX10_isBasket (S' := (58, [(2, .int r1904), (0, .ref 49), (1, .int v1)], [.int (1 : Int32), .int v1, .ref 49, .int r1904], hp I1920 F1921)) rfl ⟨trivial, trivial, trivial, trivial, trivial⟩ ?_
    refine OK_cv [.int v1, .int (1 : Int32)] [.int r1904] okX10_isBasket okX10_basketAt rfl rfl cl_RX10_258 rfl rfl (Nat.le_of_ble_eq_true rfl) (by decide) (Nat.le_of_ble_eq_true rfl) (kf_X10_basketAt v1 (1 : Int32) I1920 F1921) (fun r1923 I1924 F1925 => ?_)
    refine OK_st 1 okX10_isBasket (S' := ((if ¬ r1904 = r1923 then 88 else 64), [(2, .int r1904), (0, .ref 49), (1, .int v1)], [], hp I1924 F1925)) rfl ⟨trivial, trivial⟩ ?_
    refine OK_if (fun h1926 => ?_) (fun h1926 => ?_)
    · refine OK_st 1 okX10_isBasket (S' := (89, [(2, .int r1904), (0, .ref 49), (1, .int v1)], [.int (0 : Int32)], hp I1924 F1925)) rfl ⟨trivial, trivial⟩ ?_
      exact OK_ri okX10_isBasket rfl rfl (Or.inr ⟨rfl, Or.inl rfl⟩)
    · refine OK_st 4 okX10_isBasket (S' := (68, [(2, .int r1904), (0, .ref 49), (1, .int v1)], [.int (2 : Int32), .int v1, .ref 49, .int r1904], hp I1924 F1925)) rfl ⟨trivial, trivial, trivial, trivial, trivial⟩ ?_
      refine OK_cv [.int v1, .int (2 : Int32)] [.int r1904] okX10_isBasket okX10_basketAt rfl rfl cl_RX10_258 rfl rfl (Nat.le_of_ble_eq_true rfl) (by decide) (Nat.le_of_ble_eq_true rfl) (kf_X10_basketAt v1 (2 : Int32) I1924 F1925) (fun r1927 I1928 F1929 => ?_)
      refine OK_st 1 okX10_isBasket (S' := ((if ¬ r1904 = r1927 then 88 else 74), [(2, .int r1904), (0, .ref 49), (1, .int v1)], [], hp I1928 F1929)) rfl ⟨trivial, trivial⟩ ?_
      refine OK_if (fun h1930 => ?_) (fun h1930 => ?_)
      · refine OK_st 1 okX10_isBasket (S' := (89, [(2, .int r1904), (0, .ref 49), (1, .int v1)], [.int (0 : Int32)], hp I1928 F1929)) rfl ⟨trivial, trivial⟩ ?_
        exact OK_ri okX10_isBasket rfl rfl (Or.inr ⟨rfl, Or.inl rfl⟩)
      · refine OK_st 4 okX10_isBasket (S' := (78, [(2, .int r1904), (0, .ref 49), (1, .int v1)], [.int (3 : Int32), .int v1, .ref 49, .int r1904], hp I1928 F1929)) rfl ⟨trivial, trivial, trivial, trivial, trivial⟩ ?_
        refine OK_cv [.int v1, .int (3 : Int32)] [.int r1904] okX10_isBasket okX10_basketAt rfl rfl cl_RX10_258 rfl rfl (Nat.le_of_ble_eq_true rfl) (by decide) (Nat.le_of_ble_eq_true rfl) (kf_X10_basketAt v1 (3 : Int32) I1928 F1929) (fun r1931 I1932 F1933 => ?_)
        refine OK_st 1 okX10_isBasket (S' := ((if ¬ r1904 = r1931 then 88 else 84), [(2, .int r1904), (0, .ref 49), (1, .int v1)], [], hp I1932 F1933)) rfl ⟨trivial, trivial⟩ ?_
        refine OK_if (fun h1934 => ?_) (fun h1934 => ?_)
        · refine OK_st 1 okX10_isBasket (S' := (89, [(2, .int r1904), (0, .ref 49), (1, .int v1)], [.int (0 : Int32)], hp I1932 F1933)) rfl ⟨trivial, trivial⟩ ?_
          exact OK_ri okX10_isBasket rfl rfl (Or.inr ⟨rfl, Or.inl rfl⟩)
        · refine OK_st 2 okX10_isBasket (S' := (89, [(2, .int r1904), (0, .ref 49), (1, .int v1)], [.int (1 : Int32)], hp I1932 F1933)) rfl ⟨trivial, trivial, trivial⟩ ?_
          exact OK_ri okX10_isBasket rfl rfl (Or.inr ⟨rfl, Or.inr rfl⟩)

def f_X10_timesOf_4 (v0 : Int32) (ko : Int32 → Int32 → AI → AF → AQ) : Nat → Int32 → Int32 → AI → AF → AQ
  | 0, _, _, _, _ => none
  | n + 1, v1, v2, I, F =>
    if (6 : Int32) ≤ v2 then
      ko v1 v2 I F
    else
      ab_bd (f_X10_times v0 v2 I F) (fun r1941 I1942 F1943 =>
        f_X10_timesOf_4 v0 ko n (v1 + r1941) (v2 + (1 : Int32)) I1942 F1943)
set_option maxRecDepth 20000 in
set_option maxHeartbeats 4000000 in
theorem kf_X10_timesOf_4 (v0 : Int32) (ko : Int32 → Int32 → AI → AF → AQ) (hko : ∀ v1 v2 I F, OK 1 mX10_timesOf true (ko v1 v2 I F) (24, [(0, .int v0), (1, .int v1), (2, .int v2)], [], hp I F)) : ∀ n v1 v2 I F, OK 1 mX10_timesOf true (f_X10_timesOf_4 v0 ko n v1 v2 I F) (4, [(0, .int v0), (1, .int v1), (2, .int v2)], [], hp I F) := by
  intro n
  induction n with
  | zero =>
    intro v1 v2 I F
    exact OK_no
  | succ n ih =>
    intro v1 v2 I F
    rw [f_X10_timesOf_4]
    refine OK_st 3 okX10_timesOf (S' := ((if (6 : Int32) ≤ v2 then 24 else 10), [(0, .int v0), (1, .int v1), (2, .int v2)], [], hp I F)) rfl ⟨trivial, trivial, trivial, trivial⟩ ?_
    refine OK_if (fun h1940 => ?_) (fun h1940 => ?_)
    · exact hko v1 v2 I F
    · refine OK_st 3 okX10_timesOf (S' := (13, [(0, .int v0), (1, .int v1), (2, .int v2)], [.int v2, .int v0, .int v1], hp I F)) rfl ⟨trivial, trivial, trivial, trivial⟩ ?_
      refine OK_cs [.int v0, .int v2] [.int v1] okX10_timesOf okX10_times rfl rfl cl_RX10_252 (Nat.le_of_ble_eq_true rfl) (by decide) (Nat.le_of_ble_eq_true rfl) (kf_X10_times v0 v2 I F) (fun r1941 I1942 F1943 => ?_)
      refine OK_st 4 okX10_timesOf (S' := (4, [(2, .int (v2 + (1 : Int32))), (1, .int (v1 + r1941)), (0, .int v0)], [], hp I1942 F1943)) rfl ⟨trivial, (by decide), (by decide), trivial, trivial⟩ ?_
      refine OK_pk [2, 1, 0] rfl ?_
      exact ih (v1 + r1941) (v2 + (1 : Int32)) I1942 F1943

def f_X10_timesOf (v0 : Int32) (I : AI) (F : AF) : AQ :=
  f_X10_timesOf_4 v0 (fun v1_1944 v2_1945 I1946 F1947 =>
    some (v1_1944, I1946, F1947)) ab_fu (0 : Int32) (0 : Int32) I F
set_option maxRecDepth 20000 in
set_option maxHeartbeats 4000000 in
theorem kf_X10_timesOf (v0 : Int32) (I : AI) (F : AF) : OK 1 mX10_timesOf true (f_X10_timesOf v0 I F) (0, [(0, .int v0)], [], hp I F) := by
  rw [f_X10_timesOf]
  refine OK_st 4 okX10_timesOf (S' := (4, [(2, .int (0 : Int32)), (1, .int (0 : Int32)), (0, .int v0)], [], hp I F)) rfl ⟨trivial, (by decide), trivial, (by decide), trivial⟩ ?_
  refine OK_pk [2, 1, 0] rfl ?_
  refine kf_X10_timesOf_4 v0 _ (fun v1_1944 v2_1945 I1946 F1947 => ?_) ab_fu (0 : Int32) (0 : Int32) I F
  refine OK_st 1 okX10_timesOf (S' := (25, [(0, .int v0), (1, .int v1_1944), (2, .int v2_1945)], [.int v1_1944], hp I1946 F1947)) rfl ⟨trivial, trivial⟩ ?_
  exact OK_ri okX10_timesOf rfl rfl (Or.inl rfl)

def f_X10_isAhead_2 (v0 : Int32) (v1 : Int32) (ko : Int32 → AI → AF → AQ) : Nat → Int32 → AI → AF → AQ
  | 0, _, _, _ => none
  | n + 1, v2, I, F =>
    if (6 : Int32) ≤ v2 then
      ko v2 I F
    else
      ab_bd (f_X10_times v0 v2 I F) (fun r1960 I1961 F1962 =>
        ab_bd (f_X10_times v1 v2 I1961 F1962) (fun r1963 I1964 F1965 =>
          if r1960 = r1963 then
            f_X10_isAhead_2 v0 v1 ko n (v2 + (1 : Int32)) I1964 F1965
          else
            if r1960 ≤ 0 then
              some ((0 : Int32), I1964, F1965)
            else
              if r1963 = 0 then
                some ((1 : Int32), I1964, F1965)
              else
                if r1963 ≤ r1960 then
                  some ((0 : Int32), I1964, F1965)
                else
                  some ((1 : Int32), I1964, F1965)))
set_option maxRecDepth 20000 in
set_option maxHeartbeats 4000000 in
theorem kf_X10_isAhead_2 (v0 : Int32) (v1 : Int32) (ko : Int32 → AI → AF → AQ) (hko : ∀ v2 I F, OK 1 mX10_isAhead true (ko v2 I F) (54, [(0, .int v0), (1, .int v1), (2, .int v2)], [], hp I F)) : ∀ n v2 I F, OK 1 mX10_isAhead true (f_X10_isAhead_2 v0 v1 ko n v2 I F) (2, [(0, .int v0), (1, .int v1), (2, .int v2)], [], hp I F) := by
  intro n
  induction n with
  | zero =>
    intro v2 I F
    exact OK_no
  | succ n ih =>
    intro v2 I F
    rw [f_X10_isAhead_2]
    refine OK_st 3 okX10_isAhead (S' := ((if (6 : Int32) ≤ v2 then 54 else 8), [(0, .int v0), (1, .int v1), (2, .int v2)], [], hp I F)) rfl ⟨trivial, trivial, trivial, trivial⟩ ?_
    refine OK_if (fun h1959 => ?_) (fun h1959 => ?_)
    · exact hko v2 I F
    · refine OK_st 2 okX10_isAhead (S' := (10, [(0, .int v0), (1, .int v1), (2, .int v2)], [.int v2, .int v0], hp I F)) rfl ⟨trivial, trivial, trivial⟩ ?_
      refine OK_cs [.int v0, .int v2] [] okX10_isAhead okX10_times rfl rfl cl_RX10_252 (Nat.le_of_ble_eq_true rfl) (by decide) (Nat.le_of_ble_eq_true rfl) (kf_X10_times v0 v2 I F) (fun r1960 I1961 F1962 => ?_)
      refine OK_st 3 okX10_isAhead (S' := (16, [(3, .int r1960), (0, .int v0), (1, .int v1), (2, .int v2)], [.int v2, .int v1], hp I1961 F1962)) rfl ⟨(by decide), trivial, trivial, trivial⟩ ?_
      refine OK_cs [.int v1, .int v2] [] okX10_isAhead okX10_times rfl rfl cl_RX10_252 (Nat.le_of_ble_eq_true rfl) (by decide) (Nat.le_of_ble_eq_true rfl) (kf_X10_times v1 v2 I1961 F1962) (fun r1963 I1964 F1965 => ?_)
      refine OK_st 4 okX10_isAhead (S' := ((if r1960 = r1963 then 48 else 27), [(4, .int r1963), (3, .int r1960), (0, .int v0), (1, .int v1), (2, .int v2)], [], hp I1964 F1965)) rfl ⟨(by decide), trivial, trivial, trivial, trivial⟩ ?_
      refine OK_if (fun h1966 => ?_) (fun h1966 => ?_)
      · refine OK_st 2 okX10_isAhead (S' := (2, [(2, .int (v2 + (1 : Int32))), (4, .int r1963), (3, .int r1960), (0, .int v0), (1, .int v1)], [], hp I1964 F1965)) rfl ⟨(by decide), trivial, trivial⟩ ?_
        refine OK_pk [3, 4, 0] rfl ?_
        exact ih (v2 + (1 : Int32)) I1964 F1965
      · refine OK_st 2 okX10_isAhead (S' := ((if r1960 ≤ 0 then 46 else 31), [(4, .int r1963), (3, .int r1960), (0, .int v0), (1, .int v1), (2, .int v2)], [], hp I1964 F1965)) rfl ⟨trivial, trivial, trivial⟩ ?_
        refine OK_if (fun h1967 => ?_) (fun h1967 => ?_)
        · refine OK_st 1 okX10_isAhead (S' := (47, [(4, .int r1963), (3, .int r1960), (0, .int v0), (1, .int v1), (2, .int v2)], [.int (0 : Int32)], hp I1964 F1965)) rfl ⟨trivial, trivial⟩ ?_
          exact OK_ri okX10_isAhead rfl rfl (Or.inr ⟨rfl, Or.inl rfl⟩)
        · refine OK_st 2 okX10_isAhead (S' := ((if r1963 = 0 then 42 else 36), [(4, .int r1963), (3, .int r1960), (0, .int v0), (1, .int v1), (2, .int v2)], [], hp I1964 F1965)) rfl ⟨trivial, trivial, trivial⟩ ?_
          refine OK_if (fun h1968 => ?_) (fun h1968 => ?_)
          · refine OK_st 2 okX10_isAhead (S' := (47, [(4, .int r1963), (3, .int r1960), (0, .int v0), (1, .int v1), (2, .int v2)], [.int (1 : Int32)], hp I1964 F1965)) rfl ⟨trivial, trivial, trivial⟩ ?_
            exact OK_ri okX10_isAhead rfl rfl (Or.inr ⟨rfl, Or.inr rfl⟩)
          · refine OK_st 3 okX10_isAhead (S' := ((if r1963 ≤ r1960 then 46 else 42), [(4, .int r1963), (3, .int r1960), (0, .int v0), (1, .int v1), (2, .int v2)], [], hp I1964 F1965)) rfl ⟨trivial, trivial, trivial, trivial⟩ ?_
            refine OK_if (fun h1969 => ?_) (fun h1969 => ?_)
            · refine OK_st 1 okX10_isAhead (S' := (47, [(4, .int r1963), (3, .int r1960), (0, .int v0), (1, .int v1), (2, .int v2)], [.int (0 : Int32)], hp I1964 F1965)) rfl ⟨trivial, trivial⟩ ?_
              exact OK_ri okX10_isAhead rfl rfl (Or.inr ⟨rfl, Or.inl rfl⟩)
            · refine OK_st 2 okX10_isAhead (S' := (47, [(4, .int r1963), (3, .int r1960), (0, .int v0), (1, .int v1), (2, .int v2)], [.int (1 : Int32)], hp I1964 F1965)) rfl ⟨trivial, trivial, trivial⟩ ?_
              exact OK_ri okX10_isAhead rfl rfl (Or.inr ⟨rfl, Or.inr rfl⟩)

def f_X10_isAhead (v0 : Int32) (v1 : Int32) (I : AI) (F : AF) : AQ :=
  f_X10_isAhead_2 v0 v1 (fun v2_1970 I1971 F1972 =>
    some ((0 : Int32), I1971, F1972)) ab_fu (0 : Int32) I F
set_option maxRecDepth 20000 in
set_option maxHeartbeats 4000000 in
theorem kf_X10_isAhead (v0 : Int32) (v1 : Int32) (I : AI) (F : AF) : OK 1 mX10_isAhead true (f_X10_isAhead v0 v1 I F) (0, [(0, .int v0), (1, .int v1)], [], hp I F) := by
  rw [f_X10_isAhead]
  refine OK_st 2 okX10_isAhead (S' := (2, [(2, .int (0 : Int32)), (0, .int v0), (1, .int v1)], [], hp I F)) rfl ⟨trivial, (by decide), trivial⟩ ?_
  refine OK_pk [1, 2, 0] rfl ?_
  refine kf_X10_isAhead_2 v0 v1 _ (fun v2_1970 I1971 F1972 => ?_) ab_fu (0 : Int32) I F
  refine OK_st 1 okX10_isAhead (S' := (55, [(0, .int v0), (1, .int v1), (2, .int v2_1970)], [.int (0 : Int32)], hp I1971 F1972)) rfl ⟨trivial, trivial⟩ ?_
  exact OK_ri okX10_isAhead rfl rfl (Or.inr ⟨rfl, Or.inl rfl⟩)

def f_X10_findBasket_j66_7 (bk ko : Int32 → AI → AF → AQ) (v1 : Int32) (s0 : Int32) (I : AI) (F : AF) : AQ :=
  if s0 < 0 then
    ab_lt (va_up I 35 v1) (fun I1956 =>
      bk (v1 + (1 : Int32)) I1956 F)
  else
    if ¬ s0 = 0 then
      ab_lt (va_up I 35 (I 35)) (fun I1958 =>
        bk (v1 + (1 : Int32)) I1958 F)
    else
      ab_bd (f_X10_isAhead v1 (I 35) I F) (fun r1973 I1974 F1975 =>
        if r1973 = 0 then
          ab_lt (va_up I1974 35 (I1974 35)) (fun I1977 =>
            bk (v1 + (1 : Int32)) I1977 F1975)
        else
          ab_lt (va_up I1974 35 v1) (fun I1978 =>
            bk (v1 + (1 : Int32)) I1978 F1975))
set_option maxRecDepth 20000 in
set_option maxHeartbeats 4000000 in
theorem kf_X10_findBasket_j66_7 (bk ko : Int32 → AI → AF → AQ) (v1 : Int32) (hbk : ∀ v1 I F, OK 4 mX10_findBasket false (bk v1 I F) (7, [(0, .ref 49), (1, .int v1)], [], hp I F)) (hko : ∀ v1 I F, OK 4 mX10_findBasket false (ko v1 I F) (104, [(0, .ref 49), (1, .int v1)], [], hp I F)) (s0 : Int32) (I : AI) (F : AF) : OK 4 mX10_findBasket false (f_X10_findBasket_j66_7 bk ko v1 s0 I F) (66, [(0, .ref 49), (1, .int v1)], [.int s0], hp I F) := by
  rw [f_X10_findBasket_j66_7]
  refine OK_st 4 okX10_findBasket (S' := ((if s0 < 0 then 87 else 72), [(2, .int s0), (0, .ref 49), (1, .int v1)], [.ref 49], hp I F)) rfl ⟨(by decide), trivial, trivial, trivial, trivial⟩ ?_
  refine OK_if (fun h1955 => ?_) (fun h1955 => ?_)
  · refine OK_st 5 okX10_findBasket (S' := (7, [(1, .int (v1 + (1 : Int32))), (2, .int s0), (0, .ref 49)], [], hp (va_up I 35 v1) F)) rfl ⟨trivial, trivial, trivial, (by decide), trivial, trivial⟩ ?_
    refine OK_lt (fun I1956 => (7, [(1, .int (v1 + (1 : Int32))), (2, .int s0), (0, .ref 49)], [], hp I1956 F)) (fun I1956 => ?_)
    refine OK_pk [2, 0] rfl ?_
    exact hbk (v1 + (1 : Int32)) I1956 F
  · refine OK_st 2 okX10_findBasket (S' := ((if ¬ s0 = 0 then 91 else 76), [(2, .int s0), (0, .ref 49), (1, .int v1)], [.ref 49], hp I F)) rfl ⟨trivial, trivial, trivial⟩ ?_
    refine OK_if (fun h1957 => ?_) (fun h1957 => ?_)
    · refine OK_st 5 okX10_findBasket (S' := (7, [(1, .int (v1 + (1 : Int32))), (2, .int s0), (0, .ref 49)], [], hp (va_up I 35 (I 35)) F)) rfl ⟨trivial, trivial, trivial, (by decide), trivial, trivial⟩ ?_
      refine OK_lt (fun I1958 => (7, [(1, .int (v1 + (1 : Int32))), (2, .int s0), (0, .ref 49)], [], hp I1958 F)) (fun I1958 => ?_)
      refine OK_pk [2, 0] rfl ?_
      exact hbk (v1 + (1 : Int32)) I1958 F
    · refine OK_st 3 okX10_findBasket (S' := (81, [(2, .int s0), (0, .ref 49), (1, .int v1)], [.int (I 35), .int v1, .ref 49], hp I F)) rfl ⟨trivial, trivial, trivial, trivial⟩ ?_
      refine OK_cs [.int v1, .int (I 35)] [.ref 49] okX10_findBasket okX10_isAhead rfl rfl cl_RX10_275 (Nat.le_of_ble_eq_true rfl) (by decide) (Nat.le_of_ble_eq_true rfl) (kf_X10_isAhead v1 (I 35) I F) (fun r1973 I1974 F1975 => ?_)
      refine OK_st 1 okX10_findBasket (S' := ((if r1973 = 0 then 91 else 87), [(2, .int s0), (0, .ref 49), (1, .int v1)], [.ref 49], hp I1974 F1975)) rfl ⟨trivial, trivial⟩ ?_
      refine OK_if (fun h1976 => ?_) (fun h1976 => ?_)
      · refine OK_st 5 okX10_findBasket (S' := (7, [(1, .int (v1 + (1 : Int32))), (2, .int s0), (0, .ref 49)], [], hp (va_up I1974 35 (I1974 35)) F1975)) rfl ⟨trivial, trivial, trivial, (by decide), trivial, trivial⟩ ?_
        refine OK_lt (fun I1977 => (7, [(1, .int (v1 + (1 : Int32))), (2, .int s0), (0, .ref 49)], [], hp I1977 F1975)) (fun I1977 => ?_)
        refine OK_pk [2, 0] rfl ?_
        exact hbk (v1 + (1 : Int32)) I1977 F1975
      · refine OK_st 5 okX10_findBasket (S' := (7, [(1, .int (v1 + (1 : Int32))), (2, .int s0), (0, .ref 49)], [], hp (va_up I1974 35 v1) F1975)) rfl ⟨trivial, trivial, trivial, (by decide), trivial, trivial⟩ ?_
        refine OK_lt (fun I1978 => (7, [(1, .int (v1 + (1 : Int32))), (2, .int s0), (0, .ref 49)], [], hp I1978 F1975)) (fun I1978 => ?_)
        refine OK_pk [2, 0] rfl ?_
        exact hbk (v1 + (1 : Int32)) I1978 F1975

def f_X10_findBasket_j45_7 (bk ko : Int32 → AI → AF → AQ) (v1 : Int32) (s0 : Int32) (I : AI) (F : AF) : AQ :=
  if ¬ s0 = 0 then
    f_X10_findBasket_j66_7 (bk) ko v1 s0 I F
  else
    ab_bd (f_X10_limbsOf v1 I F) (fun r1979 I1980 F1981 =>
      ab_bd (f_X10_limbsOf (I1980 35) I1980 F1981) (fun r1982 I1983 F1984 =>
        f_X10_findBasket_j66_7 (bk) ko v1 (r1979 - r1982) I1983 F1984))
set_option maxRecDepth 20000 in
set_option maxHeartbeats 4000000 in
theorem kf_X10_findBasket_j45_7 (bk ko : Int32 → AI → AF → AQ) (v1 : Int32) (hbk : ∀ v1 I F, OK 4 mX10_findBasket false (bk v1 I F) (7, [(0, .ref 49), (1, .int v1)], [], hp I F)) (hko : ∀ v1 I F, OK 4 mX10_findBasket false (ko v1 I F) (104, [(0, .ref 49), (1, .int v1)], [], hp I F)) (s0 : Int32) (I : AI) (F : AF) : OK 4 mX10_findBasket false (f_X10_findBasket_j45_7 bk ko v1 s0 I F) (45, [(0, .ref 49), (1, .int v1)], [.int s0], hp I F) := by
  rw [f_X10_findBasket_j45_7]
  refine OK_st 3 okX10_findBasket (S' := ((if ¬ s0 = 0 then 65 else 50), [(2, .int s0), (0, .ref 49), (1, .int v1)], [], hp I F)) rfl ⟨(by decide), trivial, trivial, trivial⟩ ?_
  refine OK_if (fun h1954 => ?_) (fun h1954 => ?_)
  · refine OK_st 1 okX10_findBasket (S' := (66, [(2, .int s0), (0, .ref 49), (1, .int v1)], [.int s0], hp I F)) rfl ⟨trivial, trivial⟩ ?_
    refine OK_pk [1, 2] rfl ?_
    exact kf_X10_findBasket_j66_7 (bk) ko v1 hbk hko s0 I F
  · refine OK_st 1 okX10_findBasket (S' := (51, [(2, .int s0), (0, .ref 49), (1, .int v1)], [.int v1], hp I F)) rfl ⟨trivial, trivial⟩ ?_
    refine OK_cs [.int v1] [] okX10_findBasket okX10_limbsOf rfl rfl cl_RX10_261 (Nat.le_of_ble_eq_true rfl) (by decide) (Nat.le_of_ble_eq_true rfl) (kf_X10_limbsOf v1 I F) (fun r1979 I1980 F1981 => ?_)
    refine OK_st 2 okX10_findBasket (S' := (58, [(2, .int s0), (0, .ref 49), (1, .int v1)], [.int (I1980 35), .int r1979], hp I1980 F1981)) rfl ⟨trivial, trivial, trivial⟩ ?_
    refine OK_cs [.int (I1980 35)] [.int r1979] okX10_findBasket okX10_limbsOf rfl rfl cl_RX10_261 (Nat.le_of_ble_eq_true rfl) (by decide) (Nat.le_of_ble_eq_true rfl) (kf_X10_limbsOf (I1980 35) I1980 F1981) (fun r1982 I1983 F1984 => ?_)
    refine OK_st 2 okX10_findBasket (S' := (66, [(2, .int s0), (0, .ref 49), (1, .int v1)], [.int (r1979 - r1982)], hp I1983 F1984)) rfl ⟨trivial, trivial, trivial⟩ ?_
    refine OK_pk [1, 2] rfl ?_
    exact kf_X10_findBasket_j66_7 (bk) ko v1 hbk hko (r1979 - r1982) I1983 F1984

def f_X10_findBasket_7 (ko : Int32 → AI → AF → AQ) : Nat → Int32 → AI → AF → AQ
  | 0, _, _, _ => none
  | n + 1, v1, I, F =>
    if (15625 : Int32) ≤ v1 then
      ko v1 I F
    else
      ab_bd (f_X10_isBasket v1 I F) (fun r1935 I1936 F1937 =>
        if r1935 = 0 then
          f_X10_findBasket_7 ko n (v1 + (1 : Int32)) I1936 F1937
        else
          if 0 ≤ (I1936 35) then
            ab_bd (f_X10_timesOf v1 I1936 F1937) (fun r1948 I1949 F1950 =>
              ab_bd (f_X10_timesOf (I1949 35) I1949 F1950) (fun r1951 I1952 F1953 =>
                f_X10_findBasket_j45_7 (f_X10_findBasket_7 ko n) ko v1 (r1948 - r1951) I1952 F1953))
          else
            f_X10_findBasket_j45_7 (f_X10_findBasket_7 ko n) ko v1 (-1 : Int32) I1936 F1937)
set_option maxRecDepth 20000 in
set_option maxHeartbeats 4000000 in
theorem kf_X10_findBasket_7 (ko : Int32 → AI → AF → AQ) (hko : ∀ v1 I F, OK 4 mX10_findBasket false (ko v1 I F) (104, [(0, .ref 49), (1, .int v1)], [], hp I F)) : ∀ n v1 I F, OK 4 mX10_findBasket false (f_X10_findBasket_7 ko n v1 I F) (7, [(0, .ref 49), (1, .int v1)], [], hp I F) := by
  intro n
  induction n with
  | zero =>
    intro v1 I F
    exact OK_no
  | succ n ih =>
    intro v1 I F
    rw [f_X10_findBasket_7]
    refine OK_st 3 okX10_findBasket (S' := ((if (15625 : Int32) ≤ v1 then 104 else 14), [(0, .ref 49), (1, .int v1)], [], hp I F)) rfl ⟨trivial, trivial, trivial, trivial⟩ ?_
    refine OK_if (fun h1865 => ?_) (fun h1865 => ?_)
    · exact hko v1 I F
    · refine OK_st 2 okX10_findBasket (S' := (16, [(0, .ref 49), (1, .int v1)], [.int v1, .ref 49], hp I F)) rfl ⟨trivial, trivial, trivial⟩ ?_
      refine OK_cv [.int v1] [] okX10_findBasket okX10_isBasket rfl rfl cl_RX10_269 rfl rfl (Nat.le_of_ble_eq_true rfl) (by decide) (Nat.le_of_ble_eq_true rfl) (kf_X10_isBasket v1 I F) (fun r1935 I1936 F1937 => ?_)
      refine OK_st 1 okX10_findBasket (S' := ((if r1935 = 0 then 98 else 22), [(0, .ref 49), (1, .int v1)], [], hp I1936 F1937)) rfl ⟨trivial, trivial⟩ ?_
      refine OK_if (fun h1938 => ?_) (fun h1938 => ?_)
      · refine OK_st 2 okX10_findBasket (S' := (7, [(1, .int (v1 + (1 : Int32))), (0, .ref 49)], [], hp I1936 F1937)) rfl ⟨(by decide), trivial, trivial⟩ ?_
        refine OK_pk [1, 0] rfl ?_
        exact ih (v1 + (1 : Int32)) I1936 F1937
      · refine OK_st 3 okX10_findBasket (S' := ((if 0 ≤ (I1936 35) then 33 else 29), [(0, .ref 49), (1, .int v1)], [], hp I1936 F1937)) rfl ⟨trivial, trivial, trivial, trivial⟩ ?_
        refine OK_if (fun h1939 => ?_) (fun h1939 => ?_)
        · refine OK_st 1 okX10_findBasket (S' := (34, [(0, .ref 49), (1, .int v1)], [.int v1], hp I1936 F1937)) rfl ⟨trivial, trivial⟩ ?_
          refine OK_cs [.int v1] [] okX10_findBasket okX10_timesOf rfl rfl cl_RX10_272 (Nat.le_of_ble_eq_true rfl) (by decide) (Nat.le_of_ble_eq_true rfl) (kf_X10_timesOf v1 I1936 F1937) (fun r1948 I1949 F1950 => ?_)
          refine OK_st 2 okX10_findBasket (S' := (41, [(0, .ref 49), (1, .int v1)], [.int (I1949 35), .int r1948], hp I1949 F1950)) rfl ⟨trivial, trivial, trivial⟩ ?_
          refine OK_cs [.int (I1949 35)] [.int r1948] okX10_findBasket okX10_timesOf rfl rfl cl_RX10_272 (Nat.le_of_ble_eq_true rfl) (by decide) (Nat.le_of_ble_eq_true rfl) (kf_X10_timesOf (I1949 35) I1949 F1950) (fun r1951 I1952 F1953 => ?_)
          refine OK_st 1 okX10_findBasket (S' := (45, [(0, .ref 49), (1, .int v1)], [.int (r1948 - r1951)], hp I1952 F1953)) rfl ⟨trivial, trivial⟩ ?_
          exact kf_X10_findBasket_j45_7 (f_X10_findBasket_7 ko n) ko v1 ih hko (r1948 - r1951) I1952 F1953
        · refine OK_st 2 okX10_findBasket (S' := (45, [(0, .ref 49), (1, .int v1)], [.int (-1 : Int32)], hp I1936 F1937)) rfl ⟨trivial, trivial, trivial⟩ ?_
          exact kf_X10_findBasket_j45_7 (f_X10_findBasket_7 ko n) ko v1 ih hko (-1 : Int32) I1936 F1937

def f_X10_findBasket (I : AI) (F : AF) : AQ :=
  ab_lt (va_up I 35 (-1 : Int32)) (fun I1864 =>
    f_X10_findBasket_7 (fun v1_1985 I1986 F1987 =>
      some (0, I1986, F1987)) ab_fu (1 : Int32) I1864 F)
set_option maxRecDepth 20000 in
set_option maxHeartbeats 4000000 in
theorem kf_X10_findBasket (I : AI) (F : AF) : OK 4 mX10_findBasket false (f_X10_findBasket I F) (0, [(0, .ref 49)], [], hp I F) := by
  rw [f_X10_findBasket]
  refine OK_st 5 okX10_findBasket (S' := (7, [(1, .int (1 : Int32)), (0, .ref 49)], [], hp (va_up I 35 (-1 : Int32)) F)) rfl ⟨trivial, trivial, trivial, trivial, (by decide), trivial⟩ ?_
  refine OK_lt (fun I1864 => (7, [(1, .int (1 : Int32)), (0, .ref 49)], [], hp I1864 F)) (fun I1864 => ?_)
  refine OK_pk [1, 0] rfl ?_
  refine kf_X10_findBasket_7 _ (fun v1_1985 I1986 F1987 => ?_) ab_fu (1 : Int32) I1864 F
  exact OK_rv okX10_findBasket rfl rfl rfl

def f_X10_basket_j16 (v1 : Int32) (I : AI) (F : AF) : AQ :=
  ab_bd (f_X10_findBasket I F) (fun r1988 I1989 F1990 =>
    if 0 ≤ (I1989 35) then
      if ¬ v1 = (-1 : Int32) then
        ab_bd (f_X10_times (I1989 35) v1 I1989 F1990) (fun r1993 I1994 F1995 =>
          some (r1993, I1994, F1995))
      else
        ab_bd (f_X10_timesOf (I1989 35) I1989 F1990) (fun r1996 I1997 F1998 =>
          some (r1996, I1997, F1998))
    else
      some ((-1 : Int32), I1989, F1990))
set_option maxRecDepth 20000 in
set_option maxHeartbeats 4000000 in
theorem kf_X10_basket_j16 (v1 : Int32) (I : AI) (F : AF) : OK 5 mX10_basket true (f_X10_basket_j16 v1 I F) (16, [(0, .ref 49), (1, .int v1)], [], hp I F) := by
  rw [f_X10_basket_j16]
  refine OK_st 1 okX10_basket (S' := (17, [(0, .ref 49), (1, .int v1)], [.ref 49], hp I F)) rfl ⟨trivial, trivial⟩ ?_
  refine OK_cv [] [] okX10_basket okX10_findBasket rfl rfl cl_RX10_278 rfl rfl (Nat.le_of_ble_eq_true rfl) (by decide) (Nat.le_of_ble_eq_true rfl) (kf_X10_findBasket I F) (fun r1988 I1989 F1990 => ?_)
  refine OK_st 3 okX10_basket (S' := ((if 0 ≤ (I1989 35) then 31 else 27), [(0, .ref 49), (1, .int v1)], [], hp I1989 F1990)) rfl ⟨trivial, trivial, trivial, trivial⟩ ?_
  refine OK_if (fun h1991 => ?_) (fun h1991 => ?_)
  · refine OK_st 3 okX10_basket (S' := ((if ¬ v1 = (-1 : Int32) then 46 else 36), [(0, .ref 49), (1, .int v1)], [], hp I1989 F1990)) rfl ⟨trivial, trivial, trivial, trivial⟩ ?_
    refine OK_if (fun h1992 => ?_) (fun h1992 => ?_)
    · refine OK_st 3 okX10_basket (S' := (51, [(0, .ref 49), (1, .int v1)], [.int v1, .int (I1989 35)], hp I1989 F1990)) rfl ⟨trivial, trivial, trivial, trivial⟩ ?_
      refine OK_cs [.int (I1989 35), .int v1] [] okX10_basket okX10_times rfl rfl cl_RX10_252 (Nat.le_of_ble_eq_true rfl) (by decide) (Nat.le_of_ble_eq_true rfl) (kf_X10_times (I1989 35) v1 I1989 F1990) (fun r1993 I1994 F1995 => ?_)
      exact OK_ri okX10_basket rfl rfl (Or.inl rfl)
    · refine OK_st 2 okX10_basket (S' := (40, [(0, .ref 49), (1, .int v1)], [.int (I1989 35)], hp I1989 F1990)) rfl ⟨trivial, trivial, trivial⟩ ?_
      refine OK_cs [.int (I1989 35)] [] okX10_basket okX10_timesOf rfl rfl cl_RX10_272 (Nat.le_of_ble_eq_true rfl) (by decide) (Nat.le_of_ble_eq_true rfl) (kf_X10_timesOf (I1989 35) I1989 F1990) (fun r1996 I1997 F1998 => ?_)
      refine OK_st 1 okX10_basket (S' := (54, [(0, .ref 49), (1, .int v1)], [.int r1996], hp I1997 F1998)) rfl ⟨trivial, trivial⟩ ?_
      exact OK_ri okX10_basket rfl rfl (Or.inl rfl)
  · refine OK_st 2 okX10_basket (S' := (54, [(0, .ref 49), (1, .int v1)], [.int (-1 : Int32)], hp I1989 F1990)) rfl ⟨trivial, trivial, trivial⟩ ?_
    exact OK_ri okX10_basket rfl rfl (Or.inl rfl)

def f_X10_basket (v1 : Int32) (I : AI) (F : AF) : AQ :=
  if v1 = (-1 : Int32) then
    f_X10_basket_j16 v1 I F
  else
    ab_bd (f_X10_isLimb v1 I F) (fun r1999 I2000 F2001 =>
      if ¬ r1999 = 0 then
        f_X10_basket_j16 v1 I2000 F2001
      else
        some ((-1000000001 : Int32), I2000, F2001))
set_option maxRecDepth 20000 in
set_option maxHeartbeats 4000000 in
theorem kf_X10_basket (v1 : Int32) (I : AI) (F : AF) : OK 5 mX10_basket true (f_X10_basket v1 I F) (0, [(0, .ref 49), (1, .int v1)], [], hp I F) := by
  rw [f_X10_basket]
  refine OK_st 3 okX10_basket (S' := ((if v1 = (-1 : Int32) then 16 else 5), [(0, .ref 49), (1, .int v1)], [], hp I F)) rfl ⟨trivial, trivial, trivial, trivial⟩ ?_
  refine OK_if (fun h1863 => ?_) (fun h1863 => ?_)
  · exact kf_X10_basket_j16 v1 I F
  · refine OK_st 2 okX10_basket (S' := (7, [(0, .ref 49), (1, .int v1)], [.int v1, .ref 49], hp I F)) rfl ⟨trivial, trivial, trivial⟩ ?_
    refine OK_cv [.int v1] [] okX10_basket okX10_isLimb rfl rfl cl_RX10_200 rfl rfl (Nat.le_of_ble_eq_true rfl) (by decide) (Nat.le_of_ble_eq_true rfl) (kf_X10_isLimb v1 I F) (fun r1999 I2000 F2001 => ?_)
    refine OK_st 1 okX10_basket (S' := ((if ¬ r1999 = 0 then 16 else 13), [(0, .ref 49), (1, .int v1)], [], hp I2000 F2001)) rfl ⟨trivial, trivial⟩ ?_
    refine OK_if (fun h2002 => ?_) (fun h2002 => ?_)
    · exact kf_X10_basket_j16 v1 I2000 F2001
    · refine OK_st 1 okX10_basket (S' := (15, [(0, .ref 49), (1, .int v1)], [.int (-1000000001 : Int32)], hp I2000 F2001)) rfl ⟨trivial, trivial⟩ ?_
      exact OK_ri okX10_basket rfl rfl (Or.inl rfl)

def f_X10_figure (v0 : Int32) (v1 : Int32) (v2 : Int32) (I : AI) (F : AF) : AQ :=
  some (((v0 >>> (((3 : Int32) * ((v1 - (1 : Int32)) - v2)) &&& 31)) &&& (7 : Int32)), I, F)
set_option maxRecDepth 20000 in
set_option maxHeartbeats 4000000 in
theorem kf_X10_figure (v0 : Int32) (v1 : Int32) (v2 : Int32) (I : AI) (F : AF) : OK 0 mX10_figure true (f_X10_figure v0 v1 v2 I F) (0, [(0, .int v0), (1, .int v1), (2, .int v2)], [], hp I F) := by
  rw [f_X10_figure]
  refine OK_st 11 okX10_figure (S' := (12, [(0, .int v0), (1, .int v1), (2, .int v2)], [.int ((v0 >>> (((3 : Int32) * ((v1 - (1 : Int32)) - v2)) &&& 31)) &&& (7 : Int32))], hp I F)) rfl ⟨trivial, trivial, trivial, trivial, trivial, trivial, trivial, trivial, trivial, trivial, trivial, trivial⟩ ?_
  exact OK_ri okX10_figure rfl rfl (Or.inl rfl)

def f_X10_isRow_5 (v1 : Int32) (v2 : Int32) (ko : Int32 → Int32 → AI → AF → AQ) : Nat → Int32 → Int32 → AI → AF → AQ
  | 0, _, _, _, _ => none
  | n + 1, v3, v4, I, F =>
    if v2 ≤ v4 then
      ko v3 v4 I F
    else
      ab_bd (f_X10_figure v1 v2 v4 I F) (fun r2007 I2008 F2009 =>
        bif ab_nz v2 then
          ab_bd (f_X10_figure v1 v2 ((v4 + (1 : Int32)) - (v4 + (1 : Int32)) / v2 * v2) I2008 F2009) (fun r2011 I2012 F2013 =>
            if (I2012 24) ≤ r2007 then
              some ((0 : Int32), I2012, F2013)
            else
              if (I2012 24) ≤ r2011 then
                some ((0 : Int32), I2012, F2013)
              else
                bif ab_vin r2007 8 then
                  bif ab_vin r2011 8 then
                    if ¬ ((F2013 44) r2007.toNatClampNeg) = ((F2013 43) r2011.toNatClampNeg) then
                      some ((0 : Int32), I2012, F2013)
                    else
                      bif ab_vin r2007 8 then
                        ab_bd (f_X10_has v3 ((F2013 43) r2007.toNatClampNeg) I2012 F2013) (fun r2020 I2021 F2022 =>
                          if r2020 = 0 then
                            bif ab_vin r2007 8 then
                              ab_lt (v3 ||| ((1 : Int32) <<< (((F2022 43) r2007.toNatClampNeg) &&& 31))) (fun x2025 =>
                                f_X10_isRow_5 v1 v2 ko n x2025 (v4 + (1 : Int32)) I2021 F2022)
                            else none
                          else
                            some ((0 : Int32), I2021, F2022))
                      else none
                  else none
                else none)
        else none)
set_option maxRecDepth 20000 in
set_option maxHeartbeats 4000000 in
theorem kf_X10_isRow_5 (v1 : Int32) (v2 : Int32) (ko : Int32 → Int32 → AI → AF → AQ) (hko : ∀ v3 v4 I F, OK 1 mX10_isRow true (ko v3 v4 I F) (102, [(0, .ref 49), (1, .int v1), (2, .int v2), (3, .int v3), (4, .int v4)], [], hp I F)) : ∀ n v3 v4 I F, OK 1 mX10_isRow true (f_X10_isRow_5 v1 v2 ko n v3 v4 I F) (5, [(0, .ref 49), (1, .int v1), (2, .int v2), (3, .int v3), (4, .int v4)], [], hp I F) := by
  intro n
  induction n with
  | zero =>
    intro v3 v4 I F
    exact OK_no
  | succ n ih =>
    intro v3 v4 I F
    rw [f_X10_isRow_5]
    refine OK_st 3 okX10_isRow (S' := ((if v2 ≤ v4 then 102 else 11), [(0, .ref 49), (1, .int v1), (2, .int v2), (3, .int v3), (4, .int v4)], [], hp I F)) rfl ⟨trivial, trivial, trivial, trivial⟩ ?_
    refine OK_if (fun h2006 => ?_) (fun h2006 => ?_)
    · exact hko v3 v4 I F
    · refine OK_st 3 okX10_isRow (S' := (15, [(0, .ref 49), (1, .int v1), (2, .int v2), (3, .int v3), (4, .int v4)], [.int v4, .int v2, .int v1], hp I F)) rfl ⟨trivial, trivial, trivial, trivial⟩ ?_
      refine OK_cs [.int v1, .int v2, .int v4] [] okX10_isRow okX10_figure rfl rfl cl_RX10_281 (Nat.le_of_ble_eq_true rfl) (by decide) (Nat.le_of_ble_eq_true rfl) (kf_X10_figure v1 v2 v4 I F) (fun r2007 I2008 F2009 => ?_)
      refine OK_gd (fun g2010 => ?_)
      refine OK_st 8 okX10_isRow (S' := (28, [(5, .int r2007), (0, .ref 49), (1, .int v1), (2, .int v2), (3, .int v3), (4, .int v4)], [.int ((v4 + (1 : Int32)) - (v4 + (1 : Int32)) / v2 * v2), .int v2, .int v1], hp I2008 F2009)) rfl ⟨(by decide), trivial, trivial, trivial, trivial, trivial, trivial, (ab_nzo g2010), trivial⟩ ?_
      refine OK_cs [.int v1, .int v2, .int ((v4 + (1 : Int32)) - (v4 + (1 : Int32)) / v2 * v2)] [] okX10_isRow okX10_figure rfl rfl cl_RX10_281 (Nat.le_of_ble_eq_true rfl) (by decide) (Nat.le_of_ble_eq_true rfl) (kf_X10_figure v1 v2 ((v4 + (1 : Int32)) - (v4 + (1 : Int32)) / v2 * v2) I2008 F2009) (fun r2011 I2012 F2013 => ?_)
      refine OK_st 5 okX10_isRow (S' := ((if (I2012 24) ≤ r2007 then 82 else 42), [(6, .int r2011), (5, .int r2007), (0, .ref 49), (1, .int v1), (2, .int v2), (3, .int v3), (4, .int v4)], [], hp I2012 F2013)) rfl ⟨(by decide), trivial, trivial, trivial, trivial, trivial⟩ ?_
      refine OK_if (fun h2014 => ?_) (fun h2014 => ?_)
      · refine OK_st 1 okX10_isRow (S' := (83, [(6, .int r2011), (5, .int r2007), (0, .ref 49), (1, .int v1), (2, .int v2), (3, .int v3), (4, .int v4)], [.int (0 : Int32)], hp I2012 F2013)) rfl ⟨trivial, trivial⟩ ?_
        exact OK_ri okX10_isRow rfl rfl (Or.inr ⟨rfl, Or.inl rfl⟩)
      · refine OK_st 4 okX10_isRow (S' := ((if (I2012 24) ≤ r2011 then 82 else 51), [(6, .int r2011), (5, .int r2007), (0, .ref 49), (1, .int v1), (2, .int v2), (3, .int v3), (4, .int v4)], [], hp I2012 F2013)) rfl ⟨trivial, trivial, trivial, trivial, trivial⟩ ?_
        refine OK_if (fun h2015 => ?_) (fun h2015 => ?_)
        · refine OK_st 1 okX10_isRow (S' := (83, [(6, .int r2011), (5, .int r2007), (0, .ref 49), (1, .int v1), (2, .int v2), (3, .int v3), (4, .int v4)], [.int (0 : Int32)], hp I2012 F2013)) rfl ⟨trivial, trivial⟩ ?_
          exact OK_ri okX10_isRow rfl rfl (Or.inr ⟨rfl, Or.inl rfl⟩)
        · refine OK_gd (fun g2016 => ?_)
          refine OK_gd (fun g2017 => ?_)
          refine OK_st 9 okX10_isRow (S' := ((if ¬ ((F2013 44) r2007.toNatClampNeg) = ((F2013 43) r2011.toNatClampNeg) then 82 else 68), [(6, .int r2011), (5, .int r2007), (0, .ref 49), (1, .int v1), (2, .int v2), (3, .int v3), (4, .int v4)], [], hp I2012 F2013)) rfl ⟨trivial, trivial, trivial, (ab_vo g2016), trivial, trivial, trivial, (ab_vo g2017), trivial, trivial⟩ ?_
          refine OK_if (fun h2018 => ?_) (fun h2018 => ?_)
          · refine OK_st 1 okX10_isRow (S' := (83, [(6, .int r2011), (5, .int r2007), (0, .ref 49), (1, .int v1), (2, .int v2), (3, .int v3), (4, .int v4)], [.int (0 : Int32)], hp I2012 F2013)) rfl ⟨trivial, trivial⟩ ?_
            exact OK_ri okX10_isRow rfl rfl (Or.inr ⟨rfl, Or.inl rfl⟩)
          · refine OK_gd (fun g2019 => ?_)
            refine OK_st 5 okX10_isRow (S' := (76, [(6, .int r2011), (5, .int r2007), (0, .ref 49), (1, .int v1), (2, .int v2), (3, .int v3), (4, .int v4)], [.int ((F2013 43) r2007.toNatClampNeg), .int v3], hp I2012 F2013)) rfl ⟨trivial, trivial, trivial, trivial, (ab_vo g2019), trivial⟩ ?_
            refine OK_cs [.int v3, .int ((F2013 43) r2007.toNatClampNeg)] [] okX10_isRow okX10_has rfl rfl cl_RX10_106 (Nat.le_of_ble_eq_true rfl) (by decide) (Nat.le_of_ble_eq_true rfl) (kf_X10_has v3 ((F2013 43) r2007.toNatClampNeg) I2012 F2013) (fun r2020 I2021 F2022 => ?_)
            refine OK_st 1 okX10_isRow (S' := ((if r2020 = 0 then 84 else 82), [(6, .int r2011), (5, .int r2007), (0, .ref 49), (1, .int v1), (2, .int v2), (3, .int v3), (4, .int v4)], [], hp I2021 F2022)) rfl ⟨trivial, trivial⟩ ?_
            refine OK_if (fun h2023 => ?_) (fun h2023 => ?_)
            · refine OK_gd (fun g2024 => ?_)
              refine OK_st 9 okX10_isRow (S' := (96, [(3, .int (v3 ||| ((1 : Int32) <<< (((F2022 43) r2007.toNatClampNeg) &&& 31)))), (6, .int r2011), (5, .int r2007), (0, .ref 49), (1, .int v1), (2, .int v2), (4, .int v4)], [], hp I2021 F2022)) rfl ⟨trivial, trivial, trivial, trivial, trivial, (ab_vo g2024), trivial, trivial, (by decide), trivial⟩ ?_
              refine OK_lt (fun x2025 => (96, [(3, .int x2025), (6, .int r2011), (5, .int r2007), (0, .ref 49), (1, .int v1), (2, .int v2), (4, .int v4)], [], hp I2021 F2022)) (fun x2025 => ?_)
              refine OK_st 2 okX10_isRow (S' := (5, [(4, .int (v4 + (1 : Int32))), (3, .int x2025), (6, .int r2011), (5, .int r2007), (0, .ref 49), (1, .int v1), (2, .int v2)], [], hp I2021 F2022)) rfl ⟨(by decide), trivial, trivial⟩ ?_
              refine OK_pk [4, 5, 6, 1, 0] rfl ?_
              exact ih x2025 (v4 + (1 : Int32)) I2021 F2022
            · refine OK_st 1 okX10_isRow (S' := (83, [(6, .int r2011), (5, .int r2007), (0, .ref 49), (1, .int v1), (2, .int v2), (3, .int v3), (4, .int v4)], [.int (0 : Int32)], hp I2021 F2022)) rfl ⟨trivial, trivial⟩ ?_
              exact OK_ri okX10_isRow rfl rfl (Or.inr ⟨rfl, Or.inl rfl⟩)

def f_X10_isRow (v1 : Int32) (v2 : Int32) (I : AI) (F : AF) : AQ :=
  f_X10_isRow_5 v1 v2 (fun v3_2026 v4_2027 I2028 F2029 =>
    some ((1 : Int32), I2028, F2029)) ab_fu (0 : Int32) (0 : Int32) I F
set_option maxRecDepth 20000 in
set_option maxHeartbeats 4000000 in
theorem kf_X10_isRow (v1 : Int32) (v2 : Int32) (I : AI) (F : AF) : OK 1 mX10_isRow true (f_X10_isRow v1 v2 I F) (0, [(0, .ref 49), (1, .int v1), (2, .int v2)], [], hp I F) := by
  rw [f_X10_isRow]
  refine OK_st 4 okX10_isRow (S' := (5, [(4, .int (0 : Int32)), (3, .int (0 : Int32)), (0, .ref 49), (1, .int v1), (2, .int v2)], [], hp I F)) rfl ⟨trivial, (by decide), trivial, (by decide), trivial⟩ ?_
  refine OK_pk [2, 3, 4, 1, 0] rfl ?_
  refine kf_X10_isRow_5 v1 v2 _ (fun v3_2026 v4_2027 I2028 F2029 => ?_) ab_fu (0 : Int32) (0 : Int32) I F
  refine OK_st 1 okX10_isRow (S' := (103, [(0, .ref 49), (1, .int v1), (2, .int v2), (3, .int v3_2026), (4, .int v4_2027)], [.int (1 : Int32)], hp I2028 F2029)) rfl ⟨trivial, trivial⟩ ?_
  exact OK_ri okX10_isRow rfl rfl (Or.inr ⟨rfl, Or.inr rfl⟩)

def f_X10_gains_9 (v1 : Int32) (v2 : Int32) (v3 : Int32) (ko : Int64 → Int64 → Int32 → AI → AF → AQ) : Nat → Int64 → Int64 → Int32 → AI → AF → AQ
  | 0, _, _, _, _, _ => none
  | n + 1, w4, w6, v8, I, F =>
    if v2 ≤ v8 then
      ko w4 w6 v8 I F
    else
      ab_bd (f_X10_figure v1 v2 v8 I F) (fun r2035 I2036 F2037 =>
        bif ab_vin r2035 8 then
          if ¬ r2035 = v3 then
            bif ab_vin r2035 8 then
              f_X10_gains_9 v1 v2 v3 ko n (w4 * (((F2037 45) r2035.toNatClampNeg).toInt64)) (w6 * (((F2037 46) r2035.toNatClampNeg).toInt64)) (v8 + (1 : Int32)) I2036 F2037
            else none
          else
            bif ab_vin r2035 8 then
              if ((F2037 46) r2035.toNatClampNeg) ≤ (1 : Int32) then
                bif ab_vin r2035 8 then
                  f_X10_gains_9 v1 v2 v3 ko n (w4 * (((F2037 45) r2035.toNatClampNeg).toInt64)) (w6 * (((F2037 46) r2035.toNatClampNeg).toInt64)) (v8 + (1 : Int32)) I2036 F2037
                else none
              else
                bif ab_vin r2035 8 then
                  f_X10_gains_9 v1 v2 v3 ko n (w4 * (((F2037 45) r2035.toNatClampNeg).toInt64)) (w6 * ((((F2037 46) r2035.toNatClampNeg) - (1 : Int32)).toInt64)) (v8 + (1 : Int32)) I2036 F2037
                else none
            else none
        else none)
set_option maxRecDepth 20000 in
set_option maxHeartbeats 4000000 in
theorem kf_X10_gains_9 (v1 : Int32) (v2 : Int32) (v3 : Int32) (ko : Int64 → Int64 → Int32 → AI → AF → AQ) (hko : ∀ w4 w6 v8 I F, OK 1 mX10_gains true (ko w4 w6 v8 I F) (86, [(0, .ref 49), (1, .int v1), (2, .int v2), (3, .int v3), (4, .long w4), (6, .long w6), (8, .int v8)], [], hp I F)) : ∀ n w4 w6 v8 I F, OK 1 mX10_gains true (f_X10_gains_9 v1 v2 v3 ko n w4 w6 v8 I F) (9, [(0, .ref 49), (1, .int v1), (2, .int v2), (3, .int v3), (4, .long w4), (6, .long w6), (8, .int v8)], [], hp I F) := by
  intro n
  induction n with
  | zero =>
    intro w4 w6 v8 I F
    exact OK_no
  | succ n ih =>
    intro w4 w6 v8 I F
    rw [f_X10_gains_9]
    refine OK_st 3 okX10_gains (S' := ((if v2 ≤ v8 then 86 else 15), [(0, .ref 49), (1, .int v1), (2, .int v2), (3, .int v3), (4, .long w4), (6, .long w6), (8, .int v8)], [], hp I F)) rfl ⟨trivial, trivial, trivial, trivial⟩ ?_
    refine OK_if (fun h2034 => ?_) (fun h2034 => ?_)
    · exact hko w4 w6 v8 I F
    · refine OK_st 3 okX10_gains (S' := (19, [(0, .ref 49), (1, .int v1), (2, .int v2), (3, .int v3), (4, .long w4), (6, .long w6), (8, .int v8)], [.int v8, .int v2, .int v1], hp I F)) rfl ⟨trivial, trivial, trivial, trivial⟩ ?_
      refine OK_cs [.int v1, .int v2, .int v8] [] okX10_gains okX10_figure rfl rfl cl_RX10_281 (Nat.le_of_ble_eq_true rfl) (by decide) (Nat.le_of_ble_eq_true rfl) (kf_X10_figure v1 v2 v8 I F) (fun r2035 I2036 F2037 => ?_)
      refine OK_gd (fun g2038 => ?_)
      refine OK_st 13 okX10_gains (S' := ((if ¬ r2035 = v3 then 69 else 45), [(4, .long (w4 * (((F2037 45) r2035.toNatClampNeg).toInt64))), (9, .int r2035), (0, .ref 49), (1, .int v1), (2, .int v2), (3, .int v3), (6, .long w6), (8, .int v8)], [.long w6], hp I2036 F2037)) rfl ⟨(by decide), trivial, trivial, trivial, trivial, (ab_vo g2038), trivial, trivial, (by decide), trivial, trivial, trivial, trivial, trivial⟩ ?_
      refine OK_if (fun h2039 => ?_) (fun h2039 => ?_)
      · refine OK_gd (fun g2040 => ?_)
        refine OK_st 9 okX10_gains (S' := (9, [(8, .int (v8 + (1 : Int32))), (6, .long (w6 * (((F2037 46) r2035.toNatClampNeg).toInt64))), (4, .long (w4 * (((F2037 45) r2035.toNatClampNeg).toInt64))), (9, .int r2035), (0, .ref 49), (1, .int v1), (2, .int v2), (3, .int v3)], [], hp I2036 F2037)) rfl ⟨trivial, trivial, trivial, (ab_vo g2040), trivial, trivial, (by decide), (by decide), trivial, trivial⟩ ?_
        refine OK_pk [4, 5, 6, 7, 2, 1, 0] rfl ?_
        exact ih (w4 * (((F2037 45) r2035.toNatClampNeg).toInt64)) (w6 * (((F2037 46) r2035.toNatClampNeg).toInt64)) (v8 + (1 : Int32)) I2036 F2037
      · refine OK_gd (fun g2041 => ?_)
        refine OK_st 6 okX10_gains (S' := ((if ((F2037 46) r2035.toNatClampNeg) ≤ (1 : Int32) then 69 else 56), [(4, .long (w4 * (((F2037 45) r2035.toNatClampNeg).toInt64))), (9, .int r2035), (0, .ref 49), (1, .int v1), (2, .int v2), (3, .int v3), (6, .long w6), (8, .int v8)], [.long w6], hp I2036 F2037)) rfl ⟨trivial, trivial, trivial, (ab_vo g2041), trivial, trivial, trivial⟩ ?_
        refine OK_if (fun h2042 => ?_) (fun h2042 => ?_)
        · refine OK_gd (fun g2043 => ?_)
          refine OK_st 9 okX10_gains (S' := (9, [(8, .int (v8 + (1 : Int32))), (6, .long (w6 * (((F2037 46) r2035.toNatClampNeg).toInt64))), (4, .long (w4 * (((F2037 45) r2035.toNatClampNeg).toInt64))), (9, .int r2035), (0, .ref 49), (1, .int v1), (2, .int v2), (3, .int v3)], [], hp I2036 F2037)) rfl ⟨trivial, trivial, trivial, (ab_vo g2043), trivial, trivial, (by decide), (by decide), trivial, trivial⟩ ?_
          refine OK_pk [4, 5, 6, 7, 2, 1, 0] rfl ?_
          exact ih (w4 * (((F2037 45) r2035.toNatClampNeg).toInt64)) (w6 * (((F2037 46) r2035.toNatClampNeg).toInt64)) (v8 + (1 : Int32)) I2036 F2037
        · refine OK_gd (fun g2044 => ?_)
          refine OK_st 12 okX10_gains (S' := (9, [(8, .int (v8 + (1 : Int32))), (6, .long (w6 * ((((F2037 46) r2035.toNatClampNeg) - (1 : Int32)).toInt64))), (4, .long (w4 * (((F2037 45) r2035.toNatClampNeg).toInt64))), (9, .int r2035), (0, .ref 49), (1, .int v1), (2, .int v2), (3, .int v3)], [], hp I2036 F2037)) rfl ⟨trivial, trivial, trivial, (ab_vo g2044), trivial, trivial, trivial, trivial, trivial, (by decide), (by decide), trivial, trivial⟩ ?_
          refine OK_pk [4, 5, 6, 7, 2, 1, 0] rfl ?_
          exact ih (w4 * (((F2037 45) r2035.toNatClampNeg).toInt64)) (w6 * ((((F2037 46) r2035.toNatClampNeg) - (1 : Int32)).toInt64)) (v8 + (1 : Int32)) I2036 F2037

def f_X10_gains (v1 : Int32) (v2 : Int32) (v3 : Int32) (I : AI) (F : AF) : AQ :=
  f_X10_gains_9 v1 v2 v3 (fun w4_2045 w6_2046 v8_2047 I2048 F2049 =>
    if (lg_cmp w6_2046 w4_2045) ≤ 0 then
      some ((0 : Int32), I2048, F2049)
    else
      some ((1 : Int32), I2048, F2049)) ab_fu (1 : Int64) (1 : Int64) (0 : Int32) I F
set_option maxRecDepth 20000 in
set_option maxHeartbeats 4000000 in
theorem kf_X10_gains (v1 : Int32) (v2 : Int32) (v3 : Int32) (I : AI) (F : AF) : OK 1 mX10_gains true (f_X10_gains v1 v2 v3 I F) (0, [(0, .ref 49), (1, .int v1), (2, .int v2), (3, .int v3)], [], hp I F) := by
  rw [f_X10_gains]
  refine OK_st 6 okX10_gains (S' := (9, [(8, .int (0 : Int32)), (6, .long (1 : Int64)), (4, .long (1 : Int64)), (0, .ref 49), (1, .int v1), (2, .int v2), (3, .int v3)], [], hp I F)) rfl ⟨trivial, (by decide), trivial, (by decide), trivial, (by decide), trivial⟩ ?_
  refine OK_pk [3, 4, 5, 6, 2, 1, 0] rfl ?_
  refine kf_X10_gains_9 v1 v2 v3 _ (fun w4_2045 w6_2046 v8_2047 I2048 F2049 => ?_) ab_fu (1 : Int64) (1 : Int64) (0 : Int32) I F
  refine OK_st 4 okX10_gains (S' := ((if (lg_cmp w6_2046 w4_2045) ≤ 0 then 98 else 94), [(0, .ref 49), (1, .int v1), (2, .int v2), (3, .int v3), (4, .long w4_2045), (6, .long w6_2046), (8, .int v8_2047)], [], hp I2048 F2049)) rfl ⟨trivial, trivial, trivial, trivial, trivial⟩ ?_
  refine OK_if (fun h2050 => ?_) (fun h2050 => ?_)
  · refine OK_st 1 okX10_gains (S' := (99, [(0, .ref 49), (1, .int v1), (2, .int v2), (3, .int v3), (4, .long w4_2045), (6, .long w6_2046), (8, .int v8_2047)], [.int (0 : Int32)], hp I2048 F2049)) rfl ⟨trivial, trivial⟩ ?_
    exact OK_ri okX10_gains rfl rfl (Or.inr ⟨rfl, Or.inl rfl⟩)
  · refine OK_st 2 okX10_gains (S' := (99, [(0, .ref 49), (1, .int v1), (2, .int v2), (3, .int v3), (4, .long w4_2045), (6, .long w6_2046), (8, .int v8_2047)], [.int (1 : Int32)], hp I2048 F2049)) rfl ⟨trivial, trivial, trivial⟩ ?_
    exact OK_ri okX10_gains rfl rfl (Or.inr ⟨rfl, Or.inr rfl⟩)

def f_X10_findRing_14 (v1 : Int32) (ko : Int32 → AI → AF → AQ) : Nat → Int32 → AI → AF → AQ
  | 0, _, _, _ => none
  | n + 1, v2, I, F =>
    if ((1 : Int32) <<< (((3 : Int32) * v1) &&& 31)) ≤ v2 then
      ko v2 I F
    else
      ab_bd (f_X10_isRow v2 v1 I F) (fun r2030 I2031 F2032 =>
        if r2030 = 0 then
          f_X10_findRing_14 v1 ko n (v2 + (1 : Int32)) I2031 F2032
        else
          ab_bd (f_X10_gains v2 v1 (-1 : Int32) I2031 F2032) (fun r2051 I2052 F2053 =>
            if r2051 = 0 then
              f_X10_findRing_14 v1 ko n (v2 + (1 : Int32)) I2052 F2053
            else
              some (v2, I2052, F2053)))
set_option maxRecDepth 20000 in
set_option maxHeartbeats 4000000 in
theorem kf_X10_findRing_14 (v1 : Int32) (ko : Int32 → AI → AF → AQ) (hko : ∀ v2 I F, OK 2 mX10_findRing true (ko v2 I F) (50, [(0, .ref 49), (1, .int v1), (2, .int v2)], [], hp I F)) : ∀ n v2 I F, OK 2 mX10_findRing true (f_X10_findRing_14 v1 ko n v2 I F) (14, [(0, .ref 49), (1, .int v1), (2, .int v2)], [], hp I F) := by
  intro n
  induction n with
  | zero =>
    intro v2 I F
    exact OK_no
  | succ n ih =>
    intro v2 I F
    rw [f_X10_findRing_14]
    refine OK_st 7 okX10_findRing (S' := ((if ((1 : Int32) <<< (((3 : Int32) * v1) &&& 31)) ≤ v2 then 50 else 23), [(0, .ref 49), (1, .int v1), (2, .int v2)], [], hp I F)) rfl ⟨trivial, trivial, trivial, trivial, trivial, trivial, trivial, trivial⟩ ?_
    refine OK_if (fun h2005 => ?_) (fun h2005 => ?_)
    · exact hko v2 I F
    · refine OK_st 3 okX10_findRing (S' := (26, [(0, .ref 49), (1, .int v1), (2, .int v2)], [.int v1, .int v2, .ref 49], hp I F)) rfl ⟨trivial, trivial, trivial, trivial⟩ ?_
      refine OK_cv [.int v2, .int v1] [] okX10_findRing okX10_isRow rfl rfl cl_RX10_288 rfl rfl (Nat.le_of_ble_eq_true rfl) (by decide) (Nat.le_of_ble_eq_true rfl) (kf_X10_isRow v2 v1 I F) (fun r2030 I2031 F2032 => ?_)
      refine OK_st 1 okX10_findRing (S' := ((if r2030 = 0 then 44 else 32), [(0, .ref 49), (1, .int v1), (2, .int v2)], [], hp I2031 F2032)) rfl ⟨trivial, trivial⟩ ?_
      refine OK_if (fun h2033 => ?_) (fun h2033 => ?_)
      · refine OK_st 2 okX10_findRing (S' := (14, [(2, .int (v2 + (1 : Int32))), (0, .ref 49), (1, .int v1)], [], hp I2031 F2032)) rfl ⟨(by decide), trivial, trivial⟩ ?_
        refine OK_pk [1, 2, 0] rfl ?_
        exact ih (v2 + (1 : Int32)) I2031 F2032
      · refine OK_st 4 okX10_findRing (S' := (36, [(0, .ref 49), (1, .int v1), (2, .int v2)], [.int (-1 : Int32), .int v1, .int v2, .ref 49], hp I2031 F2032)) rfl ⟨trivial, trivial, trivial, trivial, trivial⟩ ?_
        refine OK_cv [.int v2, .int v1, .int (-1 : Int32)] [] okX10_findRing okX10_gains rfl rfl cl_RX10_291 rfl rfl (Nat.le_of_ble_eq_true rfl) (by decide) (Nat.le_of_ble_eq_true rfl) (kf_X10_gains v2 v1 (-1 : Int32) I2031 F2032) (fun r2051 I2052 F2053 => ?_)
        refine OK_st 1 okX10_findRing (S' := ((if r2051 = 0 then 44 else 42), [(0, .ref 49), (1, .int v1), (2, .int v2)], [], hp I2052 F2053)) rfl ⟨trivial, trivial⟩ ?_
        refine OK_if (fun h2054 => ?_) (fun h2054 => ?_)
        · refine OK_st 2 okX10_findRing (S' := (14, [(2, .int (v2 + (1 : Int32))), (0, .ref 49), (1, .int v1)], [], hp I2052 F2053)) rfl ⟨(by decide), trivial, trivial⟩ ?_
          refine OK_pk [1, 2, 0] rfl ?_
          exact ih (v2 + (1 : Int32)) I2052 F2053
        · refine OK_st 1 okX10_findRing (S' := (43, [(0, .ref 49), (1, .int v1), (2, .int v2)], [.int v2], hp I2052 F2053)) rfl ⟨trivial, trivial⟩ ?_
          exact OK_ri okX10_findRing rfl rfl (Or.inl rfl)

def f_X10_findRing_2 (ko : Int32 → AI → AF → AQ) : Nat → Int32 → AI → AF → AQ
  | 0, _, _, _ => none
  | n + 1, v1, I, F =>
    if (5 : Int32) ≤ v1 then
      ko v1 I F
    else
      ab_lt (va_up I 36 v1) (fun I2004 =>
        f_X10_findRing_14 v1 (fun v2_2055 I2056 F2057 =>
          f_X10_findRing_2 ko n (v1 + (1 : Int32)) I2056 F2057) ab_fu (0 : Int32) I2004 F)
set_option maxRecDepth 20000 in
set_option maxHeartbeats 4000000 in
theorem kf_X10_findRing_2 (ko : Int32 → AI → AF → AQ) (hko : ∀ v1 I F, OK 2 mX10_findRing true (ko v1 I F) (56, [(0, .ref 49), (1, .int v1)], [], hp I F)) : ∀ n v1 I F, OK 2 mX10_findRing true (f_X10_findRing_2 ko n v1 I F) (2, [(0, .ref 49), (1, .int v1)], [], hp I F) := by
  intro n
  induction n with
  | zero =>
    intro v1 I F
    exact OK_no
  | succ n ih =>
    intro v1 I F
    rw [f_X10_findRing_2]
    refine OK_st 3 okX10_findRing (S' := ((if (5 : Int32) ≤ v1 then 56 else 7), [(0, .ref 49), (1, .int v1)], [], hp I F)) rfl ⟨trivial, trivial, trivial, trivial⟩ ?_
    refine OK_if (fun h2003 => ?_) (fun h2003 => ?_)
    · exact hko v1 I F
    · refine OK_st 5 okX10_findRing (S' := (14, [(2, .int (0 : Int32)), (0, .ref 49), (1, .int v1)], [], hp (va_up I 36 v1) F)) rfl ⟨trivial, trivial, trivial, trivial, (by decide), trivial⟩ ?_
      refine OK_lt (fun I2004 => (14, [(2, .int (0 : Int32)), (0, .ref 49), (1, .int v1)], [], hp I2004 F)) (fun I2004 => ?_)
      refine OK_pk [1, 2, 0] rfl ?_
      refine kf_X10_findRing_14 v1 _ (fun v2_2055 I2056 F2057 => ?_) ab_fu (0 : Int32) I2004 F
      refine OK_st 2 okX10_findRing (S' := (2, [(1, .int (v1 + (1 : Int32))), (0, .ref 49), (2, .int v2_2055)], [], hp I2056 F2057)) rfl ⟨(by decide), trivial, trivial⟩ ?_
      refine OK_pk [1, 0] rfl ?_
      exact ih (v1 + (1 : Int32)) I2056 F2057

def f_X10_findRing (I : AI) (F : AF) : AQ :=
  f_X10_findRing_2 (fun v1_2058 I2059 F2060 =>
    some ((-1 : Int32), I2059, F2060)) ab_fu (2 : Int32) I F
set_option maxRecDepth 20000 in
set_option maxHeartbeats 4000000 in
theorem kf_X10_findRing (I : AI) (F : AF) : OK 2 mX10_findRing true (f_X10_findRing I F) (0, [(0, .ref 49)], [], hp I F) := by
  rw [f_X10_findRing]
  refine OK_st 2 okX10_findRing (S' := (2, [(1, .int (2 : Int32)), (0, .ref 49)], [], hp I F)) rfl ⟨trivial, (by decide), trivial⟩ ?_
  refine OK_pk [1, 0] rfl ?_
  refine kf_X10_findRing_2 _ (fun v1_2058 I2059 F2060 => ?_) ab_fu (2 : Int32) I F
  refine OK_st 1 okX10_findRing (S' := (57, [(0, .ref 49), (1, .int v1_2058)], [.int (-1 : Int32)], hp I2059 F2060)) rfl ⟨trivial, trivial⟩ ?_
  exact OK_ri okX10_findRing rfl rfl (Or.inl rfl)

def f_X10_ring (v1 : Int32) (I : AI) (F : AF) : AQ :=
  ab_bd (f_X10_findRing I F) (fun r2061 I2062 F2063 =>
    if r2061 < 0 then
      if 0 ≤ r2061 then
        some ((I2062 36), I2062, F2063)
      else
        some ((-1 : Int32), I2062, F2063)
    else
      if ¬ v1 = (-1 : Int32) then
        ab_bd (f_X10_in v1.toInt64 (0 : Int64) (((I2062 36) - (1 : Int32)).toInt64) I2062 F2063) (fun r2067 I2068 F2069 =>
          if r2067 = 0 then
            some ((-1 : Int32), I2068, F2069)
          else
            ab_bd (f_X10_figure r2061 (I2068 36) v1 I2068 F2069) (fun r2071 I2072 F2073 =>
              some (r2071, I2072, F2073)))
      else
        if 0 ≤ r2061 then
          some ((I2062 36), I2062, F2063)
        else
          some ((-1 : Int32), I2062, F2063))
set_option maxRecDepth 20000 in
set_option maxHeartbeats 4000000 in
theorem kf_X10_ring (v1 : Int32) (I : AI) (F : AF) : OK 3 mX10_ring true (f_X10_ring v1 I F) (0, [(0, .ref 49), (1, .int v1)], [], hp I F) := by
  rw [f_X10_ring]
  refine OK_st 1 okX10_ring (S' := (1, [(0, .ref 49), (1, .int v1)], [.ref 49], hp I F)) rfl ⟨trivial, trivial⟩ ?_
  refine OK_cv [] [] okX10_ring okX10_findRing rfl rfl cl_RX10_295 rfl rfl (Nat.le_of_ble_eq_true rfl) (by decide) (Nat.le_of_ble_eq_true rfl) (kf_X10_findRing I F) (fun r2061 I2062 F2063 => ?_)
  refine OK_st 3 okX10_ring (S' := ((if r2061 < 0 then 14 else 9), [(2, .int r2061), (0, .ref 49), (1, .int v1)], [], hp I2062 F2063)) rfl ⟨(by decide), trivial, trivial, trivial⟩ ?_
  refine OK_if (fun h2064 => ?_) (fun h2064 => ?_)
  · refine OK_st 2 okX10_ring (S' := ((if 0 ≤ r2061 then 22 else 18), [(2, .int r2061), (0, .ref 49), (1, .int v1)], [], hp I2062 F2063)) rfl ⟨trivial, trivial, trivial⟩ ?_
    refine OK_if (fun h2065 => ?_) (fun h2065 => ?_)
    · refine OK_st 2 okX10_ring (S' := (26, [(2, .int r2061), (0, .ref 49), (1, .int v1)], [.int (I2062 36)], hp I2062 F2063)) rfl ⟨trivial, trivial, trivial⟩ ?_
      exact OK_ri okX10_ring rfl rfl (Or.inl rfl)
    · refine OK_st 2 okX10_ring (S' := (26, [(2, .int r2061), (0, .ref 49), (1, .int v1)], [.int (-1 : Int32)], hp I2062 F2063)) rfl ⟨trivial, trivial, trivial⟩ ?_
      exact OK_ri okX10_ring rfl rfl (Or.inl rfl)
  · refine OK_st 3 okX10_ring (S' := ((if ¬ v1 = (-1 : Int32) then 27 else 14), [(2, .int r2061), (0, .ref 49), (1, .int v1)], [], hp I2062 F2063)) rfl ⟨trivial, trivial, trivial, trivial⟩ ?_
    refine OK_if (fun h2066 => ?_) (fun h2066 => ?_)
    · refine OK_st 8 okX10_ring (S' := (37, [(2, .int r2061), (0, .ref 49), (1, .int v1)], [.long ((I2062 36) - (1 : Int32)).toInt64, .long (0 : Int64), .long v1.toInt64], hp I2062 F2063)) rfl ⟨trivial, trivial, trivial, trivial, trivial, trivial, trivial, trivial, trivial⟩ ?_
      refine OK_cs [.long v1.toInt64, .long (0 : Int64), .long ((I2062 36) - (1 : Int32)).toInt64] [] okX10_ring okX10_in rfl rfl cl_RX10_102 (Nat.le_of_ble_eq_true rfl) (by decide) (Nat.le_of_ble_eq_true rfl) (kf_X10_in v1.toInt64 (0 : Int64) (((I2062 36) - (1 : Int32)).toInt64) I2062 F2063) (fun r2067 I2068 F2069 => ?_)
      refine OK_st 1 okX10_ring (S' := ((if r2067 = 0 then 55 else 43), [(2, .int r2061), (0, .ref 49), (1, .int v1)], [], hp I2068 F2069)) rfl ⟨trivial, trivial⟩ ?_
      refine OK_if (fun h2070 => ?_) (fun h2070 => ?_)
      · refine OK_st 1 okX10_ring (S' := (56, [(2, .int r2061), (0, .ref 49), (1, .int v1)], [.int (-1 : Int32)], hp I2068 F2069)) rfl ⟨trivial, trivial⟩ ?_
        exact OK_ri okX10_ring rfl rfl (Or.inl rfl)
      · refine OK_st 4 okX10_ring (S' := (49, [(2, .int r2061), (0, .ref 49), (1, .int v1)], [.int v1, .int (I2068 36), .int r2061], hp I2068 F2069)) rfl ⟨trivial, trivial, trivial, trivial, trivial⟩ ?_
        refine OK_cs [.int r2061, .int (I2068 36), .int v1] [] okX10_ring okX10_figure rfl rfl cl_RX10_281 (Nat.le_of_ble_eq_true rfl) (by decide) (Nat.le_of_ble_eq_true rfl) (kf_X10_figure r2061 (I2068 36) v1 I2068 F2069) (fun r2071 I2072 F2073 => ?_)
        refine OK_st 1 okX10_ring (S' := (56, [(2, .int r2061), (0, .ref 49), (1, .int v1)], [.int r2071], hp I2072 F2073)) rfl ⟨trivial, trivial⟩ ?_
        exact OK_ri okX10_ring rfl rfl (Or.inl rfl)
    · refine OK_st 2 okX10_ring (S' := ((if 0 ≤ r2061 then 22 else 18), [(2, .int r2061), (0, .ref 49), (1, .int v1)], [], hp I2062 F2063)) rfl ⟨trivial, trivial, trivial⟩ ?_
      refine OK_if (fun h2074 => ?_) (fun h2074 => ?_)
      · refine OK_st 2 okX10_ring (S' := (26, [(2, .int r2061), (0, .ref 49), (1, .int v1)], [.int (I2062 36)], hp I2062 F2063)) rfl ⟨trivial, trivial, trivial⟩ ?_
        exact OK_ri okX10_ring rfl rfl (Or.inl rfl)
      · refine OK_st 2 okX10_ring (S' := (26, [(2, .int r2061), (0, .ref 49), (1, .int v1)], [.int (-1 : Int32)], hp I2062 F2063)) rfl ⟨trivial, trivial, trivial⟩ ?_
        exact OK_ri okX10_ring rfl rfl (Or.inl rfl)

def f_X10_mended_9 (v1 : Int32) (ko : Int32 → Int32 → AI → AF → AQ) : Nat → Int32 → Int32 → AI → AF → AQ
  | 0, _, _, _, _ => none
  | n + 1, v2, v3, I, F =>
    if (I 36) ≤ v3 then
      ko v2 v3 I F
    else
      if v1 < 0 then
        ko v2 v3 I F
      else
        ab_bd (f_X10_figure v1 (I 36) v3 I F) (fun r2080 I2081 F2082 =>
          ab_bd (f_X10_gains v1 (I2081 36) r2080 I2081 F2082) (fun r2083 I2084 F2085 =>
            if ¬ r2083 = 0 then
              f_X10_mended_9 v1 ko n v2 (v3 + (1 : Int32)) I2084 F2085
            else
              if v2 < 0 then
                f_X10_mended_9 v1 ko n r2080 (v3 + (1 : Int32)) I2084 F2085
              else
                if v2 ≤ r2080 then
                  f_X10_mended_9 v1 ko n v2 (v3 + (1 : Int32)) I2084 F2085
                else
                  f_X10_mended_9 v1 ko n r2080 (v3 + (1 : Int32)) I2084 F2085))
set_option maxRecDepth 20000 in
set_option maxHeartbeats 4000000 in
theorem kf_X10_mended_9 (v1 : Int32) (ko : Int32 → Int32 → AI → AF → AQ) (hko : ∀ v2 v3 I F, OK 3 mX10_mended true (ko v2 v3 I F) (69, [(0, .ref 49), (1, .int v1), (2, .int v2), (3, .int v3)], [], hp I F)) : ∀ n v2 v3 I F, OK 3 mX10_mended true (f_X10_mended_9 v1 ko n v2 v3 I F) (9, [(0, .ref 49), (1, .int v1), (2, .int v2), (3, .int v3)], [], hp I F) := by
  intro n
  induction n with
  | zero =>
    intro v2 v3 I F
    exact OK_no
  | succ n ih =>
    intro v2 v3 I F
    rw [f_X10_mended_9]
    refine OK_st 4 okX10_mended (S' := ((if (I 36) ≤ v3 then 69 else 17), [(0, .ref 49), (1, .int v1), (2, .int v2), (3, .int v3)], [], hp I F)) rfl ⟨trivial, trivial, trivial, trivial, trivial⟩ ?_
    refine OK_if (fun h2078 => ?_) (fun h2078 => ?_)
    · exact hko v2 v3 I F
    · refine OK_st 2 okX10_mended (S' := ((if v1 < 0 then 69 else 21), [(0, .ref 49), (1, .int v1), (2, .int v2), (3, .int v3)], [], hp I F)) rfl ⟨trivial, trivial, trivial⟩ ?_
      refine OK_if (fun h2079 => ?_) (fun h2079 => ?_)
      · exact hko v2 v3 I F
      · refine OK_st 4 okX10_mended (S' := (27, [(0, .ref 49), (1, .int v1), (2, .int v2), (3, .int v3)], [.int v3, .int (I 36), .int v1], hp I F)) rfl ⟨trivial, trivial, trivial, trivial, trivial⟩ ?_
        refine OK_cs [.int v1, .int (I 36), .int v3] [] okX10_mended okX10_figure rfl rfl cl_RX10_281 (Nat.le_of_ble_eq_true rfl) (by decide) (Nat.le_of_ble_eq_true rfl) (kf_X10_figure v1 (I 36) v3 I F) (fun r2080 I2081 F2082 => ?_)
        refine OK_st 6 okX10_mended (S' := (40, [(4, .int r2080), (0, .ref 49), (1, .int v1), (2, .int v2), (3, .int v3)], [.int r2080, .int (I2081 36), .int v1, .ref 49], hp I2081 F2082)) rfl ⟨(by decide), trivial, trivial, trivial, trivial, trivial, trivial⟩ ?_
        refine OK_cv [.int v1, .int (I2081 36), .int r2080] [] okX10_mended okX10_gains rfl rfl cl_RX10_291 rfl rfl (Nat.le_of_ble_eq_true rfl) (by decide) (Nat.le_of_ble_eq_true rfl) (kf_X10_gains v1 (I2081 36) r2080 I2081 F2082) (fun r2083 I2084 F2085 => ?_)
        refine OK_st 1 okX10_mended (S' := ((if ¬ r2083 = 0 then 61 else 46), [(4, .int r2080), (0, .ref 49), (1, .int v1), (2, .int v2), (3, .int v3)], [], hp I2084 F2085)) rfl ⟨trivial, trivial⟩ ?_
        refine OK_if (fun h2086 => ?_) (fun h2086 => ?_)
        · refine OK_st 4 okX10_mended (S' := (9, [(3, .int (v3 + (1 : Int32))), (2, .int v2), (4, .int r2080), (0, .ref 49), (1, .int v1)], [], hp I2084 F2085)) rfl ⟨trivial, (by decide), (by decide), trivial, trivial⟩ ?_
          refine OK_pk [3, 4, 1, 0] rfl ?_
          exact ih v2 (v3 + (1 : Int32)) I2084 F2085
        · refine OK_st 2 okX10_mended (S' := ((if v2 < 0 then 56 else 50), [(4, .int r2080), (0, .ref 49), (1, .int v1), (2, .int v2), (3, .int v3)], [], hp I2084 F2085)) rfl ⟨trivial, trivial, trivial⟩ ?_
          refine OK_if (fun h2087 => ?_) (fun h2087 => ?_)
          · refine OK_st 5 okX10_mended (S' := (9, [(3, .int (v3 + (1 : Int32))), (2, .int r2080), (4, .int r2080), (0, .ref 49), (1, .int v1)], [], hp I2084 F2085)) rfl ⟨trivial, trivial, (by decide), (by decide), trivial, trivial⟩ ?_
            refine OK_pk [3, 4, 1, 0] rfl ?_
            exact ih r2080 (v3 + (1 : Int32)) I2084 F2085
          · refine OK_st 3 okX10_mended (S' := ((if v2 ≤ r2080 then 61 else 56), [(4, .int r2080), (0, .ref 49), (1, .int v1), (2, .int v2), (3, .int v3)], [], hp I2084 F2085)) rfl ⟨trivial, trivial, trivial, trivial⟩ ?_
            refine OK_if (fun h2088 => ?_) (fun h2088 => ?_)
            · refine OK_st 4 okX10_mended (S' := (9, [(3, .int (v3 + (1 : Int32))), (2, .int v2), (4, .int r2080), (0, .ref 49), (1, .int v1)], [], hp I2084 F2085)) rfl ⟨trivial, (by decide), (by decide), trivial, trivial⟩ ?_
              refine OK_pk [3, 4, 1, 0] rfl ?_
              exact ih v2 (v3 + (1 : Int32)) I2084 F2085
            · refine OK_st 5 okX10_mended (S' := (9, [(3, .int (v3 + (1 : Int32))), (2, .int r2080), (4, .int r2080), (0, .ref 49), (1, .int v1)], [], hp I2084 F2085)) rfl ⟨trivial, trivial, (by decide), (by decide), trivial, trivial⟩ ?_
              refine OK_pk [3, 4, 1, 0] rfl ?_
              exact ih r2080 (v3 + (1 : Int32)) I2084 F2085

def f_X10_mended (I : AI) (F : AF) : AQ :=
  ab_bd (f_X10_findRing I F) (fun r2075 I2076 F2077 =>
    f_X10_mended_9 r2075 (fun v2_2089 v3_2090 I2091 F2092 =>
      some (v2_2089, I2091, F2092)) ab_fu (-1 : Int32) (0 : Int32) I2076 F2077)
set_option maxRecDepth 20000 in
set_option maxHeartbeats 4000000 in
theorem kf_X10_mended (I : AI) (F : AF) : OK 3 mX10_mended true (f_X10_mended I F) (0, [(0, .ref 49)], [], hp I F) := by
  rw [f_X10_mended]
  refine OK_st 1 okX10_mended (S' := (1, [(0, .ref 49)], [.ref 49], hp I F)) rfl ⟨trivial, trivial⟩ ?_
  refine OK_cv [] [] okX10_mended okX10_findRing rfl rfl cl_RX10_295 rfl rfl (Nat.le_of_ble_eq_true rfl) (by decide) (Nat.le_of_ble_eq_true rfl) (kf_X10_findRing I F) (fun r2075 I2076 F2077 => ?_)
  refine OK_st 5 okX10_mended (S' := (9, [(3, .int (0 : Int32)), (2, .int (-1 : Int32)), (1, .int r2075), (0, .ref 49)], [], hp I2076 F2077)) rfl ⟨(by decide), trivial, (by decide), trivial, (by decide), trivial⟩ ?_
  refine OK_pk [3, 2, 1, 0] rfl ?_
  refine kf_X10_mended_9 r2075 _ (fun v2_2089 v3_2090 I2091 F2092 => ?_) ab_fu (-1 : Int32) (0 : Int32) I2076 F2077
  refine OK_st 1 okX10_mended (S' := (70, [(0, .ref 49), (1, .int r2075), (2, .int v2_2089), (3, .int v3_2090)], [.int v2_2089], hp I2091 F2092)) rfl ⟨trivial, trivial⟩ ?_
  exact OK_ri okX10_mended rfl rfl (Or.inl rfl)

def f_X10_bits_4 (v0 : Int32) (ko : Int32 → Int32 → AI → AF → AQ) : Nat → Int32 → Int32 → AI → AF → AQ
  | 0, _, _, _, _ => none
  | n + 1, v1, v2, I, F =>
    if (6 : Int32) ≤ v2 then
      ko v1 v2 I F
    else
      ab_lt (v1 + ((v0 >>> (v2 &&& 31)) &&& (1 : Int32))) (fun x2095 =>
        f_X10_bits_4 v0 ko n x2095 (v2 + (1 : Int32)) I F)
set_option maxRecDepth 20000 in
set_option maxHeartbeats 4000000 in
theorem kf_X10_bits_4 (v0 : Int32) (ko : Int32 → Int32 → AI → AF → AQ) (hko : ∀ v1 v2 I F, OK 0 mX10_bits true (ko v1 v2 I F) (24, [(0, .int v0), (1, .int v1), (2, .int v2)], [], hp I F)) : ∀ n v1 v2 I F, OK 0 mX10_bits true (f_X10_bits_4 v0 ko n v1 v2 I F) (4, [(0, .int v0), (1, .int v1), (2, .int v2)], [], hp I F) := by
  intro n
  induction n with
  | zero =>
    intro v1 v2 I F
    exact OK_no
  | succ n ih =>
    intro v1 v2 I F
    rw [f_X10_bits_4]
    refine OK_st 3 okX10_bits (S' := ((if (6 : Int32) ≤ v2 then 24 else 10), [(0, .int v0), (1, .int v1), (2, .int v2)], [], hp I F)) rfl ⟨trivial, trivial, trivial, trivial⟩ ?_
    refine OK_if (fun h2094 => ?_) (fun h2094 => ?_)
    · exact hko v1 v2 I F
    · refine OK_st 8 okX10_bits (S' := (18, [(1, .int (v1 + ((v0 >>> (v2 &&& 31)) &&& (1 : Int32)))), (0, .int v0), (2, .int v2)], [], hp I F)) rfl ⟨trivial, trivial, trivial, trivial, trivial, trivial, trivial, (by decide), trivial⟩ ?_
      refine OK_lt (fun x2095 => (18, [(1, .int x2095), (0, .int v0), (2, .int v2)], [], hp I F)) (fun x2095 => ?_)
      refine OK_st 2 okX10_bits (S' := (4, [(2, .int (v2 + (1 : Int32))), (1, .int x2095), (0, .int v0)], [], hp I F)) rfl ⟨(by decide), trivial, trivial⟩ ?_
      refine OK_pk [2, 1, 0] rfl ?_
      exact ih x2095 (v2 + (1 : Int32)) I F

def f_X10_bits (v0 : Int32) (I : AI) (F : AF) : AQ :=
  f_X10_bits_4 v0 (fun v1_2096 v2_2097 I2098 F2099 =>
    some (v1_2096, I2098, F2099)) ab_fu (0 : Int32) (0 : Int32) I F
set_option maxRecDepth 20000 in
set_option maxHeartbeats 4000000 in
theorem kf_X10_bits (v0 : Int32) (I : AI) (F : AF) : OK 0 mX10_bits true (f_X10_bits v0 I F) (0, [(0, .int v0)], [], hp I F) := by
  rw [f_X10_bits]
  refine OK_st 4 okX10_bits (S' := (4, [(2, .int (0 : Int32)), (1, .int (0 : Int32)), (0, .int v0)], [], hp I F)) rfl ⟨trivial, (by decide), trivial, (by decide), trivial⟩ ?_
  refine OK_pk [2, 1, 0] rfl ?_
  refine kf_X10_bits_4 v0 _ (fun v1_2096 v2_2097 I2098 F2099 => ?_) ab_fu (0 : Int32) (0 : Int32) I F
  refine OK_st 1 okX10_bits (S' := (25, [(0, .int v0), (1, .int v1_2096), (2, .int v2_2097)], [.int v1_2096], hp I2098 F2099)) rfl ⟨trivial, trivial⟩ ?_
  exact OK_ri okX10_bits rfl rfl (Or.inl rfl)

def f_X10_heirOf_4 (v1 : Int32) (ko : Int32 → Int32 → AI → AF → AQ) : Nat → Int32 → Int32 → AI → AF → AQ
  | 0, _, _, _, _ => none
  | n + 1, v2, v3, I, F =>
    if v3 ≤ v1 then
      ko v2 v3 I F
    else
      f_X10_heirOf_4 v1 ko n (v2 / (6 : Int32)) (v3 + (-1 : Int32)) I F
set_option maxRecDepth 20000 in
set_option maxHeartbeats 4000000 in
theorem kf_X10_heirOf_4 (v1 : Int32) (ko : Int32 → Int32 → AI → AF → AQ) (hko : ∀ v2 v3 I F, OK 0 mX10_heirOf true (ko v2 v3 I F) (20, [(1, .int v1), (2, .int v2), (3, .int v3)], [], hp I F)) : ∀ n v2 v3 I F, OK 0 mX10_heirOf true (f_X10_heirOf_4 v1 ko n v2 v3 I F) (4, [(1, .int v1), (2, .int v2), (3, .int v3)], [], hp I F) := by
  intro n
  induction n with
  | zero =>
    intro v2 v3 I F
    exact OK_no
  | succ n ih =>
    intro v2 v3 I F
    rw [f_X10_heirOf_4]
    refine OK_st 3 okX10_heirOf (S' := ((if v3 ≤ v1 then 20 else 9), [(1, .int v1), (2, .int v2), (3, .int v3)], [], hp I F)) rfl ⟨trivial, trivial, trivial, trivial⟩ ?_
    refine OK_if (fun h2107 => ?_) (fun h2107 => ?_)
    · exact hko v2 v3 I F
    · refine OK_st 6 okX10_heirOf (S' := (4, [(3, .int (v3 + (-1 : Int32))), (2, .int (v2 / (6 : Int32))), (1, .int v1)], [], hp I F)) rfl ⟨trivial, trivial, (by decide), (by decide), (by decide), trivial, trivial⟩ ?_
      refine OK_pk [2, 1, 0] rfl ?_
      exact ih (v2 / (6 : Int32)) (v3 + (-1 : Int32)) I F

def f_X10_heirOf (v0 : Int32) (v1 : Int32) (I : AI) (F : AF) : AQ :=
  f_X10_heirOf_4 v1 (fun v2_2108 v3_2109 I2110 F2111 =>
    some ((v2_2108 - v2_2108 / (6 : Int32) * (6 : Int32)), I2110, F2111)) ab_fu v0 (5 : Int32) I F
set_option maxRecDepth 20000 in
set_option maxHeartbeats 4000000 in
theorem kf_X10_heirOf (v0 : Int32) (v1 : Int32) (I : AI) (F : AF) : OK 0 mX10_heirOf true (f_X10_heirOf v0 v1 I F) (0, [(0, .int v0), (1, .int v1)], [], hp I F) := by
  rw [f_X10_heirOf]
  refine OK_st 4 okX10_heirOf (S' := (4, [(3, .int (5 : Int32)), (2, .int v0), (0, .int v0), (1, .int v1)], [], hp I F)) rfl ⟨trivial, (by decide), trivial, (by decide), trivial⟩ ?_
  refine OK_pk [3, 1, 0] rfl ?_
  refine kf_X10_heirOf_4 v1 _ (fun v2_2108 v3_2109 I2110 F2111 => ?_) ab_fu v0 (5 : Int32) I F
  refine OK_st 3 okX10_heirOf (S' := (24, [(1, .int v1), (2, .int v2_2108), (3, .int v3_2109)], [.int (v2_2108 - v2_2108 / (6 : Int32) * (6 : Int32))], hp I2110 F2111)) rfl ⟨trivial, trivial, (by decide), trivial⟩ ?_
  exact OK_ri okX10_heirOf rfl rfl (Or.inl rfl)

def f_X10_apart (v0 : Int32) (v1 : Int32) (I : AI) (F : AF) : AQ :=
  if v0 ≤ v1 then
    some ((v1 - v0), I, F)
  else
    some ((v0 - v1), I, F)
set_option maxRecDepth 20000 in
set_option maxHeartbeats 4000000 in
theorem kf_X10_apart (v0 : Int32) (v1 : Int32) (I : AI) (F : AF) : OK 0 mX10_apart true (f_X10_apart v0 v1 I F) (0, [(0, .int v0), (1, .int v1)], [], hp I F) := by
  rw [f_X10_apart]
  refine OK_st 3 okX10_apart (S' := ((if v0 ≤ v1 then 11 else 5), [(0, .int v0), (1, .int v1)], [], hp I F)) rfl ⟨trivial, trivial, trivial, trivial⟩ ?_
  refine OK_if (fun h2131 => ?_) (fun h2131 => ?_)
  · refine OK_st 3 okX10_apart (S' := (14, [(0, .int v0), (1, .int v1)], [.int (v1 - v0)], hp I F)) rfl ⟨trivial, trivial, trivial, trivial⟩ ?_
    exact OK_ri okX10_apart rfl rfl (Or.inl rfl)
  · refine OK_st 4 okX10_apart (S' := (14, [(0, .int v0), (1, .int v1)], [.int (v0 - v1)], hp I F)) rfl ⟨trivial, trivial, trivial, trivial, trivial⟩ ?_
    exact OK_ri okX10_apart rfl rfl (Or.inl rfl)

def f_X10_apartBy_7 (v1 : Int32) (ko : Int32 → Int32 → Int32 → AI → AF → AQ) : Nat → Int32 → Int32 → Int32 → AI → AF → AQ
  | 0, _, _, _, _, _ => none
  | n + 1, v2, v3, v4, I, F =>
    if (6 : Int32) ≤ v4 then
      ko v2 v3 v4 I F
    else
      ab_bd (f_X10_heirOf v1 v4 I F) (fun r2112 I2113 F2114 =>
        ab_bd (f_X10_lives v4 I2113 F2114) (fun r2115 I2116 F2117 =>
          if ¬ r2115 = 0 then
            if r2112 = v4 then
              some ((-1 : Int32), I2116, F2117)
            else
              ab_bd (f_X10_lives r2112 I2116 F2117) (fun r2120 I2121 F2122 =>
                if r2120 = 0 then
                  some ((-1 : Int32), I2121, F2122)
                else
                  ab_bd (f_X10_has v3 r2112 I2121 F2122) (fun r2124 I2125 F2126 =>
                    if r2124 = 0 then
                      ab_lt (v3 ||| ((1 : Int32) <<< (r2112 &&& 31))) (fun x2128 =>
                        bif ab_vin v4 22 then
                          bif ab_vin r2112 22 then
                            ab_bd (f_X10_apart ((F2126 47) v4.toNatClampNeg) ((F2126 47) r2112.toNatClampNeg) I2125 F2126) (fun r2132 I2133 F2134 =>
                              f_X10_apartBy_7 v1 ko n (v2 + r2132) x2128 (v4 + (1 : Int32)) I2133 F2134)
                          else none
                        else none)
                    else
                      some ((-1 : Int32), I2125, F2126)))
          else
            if r2112 ≤ 0 then
              f_X10_apartBy_7 v1 ko n v2 v3 (v4 + (1 : Int32)) I2116 F2117
            else
              some ((-1 : Int32), I2116, F2117)))
set_option maxRecDepth 20000 in
set_option maxHeartbeats 4000000 in
theorem kf_X10_apartBy_7 (v1 : Int32) (ko : Int32 → Int32 → Int32 → AI → AF → AQ) (hko : ∀ v2 v3 v4 I F, OK 2 mX10_apartBy true (ko v2 v3 v4 I F) (98, [(0, .ref 49), (1, .int v1), (2, .int v2), (3, .int v3), (4, .int v4)], [], hp I F)) : ∀ n v2 v3 v4 I F, OK 2 mX10_apartBy true (f_X10_apartBy_7 v1 ko n v2 v3 v4 I F) (7, [(0, .ref 49), (1, .int v1), (2, .int v2), (3, .int v3), (4, .int v4)], [], hp I F) := by
  intro n
  induction n with
  | zero =>
    intro v2 v3 v4 I F
    exact OK_no
  | succ n ih =>
    intro v2 v3 v4 I F
    rw [f_X10_apartBy_7]
    refine OK_st 3 okX10_apartBy (S' := ((if (6 : Int32) ≤ v4 then 98 else 14), [(0, .ref 49), (1, .int v1), (2, .int v2), (3, .int v3), (4, .int v4)], [], hp I F)) rfl ⟨trivial, trivial, trivial, trivial⟩ ?_
    refine OK_if (fun h2106 => ?_) (fun h2106 => ?_)
    · exact hko v2 v3 v4 I F
    · refine OK_st 2 okX10_apartBy (S' := (17, [(0, .ref 49), (1, .int v1), (2, .int v2), (3, .int v3), (4, .int v4)], [.int v4, .int v1], hp I F)) rfl ⟨trivial, trivial, trivial⟩ ?_
      refine OK_cs [.int v1, .int v4] [] okX10_apartBy okX10_heirOf rfl rfl cl_RX10_298 (Nat.le_of_ble_eq_true rfl) (by decide) (Nat.le_of_ble_eq_true rfl) (kf_X10_heirOf v1 v4 I F) (fun r2112 I2113 F2114 => ?_)
      refine OK_st 3 okX10_apartBy (S' := (25, [(5, .int r2112), (0, .ref 49), (1, .int v1), (2, .int v2), (3, .int v3), (4, .int v4)], [.int v4, .ref 49], hp I2113 F2114)) rfl ⟨(by decide), trivial, trivial, trivial⟩ ?_
      refine OK_cv [.int v4] [] okX10_apartBy okX10_lives rfl rfl cl_RX10_190 rfl rfl (Nat.le_of_ble_eq_true rfl) (by decide) (Nat.le_of_ble_eq_true rfl) (kf_X10_lives v4 I2113 F2114) (fun r2115 I2116 F2117 => ?_)
      refine OK_st 1 okX10_apartBy (S' := ((if ¬ r2115 = 0 then 38 else 31), [(5, .int r2112), (0, .ref 49), (1, .int v1), (2, .int v2), (3, .int v3), (4, .int v4)], [], hp I2116 F2117)) rfl ⟨trivial, trivial⟩ ?_
      refine OK_if (fun h2118 => ?_) (fun h2118 => ?_)
      · refine OK_st 3 okX10_apartBy (S' := ((if r2112 = v4 then 63 else 45), [(5, .int r2112), (0, .ref 49), (1, .int v1), (2, .int v2), (3, .int v3), (4, .int v4)], [], hp I2116 F2117)) rfl ⟨trivial, trivial, trivial, trivial⟩ ?_
        refine OK_if (fun h2119 => ?_) (fun h2119 => ?_)
        · refine OK_st 1 okX10_apartBy (S' := (64, [(5, .int r2112), (0, .ref 49), (1, .int v1), (2, .int v2), (3, .int v3), (4, .int v4)], [.int (-1 : Int32)], hp I2116 F2117)) rfl ⟨trivial, trivial⟩ ?_
          exact OK_ri okX10_apartBy rfl rfl (Or.inl rfl)
        · refine OK_st 2 okX10_apartBy (S' := (48, [(5, .int r2112), (0, .ref 49), (1, .int v1), (2, .int v2), (3, .int v3), (4, .int v4)], [.int r2112, .ref 49], hp I2116 F2117)) rfl ⟨trivial, trivial, trivial⟩ ?_
          refine OK_cv [.int r2112] [] okX10_apartBy okX10_lives rfl rfl cl_RX10_190 rfl rfl (Nat.le_of_ble_eq_true rfl) (by decide) (Nat.le_of_ble_eq_true rfl) (kf_X10_lives r2112 I2116 F2117) (fun r2120 I2121 F2122 => ?_)
          refine OK_st 1 okX10_apartBy (S' := ((if r2120 = 0 then 63 else 54), [(5, .int r2112), (0, .ref 49), (1, .int v1), (2, .int v2), (3, .int v3), (4, .int v4)], [], hp I2121 F2122)) rfl ⟨trivial, trivial⟩ ?_
          refine OK_if (fun h2123 => ?_) (fun h2123 => ?_)
          · refine OK_st 1 okX10_apartBy (S' := (64, [(5, .int r2112), (0, .ref 49), (1, .int v1), (2, .int v2), (3, .int v3), (4, .int v4)], [.int (-1 : Int32)], hp I2121 F2122)) rfl ⟨trivial, trivial⟩ ?_
            exact OK_ri okX10_apartBy rfl rfl (Or.inl rfl)
          · refine OK_st 2 okX10_apartBy (S' := (57, [(5, .int r2112), (0, .ref 49), (1, .int v1), (2, .int v2), (3, .int v3), (4, .int v4)], [.int r2112, .int v3], hp I2121 F2122)) rfl ⟨trivial, trivial, trivial⟩ ?_
            refine OK_cs [.int v3, .int r2112] [] okX10_apartBy okX10_has rfl rfl cl_RX10_106 (Nat.le_of_ble_eq_true rfl) (by decide) (Nat.le_of_ble_eq_true rfl) (kf_X10_has v3 r2112 I2121 F2122) (fun r2124 I2125 F2126 => ?_)
            refine OK_st 1 okX10_apartBy (S' := ((if r2124 = 0 then 65 else 63), [(5, .int r2112), (0, .ref 49), (1, .int v1), (2, .int v2), (3, .int v3), (4, .int v4)], [], hp I2125 F2126)) rfl ⟨trivial, trivial⟩ ?_
            refine OK_if (fun h2127 => ?_) (fun h2127 => ?_)
            · refine OK_st 6 okX10_apartBy (S' := (72, [(3, .int (v3 ||| ((1 : Int32) <<< (r2112 &&& 31)))), (5, .int r2112), (0, .ref 49), (1, .int v1), (2, .int v2), (4, .int v4)], [], hp I2125 F2126)) rfl ⟨trivial, trivial, trivial, trivial, trivial, (by decide), trivial⟩ ?_
              refine OK_lt (fun x2128 => (72, [(3, .int x2128), (5, .int r2112), (0, .ref 49), (1, .int v1), (2, .int v2), (4, .int v4)], [], hp I2125 F2126)) (fun x2128 => ?_)
              refine OK_gd (fun g2129 => ?_)
              refine OK_gd (fun g2130 => ?_)
              refine OK_st 9 okX10_apartBy (S' := (87, [(3, .int x2128), (5, .int r2112), (0, .ref 49), (1, .int v1), (2, .int v2), (4, .int v4)], [.int ((F2126 47) r2112.toNatClampNeg), .int ((F2126 47) v4.toNatClampNeg), .int v2], hp I2125 F2126)) rfl ⟨trivial, trivial, trivial, trivial, (ab_vo g2129), trivial, trivial, trivial, (ab_vo g2130), trivial⟩ ?_
              refine OK_cs [.int ((F2126 47) v4.toNatClampNeg), .int ((F2126 47) r2112.toNatClampNeg)] [.int v2] okX10_apartBy okX10_apart rfl rfl cl_RX10_301 (Nat.le_of_ble_eq_true rfl) (by decide) (Nat.le_of_ble_eq_true rfl) (kf_X10_apart ((F2126 47) v4.toNatClampNeg) ((F2126 47) r2112.toNatClampNeg) I2125 F2126) (fun r2132 I2133 F2134 => ?_)
              refine OK_st 4 okX10_apartBy (S' := (7, [(4, .int (v4 + (1 : Int32))), (2, .int (v2 + r2132)), (3, .int x2128), (5, .int r2112), (0, .ref 49), (1, .int v1)], [], hp I2133 F2134)) rfl ⟨trivial, (by decide), (by decide), trivial, trivial⟩ ?_
              refine OK_pk [4, 5, 1, 2, 0] rfl ?_
              exact ih (v2 + r2132) x2128 (v4 + (1 : Int32)) I2133 F2134
            · refine OK_st 1 okX10_apartBy (S' := (64, [(5, .int r2112), (0, .ref 49), (1, .int v1), (2, .int v2), (3, .int v3), (4, .int v4)], [.int (-1 : Int32)], hp I2125 F2126)) rfl ⟨trivial, trivial⟩ ?_
              exact OK_ri okX10_apartBy rfl rfl (Or.inl rfl)
      · refine OK_st 2 okX10_apartBy (S' := ((if r2112 ≤ 0 then 92 else 36), [(5, .int r2112), (0, .ref 49), (1, .int v1), (2, .int v2), (3, .int v3), (4, .int v4)], [], hp I2116 F2117)) rfl ⟨trivial, trivial, trivial⟩ ?_
        refine OK_if (fun h2135 => ?_) (fun h2135 => ?_)
        · refine OK_st 2 okX10_apartBy (S' := (7, [(4, .int (v4 + (1 : Int32))), (5, .int r2112), (0, .ref 49), (1, .int v1), (2, .int v2), (3, .int v3)], [], hp I2116 F2117)) rfl ⟨(by decide), trivial, trivial⟩ ?_
          refine OK_pk [2, 3, 4, 5, 0] rfl ?_
          exact ih v2 v3 (v4 + (1 : Int32)) I2116 F2117
        · refine OK_st 1 okX10_apartBy (S' := (37, [(5, .int r2112), (0, .ref 49), (1, .int v1), (2, .int v2), (3, .int v3), (4, .int v4)], [.int (-1 : Int32)], hp I2116 F2117)) rfl ⟨trivial, trivial⟩ ?_
          exact OK_ri okX10_apartBy rfl rfl (Or.inl rfl)
