/-! bestCopy -/
def ov (F : AF) (k s : Nat) : Nat := (om F k s).toNatClampNeg
theorem ov_n {L C k : Nat} {F : AF} (s : Nat) (hP : PL L (F 13) (F 14) (F 38) (F 39)) (hS : SR L C (F 15) (F 22) (F 47)) (hk : k < L) : om F k s = nI (ov F k s) ∧ ov F k s ≤ 149 := by
  obtain ⟨v, hv, e⟩ := om_bd s hP hS hk
  unfold ov
  rw [e, nI_clamp (by omega)]
  exact ⟨rfl, hv⟩
def apn (F : AF) (k s : Nat) : Nat → Nat
  | 0 => 0
  | i + 1 => apn F k s i + dn (ov F k i) (ov F k s)
theorem dn_le {a b : Nat} (ha : a ≤ 149) (hb : b ≤ 149) : dn a b ≤ 149 := by
  unfold dn
  split <;> omega
theorem apn_le {L C k : Nat} {F : AF} (s : Nat) (hP : PL L (F 13) (F 14) (F 38) (F 39)) (hS : SR L C (F 15) (F 22) (F 47)) (hk : k < L) : ∀ i, apn F k s i ≤ i * 149
  | 0 => Nat.zero_le _
  | i + 1 => by
    have h1 := apn_le s hP hS hk i
    have h2 := dn_le (ov_n i hP hS hk).2 (ov_n s hP hS hk).2
    rw [apn, Nat.succ_mul]
    omega
theorem X_ap_l {L C k s : Nat} {I : AI} {F : AF} (hL : L ≤ 6) (hk : k < L) (hP : PL L (F 13) (F 14) (F 38) (F 39)) (hS : SR L C (F 15) (F 22) (F 47)) : ∀ (m i n : Nat), i + m = 4 → m < n → f_X8_apartFrom_15 (nI k) (nI (ov F k s)) (fun r _ I F => some (r, I, F)) n (nI (apn F k s i)) (nI i) I F = some (nI (apn F k s 4), I, F) := by
  intro m
  induction m with
  | zero =>
    intro i n h1 h2
    match n, h2 with
    | n + 1, _ =>
      have : i = 4 := by omega
      subst this
      rw [f_X8_apartFrom_15, if_pos (by decide)]
  | succ m ih =>
    intro i n h1 h2
    match n, h2 with
    | n + 1, h2 =>
      have := ih (i + 1) n (by omega) (by omega)
      rw [apn] at this
      obtain ⟨o1, o2⟩ := ov_n i hP hS hk
      obtain ⟨-, p2⟩ := ov_n s hP hS hk
      rw [f_X8_apartFrom_15, if_neg (by rw [nle (by decide) (by omega)]; omega), X_own hL hk (show i < 2 ^ 30 by omega), bd_s, o1, X_abs (show ov F k i < 2 ^ 30 by omega) (show ov F k s < 2 ^ 30 by omega), lt_e, nI_add, nI_1]
      exact this
theorem X_ap {L C k s : Nat} {I : AI} {F : AF} (hL : L ≤ 6) (hk : k < L) (hs : s < 4) (hP : PL L (F 13) (F 14) (F 38) (F 39)) (hS : SR L C (F 15) (F 22) (F 47)) : f_X8_apartFrom (nI k) (nI s) I F = some (nI (apn F k s 4), I, F) := by
  unfold f_X8_apartFrom
  rw [X_own hL hk (show s < 2 ^ 30 by omega), bd_s, (ov_n s hP hS hk).1]
  exact X_ap_l hL hk hP hS 4 0 ab_fu rfl (by decide)
theorem M_ap_l {L C k s : Nat} {I : AI} {F : AF} {v2 v3 v4 : Int32} {ko : Int32 → Int32 → AI → AF → AQ} (hL : L ≤ 6) (hk : k < L) (hs : s < 4) (hP : PL L (F 13) (F 14) (F 38) (F 39)) (hS : SR L C (F 15) (F 22) (F 47)) : ∀ (m i n : Nat), i + m = 4 → m < n → f_X10_bestCopy_52 (nI k) v2 v3 v4 (nI s) ko n (nI (apn F k s i)) (nI i) I F = ko (nI (apn F k s 4)) (nI 4) I F := by
  intro m
  induction m with
  | zero =>
    intro i n h1 h2
    match n, h2 with
    | n + 1, _ =>
      have : i = 4 := by omega
      subst this
      rw [f_X10_bestCopy_52, if_pos (by decide)]
  | succ m ih =>
    intro i n h1 h2
    match n, h2 with
    | n + 1, h2 =>
      have := ih (i + 1) n (by omega) (by omega)
      rw [apn] at this
      obtain ⟨o1, o2⟩ := ov_n i hP hS hk
      obtain ⟨p1, p2⟩ := ov_n s hP hS hk
      rw [f_X10_bestCopy_52, if_neg (by rw [nle (by decide) (by omega)]; omega), M_own hL hk (show i < 2 ^ 30 by omega) hP hS, bd_s, M_own hL hk (show s < 2 ^ 30 by omega) hP hS, bd_s, o1, p1, M_abs (show ov F k i < 2 ^ 30 by omega) (show ov F k s < 2 ^ 30 by omega), bd_s, nI_add, nI_1]
      exact this
theorem best_l {L C k a : Nat} {I : AI} {F : AF} {w : Int32} (hL : L ≤ 6) (hk : k < L) (hP : PL L (F 13) (F 14) (F 38) (F 39)) (hS : SR L C (F 15) (F 22) (F 47)) (ea2 : F 47 18 = nI a) (ha : a < 2 ^ 31) (hb : a.testBit k = true) :
    ∀ (m i n n' b : Nat), i + m = 4 → m < n → m < n' → b < 4 → ∃ r, f_X9_bestCopy_44 (nI k) w (fun v3 _ I F => if ¬ w = 0 then ab_bd (f_X8_apartFrom (nI k) v3 I F) (fun r I F => some (r, I, F)) else some (v3, I, F)) n (nI b) (nI i) I F = some (r, I, F) ∧ f_X10_bestCopy_32 (nI k) w (fun p q _ I F => if ¬ w = 0 then some (q, I, F) else some (p, I, F)) n' (nI b) (nI (apn F k b 4)) (nI i) I F = some (r, I, F) := by
  intro m
  induction m with
  | zero =>
    intro i n n' b h1 h2 h3 h4
    match n, n', h2, h3 with
    | n + 1, n' + 1, _, _ =>
      have : i = 4 := by omega
      subst this
      rw [f_X9_bestCopy_44, f_X10_bestCopy_32, if_pos (show nI 4 ≤ nI 4 by decide), if_pos (show nI 4 ≤ nI 4 by decide), X_ap hL hk h4 hP hS, bd_s]
      by_cases q : w = 0
      · rw [if_neg (not_not_intro q)]
        exact ⟨_, rfl, rfl⟩
      · rw [if_pos q]
        exact ⟨_, rfl, rfl⟩
  | succ m ih =>
    intro i n n' b h1 h2 h3 h4
    match n, n', h2, h3 with
    | n + 1, n' + 1, h2, h3 =>
      have a1 := apn_le i hP hS hk 4
      have a2 := apn_le b hP hS hk 4
      have k1 := ih (i + 1) n n' b (by omega) (by omega) (by omega) h4
      have k2 := ih (i + 1) n n' i (by omega) (by omega) (by omega) (by omega)
      rw [f_X9_bestCopy_44, f_X10_bestCopy_32, if_neg (show ¬ nI 4 ≤ nI i by rw [nle (by decide) (by omega)]; omega), if_neg (show ¬ nI 4 ≤ nI i by rw [nle (by decide) (by omega)]; omega), X_ap hL hk (show i < 4 by omega) hP hS, bd_s, X_ap hL hk h4 hP hS, bd_s, M_lives ea2 ha (show k < 9 by omega), hb, if_pos rfl, bd_s, if_neg (show ¬ (1 : Int32) = 0 by decide)]
      have := M_ap_l (I := I) (v2 := w) (v3 := nI b) (v4 := nI (apn F k b 4)) (ko := fun v6_2245 v7_2246 I2247 F2248 =>
            if nI b < 0 then
              if nI (apn F k b 4) < 0 then
                f_X10_bestCopy_32 (nI k) w (fun p q _ I F => if ¬ w = 0 then some (q, I, F) else some (p, I, F)) n' (nI i) v6_2245 ((nI i) + (1 : Int32)) I2247 F2248
              else
                if nI (apn F k b 4) ≤ v6_2245 then
                  f_X10_bestCopy_32 (nI k) w (fun p q _ I F => if ¬ w = 0 then some (q, I, F) else some (p, I, F)) n' (nI i) (nI (apn F k b 4)) ((nI i) + (1 : Int32)) I2247 F2248
                else
                  f_X10_bestCopy_32 (nI k) w (fun p q _ I F => if ¬ w = 0 then some (q, I, F) else some (p, I, F)) n' (nI i) v6_2245 ((nI i) + (1 : Int32)) I2247 F2248
            else
              if nI (apn F k b 4) ≤ v6_2245 then
                if nI (apn F k b 4) < 0 then
                  f_X10_bestCopy_32 (nI k) w (fun p q _ I F => if ¬ w = 0 then some (q, I, F) else some (p, I, F)) n' (nI b) v6_2245 ((nI i) + (1 : Int32)) I2247 F2248
                else
                  if nI (apn F k b 4) ≤ v6_2245 then
                    f_X10_bestCopy_32 (nI k) w (fun p q _ I F => if ¬ w = 0 then some (q, I, F) else some (p, I, F)) n' (nI b) (nI (apn F k b 4)) ((nI i) + (1 : Int32)) I2247 F2248
                  else
                    f_X10_bestCopy_32 (nI k) w (fun p q _ I F => if ¬ w = 0 then some (q, I, F) else some (p, I, F)) n' (nI b) v6_2245 ((nI i) + (1 : Int32)) I2247 F2248
              else
                if nI (apn F k b 4) < 0 then
                  f_X10_bestCopy_32 (nI k) w (fun p q _ I F => if ¬ w = 0 then some (q, I, F) else some (p, I, F)) n' (nI i) v6_2245 ((nI i) + (1 : Int32)) I2247 F2248
                else
                  if nI (apn F k b 4) ≤ v6_2245 then
                    f_X10_bestCopy_32 (nI k) w (fun p q _ I F => if ¬ w = 0 then some (q, I, F) else some (p, I, F)) n' (nI i) (nI (apn F k b 4)) ((nI i) + (1 : Int32)) I2247 F2248
                  else
                    f_X10_bestCopy_32 (nI k) w (fun p q _ I F => if ¬ w = 0 then some (q, I, F) else some (p, I, F)) n' (nI i) v6_2245 ((nI i) + (1 : Int32)) I2247 F2248) hL hk (show i < 4 by omega) hP hS 4 0 ab_fu rfl (by decide)
      rw [show nI (apn F k i 0) = 0 from rfl, nI_0] at this
      rw [this]
      rw [if_neg (show ¬ nI b < 0 from nI_pos (by omega)), if_neg (show ¬ nI (apn F k b 4) < 0 from nI_pos (by omega)), if_neg (show ¬ nI (apn F k b 4) < 0 from nI_pos (by omega)), nI_1]
      by_cases q : apn F k b 4 ≤ apn F k i 4
      · have q' : nI (apn F k b 4) ≤ nI (apn F k i 4) := (nI_leI (by omega) (by omega)).mpr q
        rw [if_pos q', if_pos q', if_pos q']
        exact k1
      · have q' : ¬ nI (apn F k b 4) ≤ nI (apn F k i 4) := fun z => q ((nI_leI (by omega) (by omega)).mp z)
        rw [if_neg q', if_neg q', if_neg q']
        exact k2
theorem sim_bestCopy (a b : Int32) : ab_Sim Inv (f_X9_bestCopy a b) (f_X10_bestCopy a b) := by
  intro I F h
  have h0 := h
  obtain ⟨t, L, C, R, u, o, q, g, bb, hT, ⟨hL, hC, hR, e9, e10, e11, e22, e23, e24⟩, hPL, hQ, hV, hS, hD, hU, hM, hN⟩ := h
  obtain ⟨al, s, ha1, ea, ea2, hs1, es, -⟩ := SR_a hS
  have ha31 := pow31 hL ha1
  have one : ¬ (1 : Int32) = 0 := by decide
  rcases i_cs a (n := L) (by omega) with ⟨k, hk, rfl⟩ | ha
  · have k9 : k < 9 := by omega
    by_cases hb : b = 0 ∨ b = 1
    · have hin : (if (0 : Int32) ≤ b ∧ b ≤ 1 then (1 : Int32) else 0) = 1 := by rcases hb with rfl | rfl <;> decide
      cases hl : al.testBit k with
      | false =>
        refine ⟨-1, I, F, I, F, ?_, ?_, h0⟩
        · unfold f_X9_bestCopy
          rw [hasL_in hL e9 hk, bd_s, if_pos one, X_lives ea ha31 k9, hl, if_neg Bool.false_ne_true]
          by_cases z : b = 0
          · rw [if_pos z, bd_s, if_neg (by decide)]
          · rw [if_neg z, if_pos (hb.resolve_left z), bd_s, if_neg (by decide)]
        · unfold f_X10_bestCopy
          rw [isL_in hL e22 hk, bd_s, if_pos one, in_c (w2 := 0) (w4 := 1) (b := 0) (c := 1) rfl rfl, hin, bd_s, if_pos one, show ab_fu = 99999 + 1 from rfl, f_X10_bestCopy_32, if_neg (show ¬ nI 4 ≤ (0 : Int32) by decide), M_lives ea2 ha31 k9, hl, if_neg Bool.false_ne_true, bd_s, if_pos rfl]
          rcases hb with rfl | rfl
          · rw [if_neg (by decide)]
          · rw [if_pos one]
      | true =>
        have a0 := apn_le 0 hPL hS hk 4
        obtain ⟨r, r1, r2⟩ := best_l (I := I) (w := b) hL hk hPL hS ea2 ha31 hl 3 1 ab_fu 99999 0 rfl (by decide) (by decide) (by decide)
        rw [nI_0, show nI 1 = 1 from rfl] at r1 r2
        refine ⟨r, I, F, I, F, ?_, ?_, h0⟩
        · unfold f_X9_bestCopy
          rw [hasL_in hL e9 hk, bd_s, if_pos one, X_lives ea ha31 k9, hl, if_pos rfl]
          by_cases z : b = 0
          · rw [if_pos z, bd_s, if_pos one]
            exact r1
          · rw [if_neg z, if_pos (hb.resolve_left z), bd_s, if_pos one]
            exact r1
        · unfold f_X10_bestCopy
          rw [isL_in hL e22 hk, bd_s, if_pos one, in_c (w2 := 0) (w4 := 1) (b := 0) (c := 1) rfl rfl, hin, bd_s, if_pos one, show ab_fu = 99999 + 1 from rfl, f_X10_bestCopy_32, if_neg (show ¬ nI 4 ≤ (0 : Int32) by decide), M_lives ea2 ha31 k9, hl, if_pos rfl, bd_s, if_neg one]
          have := M_ap_l (I := I) (v2 := b) (v3 := -1) (v4 := -1) (s := 0) (ko := fun v6_2245 v7_2246 I2247 F2248 =>
            if (-1 : Int32) < 0 then
              if (-1 : Int32) < 0 then
                f_X10_bestCopy_32 (nI k) b (fun v3_2257 v4_2258 v5_2259 I2260 F2261 => if ¬ b = 0 then some (v4_2258, I2260, F2261) else some (v3_2257, I2260, F2261)) 99999 0 v6_2245 (0 + (1 : Int32)) I2247 F2248
              else
                if (-1 : Int32) ≤ v6_2245 then
                  f_X10_bestCopy_32 (nI k) b (fun v3_2257 v4_2258 v5_2259 I2260 F2261 => if ¬ b = 0 then some (v4_2258, I2260, F2261) else some (v3_2257, I2260, F2261)) 99999 0 (-1) (0 + (1 : Int32)) I2247 F2248
                else
                  f_X10_bestCopy_32 (nI k) b (fun v3_2257 v4_2258 v5_2259 I2260 F2261 => if ¬ b = 0 then some (v4_2258, I2260, F2261) else some (v3_2257, I2260, F2261)) 99999 0 v6_2245 (0 + (1 : Int32)) I2247 F2248
            else
              if (-1 : Int32) ≤ v6_2245 then
                if (-1 : Int32) < 0 then
                  f_X10_bestCopy_32 (nI k) b (fun v3_2257 v4_2258 v5_2259 I2260 F2261 => if ¬ b = 0 then some (v4_2258, I2260, F2261) else some (v3_2257, I2260, F2261)) 99999 (-1) v6_2245 (0 + (1 : Int32)) I2247 F2248
                else
                  if (-1 : Int32) ≤ v6_2245 then
                    f_X10_bestCopy_32 (nI k) b (fun v3_2257 v4_2258 v5_2259 I2260 F2261 => if ¬ b = 0 then some (v4_2258, I2260, F2261) else some (v3_2257, I2260, F2261)) 99999 (-1) (-1) (0 + (1 : Int32)) I2247 F2248
                  else
                    f_X10_bestCopy_32 (nI k) b (fun v3_2257 v4_2258 v5_2259 I2260 F2261 => if ¬ b = 0 then some (v4_2258, I2260, F2261) else some (v3_2257, I2260, F2261)) 99999 (-1) v6_2245 (0 + (1 : Int32)) I2247 F2248
              else
                if (-1 : Int32) < 0 then
                  f_X10_bestCopy_32 (nI k) b (fun v3_2257 v4_2258 v5_2259 I2260 F2261 => if ¬ b = 0 then some (v4_2258, I2260, F2261) else some (v3_2257, I2260, F2261)) 99999 0 v6_2245 (0 + (1 : Int32)) I2247 F2248
                else
                  if (-1 : Int32) ≤ v6_2245 then
                    f_X10_bestCopy_32 (nI k) b (fun v3_2257 v4_2258 v5_2259 I2260 F2261 => if ¬ b = 0 then some (v4_2258, I2260, F2261) else some (v3_2257, I2260, F2261)) 99999 0 (-1) (0 + (1 : Int32)) I2247 F2248
                  else
                    f_X10_bestCopy_32 (nI k) b (fun v3_2257 v4_2258 v5_2259 I2260 F2261 => if ¬ b = 0 then some (v4_2258, I2260, F2261) else some (v3_2257, I2260, F2261)) 99999 0 v6_2245 (0 + (1 : Int32)) I2247 F2248) hL hk (by decide) hPL hS 4 0 ab_fu rfl (by decide)
          rw [show nI (apn F k 0 0) = 0 from rfl, nI_0] at this
          rw [this, if_pos (show (-1 : Int32) < 0 by decide), if_pos (show (-1 : Int32) < 0 by decide), Int32.zero_add]
          exact r2
    · refine ⟨-1000000002, I, F, I, F, ?_, ?_, h0⟩
      · unfold f_X9_bestCopy
        rw [hasL_in hL e9 hk, bd_s, if_pos one, if_neg (fun z => hb (Or.inl z)), if_neg (fun z => hb (Or.inr z))]
      · unfold f_X10_bestCopy
        rw [isL_in hL e22 hk, bd_s, if_pos one, in_c (w2 := 0) (w4 := 1) (b := 0) (c := 1) rfl rfl, if_neg, bd_s, if_neg (by decide)]
        intro z
        apply hb
        obtain ⟨j, hj, e⟩ := nI_of2 (M := 1) (n := 1) rfl (Int32.not_lt.mpr z.1) z.2
        rcases (show j = 0 ∨ j = 1 by omega) with rfl | rfl
        · exact Or.inl e
        · exact Or.inr e
  · refine ⟨-1000000001, I, F, I, F, ?_, ?_, h0⟩
    · unfold f_X9_bestCopy
      rw [hasL_out hL e9 ha, bd_s, if_neg (by decide)]
    · unfold f_X10_bestCopy
      rw [isL_out hL e22 ha, bd_s, if_neg (by decide)]
