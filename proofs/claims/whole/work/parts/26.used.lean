/-! used, bale -/
theorem fits_l {I : AI} {F : AF} {g : Nat} {x : Int32} (hg : g ≤ 8) (e15 : I 15 = nI g) : ∀ (m i n : Nat), i + m = g → m < n → (∀ j, j < i → F 25 j * x = F 26 j) → f_X3_fitsAll_2 x (fun _ I F => some (1, I, F)) n (nI i) I F = some ((if ∀ j, j < g → F 25 j * x = F 26 j then 1 else 0), I, F) := by
  intro m
  induction m with
  | zero =>
    intro i n h1 h2 hx
    match n, h2 with
    | n + 1, _ =>
      rw [f_X3_fitsAll_2]
      simp (disch := omega) only [e15, nle, if_pos (show g ≤ i by omega)]
      rw [if_pos (fun j hj => hx j (by omega))]
  | succ m ih =>
    intro i n h1 h2 hx
    match n, h2 with
    | n + 1, h2 =>
      rw [f_X3_fitsAll_2]
      simp (disch := omega) only [e15, nle, if_neg (show ¬ g ≤ i by omega), vin_t, cond_true, nI_clamp, nI_1]
      by_cases q : F 25 i * x = F 26 i
      · rw [if_pos q]
        exact ih (i + 1) n (by omega) (by omega) (fun j hj => by
          rcases Nat.lt_or_ge j i with z | z
          · exact hx j z
          · rw [show j = i by omega]; exact q)
      · rw [if_neg q, if_neg (fun z => q (z i (by omega)))]
theorem X_fits {I : AI} {F : AF} {g : Nat} {x : Int32} (hg : g ≤ 8) (e15 : I 15 = nI g) : f_X3_fitsAll x I F = some ((if ∀ j, j < g → F 25 j * x = F 26 j then 1 else 0), I, F) := fits_l hg e15 g 0 ab_fu (by omega) (by unfold ab_fu; omega) (fun j hj => absurd hj (by omega))
/-- the limbs by which all that was got is so -/
def us (F : AF) (a s g : Nat) : Nat → Nat
  | 0 => 0
  | k + 1 => if ∀ j, j < g → F 25 j * ms F a k s = F 26 j then us F a s g k ||| 2 ^ k else us F a s g k
theorem us_lt (F : AF) (a s g : Nat) : ∀ k, us F a s g k < 2 ^ k
  | 0 => by
    show 0 < 1
    decide
  | k + 1 => by
    have := us_lt F a s g k
    rw [us]
    split
    · exact Nat.or_lt_two_pow (by rw [Nat.pow_succ]; omega) (by rw [Nat.pow_succ]; have := Nat.pow_pos (n := k) (show 0 < 2 by decide); omega)
    · rw [Nat.pow_succ]; omega
theorem n_or (a b : Nat) : nI a ||| nI b = nI (a ||| b) := by
  apply Int32.toBitVec_inj.mp
  show (nI a).toBitVec ||| (nI b).toBitVec = (nI (a ||| b)).toBitVec
  apply BitVec.eq_of_toNat_eq
  rw [BitVec.toNat_or]
  have h : ∀ n, (nI n).toBitVec.toNat = n % 2 ^ 32 := fun n => rfl
  rw [h, h, h, Nat.or_mod_two_pow]
theorem fit_l {L a s g : Nat} {I : AI} {F : AF} (hL : L ≤ 6) (hg : g ≤ 8) (ea : F 22 18 = nI a) (ha : a < 2 ^ L) (es : F 22 19 = nI s) (hs : s ≤ 9040) (hh : ∀ k, k < L → F 14 k = -1 ∨ ∃ j, j < L ∧ F 14 k = nI j) (e9 : I 9 = nI L) (e15 : I 15 = nI g) :
    ∀ (m i n : Nat), i + m = L → m < n → f_X3_fitting_5 (fun r _ I F => some (r, I, F)) n (nI (us F a s g i)) (nI i) I F = some (nI (us F a s g L), I, F) := by
  intro m
  induction m with
  | zero =>
    intro i n h1 h2
    match n, h2 with
    | n + 1, _ =>
      have : i = L := by omega
      subst this
      rw [f_X3_fitting_5]
      simp (disch := omega) only [e9, nle, if_pos (Nat.le_refl i)]
  | succ m ih =>
    intro i n h1 h2
    match n, h2 with
    | n + 1, h2 =>
      have := ih (i + 1) n (by omega) (by omega)
      rw [us] at this
      rw [f_X3_fitting_5]
      simp (disch := omega) only [e9, nle, if_neg (show ¬ L ≤ i by omega), X_now hL ea ha es hs hh (show i < L by omega), bd_s, X_fits hg e15, lt_e, nI_1, sl_k i (show i < 9 by omega), n_or]
      by_cases q : ∀ j, j < g → F 25 j * ms F a i s = F 26 j
      · rw [if_pos q, if_neg (by decide)]
        rw [if_pos q] at this
        exact this
      · rw [if_neg q, if_pos rfl]
        rw [if_neg q] at this
        exact this
theorem X_fit {L a s g : Nat} {I : AI} {F : AF} (hL : L ≤ 6) (hg : g ≤ 8) (ea : F 22 18 = nI a) (ha : a < 2 ^ L) (es : F 22 19 = nI s) (hs : s ≤ 9040) (hh : ∀ k, k < L → F 14 k = -1 ∨ ∃ j, j < L ∧ F 14 k = nI j) (e9 : I 9 = nI L) (e15 : I 15 = nI g) : f_X3_fitting I F = some (nI (us F a s g L), I, F) := fit_l hL hg ea ha es hs hh e9 e15 L 0 ab_fu (by omega) (by unfold ab_fu; omega)
theorem used_in {L C a s g k : Nat} {I : AI} {F : AF} {ko : Int32 → Int32 → AI → AF → AQ} {v1 : Int32} (hL : L ≤ 6) (hg : g ≤ 8) (hk : k < L) (ea : F 22 18 = nI a) (ha : a < 2 ^ L) (es : F 22 19 = nI s) (hs : s ≤ 9040) (hP : PL L (F 13) (F 14) (F 38) (F 39)) (hS : SR L C (F 15) (F 22) (F 47)) (e37 : I 37 = nI g) (hN : ∀ j, j < g → F 60 j = F 25 j ∧ F 61 j = F 26 j) :
    ∀ (m i n : Nat), i + m = g → m < n → f_X10_used_17 v1 (nI k) ko n (if ∀ j, j < i → F 25 j * ms F a k s = F 26 j then 1 else 0) (nI i) I F = ko (if ∀ j, j < g → F 25 j * ms F a k s = F 26 j then 1 else 0) (nI g) I F := by
  intro m
  induction m with
  | zero =>
    intro i n h1 h2
    match n, h2 with
    | n + 1, _ =>
      have : i = g := by omega
      subst this
      rw [f_X10_used_17]
      simp (disch := omega) only [e37, nle, if_pos (Nat.le_refl i)]
  | succ m ih =>
    intro i n h1 h2
    match n, h2 with
    | n + 1, h2 =>
      have := ih (i + 1) n (by omega) (by omega)
      obtain ⟨v1, v2⟩ := hN i (by omega)
      rw [f_X10_used_17]
      simp (disch := omega) only [e37, nle, if_neg (show ¬ g ≤ i by omega), vin_t, cond_true, nI_clamp, nI_1, M_now hL ea ha es hs hP hS hk, bd_s, v1, v2]
      by_cases q : ∀ j, j < i → F 25 j * ms F a k s = F 26 j
      · rw [if_pos q, if_neg (by decide)]
        by_cases q2 : F 25 i * ms F a k s = F 26 i
        · have q3 : ∀ j, j < i + 1 → F 25 j * ms F a k s = F 26 j := fun j hj => by
            rcases Nat.lt_or_ge j i with z | z
            · exact q j z
            · rw [show j = i by omega]; exact q2
          rw [if_neg (not_not_intro q2)]
          rw [if_pos q3] at this
          exact this
        · rw [if_pos q2]
          rw [if_neg (fun z => q2 (z i (by omega)))] at this
          exact this
      · rw [if_neg q, if_pos rfl]
        rw [if_neg (fun z => q (fun j hj => z j (by omega)))] at this
        exact this
theorem used_l {L C a s g : Nat} {I : AI} {F : AF} (hL : L ≤ 6) (hg : g ≤ 8) (ea : F 22 18 = nI a) (ha : a < 2 ^ L) (es : F 22 19 = nI s) (hs : s ≤ 9040) (hP : PL L (F 13) (F 14) (F 38) (F 39)) (hS : SR L C (F 15) (F 22) (F 47)) (e22 : I 22 = nI L) (e37 : I 37 = nI g) (hN : ∀ j, j < g → F 60 j = F 25 j ∧ F 61 j = F 26 j) :
    ∀ (m i n : Nat), i + m = L → m < n → f_X10_used_4 (fun r _ I F => some (r, I, F)) n (nI (us F a s g i)) (nI i) I F = some (nI (us F a s g L), I, F) := by
  intro m
  induction m with
  | zero =>
    intro i n h1 h2
    match n, h2 with
    | n + 1, _ =>
      have : i = L := by omega
      subst this
      rw [f_X10_used_4]
      simp (disch := omega) only [e22, nle, if_pos (Nat.le_refl i)]
  | succ m ih =>
    intro i n h1 h2
    match n, h2 with
    | n + 1, h2 =>
      have := ih (i + 1) n (by omega) (by omega)
      rw [us] at this
      have hin : ∀ (ko : Int32 → Int32 → AI → AF → AQ) (v1 : Int32), f_X10_used_17 v1 (nI i) ko ab_fu 1 0 I F = ko (if ∀ j, j < g → F 25 j * ms F a i s = F 26 j then 1 else 0) (nI g) I F := by
        intro ko v1
        have := used_in (ko := ko) (v1 := v1) hL hg (show i < L by omega) ea ha es hs hP hS e37 hN g 0 ab_fu (by omega) (by unfold ab_fu; omega)
        rw [if_pos (fun j hj => absurd hj (by omega)), nI_0] at this
        exact this
      rw [f_X10_used_4]
      simp (disch := omega) only [e22, nle, if_neg (show ¬ L ≤ i by omega)]
      rw [hin]
      simp (disch := omega) only [lt_e, nI_1, sl_k i (show i < 9 by omega), n_or, Int32.or_zero]
      by_cases q : ∀ j, j < g → F 25 j * ms F a i s = F 26 j
      · rw [if_pos q, if_neg (by decide)]
        rw [if_pos q] at this
        exact this
      · rw [if_neg q, if_pos rfl]
        rw [if_neg q] at this
        exact this
theorem M_used {L C a s g : Nat} {I : AI} {F : AF} (hL : L ≤ 6) (hg : g ≤ 8) (ea : F 22 18 = nI a) (ha : a < 2 ^ L) (es : F 22 19 = nI s) (hs : s ≤ 9040) (hP : PL L (F 13) (F 14) (F 38) (F 39)) (hS : SR L C (F 15) (F 22) (F 47)) (e22 : I 22 = nI L) (e37 : I 37 = nI g) (hN : ∀ j, j < g → F 60 j = F 25 j ∧ F 61 j = F 26 j) : f_X10_used I F = some (nI (us F a s g L), I, F) := used_l hL hg ea ha es hs hP hS e22 e37 hN L 0 ab_fu (by omega) (by unfold ab_fu; omega)
theorem sim_used : ab_Sim Inv f_X9_used f_X10_used := by
  intro I F h
  have h0 := h
  obtain ⟨t, L, C, R, u, o, q, g, bb, hT, ⟨hL, hC, hR, e9, e10, e11, e22, e23, e24⟩, hPL, hQ, hV, hS, hD, hU, hM, ⟨hg, hb, e15, e16, e37, e38, hN1, hN2⟩⟩ := h
  obtain ⟨al, s, ha1, ea, ea2, hs1, es, -⟩ := SR_a hS
  refine ⟨nI (us F al s g L), I, F, I, F, ?_, ?_, h0⟩
  · unfold f_X9_used
    rw [X_fit hL hg ea ha1 es hs1 (PL_h hPL) e9 e15]
    rfl
  · exact M_used hL hg ea ha1 es hs1 hPL hS e22 e37 hN1
/-- how many bits of six -/
def pcn (m : Nat) : Nat → Nat
  | 0 => 0
  | k + 1 => pcn m k + (if m.testBit k then 1 else 0)
theorem pcn_le (m : Nat) : ∀ k, pcn m k ≤ k
  | 0 => Nat.le_refl 0
  | k + 1 => by
    have := pcn_le m k
    rw [pcn]
    split <;> omega
def bcx (v0 : Int32) : Int32 :=
  let x1 := v0 - (((v0.toUInt32 >>> ((1 : Int32).toUInt32 &&& Int32.toUInt32 31)).toInt32) &&& (nI 1431655765))
  let x2 := (x1 &&& (nI 858993459)) + (((x1.toUInt32 >>> ((nI 2).toUInt32 &&& Int32.toUInt32 31)).toInt32) &&& (nI 858993459))
  let x3 := (x2 + ((x2.toUInt32 >>> ((nI 4).toUInt32 &&& Int32.toUInt32 31)).toInt32)) &&& (nI 252645135)
  let x4 := x3 + ((x3.toUInt32 >>> ((nI 8).toUInt32 &&& Int32.toUInt32 31)).toInt32)
  let x5 := x4 + ((x4.toUInt32 >>> ((nI 16).toUInt32 &&& Int32.toUInt32 31)).toInt32)
  x5 &&& (nI 63)
theorem bcx_n : ∀ m, m < 64 → bcx (nI m) = nI (pcn m 6) := by decide +kernel
theorem X_bc {I : AI} {F : AF} {m : Nat} (hm : m < 64) : f_J6_bitCount_0f7a4 (nI m) I F = some (nI (pcn m 6), I, F) := by
  rw [← bcx_n m hm]
  unfold f_J6_bitCount_0f7a4
  simp only [lt_e]
  rfl
theorem bits_l {I : AI} {F : AF} {v : Nat} (hv : v < 2 ^ 31) : ∀ (m i n : Nat), i + m = 6 → m < n → f_X10_bits_4 (nI v) (fun r _ I F => some (r, I, F)) n (nI (pcn v i)) (nI i) I F = some (nI (pcn v 6), I, F) := by
  intro m
  induction m with
  | zero =>
    intro i n h1 h2
    match n, h2 with
    | n + 1, _ =>
      have : i = 6 := by omega
      subst this
      rw [f_X10_bits_4]
      rfl
  | succ m ih =>
    intro i n h1 h2
    match n, h2 with
    | n + 1, h2 =>
      have := ih (i + 1) n (by omega) (by omega)
      rw [pcn] at this
      rw [f_X10_bits_4]
      simp (disch := omega) only [nle, if_neg (show ¬ 6 ≤ i by omega), lt_e, nI_1, bit_n hv (show i < 9 by omega)]
      cases hb : v.testBit i with
      | false =>
        rw [hb] at this
        simp only [Bool.false_eq_true, if_false, Int32.add_zero, Nat.add_zero] at this ⊢
        exact this
      | true =>
        rw [hb] at this
        simp only [if_true, nI_1] at this ⊢
        exact this
theorem M_bits {I : AI} {F : AF} {v : Nat} (hv : v < 2 ^ 31) : f_X10_bits (nI v) I F = some (nI (pcn v 6), I, F) := bits_l hv 6 0 ab_fu rfl (by decide)
/-- all of a set are unlike in a season -/
def unl (F : AF) (a v s : Nat) (k : Nat) : Prop := ∀ j, j < k → v.testBit k = true → v.testBit j = true → ¬ ms F a k s = ms F a j s
theorem two_b {v j k : Nat} (hv : v < 2 ^ 31) (hj : j < 9) (hk : k < 9) : ((((nI v >>> (nI k &&& 31)) &&& (nI v >>> (nI j &&& 31))) &&& 1) = 0) = ¬ (v.testBit k = true ∧ v.testBit j = true) := by
  have e : (nI v >>> (nI k &&& 31)) &&& (nI v >>> (nI j &&& 31)) &&& 1 = ((nI v >>> (nI k &&& 31)) &&& 1) &&& ((nI v >>> (nI j &&& 31)) &&& 1) := by
    rw [Int32.and_assoc, Int32.and_assoc, Int32.and_comm 1, Int32.and_assoc, Int32.and_self]
  rw [e, bit_n hv hk, bit_n hv hj]
  cases v.testBit k <;> cases v.testBit j <;> simp
theorem unl_in {L a v s k : Nat} {I : AI} {F : AF} {ko : Int32 → AI → AF → AQ} (hL : L ≤ 6) (hk : k < L) (hv : v < 2 ^ 31) (ea : F 22 18 = nI a) (ha : a < 2 ^ L) (hs : s < 2 ^ 30) (hh : ∀ k, k < L → F 14 k = -1 ∨ ∃ j, j < L ∧ F 14 k = nI j) :
    ∀ (m i n : Nat), i + m = k → m < n → (∀ j, j < i → v.testBit k = true → v.testBit j = true → ¬ ms F a k s = ms F a j s) → ((unl F a v s k → f_X8_areUnlike_15 (nI v) (nI s) (nI k) ko n (nI i) I F = ko (nI k) I F) ∧ (¬ unl F a v s k → f_X8_areUnlike_15 (nI v) (nI s) (nI k) ko n (nI i) I F = some (0, I, F))) := by
  intro m
  induction m with
  | zero =>
    intro i n h1 h2 hx
    match n, h2 with
    | n + 1, _ =>
      have : i = k := by omega
      subst this
      rw [f_X8_areUnlike_15]
      simp (disch := omega) only [nle, if_pos (Nat.le_refl i)]
      exact ⟨fun _ => trivial, fun z => absurd hx z⟩
  | succ m ih =>
    intro i n h1 h2 hx
    match n, h2 with
    | n + 1, h2 =>
      rw [f_X8_areUnlike_15]
      simp (disch := omega) only [nle, if_neg (show ¬ k ≤ i by omega), two_b hv (show i < 9 by omega) (show k < 9 by omega), f_X8_areUnlike_j41_15, if_true, nI_1, X_meas hL ea ha hs hh hk, X_meas hL ea ha hs hh (show i < L by omega), bd_s]
      by_cases q : v.testBit k = true ∧ v.testBit i = true
      · rw [if_neg (not_not_intro q), if_neg (by decide)]
        by_cases q2 : ms F a k s = ms F a i s
        · rw [if_neg (not_not_intro q2)]
          exact ⟨fun z => absurd q2 (z i (by omega) q.1 q.2), fun _ => rfl⟩
        · rw [if_pos q2]
          exact ih (i + 1) n (by omega) (by omega) (fun j hj b1 b2 => by
            rcases Nat.lt_or_ge j i with z | z
            · exact hx j z b1 b2
            · rw [show j = i by omega]; exact q2)
      · rw [if_pos q]
        exact ih (i + 1) n (by omega) (by omega) (fun j hj b1 b2 => by
          rcases Nat.lt_or_ge j i with z | z
          · exact hx j z b1 b2
          · exact absurd ⟨b1, (show j = i by omega) ▸ b2⟩ q)
theorem unl_out {L a v s : Nat} {I : AI} {F : AF} (hL : L ≤ 6) (hv : v < 2 ^ 31) (ea : F 22 18 = nI a) (ha : a < 2 ^ L) (hs : s < 2 ^ 30) (hh : ∀ k, k < L → F 14 k = -1 ∨ ∃ j, j < L ∧ F 14 k = nI j) (e9 : I 9 = nI L) :
    ∀ (m i n : Nat), i + m = L → m < n → (∀ k, k < i → unl F a v s k) → f_X8_areUnlike_3 (nI v) (nI s) (fun _ I F => some (1, I, F)) n (nI i) I F = some ((1 : Int32), I, F) ∧ (∀ k, k < L → unl F a v s k) ∨ f_X8_areUnlike_3 (nI v) (nI s) (fun _ I F => some (1, I, F)) n (nI i) I F = some ((0 : Int32), I, F) ∧ ¬ (∀ k, k < L → unl F a v s k) := by
  intro m
  induction m with
  | zero =>
    intro i n h1 h2 hx
    match n, h2 with
    | n + 1, _ =>
      have : i = L := by omega
      subst this
      rw [f_X8_areUnlike_3]
      simp (disch := omega) only [e9, nle, if_pos (Nat.le_refl i)]
      exact Or.inl ⟨trivial, hx⟩
  | succ m ih =>
    intro i n h1 h2 hx
    match n, h2 with
    | n + 1, h2 =>
      rw [f_X8_areUnlike_3]
      simp (disch := omega) only [e9, nle, if_neg (show ¬ L ≤ i by omega)]
      have key := unl_in (I := I) (ko := fun v5 I F => f_X8_areUnlike_3 (nI v) (nI s) (fun _ I F => some (1, I, F)) n (nI i + 1) I F) hL (show i < L by omega) hv ea ha hs hh i 0 ab_fu (by omega) (by unfold ab_fu; omega) (fun j hj => absurd hj (by omega))
      rw [nI_0] at key
      by_cases q : unl F a v s i
      · rw [key.1 q, nI_1]
        exact ih (i + 1) n (by omega) (by omega) (fun k hk => by
          rcases Nat.lt_or_ge k i with z | z
          · exact hx k z
          · rw [show k = i by omega]; exact q)
      · rw [key.2 q]
        exact Or.inr ⟨rfl, fun z => q (z i (by omega))⟩
theorem X_unl {L a v s : Nat} {I : AI} {F : AF} (hL : L ≤ 6) (hv : v < 2 ^ 31) (ea : F 22 18 = nI a) (ha : a < 2 ^ L) (hs : s < 2 ^ 30) (hh : ∀ k, k < L → F 14 k = -1 ∨ ∃ j, j < L ∧ F 14 k = nI j) (e9 : I 9 = nI L) : f_X8_areUnlike (nI v) (nI s) I F = some ((1 : Int32), I, F) ∧ (∀ k, k < L → unl F a v s k) ∨ f_X8_areUnlike (nI v) (nI s) I F = some ((0 : Int32), I, F) ∧ ¬ (∀ k, k < L → unl F a v s k) := by
  by_cases hL0 : L = 0
  · subst hL0
    refine Or.inl ⟨?_, fun k hk => absurd hk (by omega)⟩
    unfold f_X8_areUnlike
    rw [show ab_fu = 99999 + 1 from rfl, f_X8_areUnlike_3, e9, if_pos (by decide)]
  · exact unl_out hL hv ea ha hs hh e9 (L - 1) 1 ab_fu (by omega) (by unfold ab_fu; omega) (fun k hk j hj => absurd hj (by omega))
def x01 (x : Int32) (P : Prop) : Prop := (P ∧ x = 1) ∨ (¬ P ∧ x = 0)
theorem x01_i {x : Int32} {P Q : Prop} (h : x01 x P) (e : P ↔ Q) : x01 x Q := by
  rcases h with ⟨a, b⟩ | ⟨a, b⟩
  · exact Or.inl ⟨e.mp a, b⟩
  · exact Or.inr ⟨fun z => a (e.mpr z), b⟩
theorem bl_in {L C a v s z k : Nat} {I : AI} {F : AF} {ko : Int32 → Int32 → AI → AF → AQ} {B : Prop} (hL : L ≤ 6) (hk : k < L) (hv : v < 2 ^ 31) (ea : F 22 18 = nI a) (ha : a < 2 ^ L) (es : F 22 19 = nI s) (hs : s ≤ 9040) (hz : z < 4) (hP : PL L (F 13) (F 14) (F 38) (F 39)) (hS : SR L C (F 15) (F 22) (F 47)) :
    ∀ (m i n : Nat) (x : Int32), i + m = k → m < n → x01 x (B ∧ ∀ j, j < i → v.testBit k = true → v.testBit j = true → ¬ ms F a k (s + z) = ms F a j (s + z)) → ∃ y, f_X10_bale_39 (nI v) (nI z) (nI k) ko n x (nI i) I F = ko y (nI k) I F ∧ x01 y (B ∧ unl F a v (s + z) k) := by
  have e19 : F 47 19 = nI s := hS.2.2.2.2.2.2.2.2.1.trans es
  intro m
  induction m with
  | zero =>
    intro i n x h1 h2 hx
    match n, h2 with
    | n + 1, _ =>
      have : i = k := by omega
      subst this
      rw [f_X10_bale_39]
      simp (disch := omega) only [nle, if_pos (Nat.le_refl i)]
      exact ⟨x, rfl, hx⟩
  | succ m ih =>
    intro i n x h1 h2 hx
    match n, h2 with
    | n + 1, h2 =>
      have go := fun x' => ih (i + 1) n x' (by omega) (by omega)
      have ext : ∀ Q : Prop, (Q ↔ (v.testBit k = true → v.testBit i = true → ¬ ms F a k (s + z) = ms F a i (s + z))) → ((B ∧ ∀ j, j < i → v.testBit k = true → v.testBit j = true → ¬ ms F a k (s + z) = ms F a j (s + z)) ∧ Q ↔ (B ∧ ∀ j, j < i + 1 → v.testBit k = true → v.testBit j = true → ¬ ms F a k (s + z) = ms F a j (s + z))) := by
        intro Q hQ
        constructor
        · rintro ⟨⟨b, h⟩, q⟩
          refine ⟨b, fun j hj b1 b2 => ?_⟩
          rcases Nat.lt_or_ge j i with y | y
          · exact h j y b1 b2
          · rw [show j = i by omega] at b2 ⊢
            exact hQ.mp q b1 b2
        · rintro ⟨b, h⟩
          exact ⟨⟨b, fun j hj => h j (by omega)⟩, hQ.mpr (h i (by omega))⟩
      rw [f_X10_bale_39]
      simp (disch := omega) only [nle, if_neg (show ¬ k ≤ i by omega), M_has hv (show k < 9 by omega), M_has hv (show i < 9 by omega), bd_s, f_X10_bale_j68_39, f_X10_bale_j69_39, if_true, nI_1, e19, nI_add, M_meas hL ea ha (show s + z < 2 ^ 30 by omega) hP hS hk, M_meas hL ea ha (show s + z < 2 ^ 30 by omega) hP hS (show i < L by omega)]
      rcases hx with ⟨hx, rfl⟩ | ⟨hx, rfl⟩
      · rw [if_neg (show ¬ (1 : Int32) = 0 by decide), if_neg (show ¬ (1 : Int32) = 0 by decide), if_neg (show ¬ (1 : Int32) = 0 by decide)]
        cases b1 : v.testBit k with
        | false =>
          simp only [Bool.false_eq_true, if_false, if_true]
          exact go 1 (Or.inl ⟨(ext True (by simp [b1])).mp ⟨hx, trivial⟩, rfl⟩)
        | true =>
          cases b2 : v.testBit i with
          | false =>
            simp only [Bool.false_eq_true, if_false, if_true]
            rw [if_neg (show ¬ (1 : Int32) = 0 by decide)]
            exact go 1 (Or.inl ⟨(ext True (by simp [b2])).mp ⟨hx, trivial⟩, rfl⟩)
          | true =>
            simp only [if_true]
            rw [if_neg (show ¬ (1 : Int32) = 0 by decide), if_neg (show ¬ (1 : Int32) = 0 by decide)]
            by_cases q : ms F a k (s + z) = ms F a i (s + z)
            · rw [if_pos q]
              refine go 0 (Or.inr ⟨fun y => ?_, rfl⟩)
              exact y.2 i (by omega) b1 b2 q
            · rw [if_neg q]
              exact go 1 (Or.inl ⟨(ext (¬ ms F a k (s + z) = ms F a i (s + z)) (by simp [b1, b2])).mp ⟨hx, q⟩, rfl⟩)
      · have no : x01 0 (B ∧ ∀ j, j < i + 1 → v.testBit k = true → v.testBit j = true → ¬ ms F a k (s + z) = ms F a j (s + z)) := Or.inr ⟨fun y => hx ⟨y.1, fun j hj => y.2 j (by omega)⟩, rfl⟩
        rw [if_pos rfl, if_pos rfl]
        have g0 := go 0 no
        simp only [ite_self]
        exact g0
theorem bl_mid {L C a v s z : Nat} {I : AI} {F : AF} {ko : Int32 → Int32 → AI → AF → AQ} (hL : L ≤ 6) (hv : v < 2 ^ 31) (ea : F 22 18 = nI a) (ha : a < 2 ^ L) (es : F 22 19 = nI s) (hs : s ≤ 9040) (hz : z < 4) (hP : PL L (F 13) (F 14) (F 38) (F 39)) (hS : SR L C (F 15) (F 22) (F 47)) (e22 : I 22 = nI L) :
    ∀ (m i n : Nat) (x : Int32), i + m = L → m < n → x01 x (∀ k, k < i → unl F a v (s + z) k) → ∃ y, f_X10_bale_27 (nI v) (nI z) ko n x (nI i) I F = ko y (nI L) I F ∧ x01 y (∀ k, k < L → unl F a v (s + z) k) := by
  intro m
  induction m with
  | zero =>
    intro i n x h1 h2 hx
    match n, h2 with
    | n + 1, _ =>
      have : i = L := by omega
      subst this
      rw [f_X10_bale_27]
      simp (disch := omega) only [e22, nle, if_pos (Nat.le_refl i)]
      exact ⟨x, rfl, hx⟩
  | succ m ih =>
    intro i n x h1 h2 hx
    match n, h2 with
    | n + 1, h2 =>
      rw [f_X10_bale_27]
      simp (disch := omega) only [e22, nle, if_neg (show ¬ L ≤ i by omega)]
      obtain ⟨y, hy1, hy2⟩ := bl_in (I := I) (B := ∀ k, k < i → unl F a v (s + z) k) (ko := fun v3 v5 I F => f_X10_bale_27 (nI v) (nI z) ko n v3 (nI i + 1) I F) hL (show i < L by omega) hv ea ha es hs hz hP hS i 0 ab_fu x (by omega) (by unfold ab_fu; omega) (x01_i hx ⟨fun b => ⟨b, fun j hj => absurd hj (by omega)⟩, fun b => b.1⟩)
      rw [nI_0] at hy1
      rw [hy1, nI_1]
      exact ih (i + 1) n y (by omega) (by omega) (x01_i hy2 ⟨fun b k hk => by
        rcases Nat.lt_or_ge k i with w | w
        · exact b.1 k w
        · rw [show k = i by omega]; exact b.2, fun b => ⟨fun k hk => b k (by omega), b i (by omega)⟩⟩)
theorem bale_l {L C a v s : Nat} {I : AI} {F : AF} (hL : L ≤ 6) (hv : v < 2 ^ 31) (ea : F 22 18 = nI a) (ha : a < 2 ^ L) (es : F 22 19 = nI s) (hs : s ≤ 9040) (hP : PL L (F 13) (F 14) (F 38) (F 39)) (hS : SR L C (F 15) (F 22) (F 47)) (e9 : I 9 = nI L) (e22 : I 22 = nI L) :
    ∀ (m i n n' : Nat), i + m = 4 → m < n → m < n' → ∃ r, f_X9_bale_28 (nI v) (fun _ I F => some (-1, I, F)) n (nI i) I F = some (r, I, F) ∧ f_X10_bale_17 (nI v) (fun _ I F => some (-1, I, F)) n' (nI i) I F = some (r, I, F) := by
  intro m
  induction m with
  | zero =>
    intro i n n' h1 h2 h3
    match n, n', h2, h3 with
    | n + 1, n' + 1, _, _ =>
      rw [f_X9_bale_28, f_X10_bale_17]
      simp (disch := omega) only [nle, if_pos (show 4 ≤ i by omega)]
      exact ⟨_, rfl, rfl⟩
  | succ m ih =>
    intro i n n' h1 h2 h3
    match n, n', h2, h3 with
    | n + 1, n' + 1, h2, h3 =>
      rw [f_X9_bale_28, f_X10_bale_17]
      obtain ⟨y, hy1, hy2⟩ := bl_mid (I := I) (v := v) (ko := fun v3 v4 I F => if v3 = 0 then f_X10_bale_17 (nI v) (fun _ I F => some (-1, I, F)) n' (nI i + 1) I F else some (nI i, I, F)) hL hv ea ha es hs (show i < 4 by omega) hP hS e22 L 0 ab_fu 1 (by omega) (by unfold ab_fu; omega) (Or.inl ⟨fun k hk => absurd hk (by omega), rfl⟩)
      rw [nI_0] at hy1
      simp (disch := omega) only [nle, if_neg (show ¬ 4 ≤ i by omega), f_X8_seasons, es, bd_s, nI_add]
      rw [hy1]
      rcases X_unl (I := I) (v := v) hL hv ea ha (show s + i < 2 ^ 30 by omega) (PL_h hP) e9 with ⟨w1, w2⟩ | ⟨w1, w2⟩
      · rw [w1]
        rcases hy2 with ⟨-, rfl⟩ | ⟨b, -⟩
        · exact ⟨_, rfl, rfl⟩
        · exact absurd w2 b
      · rw [w1]
        rcases hy2 with ⟨b, -⟩ | ⟨-, rfl⟩
        · exact absurd b w2
        · simp only [bd_s, if_true, nI_1]
          exact ih (i + 1) n n' (by omega) (by omega) (by omega)
theorem sim_bale : ab_Sim Inv f_X9_bale f_X10_bale := by
  intro I F h
  have h0 := h
  obtain ⟨t, L, C, R, u, o, q, g, bb, hT, ⟨hL, hC, hR, e9, e10, e11, e22, e23, e24⟩, hPL, hQ, hV, hS, hD, hU, hM, ⟨hg, hb, e15, e16, e37, e38, hN1, hN2⟩⟩ := h
  obtain ⟨al, s, ha1, ea, ea2, hs1, es, -⟩ := SR_a hS
  have hv : us F al s g L < 64 := Nat.lt_of_lt_of_le (us_lt F al s g L) (Nat.pow_le_pow_right (by decide) hL)
  have hp := pcn_le (us F al s g L) 6
  obtain ⟨r, r1, r2⟩ := bale_l (v := us F al s g L) hL (by omega) ea ha1 es hs1 hPL hS e9 e22 4 0 ab_fu ab_fu rfl (by unfold ab_fu; omega) (by unfold ab_fu; omega)
  rw [nI_0] at r1 r2
  have e1 : ∃ r, f_X9_bale I F = some (r, I, F) ∧ f_X10_bale I F = some (r, I, F) := by
    unfold f_X9_bale f_X10_bale
    rw [X_fit hL hg ea ha1 es hs1 (PL_h hPL) e9 e15, M_used hL hg ea ha1 es hs1 hPL hS e22 e37 hN1]
    simp (disch := omega) only [bd_s, X_bc hv, M_bits (show us F al s g L < 2 ^ 31 by omega), nle]
    by_cases q : 2 ≤ pcn (us F al s g L) 6
    · simp only [if_pos q]
      exact ⟨r, r1, r2⟩
    · simp only [if_neg q]
      exact ⟨_, rfl, rfl⟩
  obtain ⟨r, e1, e2⟩ := e1
  exact ⟨r, I, F, I, F, e1, e2, h0⟩
