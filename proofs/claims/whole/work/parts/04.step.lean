/-! one step of the abstract machine is one of the machine -/
theorem ab_b_inv {n : Nat} {f : Int32 → Int32 → Int32} {S S' : AS} {C : Prop} (hs : ab_b n f S = some (S', C)) : ∃ pc lv y x r h, S = (pc, lv, .int y :: .int x :: r, h) ∧ S' = (pc + n, lv, .int (f x y) :: r, h) ∧ C = (True) := by
  unfold ab_b at hs
  split at hs
  · cases hs; exact ⟨_, _, _, _, _, _, rfl, rfl, rfl⟩
  · cases hs
theorem ab_d_inv {n : Nat} {f : Int32 → Int32 → Int32} {S S' : AS} {C : Prop} (hs : ab_d n f S = some (S', C)) : ∃ pc lv y x r h, S = (pc, lv, .int y :: .int x :: r, h) ∧ S' = (pc + n, lv, .int (f x y) :: r, h) ∧ C = (¬ y = 0) := by
  unfold ab_d at hs
  split at hs
  · cases hs; exact ⟨_, _, _, _, _, _, rfl, rfl, rfl⟩
  · cases hs
theorem ab_bl_inv {n : Nat} {f : Int64 → Int64 → Int64} {S S' : AS} {C : Prop} (hs : ab_bl n f S = some (S', C)) : ∃ pc lv y x r h, S = (pc, lv, .long y :: .long x :: r, h) ∧ S' = (pc + n, lv, .long (f x y) :: r, h) ∧ C = (True) := by
  unfold ab_bl at hs
  split at hs
  · cases hs; exact ⟨_, _, _, _, _, _, rfl, rfl, rfl⟩
  · cases hs
theorem ab_dl_inv {n : Nat} {f : Int64 → Int64 → Int64} {S S' : AS} {C : Prop} (hs : ab_dl n f S = some (S', C)) : ∃ pc lv y x r h, S = (pc, lv, .long y :: .long x :: r, h) ∧ S' = (pc + n, lv, .long (f x y) :: r, h) ∧ C = (¬ y = 0) := by
  unfold ab_dl at hs
  split at hs
  · cases hs; exact ⟨_, _, _, _, _, _, rfl, rfl, rfl⟩
  · cases hs
theorem ab_sti_inv {n : Nat} {i : Nat} {q : Nat} {S S' : AS} {C : Prop} (hs : ab_sti n i q S = some (S', C)) : ∃ pc lv x r h, S = (pc, lv, .int x :: r, h) ∧ S' = (pc + n, ab_p1 lv i (.int x), r, h) ∧ C = (i < q) := by
  unfold ab_sti at hs
  split at hs
  · cases hs; exact ⟨_, _, _, _, _, rfl, rfl, rfl⟩
  · cases hs
theorem ab_stl_inv {n : Nat} {i : Nat} {q : Nat} {S S' : AS} {C : Prop} (hs : ab_stl n i q S = some (S', C)) : ∃ pc lv x r h, S = (pc, lv, .long x :: r, h) ∧ S' = (pc + n, ab_p2 lv i (.long x), r, h) ∧ C = (i + 1 < q) := by
  unfold ab_stl at hs
  split at hs
  · cases hs; exact ⟨_, _, _, _, _, rfl, rfl, rfl⟩
  · cases hs
theorem ab_sta_inv {n : Nat} {i : Nat} {q : Nat} {S S' : AS} {C : Prop} (hs : ab_sta n i q S = some (S', C)) : ∃ pc lv x r h, S = (pc, lv, .ref x :: r, h) ∧ S' = (pc + n, ab_p1 lv i (.ref x), r, h) ∧ C = (i < q) := by
  unfold ab_sta at hs
  split at hs
  · cases hs; exact ⟨_, _, _, _, _, rfl, rfl, rfl⟩
  · cases hs
theorem ab_ldi_inv {n i : Nat} {S S' : AS} {C : Prop} (hs : ab_ldi n i S = some (S', C)) : ∃ pc lv x r h, S = (pc, lv, r, h) ∧ ab_lg lv i = some (.int x) ∧ S' = (pc + n, lv, .int x :: r, h) := by
  obtain ⟨pc, lv, r, h⟩ := S
  unfold ab_ldi at hs
  dsimp only at hs
  split at hs
  · next e => cases hs; exact ⟨_, _, _, _, _, rfl, e, rfl⟩
  · cases hs
theorem ab_ldl_inv {n i : Nat} {S S' : AS} {C : Prop} (hs : ab_ldl n i S = some (S', C)) : ∃ pc lv x r h, S = (pc, lv, r, h) ∧ ab_lg lv i = some (.long x) ∧ S' = (pc + n, lv, .long x :: r, h) := by
  obtain ⟨pc, lv, r, h⟩ := S
  unfold ab_ldl at hs
  dsimp only at hs
  split at hs
  · next e => cases hs; exact ⟨_, _, _, _, _, rfl, e, rfl⟩
  · cases hs
theorem ab_lda_inv {n i : Nat} {S S' : AS} {C : Prop} (hs : ab_lda n i S = some (S', C)) : ∃ pc lv x r h, S = (pc, lv, r, h) ∧ ab_lg lv i = some (.ref x) ∧ S' = (pc + n, lv, .ref x :: r, h) := by
  obtain ⟨pc, lv, r, h⟩ := S
  unfold ab_lda at hs
  dsimp only at hs
  split at hs
  · next e => cases hs; exact ⟨_, _, _, _, _, rfl, e, rfl⟩
  · cases hs
theorem ab_m2_inv {f : Int32 → Int32 → Int32} {S S' : AS} {C : Prop} (hs : ab_m2 f S = some (S', C)) : ∃ pc lv y x r h, S = (pc, lv, .int y :: .int x :: r, h) ∧ S' = (pc + 3, lv, .int (f x y) :: r, h) ∧ C = ((r.map fun v => v.category).sum ≤ 8) := by
  unfold ab_m2 at hs
  split at hs
  · cases hs; exact ⟨_, _, _, _, _, _, rfl, rfl, rfl⟩
  · cases hs
theorem ab_m1_inv {f : Int32 → Int32} {S S' : AS} {C : Prop} (hs : ab_m1 f S = some (S', C)) : ∃ pc lv x r h, S = (pc, lv, .int x :: r, h) ∧ S' = (pc + 3, lv, .int (f x) :: r, h) ∧ C = ((r.map fun v => v.category).sum ≤ 8) := by
  unfold ab_m1 at hs
  split at hs
  · cases hs; exact ⟨_, _, _, _, _, rfl, rfl, rfl⟩
  · cases hs
theorem ab_inc_inv {n i q : Nat} {v : Int32} {S S' : AS} {C : Prop} (hs : ab_inc n i q v S = some (S', C)) : ∃ pc lv x r h, S = (pc, lv, r, h) ∧ ab_lg lv i = some (.int x) ∧ S' = (pc + n, ab_p1 lv i (.int (x + v)), r, h) ∧ C = (i < q) := by
  obtain ⟨pc, lv, r, h⟩ := S
  unfold ab_inc at hs
  dsimp only at hs
  split at hs
  · next e => cases hs; exact ⟨_, _, _, _, _, rfl, e, rfl, rfl⟩
  · cases hs
theorem ab_get_inv {ci k : Nat} {S S' : AS} {C : Prop} (hs : ab_get ci k S = some (S', C)) : ∃ pc lv a r h fs v, S = (pc, lv, .ref a :: r, h) ∧ ab_nt h a = some (.inr (ci, fs)) ∧ ab_nt fs k = some v ∧ S' = (pc + 3, lv, v :: r, h) := by
  unfold ab_get at hs
  split at hs
  · split at hs
    · next e =>
      split at hs
      · next e2 =>
        split at hs
        · next e3 => cases hs; subst e2; exact ⟨_, _, _, _, _, _, _, rfl, e, e3, rfl⟩
        · cases hs
      · cases hs
    · cases hs
  · cases hs
theorem ab_puti_inv {ci k : Nat} {S S' : AS} {C : Prop} (hs : ab_puti ci k S = some (S', C)) : ∃ pc lv x a r h fs w, S = (pc, lv, .int x :: .ref a :: r, h) ∧ ab_nt h a = some (.inr (ci, fs)) ∧ ab_nt fs k = some w ∧ S' = (pc + 3, lv, r, ab_st h a (.inr (ci, ab_st fs k (.int x)))) := by
  unfold ab_puti at hs
  split at hs
  · split at hs
    · next e =>
      split at hs
      · next e2 =>
        split at hs
        · next e3 => cases hs; subst e2; exact ⟨_, _, _, _, _, _, _, _, rfl, e, e3, rfl⟩
        · cases hs
      · cases hs
    · cases hs
  · cases hs
theorem ab_puta_inv {ci k : Nat} {S S' : AS} {C : Prop} (hs : ab_puta ci k S = some (S', C)) : ∃ pc lv x a r h fs w, S = (pc, lv, .ref x :: .ref a :: r, h) ∧ ab_nt h a = some (.inr (ci, fs)) ∧ ab_nt fs k = some w ∧ S' = (pc + 3, lv, r, ab_st h a (.inr (ci, ab_st fs k (.ref x)))) := by
  unfold ab_puta at hs
  split at hs
  · split at hs
    · next e =>
      split at hs
      · next e2 =>
        split at hs
        · next e3 => cases hs; subst e2; exact ⟨_, _, _, _, _, _, _, _, rfl, e, e3, rfl⟩
        · cases hs
      · cases hs
    · cases hs
  · cases hs
theorem ab_ald_inv {b : Nat} {S S' : AS} {C : Prop} (hs : ab_ald b S = some (S', C)) : ∃ pc lv i a r h n f, S = (pc, lv, .int i :: .ref a :: r, h) ∧ ab_nt h a = some (.inl (b, n, f)) ∧ S' = (pc + 1, lv, .int (f i.toNatClampNeg) :: r, h) ∧ C = vp_in i n := by
  unfold ab_ald at hs
  split at hs
  · split at hs
    · next e =>
      split at hs
      · next e2 => cases hs; subst e2; exact ⟨_, _, _, _, _, _, _, _, rfl, e, rfl, rfl⟩
      · cases hs
    · cases hs
  · cases hs
theorem ab_sld_inv {X : AX} {S S' : AS} {C : Prop} (hs : ab_sld X S = some (S', C)) : ∃ pc lv i r h x, X = some x ∧ S = (pc, lv, .int i :: .ref ab_scr :: r, h) ∧ S' = (pc + 1, lv, .int (x.2 i.toNatClampNeg) :: r, h) ∧ C = vp_in i x.1 := by
  unfold ab_sld at hs
  split at hs
  · split at hs
    · split at hs
      · next e2 => cases hs; subst e2; exact ⟨_, _, _, _, _, _, rfl, rfl, rfl, rfl⟩
      · cases hs
    · cases hs
  · cases hs
theorem ab_len_inv {X : AX} {S S' : AS} {C : Prop} (hs : ab_len X S = some (S', C)) : ∃ pc lv r h x, X = some x ∧ S = (pc, lv, .ref ab_scr :: r, h) ∧ S' = (pc + 1, lv, .int (Int32.ofNat x.1) :: r, h) := by
  unfold ab_len at hs
  split at hs
  · split at hs
    · split at hs
      · next e2 => cases hs; subst e2; exact ⟨_, _, _, _, _, rfl, rfl, rfl⟩
      · cases hs
    · cases hs
  · cases hs
theorem ab_ast_inv {S S' : AS} {C : Prop} (hs : ab_ast S = some (S', C)) : ∃ pc lv x i a r h n f, S = (pc, lv, .int x :: .int i :: .ref a :: r, h) ∧ ab_nt h a = some (.inl (0, n, f)) ∧ S' = (pc + 1, lv, r, ab_st h a (.inl (0, n, upd f i.toNatClampNeg x))) ∧ C = vp_in i n := by
  unfold ab_ast at hs
  split at hs
  · split at hs
    · next e => cases hs; exact ⟨_, _, _, _, _, _, _, _, _, rfl, e, rfl, rfl⟩
    · cases hs
  · cases hs
theorem ab_zst_inv {S S' : AS} {C : Prop} (hs : ab_zst S = some (S', C)) : ∃ pc lv x i a r h n f, S = (pc, lv, .int x :: .int i :: .ref a :: r, h) ∧ ab_nt h a = some (.inl (1, n, f)) ∧ S' = (pc + 1, lv, r, ab_st h a (.inl (1, n, upd f i.toNatClampNeg x))) ∧ C = (vp_in i n ∧ (x = 0 ∨ x = 1)) := by
  unfold ab_zst at hs
  split at hs
  · split at hs
    · next e => cases hs; exact ⟨_, _, _, _, _, _, _, _, _, rfl, e, rfl, rfl⟩
    · cases hs
  · cases hs
theorem ab_cpy_inv {S S' : AS} {C : Prop} (hs : ab_cpy S = some (S', C)) : ∃ pc lv n dp b sp a r h n0 f n1 g, S = (pc, lv, .int n :: .int dp :: .ref b :: .int sp :: .ref a :: r, h) ∧ ab_nt h a = some (.inl (0, n0, f)) ∧ ab_nt h b = some (.inl (0, n1, g)) ∧ S' = (pc + 3, lv, r, ab_st h b (.inl (0, n1, va_cpy f g sp.toNatClampNeg dp.toNatClampNeg n.toNatClampNeg)))
    ∧ C = (¬ sp < 0 ∧ ¬ dp < 0 ∧ ¬ n < 0 ∧ sp.toNatClampNeg + n.toNatClampNeg ≤ n0 ∧ dp.toNatClampNeg + n.toNatClampNeg ≤ n1 ∧ (r.map fun v => v.category).sum ≤ 8) := by
  unfold ab_cpy at hs
  split at hs
  · split at hs
    · next e1 e2 => cases hs; exact ⟨_, _, _, _, _, _, _, _, _, _, _, _, _, rfl, e1, e2, rfl, rfl⟩
    · cases hs
  · cases hs
theorem ab_push_inv {n : Nat} {v : Value} {S S' : AS} {C : Prop} (hs : ab_push n v S = some (S', C)) : ∃ pc lv r h, S = (pc, lv, r, h) ∧ S' = (pc + n, lv, v :: r, h) := by
  obtain ⟨pc, lv, r, h⟩ := S
  unfold ab_push at hs
  cases hs
  exact ⟨_, _, _, _, rfl, rfl⟩
theorem ab_oi : Cond.code objectInit ⟨#[0xb1]⟩ 1 none ∈ ab_T := ab_in (i := 78) rfl rfl
set_option maxHeartbeats 4000000 in
set_option maxRecDepth 20000 in
theorem ab_s1 {l : Launch} {X : AX} {d k n : Nat} {M : MI} {R : AR} {S S' : AS} {e : AE} {C : Prop} (hok : ab_ok M) (hlk : ab_lk M.2.2.2.2 S.1 = some e) (hs : ab_step X M.2.2.1 e S = some (S', C)) (hC : C) (hP : ab_RP l X d k n M S' R) : ab_RP l X d k n M S R := by
  obtain ⟨hd, hb, hn⟩ := ab_ok_at hok hlk
  obtain ⟨ins, len, a1, a2, z, y⟩ := e
  dsimp only at hd hb hn
  cases ins with
  | iconst i =>
    simp only [ab_okd, Bool.and_eq_true, beq_iff_eq, decide_eq_true_eq] at hb
    obtain ⟨hb1, hb2⟩ := hb
    subst hb1
    have hs : ab_push 1 (.int z) S = some (S', C) := hs
    obtain ⟨pc, lv, r, h, rfl, rfl⟩ := ab_push_inv hs
    exact ab_pure (fun p e Rm s m args below meth c dC dI cA A Q ad H locs cells slots ls hF hr1 hr2 hl hX hS hW hc1 hc2 kk => lv_iconst hF.1 hF.2.1 hd hb2 (kk ls hl)) hP
  | bipush i =>
    simp only [ab_okd, Bool.and_eq_true, beq_iff_eq, decide_eq_true_eq] at hb
    obtain ⟨hb1, hb2⟩ := hb
    subst hb1
    have hs : ab_push 2 (.int z) S = some (S', C) := hs
    obtain ⟨pc, lv, r, h, rfl, rfl⟩ := ab_push_inv hs
    exact ab_pure (fun p e Rm s m args below meth c dC dI cA A Q ad H locs cells slots ls hF hr1 hr2 hl hX hS hW hc1 hc2 kk => lv_bipush hF.1 hF.2.1 hd hb2 (kk ls hl)) hP
  | sipush i =>
    simp only [ab_okd, Bool.and_eq_true, beq_iff_eq, decide_eq_true_eq] at hb
    obtain ⟨hb1, hb2⟩ := hb
    subst hb1
    have hs : ab_push 3 (.int z) S = some (S', C) := hs
    obtain ⟨pc, lv, r, h, rfl, rfl⟩ := ab_push_inv hs
    exact ab_pure (fun p e Rm s m args below meth c dC dI cA A Q ad H locs cells slots ls hF hr1 hr2 hl hX hS hW hc1 hc2 kk => lv_sipush hF.1 hF.2.1 hd hb2 (kk ls hl)) hP
  | lconst i =>
    simp only [ab_okd, Bool.and_eq_true, beq_iff_eq, decide_eq_true_eq] at hb
    obtain ⟨hb1, hb2⟩ := hb
    subst hb1
    have hs : ab_push 1 (.long y) S = some (S', C) := hs
    obtain ⟨pc, lv, r, h, rfl, rfl⟩ := ab_push_inv hs
    exact ab_pure (fun p e Rm s m args below meth c dC dI cA A Q ad H locs cells slots ls hF hr1 hr2 hl hX hS hW hc1 hc2 kk => lv_lconst hF.1 hF.2.1 hd hb2 (kk ls hl)) hP
  | ldc i =>
    simp only [ab_okd, Bool.and_eq_true, beq_iff_eq, decide_eq_true_eq] at hb
    subst hb
    have hs : ab_push 2 (.int z) S = some (S', C) := hs
    obtain ⟨pc, lv, r, h, rfl, rfl⟩ := ab_push_inv hs
    exact ab_pure (fun p e Rm s m args below meth c dC dI cA A Q ad H locs cells slots ls hF hr1 hr2 hl hX hS hW hc1 hc2 kk => lv_ldc hF.1 hF.2.1 hF.2.2.2.2.1 (hF.2.2.2.2.2.1 _ hn) hd (kk ls hl)) hP
  | ldc_w i =>
    simp only [ab_okd, Bool.and_eq_true, beq_iff_eq, decide_eq_true_eq] at hb
    subst hb
    have hs : ab_push 3 (.int z) S = some (S', C) := hs
    obtain ⟨pc, lv, r, h, rfl, rfl⟩ := ab_push_inv hs
    exact ab_pure (fun p e Rm s m args below meth c dC dI cA A Q ad H locs cells slots ls hF hr1 hr2 hl hX hS hW hc1 hc2 kk => lv_ldcw hF.1 hF.2.1 hF.2.2.2.2.1 (hF.2.2.2.2.2.1 _ hn) hd (kk ls hl)) hP
  | ldc2_w i =>
    simp only [ab_okd, Bool.and_eq_true, beq_iff_eq, decide_eq_true_eq] at hb
    subst hb
    have hs : ab_push 3 (.long y) S = some (S', C) := hs
    obtain ⟨pc, lv, r, h, rfl, rfl⟩ := ab_push_inv hs
    exact ab_pure (fun p e Rm s m args below meth c dC dI cA A Q ad H locs cells slots ls hF hr1 hr2 hl hX hS hW hc1 hc2 kk => lv_ldc2 hF.1 hF.2.1 hF.2.2.2.2.1 (hF.2.2.2.2.2.1 _ hn) hd (kk ls hl)) hP
  | iload_n i =>
    simp only [ab_okd, Bool.and_eq_true, beq_iff_eq, decide_eq_true_eq] at hb
    obtain ⟨hb1, hb2⟩ := hb
    subst hb1
    have hs : ab_ldi 1 a1 S = some (S', C) := hs
    obtain ⟨pc, lv, x, r, h, rfl, hg, rfl⟩ := ab_ldi_inv hs
    exact ab_pure (fun p e Rm s m args below meth c dC dI cA A Q ad H locs cells slots ls hF hr1 hr2 hl hX hS hW hc1 hc2 kk => lv_iload_n hF.1 hF.2.1 hd hb2 (ab_lg_has hl hg) (kk ls hl)) hP
  | iload i =>
    simp only [ab_okd, Bool.and_eq_true, beq_iff_eq, decide_eq_true_eq] at hb
    obtain ⟨hb1, hb2⟩ := hb
    subst hb1
    subst hb2
    have hs : ab_ldi 2 i S = some (S', C) := hs
    obtain ⟨pc, lv, x, r, h, rfl, hg, rfl⟩ := ab_ldi_inv hs
    exact ab_pure (fun p e Rm s m args below meth c dC dI cA A Q ad H locs cells slots ls hF hr1 hr2 hl hX hS hW hc1 hc2 kk => lv_iload hF.1 hF.2.1 hd (ab_lg_has hl hg) (kk ls hl)) hP
  | lload_n i =>
    simp only [ab_okd, Bool.and_eq_true, beq_iff_eq, decide_eq_true_eq] at hb
    obtain ⟨hb1, hb2⟩ := hb
    subst hb1
    have hs : ab_ldl 1 a1 S = some (S', C) := hs
    obtain ⟨pc, lv, x, r, h, rfl, hg, rfl⟩ := ab_ldl_inv hs
    exact ab_pure (fun p e Rm s m args below meth c dC dI cA A Q ad H locs cells slots ls hF hr1 hr2 hl hX hS hW hc1 hc2 kk => lv_lload_n hF.1 hF.2.1 hd hb2 (ab_lg_has hl hg) (kk ls hl)) hP
  | lload i =>
    simp only [ab_okd, Bool.and_eq_true, beq_iff_eq, decide_eq_true_eq] at hb
    obtain ⟨hb1, hb2⟩ := hb
    subst hb1
    subst hb2
    have hs : ab_ldl 2 i S = some (S', C) := hs
    obtain ⟨pc, lv, x, r, h, rfl, hg, rfl⟩ := ab_ldl_inv hs
    exact ab_pure (fun p e Rm s m args below meth c dC dI cA A Q ad H locs cells slots ls hF hr1 hr2 hl hX hS hW hc1 hc2 kk => lv_lload hF.1 hF.2.1 hd (ab_lg_has hl hg) (kk ls hl)) hP
  | aload_n i =>
    simp only [ab_okd, Bool.and_eq_true, beq_iff_eq, decide_eq_true_eq] at hb
    obtain ⟨hb1, hb2⟩ := hb
    subst hb1
    have hs : ab_lda 1 a1 S = some (S', C) := hs
    obtain ⟨pc, lv, x, r, h, rfl, hg, rfl⟩ := ab_lda_inv hs
    exact ab_pure (fun p e Rm s m args below meth c dC dI cA A Q ad H locs cells slots ls hF hr1 hr2 hl hX hS hW hc1 hc2 kk => lv_aload_n hF.1 hF.2.1 hd hb2 (ab_lg_has hl hg) (kk ls hl)) hP
  | aload i =>
    simp only [ab_okd, Bool.and_eq_true, beq_iff_eq, decide_eq_true_eq] at hb
    obtain ⟨hb1, hb2⟩ := hb
    subst hb1
    subst hb2
    have hs : ab_lda 2 i S = some (S', C) := hs
    obtain ⟨pc, lv, x, r, h, rfl, hg, rfl⟩ := ab_lda_inv hs
    exact ab_pure (fun p e Rm s m args below meth c dC dI cA A Q ad H locs cells slots ls hF hr1 hr2 hl hX hS hW hc1 hc2 kk => lv_aload hF.1 hF.2.1 hd (ab_lg_has hl hg) (kk ls hl)) hP
  | istore_n i =>
    simp only [ab_okd, Bool.and_eq_true, beq_iff_eq, decide_eq_true_eq] at hb
    obtain ⟨hb1, hb2⟩ := hb
    subst hb1
    have hs : ab_sti 1 a1 M.2.2.1 S = some (S', C) := hs
    obtain ⟨pc, lv, x, r, h, rfl, rfl, rfl⟩ := ab_sti_inv hs
    exact ab_pure (fun p e Rm s m args below meth c dC dI cA A Q ad H locs cells slots ls hF hr1 hr2 hl hX hS hW hc1 hc2 kk => lv_istore_n hF.1 hF.2.1 hd hb2 hl hC (ab_p1_r ad lv a1 (.int x)) kk) hP
  | istore i =>
    simp only [ab_okd, Bool.and_eq_true, beq_iff_eq, decide_eq_true_eq] at hb
    obtain ⟨hb1, hb2⟩ := hb
    subst hb1
    subst hb2
    have hs : ab_sti 2 i M.2.2.1 S = some (S', C) := hs
    obtain ⟨pc, lv, x, r, h, rfl, rfl, rfl⟩ := ab_sti_inv hs
    exact ab_pure (fun p e Rm s m args below meth c dC dI cA A Q ad H locs cells slots ls hF hr1 hr2 hl hX hS hW hc1 hc2 kk => lv_istore hF.1 hF.2.1 hd hl hC (ab_p1_r ad lv i (.int x)) kk) hP
  | lstore_n i =>
    simp only [ab_okd, Bool.and_eq_true, beq_iff_eq, decide_eq_true_eq] at hb
    obtain ⟨hb1, hb2⟩ := hb
    subst hb1
    have hs : ab_stl 1 a1 M.2.2.1 S = some (S', C) := hs
    obtain ⟨pc, lv, x, r, h, rfl, rfl, rfl⟩ := ab_stl_inv hs
    exact ab_pure (fun p e Rm s m args below meth c dC dI cA A Q ad H locs cells slots ls hF hr1 hr2 hl hX hS hW hc1 hc2 kk => lv_lstore_n hF.1 hF.2.1 hd hb2 hl hC (ab_p2_r ad lv a1 (.long x)) kk) hP
  | lstore i =>
    simp only [ab_okd, Bool.and_eq_true, beq_iff_eq, decide_eq_true_eq] at hb
    obtain ⟨hb1, hb2⟩ := hb
    subst hb1
    subst hb2
    have hs : ab_stl 2 i M.2.2.1 S = some (S', C) := hs
    obtain ⟨pc, lv, x, r, h, rfl, rfl, rfl⟩ := ab_stl_inv hs
    exact ab_pure (fun p e Rm s m args below meth c dC dI cA A Q ad H locs cells slots ls hF hr1 hr2 hl hX hS hW hc1 hc2 kk => lv_lstore hF.1 hF.2.1 hd hl hC (ab_p2_r ad lv i (.long x)) kk) hP
  | astore_n i =>
    simp only [ab_okd, Bool.and_eq_true, beq_iff_eq, decide_eq_true_eq] at hb
    obtain ⟨hb1, hb2⟩ := hb
    subst hb1
    have hs : ab_sta 1 a1 M.2.2.1 S = some (S', C) := hs
    obtain ⟨pc, lv, x, r, h, rfl, rfl, rfl⟩ := ab_sta_inv hs
    exact ab_pure (fun p e Rm s m args below meth c dC dI cA A Q ad H locs cells slots ls hF hr1 hr2 hl hX hS hW hc1 hc2 kk => lv_astore_n hF.1 hF.2.1 hd hb2 hl hC (ab_p1_r ad lv a1 (.ref x)) kk) hP
  | iinc i v =>
    simp only [ab_okd, Bool.and_eq_true, beq_iff_eq, decide_eq_true_eq] at hb
    obtain ⟨⟨hb1, hb2⟩, hb3⟩ := hb
    subst hb1
    subst hb2
    have hs : ab_inc 3 i M.2.2.1 z S = some (S', C) := hs
    obtain ⟨pc, lv, x, r, h, rfl, hg, rfl, rfl⟩ := ab_inc_inv hs
    exact ab_pure (fun p e Rm s m args below meth c dC dI cA A Q ad H locs cells slots ls hF hr1 hr2 hl hX hS hW hc1 hc2 kk => by
      obtain ⟨q, hq⟩ := ab_lg_at (ad := ad) hg
      exact lv_iinc hF.1 hF.2.1 hd hl hq (by rw [hb3]) hC (ab_p1_r ad lv i (.int (x + z))) kk) hP
  | iadd =>
    have hb : len = 1 := by simpa [ab_okd] using hb
    subst hb
    have hs : ab_b 1 (· + ·) S = some (S', C) := hs
    obtain ⟨pc, lv, y, x, r, h, rfl, rfl, rfl⟩ := ab_b_inv hs
    exact ab_pure (fun p e Rm s m args below meth c dC dI cA A Q ad H locs cells slots ls hF hr1 hr2 hl hX hS hW hc1 hc2 kk => lv_iadd hF.1 hF.2.1 hd (kk ls hl)) hP
  | isub =>
    have hb : len = 1 := by simpa [ab_okd] using hb
    subst hb
    have hs : ab_b 1 (· - ·) S = some (S', C) := hs
    obtain ⟨pc, lv, y, x, r, h, rfl, rfl, rfl⟩ := ab_b_inv hs
    exact ab_pure (fun p e Rm s m args below meth c dC dI cA A Q ad H locs cells slots ls hF hr1 hr2 hl hX hS hW hc1 hc2 kk => lv_isub hF.1 hF.2.1 hd (kk ls hl)) hP
  | imul =>
    have hb : len = 1 := by simpa [ab_okd] using hb
    subst hb
    have hs : ab_b 1 (· * ·) S = some (S', C) := hs
    obtain ⟨pc, lv, y, x, r, h, rfl, rfl, rfl⟩ := ab_b_inv hs
    exact ab_pure (fun p e Rm s m args below meth c dC dI cA A Q ad H locs cells slots ls hF hr1 hr2 hl hX hS hW hc1 hc2 kk => lv_imul hF.1 hF.2.1 hd (kk ls hl)) hP
  | iand =>
    have hb : len = 1 := by simpa [ab_okd] using hb
    subst hb
    have hs : ab_b 1 (· &&& ·) S = some (S', C) := hs
    obtain ⟨pc, lv, y, x, r, h, rfl, rfl, rfl⟩ := ab_b_inv hs
    exact ab_pure (fun p e Rm s m args below meth c dC dI cA A Q ad H locs cells slots ls hF hr1 hr2 hl hX hS hW hc1 hc2 kk => lv_iand hF.1 hF.2.1 hd (kk ls hl)) hP
  | ior =>
    have hb : len = 1 := by simpa [ab_okd] using hb
    subst hb
    have hs : ab_b 1 (· ||| ·) S = some (S', C) := hs
    obtain ⟨pc, lv, y, x, r, h, rfl, rfl, rfl⟩ := ab_b_inv hs
    exact ab_pure (fun p e Rm s m args below meth c dC dI cA A Q ad H locs cells slots ls hF hr1 hr2 hl hX hS hW hc1 hc2 kk => lv_ior hF.1 hF.2.1 hd (kk ls hl)) hP
  | ixor =>
    have hb : len = 1 := by simpa [ab_okd] using hb
    subst hb
    have hs : ab_b 1 (· ^^^ ·) S = some (S', C) := hs
    obtain ⟨pc, lv, y, x, r, h, rfl, rfl, rfl⟩ := ab_b_inv hs
    exact ab_pure (fun p e Rm s m args below meth c dC dI cA A Q ad H locs cells slots ls hF hr1 hr2 hl hX hS hW hc1 hc2 kk => lv_ixor hF.1 hF.2.1 hd (kk ls hl)) hP
  | idiv =>
    have hb : len = 1 := by simpa [ab_okd] using hb
    subst hb
    have hs : ab_d 1 (· / ·) S = some (S', C) := hs
    obtain ⟨pc, lv, y, x, r, h, rfl, rfl, rfl⟩ := ab_d_inv hs
    exact ab_pure (fun p e Rm s m args below meth c dC dI cA A Q ad H locs cells slots ls hF hr1 hr2 hl hX hS hW hc1 hc2 kk => lv_idiv hF.1 hF.2.1 hd hC (kk ls hl)) hP
  | irem =>
    have hb : len = 1 := by simpa [ab_okd] using hb
    subst hb
    have hs : ab_d 1 (fun x y => x - x / y * y) S = some (S', C) := hs
    obtain ⟨pc, lv, y, x, r, h, rfl, rfl, rfl⟩ := ab_d_inv hs
    exact ab_pure (fun p e Rm s m args below meth c dC dI cA A Q ad H locs cells slots ls hF hr1 hr2 hl hX hS hW hc1 hc2 kk => lv_irem hF.1 hF.2.1 hd hC (kk ls hl)) hP
  | ishl =>
    have hb : len = 1 := by simpa [ab_okd] using hb
    subst hb
    have hs : ab_b 1 (fun x y => x <<< (y &&& 31)) S = some (S', C) := hs
    obtain ⟨pc, lv, y, x, r, h, rfl, rfl, rfl⟩ := ab_b_inv hs
    exact ab_pure (fun p e Rm s m args below meth c dC dI cA A Q ad H locs cells slots ls hF hr1 hr2 hl hX hS hW hc1 hc2 kk => lv_ishl hF.1 hF.2.1 hd (kk ls hl)) hP
  | ishr =>
    have hb : len = 1 := by simpa [ab_okd] using hb
    subst hb
    have hs : ab_b 1 (fun x y => x >>> (y &&& 31)) S = some (S', C) := hs
    obtain ⟨pc, lv, y, x, r, h, rfl, rfl, rfl⟩ := ab_b_inv hs
    exact ab_pure (fun p e Rm s m args below meth c dC dI cA A Q ad H locs cells slots ls hF hr1 hr2 hl hX hS hW hc1 hc2 kk => lv_ishr hF.1 hF.2.1 hd (kk ls hl)) hP
  | iushr =>
    have hb : len = 1 := by simpa [ab_okd] using hb
    subst hb
    have hs : ab_b 1 (fun x y => (x.toUInt32 >>> (y.toUInt32 &&& Int32.toUInt32 31)).toInt32) S = some (S', C) := hs
    obtain ⟨pc, lv, y, x, r, h, rfl, rfl, rfl⟩ := ab_b_inv hs
    exact ab_pure (fun p e Rm s m args below meth c dC dI cA A Q ad H locs cells slots ls hF hr1 hr2 hl hX hS hW hc1 hc2 kk => lv_iushr hF.1 hF.2.1 hd rfl (kk ls hl)) hP
  | ladd =>
    have hb : len = 1 := by simpa [ab_okd] using hb
    subst hb
    have hs : ab_bl 1 (· + ·) S = some (S', C) := hs
    obtain ⟨pc, lv, y, x, r, h, rfl, rfl, rfl⟩ := ab_bl_inv hs
    exact ab_pure (fun p e Rm s m args below meth c dC dI cA A Q ad H locs cells slots ls hF hr1 hr2 hl hX hS hW hc1 hc2 kk => lv_ladd hF.1 hF.2.1 hd (kk ls hl)) hP
  | lmul =>
    have hb : len = 1 := by simpa [ab_okd] using hb
    subst hb
    have hs : ab_bl 1 (· * ·) S = some (S', C) := hs
    obtain ⟨pc, lv, y, x, r, h, rfl, rfl, rfl⟩ := ab_bl_inv hs
    exact ab_pure (fun p e Rm s m args below meth c dC dI cA A Q ad H locs cells slots ls hF hr1 hr2 hl hX hS hW hc1 hc2 kk => lv_lmul hF.1 hF.2.1 hd (kk ls hl)) hP
  | land =>
    have hb : len = 1 := by simpa [ab_okd] using hb
    subst hb
    have hs : ab_bl 1 (· &&& ·) S = some (S', C) := hs
    obtain ⟨pc, lv, y, x, r, h, rfl, rfl, rfl⟩ := ab_bl_inv hs
    exact ab_pure (fun p e Rm s m args below meth c dC dI cA A Q ad H locs cells slots ls hF hr1 hr2 hl hX hS hW hc1 hc2 kk => lv_land hF.1 hF.2.1 hd (kk ls hl)) hP
  | ldiv =>
    have hb : len = 1 := by simpa [ab_okd] using hb
    subst hb
    have hs : ab_dl 1 (· / ·) S = some (S', C) := hs
    obtain ⟨pc, lv, y, x, r, h, rfl, rfl, rfl⟩ := ab_dl_inv hs
    exact ab_pure (fun p e Rm s m args below meth c dC dI cA A Q ad H locs cells slots ls hF hr1 hr2 hl hX hS hW hc1 hc2 kk => lv_ldiv hF.1 hF.2.1 hd hC (kk ls hl)) hP
  | lrem =>
    have hb : len = 1 := by simpa [ab_okd] using hb
    subst hb
    have hs : ab_dl 1 (fun x y => x - x / y * y) S = some (S', C) := hs
    obtain ⟨pc, lv, y, x, r, h, rfl, rfl, rfl⟩ := ab_dl_inv hs
    exact ab_pure (fun p e Rm s m args below meth c dC dI cA A Q ad H locs cells slots ls hF hr1 hr2 hl hX hS hW hc1 hc2 kk => lv_lrem hF.1 hF.2.1 hd hC (kk ls hl)) hP
  | ineg =>
    have hb : len = 1 := by simpa [ab_okd] using hb
    subst hb
    simp only [ab_step] at hs
    split at hs
    · cases hs
      exact ab_pure (fun p e Rm s m args below meth c dC dI cA A Q ad H locs cells slots ls hF hr1 hr2 hl hX hS hW hc1 hc2 kk => lv_ineg hF.1 hF.2.1 hd (kk ls hl)) hP
    · cases hs
  | lcmp =>
    have hb : len = 1 := by simpa [ab_okd] using hb
    subst hb
    simp only [ab_step] at hs
    split at hs
    · cases hs
      exact ab_pure (fun p e Rm s m args below meth c dC dI cA A Q ad H locs cells slots ls hF hr1 hr2 hl hX hS hW hc1 hc2 kk => W.lcmp hF.1 hF.2.1 hd (kk ls hl)) hP
    · cases hs
  | i2l =>
    have hb : len = 1 := by simpa [ab_okd] using hb
    subst hb
    simp only [ab_step] at hs
    split at hs
    · cases hs
      exact ab_pure (fun p e Rm s m args below meth c dC dI cA A Q ad H locs cells slots ls hF hr1 hr2 hl hX hS hW hc1 hc2 kk => lv_i2l hF.1 hF.2.1 hd rfl (kk ls hl)) hP
    · cases hs
  | l2i =>
    have hb : len = 1 := by simpa [ab_okd] using hb
    subst hb
    simp only [ab_step] at hs
    split at hs
    · cases hs
      exact ab_pure (fun p e Rm s m args below meth c dC dI cA A Q ad H locs cells slots ls hF hr1 hr2 hl hX hS hW hc1 hc2 kk => lv_l2i hF.1 hF.2.1 hd rfl (kk ls hl)) hP
    · cases hs
  | dup =>
    have hb : len = 1 := by simpa [ab_okd] using hb
    subst hb
    simp only [ab_step] at hs
    split at hs
    · cases hs
      exact ab_pure (fun p e Rm s m args below meth c dC dI cA A Q ad H locs cells slots ls hF hr1 hr2 hl hX hS hW hc1 hc2 kk => lv_dup hF.1 hF.2.1 hd (by rw [ab_r_cat]; exact hC) (kk ls hl)) hP
    · cases hs
  | dup2 =>
    have hb : len = 1 := by simpa [ab_okd] using hb
    subst hb
    simp only [ab_step] at hs
    split at hs
    · cases hs
      exact ab_pure (fun p e Rm s m args below meth c dC dI cA A Q ad H locs cells slots ls hF hr1 hr2 hl hX hS hW hc1 hc2 kk => lv_dup2_11 hF.1 hF.2.1 hd (by rw [ab_r_cat]; exact hC.1) (by rw [ab_r_cat]; exact hC.2) (kk ls hl)) hP
    · cases hs
  | goto o =>
    simp only [ab_okd, Bool.and_eq_true, beq_iff_eq, decide_eq_true_eq] at hb
    obtain ⟨hb1, hb2⟩ := hb
    subst hb1
    obtain ⟨pc, lv, r, h⟩ := S
    cases hs
    exact ab_pure (fun p e Rm s m args below meth c dC dI cA A Q ad H locs cells slots ls hF hr1 hr2 hl hX hS hW hc1 hc2 kk => lv_goto hF.1 hF.2.1 hd hb2 (kk ls hl)) hP
  | ifCond cd o =>
    simp only [ab_okd, Bool.and_eq_true, beq_iff_eq, decide_eq_true_eq] at hb
    obtain ⟨hb1, hb2⟩ := hb
    subst hb1
    simp only [ab_step] at hs
    split at hs
    · cases hs
      cases cd with
      | eq => exact ab_pure (fun p e Rm s m args below meth c dC dI cA A Q ad H locs cells slots ls hF hr1 hr2 hl hX hS hW hc1 hc2 kk => lv_if_eq hF.1 hF.2.1 hd hb2 (fun q => by have := kk ls hl; simp only [ab_if, if_pos q] at this; exact this) (fun q => by have := kk ls hl; simp only [ab_if, if_neg q] at this; exact this)) hP
      | ne => exact ab_pure (fun p e Rm s m args below meth c dC dI cA A Q ad H locs cells slots ls hF hr1 hr2 hl hX hS hW hc1 hc2 kk => lv_if_ne hF.1 hF.2.1 hd hb2 (fun q => by have := kk ls hl; simp only [ab_if, if_pos q] at this; exact this) (fun q => by have := kk ls hl; simp only [ab_if, if_neg (not_not_intro q)] at this; exact this)) hP
      | lt => exact ab_pure (fun p e Rm s m args below meth c dC dI cA A Q ad H locs cells slots ls hF hr1 hr2 hl hX hS hW hc1 hc2 kk => lv_if_lt hF.1 hF.2.1 hd hb2 (fun q => by have := kk ls hl; simp only [ab_if, if_pos q] at this; exact this) (fun q => by have := kk ls hl; simp only [ab_if, if_neg q] at this; exact this)) hP
      | ge => exact ab_pure (fun p e Rm s m args below meth c dC dI cA A Q ad H locs cells slots ls hF hr1 hr2 hl hX hS hW hc1 hc2 kk => lv_if_ge hF.1 hF.2.1 hd hb2 (fun q => by have := kk ls hl; simp only [ab_if, if_pos q] at this; exact this) (fun q => by have := kk ls hl; simp only [ab_if, if_neg q] at this; exact this)) hP
      | gt => exact ab_pure (fun p e Rm s m args below meth c dC dI cA A Q ad H locs cells slots ls hF hr1 hr2 hl hX hS hW hc1 hc2 kk => lv_if_gt hF.1 hF.2.1 hd hb2 (fun q => by have := kk ls hl; simp only [ab_if, if_pos q] at this; exact this) (fun q => by have := kk ls hl; simp only [ab_if, if_neg q] at this; exact this)) hP
      | le => exact ab_pure (fun p e Rm s m args below meth c dC dI cA A Q ad H locs cells slots ls hF hr1 hr2 hl hX hS hW hc1 hc2 kk => lv_if_le hF.1 hF.2.1 hd hb2 (fun q => by have := kk ls hl; simp only [ab_if, if_pos q] at this; exact this) (fun q => by have := kk ls hl; simp only [ab_if, if_neg q] at this; exact this)) hP
    · cases hs
  | if_icmp cd o =>
    simp only [ab_okd, Bool.and_eq_true, beq_iff_eq, decide_eq_true_eq] at hb
    obtain ⟨hb1, hb2⟩ := hb
    subst hb1
    simp only [ab_step] at hs
    split at hs
    · cases hs
      cases cd with
      | eq => exact ab_pure (fun p e Rm s m args below meth c dC dI cA A Q ad H locs cells slots ls hF hr1 hr2 hl hX hS hW hc1 hc2 kk => lv_icmp_eq hF.1 hF.2.1 hd hb2 (fun q => by have := kk ls hl; simp only [ab_if, if_pos q] at this; exact this) (fun q => by have := kk ls hl; simp only [ab_if, if_neg q] at this; exact this)) hP
      | ne => exact ab_pure (fun p e Rm s m args below meth c dC dI cA A Q ad H locs cells slots ls hF hr1 hr2 hl hX hS hW hc1 hc2 kk => lv_icmp_ne hF.1 hF.2.1 hd hb2 (fun q => by have := kk ls hl; simp only [ab_if, if_pos q] at this; exact this) (fun q => by have := kk ls hl; simp only [ab_if, if_neg (not_not_intro q)] at this; exact this)) hP
      | lt => exact ab_pure (fun p e Rm s m args below meth c dC dI cA A Q ad H locs cells slots ls hF hr1 hr2 hl hX hS hW hc1 hc2 kk => lv_icmp_lt hF.1 hF.2.1 hd hb2 (fun q => by have := kk ls hl; simp only [ab_if, if_pos q] at this; exact this) (fun q => by have := kk ls hl; simp only [ab_if, if_neg q] at this; exact this)) hP
      | ge => exact ab_pure (fun p e Rm s m args below meth c dC dI cA A Q ad H locs cells slots ls hF hr1 hr2 hl hX hS hW hc1 hc2 kk => lv_icmp_ge hF.1 hF.2.1 hd hb2 (fun q => by have := kk ls hl; simp only [ab_if, if_pos q] at this; exact this) (fun q => by have := kk ls hl; simp only [ab_if, if_neg q] at this; exact this)) hP
      | gt => exact ab_pure (fun p e Rm s m args below meth c dC dI cA A Q ad H locs cells slots ls hF hr1 hr2 hl hX hS hW hc1 hc2 kk => lv_icmp_gt hF.1 hF.2.1 hd hb2 (fun q => by have := kk ls hl; simp only [ab_if, if_pos q] at this; exact this) (fun q => by have := kk ls hl; simp only [ab_if, if_neg q] at this; exact this)) hP
      | le => exact ab_pure (fun p e Rm s m args below meth c dC dI cA A Q ad H locs cells slots ls hF hr1 hr2 hl hX hS hW hc1 hc2 kk => lv_icmp_le hF.1 hF.2.1 hd hb2 (fun q => by have := kk ls hl; simp only [ab_if, if_pos q] at this; exact this) (fun q => by have := kk ls hl; simp only [ab_if, if_neg q] at this; exact this)) hP
    · cases hs
  | getfield i =>
    simp only [ab_okd, Bool.and_eq_true, beq_iff_eq, decide_eq_true_eq] at hb
    subst hb
    have hs : ab_get a1 a2 S = some (S', C) := hs
    obtain ⟨pc, lv, a, r, h, fs, v, rfl, g1, g2, rfl⟩ := ab_get_inv hs
    obtain ⟨C0, T, N, hc, hk, hT, hin, hlink⟩ := hn
    exact ab_pure (fun p e Rm s m args below meth c dC dI cA A Q ad H locs cells slots ls hF hr1 hr2 hl hX hS hW hc1 hc2 kk => by
      have e1 := ab_wd_nt ad cA h 0 a _ g1
      rw [Nat.zero_add] at e1
      have e2 := ab_nt_map (ab_r ad) fs a2 v g2
      rcases hlink with q | ⟨host, q⟩
      · exact va_get (C := C0) (T := T) (N := N) hF.1 hF.2.1 hF.2.2.2.2.2.1 hin hF.2.2.2.2.1 hF.2.2.2.2.2.2.1 hW a e1 hc a2 hk (hF.2.2.2.2.2.1 _ q) (fun _ h9 => hT ▸ h9) e2 hd (kk ls hl)
      · exact va_getN (C := C0) (T := T) (N := N) hF.1 hF.2.1 hF.2.2.2.2.2.1 hin hF.2.2.2.2.1 hF.2.2.2.2.2.2.1 hW a e1 hc a2 hk (va_Nw.use rfl (hF.2.2.2.2.2.2.2.2 _ q)) (fun _ h9 => hT ▸ h9) e2 hd (kk ls hl)) hP
  | putfield i =>
    simp only [ab_okd, Bool.and_eq_true, beq_iff_eq, decide_eq_true_eq] at hb
    subst hb
    obtain ⟨C0, T, N, ty, hc, hk, hT, hin, hty, hnm, hz, hlink⟩ := hn
    by_cases z0 : z = 0
    · have hs : ab_puti a1 a2 S = some (S', C) := by
        have := hs
        simp only [ab_step, if_pos z0] at this
        exact this
      obtain ⟨pc, lv, x, a, r, h, fs, w, rfl, g1, g2, rfl⟩ := ab_puti_inv hs
      exact ab_writ (ab_st_len _ _ _) (fun p e Rm s m args below meth c dC dI cA A Q ad H locs cells slots ls hF hr1 hr2 hsz hS hW hD kk => by
        have e1 := ab_wd_nt ad cA h 0 a _ g1
        rw [Nat.zero_add] at e1
        have e2 := ab_nt_map (ab_r ad) fs a2 w g2
        have e3 : a2 < (fs.map (ab_r ad)).length := (List.getElem?_eq_some_iff.mp e2).1
        have e4 : ab_wd ad cA 0 (ab_st h a (.inr (a1, ab_st fs a2 (.int x)))) = (ab_wd ad cA 0 h).set a (ad a, .inr (a1, (fs.map (ab_r ad)).set a2 (ab_r ad (.int x)))) := by
          rw [ab_wd_st, Nat.zero_add]
          simp only [ab_rz, ab_st_map]
        rw [e4] at kk
        have hz1 : ty a2 = .int := by rcases hz with q | q; exact q.2; exact absurd z0 q.1
        have hn1 : narrow .int (ab_r ad (.int x)) = ab_r ad (.int x) := rfl
        have hn2 : fits .int (ab_r ad (.int x)) = true := rfl
        have hp := hty a2 hk
        rw [hz1] at hp
        rcases hlink with ⟨hfin, q | ⟨host, q⟩⟩ | ⟨hfin, hnm1, hown, q⟩
        · exact va_put (C := C0) (T := T) (N := N) hF.1 hF.2.1 hF.2.2.2.2.2.1 hin ty hty hnm hF.2.2.2.2.1 hF.2.2.2.2.2.2.1 hW hD hS a e1 hc a2 hk (hF.2.2.2.2.2.1 _ q) (fun _ h9 => hT ▸ h9) hfin hp hn1 hn2 e3 hd kk
        · exact va_putN (C := C0) (T := T) (N := N) hF.1 hF.2.1 hF.2.2.2.2.2.1 hin ty hty hnm hF.2.2.2.2.1 hF.2.2.2.2.2.2.1 hW hD hS a e1 hc a2 hk (va_Nw.use rfl (hF.2.2.2.2.2.2.2.2 _ q)) (fun _ h9 => hT ▸ h9) hfin hp hn1 hn2 e3 hd kk
        · exact va_putF (C := C0) (T := T) (N := N) hF.1 hF.2.1 hF.2.2.2.2.2.1 hin ty hty hnm hF.2.2.2.2.1 hF.2.2.2.2.2.2.1 hW hD hS a e1 hc a2 hk (hF.2.2.2.2.2.1 _ q) (fun _ h9 => hT ▸ h9) hfin (hF.2.2.2.1 hnm1) hown hp hn1 hn2 e3 hd kk) hP
    · have hs : ab_puta a1 a2 S = some (S', C) := by
        have := hs
        simp only [ab_step, if_neg z0] at this
        exact this
      obtain ⟨pc, lv, x, a, r, h, fs, w, rfl, g1, g2, rfl⟩ := ab_puta_inv hs
      exact ab_writ (ab_st_len _ _ _) (fun p e Rm s m args below meth c dC dI cA A Q ad H locs cells slots ls hF hr1 hr2 hsz hS hW hD kk => by
        have e1 := ab_wd_nt ad cA h 0 a _ g1
        rw [Nat.zero_add] at e1
        have e2 := ab_nt_map (ab_r ad) fs a2 w g2
        have e3 : a2 < (fs.map (ab_r ad)).length := (List.getElem?_eq_some_iff.mp e2).1
        have e4 : ab_wd ad cA 0 (ab_st h a (.inr (a1, ab_st fs a2 (.ref x)))) = (ab_wd ad cA 0 h).set a (ad a, .inr (a1, (fs.map (ab_r ad)).set a2 (ab_r ad (.ref x)))) := by
          rw [ab_wd_st, Nat.zero_add]
          simp only [ab_rz, ab_st_map]
        rw [e4] at kk
        have hz1 : (∃ t, ty a2 = .array t) ∨ ∃ o, ty a2 = .object o := by rcases hz with q | q; exact absurd q.1 z0; exact q.2
        have hn1 : narrow (ty a2) (ab_r ad (.ref x)) = ab_r ad (.ref x) := by rcases hz1 with ⟨t, q⟩ | ⟨t, q⟩ <;> rw [q] <;> rfl
        have hn2 : fits (ty a2) (ab_r ad (.ref x)) = true := by rcases hz1 with ⟨t, q⟩ | ⟨t, q⟩ <;> rw [q] <;> rfl
        have hp := hty a2 hk
        rcases hlink with ⟨hfin, q | ⟨host, q⟩⟩ | ⟨hfin, hnm1, hown, q⟩
        · exact va_put (C := C0) (T := T) (N := N) hF.1 hF.2.1 hF.2.2.2.2.2.1 hin ty hty hnm hF.2.2.2.2.1 hF.2.2.2.2.2.2.1 hW hD hS a e1 hc a2 hk (hF.2.2.2.2.2.1 _ q) (fun _ h9 => hT ▸ h9) hfin hp hn1 hn2 e3 hd kk
        · exact va_putN (C := C0) (T := T) (N := N) hF.1 hF.2.1 hF.2.2.2.2.2.1 hin ty hty hnm hF.2.2.2.2.1 hF.2.2.2.2.2.2.1 hW hD hS a e1 hc a2 hk (va_Nw.use rfl (hF.2.2.2.2.2.2.2.2 _ q)) (fun _ h9 => hT ▸ h9) hfin hp hn1 hn2 e3 hd kk
        · exact va_putF (C := C0) (T := T) (N := N) hF.1 hF.2.1 hF.2.2.2.2.2.1 hin ty hty hnm hF.2.2.2.2.1 hF.2.2.2.2.2.2.1 hW hD hS a e1 hc a2 hk (hF.2.2.2.2.2.1 _ q) (fun _ h9 => hT ▸ h9) hfin (hF.2.2.2.1 hnm1) hown hp hn1 hn2 e3 hd kk) hP
  | iaload =>
    have hb : len = 1 := by simpa [ab_okd] using hb
    subst hb
    by_cases hx : X.isSome = true
    · have hs : ab_sld X S = some (S', C) := by
        have := hs
        simp only [ab_step, if_pos hx] at this
        exact this
      obtain ⟨pc, lv, i, r, h, x, rfl, rfl, rfl, rfl⟩ := ab_sld_inv hs
      exact ab_pure (fun p e Rm s m args below meth c dC dI cA A Q ad H locs cells slots ls hF hr1 hr2 hl hX hS hW hc1 hc2 kk => by
        obtain ⟨x1, x2, x3⟩ := hX x rfl
        exact va_sld hF.1 hF.2.1 x1 x2 x3 hS hC hd (kk ls hl)) hP
    · have hs : ab_ald 0 S = some (S', C) := by
        have := hs
        simp only [ab_step, if_neg hx] at this
        exact this
      obtain ⟨pc, lv, i, a, r, h, q, f, rfl, g1, rfl, rfl⟩ := ab_ald_inv hs
      exact ab_pure (fun p e Rm s m args below meth c dC dI cA A Q ad H locs cells slots ls hF hr1 hr2 hl hX hS hW hc1 hc2 kk => by
        have e1 := ab_wd_nt ad cA h 0 a _ g1
        rw [Nat.zero_add] at e1
        exact va_iald hF.1 hF.2.1 hF.2.2.2.2.2.2.1 hW a 0 e1 rfl hC hd (kk ls hl)) hP
  | baload =>
    have hb : len = 1 := by simpa [ab_okd] using hb
    subst hb
    have hs : ab_ald 1 S = some (S', C) := hs
    obtain ⟨pc, lv, i, a, r, h, q, f, rfl, g1, rfl, rfl⟩ := ab_ald_inv hs
    exact ab_pure (fun p e Rm s m args below meth c dC dI cA A Q ad H locs cells slots ls hF hr1 hr2 hl hX hS hW hc1 hc2 kk => by
      have e1 := ab_wd_nt ad cA h 0 a _ g1
      rw [Nat.zero_add] at e1
      exact va_zald hF.1 hF.2.1 hF.2.2.2.2.2.2.1 hW a 1 e1 rfl hC hd (kk ls hl)) hP
  | iastore =>
    have hb : len = 1 := by simpa [ab_okd] using hb
    subst hb
    have hs : ab_ast S = some (S', C) := hs
    obtain ⟨pc, lv, x, i, a, r, h, q, f, rfl, g1, rfl, rfl⟩ := ab_ast_inv hs
    exact ab_writ (ab_st_len _ _ _) (fun p e Rm s m args below meth c dC dI cA A Q ad H locs cells slots ls hF hr1 hr2 hsz hS hW hD kk => by
      have e1 := ab_wd_nt ad cA h 0 a _ g1
      rw [Nat.zero_add] at e1
      have e4 := ab_wd_st ad cA h 0 a (.inl (0, q, upd f i.toNatClampNeg x))
      rw [Nat.zero_add] at e4
      rw [e4] at kk
      exact va_iast hF.1 hF.2.1 hF.2.2.2.2.2.2.1 hW hD hS a 0 e1 rfl hC hd kk) hP
  | bastore =>
    have hb : len = 1 := by simpa [ab_okd] using hb
    subst hb
    have hs : ab_zst S = some (S', C) := hs
    obtain ⟨pc, lv, x, i, a, r, h, q, f, rfl, g1, rfl, rfl⟩ := ab_zst_inv hs
    exact ab_writ (ab_st_len _ _ _) (fun p e Rm s m args below meth c dC dI cA A Q ad H locs cells slots ls hF hr1 hr2 hsz hS hW hD kk => by
      have e1 := ab_wd_nt ad cA h 0 a _ g1
      rw [Nat.zero_add] at e1
      have e4 := ab_wd_st ad cA h 0 a (.inl (1, q, upd f i.toNatClampNeg x))
      rw [Nat.zero_add] at e4
      rw [e4] at kk
      have e5 : vp_nar .boolean x = x := by rcases hC.2 with q | q <;> rw [q] <;> decide +kernel
      exact va_zast hF.1 hF.2.1 hF.2.2.2.2.2.2.1 hW hD hS a 1 e1 rfl hC.1 hd (by rw [e5]; exact kk)) hP
  | arraylength =>
    have hb : len = 1 := by simpa [ab_okd] using hb
    subst hb
    have hs : ab_len X S = some (S', C) := hs
    obtain ⟨pc, lv, r, h, x, rfl, rfl, rfl⟩ := ab_len_inv hs
    exact ab_pure (fun p e Rm s m args below meth c dC dI cA A Q ad H locs cells slots ls hF hr1 hr2 hl hX hS hW hc1 hc2 kk => by
      obtain ⟨x1, x2, x3⟩ := hX x rfl
      exact va_slen hF.1 hF.2.1 x1 x2 x3 hS hd (kk ls hl)) hP
  | invokestatic i =>
    simp only [ab_okd, Bool.and_eq_true, beq_iff_eq, decide_eq_true_eq] at hb
    subst hb
    by_cases h1 : a1 = 1
    · have hs : ab_cpy S = some (S', C) := by
        have := hs
        simp only [ab_step, if_pos h1] at this
        exact this
      obtain ⟨pc, lv, n9, dp, b, sp, a, r, h, n0, f, n1, g, rfl, g1, g2, rfl, rfl⟩ := ab_cpy_inv hs
      obtain ⟨q1, q2, q3, q4, q5, q6⟩ := hC
      exact ab_writ (ab_st_len _ _ _) (fun p e Rm s m args below meth c dC dI cA A Q ad H locs cells slots ls hF hr1 hr2 hsz hS hW hD kk => by
        have e1 := ab_wd_nt ad cA h 0 a _ g1
        have e2 := ab_wd_nt ad cA h 0 b _ g2
        rw [Nat.zero_add] at e1 e2
        have e4 := ab_wd_st ad cA h 0 b (.inl (0, n1, va_cpy f g sp.toNatClampNeg dp.toNatClampNeg n9.toNatClampNeg))
        rw [Nat.zero_add] at e4
        rw [e4] at kk
        have e6 := ab_cat_sum ad r
        have e7 : nativeFrameWords "java/lang/System" "arraycopy" 5 + 11 ≤ 56 := by decide +kernel
        exact va_copyi hF.1 hF.2.1 (hF.2.2.1.trans hsz.symm) hF.2.2.2.2.1 (hF.2.2.2.2.2.1 _ (hn.1 h1)) (hF.2.2.2.2.2.1 _ (ab_in (i := 434) rfl rfl)) (hF.2.2.2.2.2.1 _ (ab_in (i := 433) rfl rfl)) (hF.2.2.2.2.2.1 _ (ab_in (i := 69) rfl rfl)) hF.2.2.2.2.2.2.1 hW hD hS a b 0 0 e1 e2 rfl rfl rfl q1 q2 q3 q4 q5 (fun _ _ => rfl) (by omega) (by rw [e6]; omega) hd kk) hP
    · by_cases h2 : a1 = 2
      · have hs : ab_m2 (fun x y => if x < y then y else x) S = some (S', C) := by
          have := hs
          simp only [ab_step, if_neg h1, if_pos h2] at this
          exact this
        obtain ⟨pc, lv, y, x, r, h, rfl, rfl, rfl⟩ := ab_m2_inv hs
        exact ab_pure (fun p e Rm s m args below meth c dC dI cA A Q ad H locs cells slots ls hF hr1 hr2 hl hX hS hW hc1 hc2 kk => by
          have e6 := ab_cat_sum ad r
          exact va_mmax hF.1 hF.2.1 (hF.2.2.1.trans hl.1.symm) hF.2.2.2.2.1 (hF.2.2.2.2.2.1 _ (hn.2.1 h2)) (hF.2.2.2.2.2.1 _ (ab_in (i := 517) rfl rfl)) (hF.2.2.2.2.2.1 _ (ab_in (i := 68) rfl rfl)) (hF.2.2.2.2.2.1 _ (ab_in (i := 518) rfl rfl)) (by omega) (by rw [e6]; omega) hc1 hc2 hd (kk ls hl)) hP
      · by_cases h3 : a1 = 3
        · have hs : ab_m2 (fun x y => if y < x then y else x) S = some (S', C) := by
            have := hs
            simp only [ab_step, if_neg h1, if_neg h2, if_pos h3] at this
            exact this
          obtain ⟨pc, lv, y, x, r, h, rfl, rfl, rfl⟩ := ab_m2_inv hs
          exact ab_pure (fun p e Rm s m args below meth c dC dI cA A Q ad H locs cells slots ls hF hr1 hr2 hl hX hS hW hc1 hc2 kk => by
            have e6 := ab_cat_sum ad r
            exact va_mmin hF.1 hF.2.1 (hF.2.2.1.trans hl.1.symm) hF.2.2.2.2.1 (hF.2.2.2.2.2.1 _ (hn.2.2.1 h3)) (hF.2.2.2.2.2.1 _ (ab_in (i := 422) rfl rfl)) (hF.2.2.2.2.2.1 _ (ab_in (i := 68) rfl rfl)) (hF.2.2.2.2.2.1 _ (ab_in (i := 423) rfl rfl)) (by omega) (by rw [e6]; omega) hc1 hc2 hd (kk ls hl)) hP
        · by_cases h4 : a1 = 4
          · have hs : ab_m1 (fun x => if 0 ≤ x then x else 0 - x) S = some (S', C) := by
              have := hs
              simp only [ab_step, if_neg h1, if_neg h2, if_neg h3, if_pos h4] at this
              exact this
            obtain ⟨pc, lv, x, r, h, rfl, rfl, rfl⟩ := ab_m1_inv hs
            exact ab_pure (fun p e Rm s m args below meth c dC dI cA A Q ad H locs cells slots ls hF hr1 hr2 hl hX hS hW hc1 hc2 kk => by
              have e6 := ab_cat_sum ad r
              exact va_mabs hF.1 hF.2.1 (hF.2.2.1.trans hl.1.symm) hF.2.2.2.2.1 (hF.2.2.2.2.2.1 _ (hn.2.2.2 h4)) (hF.2.2.2.2.2.1 _ (ab_in (i := 760) rfl rfl)) (hF.2.2.2.2.2.1 _ (ab_in (i := 68) rfl rfl)) (hF.2.2.2.2.2.1 _ (ab_in (i := 761) rfl rfl)) (by omega) (by rw [e6]; omega) hc1 hc2 hd (kk ls hl)) hP
          · simp only [ab_step, if_neg h1, if_neg h2, if_neg h3, if_neg h4] at hs
            cases hs
  | invokespecial i =>
    simp only [ab_okd, Bool.and_eq_true, beq_iff_eq, decide_eq_true_eq] at hb
    subst hb
    by_cases h1 : a1 = 1
    · simp only [ab_step, if_pos h1] at hs
      split at hs
      · cases hs
        exact ab_pure (fun p e Rm s m args below meth c dC dI cA A Q ad H locs cells slots ls hF hr1 hr2 hl hX hS hW hc1 hc2 kk => by
          have e6 := ab_cat_sum ad
          refine W.objInit hF.1 hF.2.1 hF.2.2.2.2.1 (hF.2.2.2.2.2.1 _ (hn h1)) (hF.2.2.2.2.2.1 _ (ab_in (i := 77) rfl rfl)) (hF.2.2.2.2.2.1 _ ab_oi) rfl (by rw [hF.2.2.1]; exact hl.1) rfl hd (by omega) ?_ (kk ls hl)
          have := lv_room (m := m) (pc := 0) (ls := ls) (rest := []) (st := List.map (ab_r ad) _) (by rw [e6]; exact hC)
          have e8 : 2 * (F0 m 0 ls []).monitorRoom = 0 := by simp [JFrame.monitorRoom]
          simp only [JFrame.monitorRoom] at this ⊢
          omega) hP
      · cases hs
    · simp only [ab_step, if_neg h1] at hs
      cases hs
  | tableswitch df lo hi offs =>
    simp only [ab_okd, Bool.and_eq_true, decide_eq_true_eq, List.all_eq_true] at hb
    obtain ⟨⟨hb1, hb2⟩, hb3⟩ := hb
    simp only [ab_step] at hs
    split at hs
    · cases hs
      exact ab_pure (fun p e Rm s m args below meth c dC dI cA A Q ad H locs cells slots ls hF hr1 hr2 hl hX hS hW hc1 hc2 kk => by
        have kk := kk ls hl
        unfold ab_tsw at kk
        split at kk
        · next q => exact lv_tableOut hF.1 hF.2.1 hd q (by omega) kk
        · next q =>
          split at kk
          · next o ho => exact lv_tableIn hF.1 hF.2.1 hd (fun g => q (Or.inl g)) (fun g => q (Or.inr g)) ho (by have := hb3 o (List.mem_of_getElem? (by rw [Array.getElem?_toList]; exact ho)); omega) kk
          · next ho =>
            exfalso
            rw [Array.getElem?_eq_none_iff] at ho
            omega) hP
    · cases hs
  | lookupswitch df ps =>
    simp only [ab_okd] at hb
    simp only [ab_step] at hs
    split at hs
    · cases hs
      exact ab_pure (fun p e Rm s m args below meth c dC dI cA A Q ad H locs cells slots ls hF hr1 hr2 hl hX hS hW hc1 hc2 kk => lv_lookup hF.1 hF.2.1 hd hb rfl (by omega) (kk ls hl)) hP
    · cases hs
  | _ => cases hs
