/-! THE ABSTRACT MACHINE: cells by their place in a list, locals by an association list, one step of one instruction a function. -/
abbrev AC : Type := (Nat × Nat × (Nat → Int32)) ⊕ (Nat × List Value)
abbrev AH : Type := List AC
abbrev AS : Type := Nat × List (Nat × Value) × List Value × AH
abbrev AE : Type := Instr × Nat × Nat × Nat × Int32 × Int64
abbrev MI : Type := MethodName × ByteArray × Nat × Option FieldType × List (Nat × AE)
abbrev AR : Type := Option Value × AH
abbrev AX : Type := Option (Nat × (Nat → Int32))
def ab_nt {α : Type} : List α → Nat → Option α
  | [], _ => none
  | a :: _, 0 => some a
  | _ :: r, k + 1 => ab_nt r k
def ab_st {α : Type} : List α → Nat → α → List α
  | [], _, _ => []
  | _ :: r, 0, v => v :: r
  | a :: r, k + 1, v => a :: ab_st r k v
def ab_lg : List (Nat × Value) → Nat → Option Value
  | [], _ => none
  | q :: r, i => if q.1 = i then some q.2 else ab_lg r i
def ab_lk : List (Nat × AE) → Nat → Option AE
  | [], _ => none
  | q :: r, pc => if q.1 = pc then some q.2 else ab_lk r pc
def ab_p1 (lv : List (Nat × Value)) (i : Nat) (v : Value) : List (Nat × Value) := (i, v) :: lv.filter (fun q => !(q.1 == i) && !(q.1 + 1 == i && q.2.category == 2))
def ab_p2 (lv : List (Nat × Value)) (i : Nat) (v : Value) : List (Nat × Value) := (i, v) :: lv.filter (fun q => !(q.1 == i) && (!(q.1 == i + 1) && !(q.1 + 1 == i && q.2.category == 2)))
/-- the law's own script, as a reference -/
def ab_scr : Nat := 1000000
def ab_if (c : Jvm.ClassFile.Cond) (x y : Int32) (a b : Nat) : Nat := match c with
  | .eq => if x = y then a else b
  | .ne => if ¬ x = y then a else b
  | .lt => if x < y then a else b
  | .ge => if y ≤ x then a else b
  | .gt => if y < x then a else b
  | .le => if x ≤ y then a else b
abbrev AO : Type := Option (AS × Prop)
def ab_push (n : Nat) (v : Value) : AS → AO
  | (pc, lv, r, h) => some ((pc + n, lv, v :: r, h), True)
def ab_b (n : Nat) (f : Int32 → Int32 → Int32) : AS → AO
  | (pc, lv, .int y :: .int x :: r, h) => some ((pc + n, lv, .int (f x y) :: r, h), True)
  | _ => none
def ab_d (n : Nat) (f : Int32 → Int32 → Int32) : AS → AO
  | (pc, lv, .int y :: .int x :: r, h) => some ((pc + n, lv, .int (f x y) :: r, h), ¬ y = 0)
  | _ => none
def ab_bl (n : Nat) (f : Int64 → Int64 → Int64) : AS → AO
  | (pc, lv, .long y :: .long x :: r, h) => some ((pc + n, lv, .long (f x y) :: r, h), True)
  | _ => none
def ab_dl (n : Nat) (f : Int64 → Int64 → Int64) : AS → AO
  | (pc, lv, .long y :: .long x :: r, h) => some ((pc + n, lv, .long (f x y) :: r, h), ¬ y = 0)
  | _ => none
def ab_ldi (n i : Nat) : AS → AO
  | (pc, lv, r, h) => match ab_lg lv i with
    | some (.int x) => some ((pc + n, lv, .int x :: r, h), True)
    | _ => none
def ab_ldl (n i : Nat) : AS → AO
  | (pc, lv, r, h) => match ab_lg lv i with
    | some (.long x) => some ((pc + n, lv, .long x :: r, h), True)
    | _ => none
def ab_lda (n i : Nat) : AS → AO
  | (pc, lv, r, h) => match ab_lg lv i with
    | some (.ref x) => some ((pc + n, lv, .ref x :: r, h), True)
    | _ => none
def ab_sti (n i maxL : Nat) : AS → AO
  | (pc, lv, .int x :: r, h) => some ((pc + n, ab_p1 lv i (.int x), r, h), i < maxL)
  | _ => none
def ab_stl (n i maxL : Nat) : AS → AO
  | (pc, lv, .long x :: r, h) => some ((pc + n, ab_p2 lv i (.long x), r, h), i + 1 < maxL)
  | _ => none
def ab_sta (n i maxL : Nat) : AS → AO
  | (pc, lv, .ref x :: r, h) => some ((pc + n, ab_p1 lv i (.ref x), r, h), i < maxL)
  | _ => none
def ab_inc (n i maxL : Nat) (v : Int32) : AS → AO
  | (pc, lv, r, h) => match ab_lg lv i with
    | some (.int x) => some ((pc + n, ab_p1 lv i (.int (x + v)), r, h), i < maxL)
    | _ => none
def ab_get (ci k : Nat) : AS → AO
  | (pc, lv, .ref a :: r, h) => match ab_nt h a with
    | some (.inr (c, fs)) => if c = ci then match ab_nt fs k with
      | some v => some ((pc + 3, lv, v :: r, h), True)
      | none => none else none
    | _ => none
  | _ => none
def ab_puti (ci k : Nat) : AS → AO
  | (pc, lv, .int x :: .ref a :: r, h) => match ab_nt h a with
    | some (.inr (c, fs)) => if c = ci then match ab_nt fs k with
      | some _ => some ((pc + 3, lv, r, ab_st h a (.inr (c, ab_st fs k (.int x)))), True)
      | none => none else none
    | _ => none
  | _ => none
def ab_puta (ci k : Nat) : AS → AO
  | (pc, lv, .ref x :: .ref a :: r, h) => match ab_nt h a with
    | some (.inr (c, fs)) => if c = ci then match ab_nt fs k with
      | some _ => some ((pc + 3, lv, r, ab_st h a (.inr (c, ab_st fs k (.ref x)))), True)
      | none => none else none
    | _ => none
  | _ => none
def ab_ald (b : Nat) : AS → AO
  | (pc, lv, .int i :: .ref a :: r, h) => match ab_nt h a with
    | some (.inl (t, n, f)) => if t = b then some ((pc + 1, lv, .int (f i.toNatClampNeg) :: r, h), vp_in i n) else none
    | _ => none
  | _ => none
def ab_sld (X : AX) : AS → AO
  | (pc, lv, .int i :: .ref a :: r, h) => match X with
    | some x => if a = ab_scr then some ((pc + 1, lv, .int (x.2 i.toNatClampNeg) :: r, h), vp_in i x.1) else none
    | none => none
  | _ => none
def ab_ast : AS → AO
  | (pc, lv, .int x :: .int i :: .ref a :: r, h) => match ab_nt h a with
    | some (.inl (0, n, f)) => some ((pc + 1, lv, r, ab_st h a (.inl (0, n, upd f i.toNatClampNeg x))), vp_in i n)
    | _ => none
  | _ => none
def ab_zst : AS → AO
  | (pc, lv, .int x :: .int i :: .ref a :: r, h) => match ab_nt h a with
    | some (.inl (1, n, f)) => some ((pc + 1, lv, r, ab_st h a (.inl (1, n, upd f i.toNatClampNeg x))), vp_in i n ∧ (x = 0 ∨ x = 1))
    | _ => none
  | _ => none
def ab_len (X : AX) : AS → AO
  | (pc, lv, .ref a :: r, h) => match X with
    | some x => if a = ab_scr then some ((pc + 1, lv, .int (Int32.ofNat x.1) :: r, h), True) else none
    | none => none
  | _ => none
def ab_cpy : AS → AO
  | (pc, lv, .int n :: .int dp :: .ref b :: .int sp :: .ref a :: r, h) => match ab_nt h a, ab_nt h b with
    | some (.inl (0, n0, f)), some (.inl (0, n1, g)) => some ((pc + 3, lv, r, ab_st h b (.inl (0, n1, va_cpy f g sp.toNatClampNeg dp.toNatClampNeg n.toNatClampNeg))),
        ¬ sp < 0 ∧ ¬ dp < 0 ∧ ¬ n < 0 ∧ sp.toNatClampNeg + n.toNatClampNeg ≤ n0 ∧ dp.toNatClampNeg + n.toNatClampNeg ≤ n1 ∧ (r.map fun v => v.category).sum ≤ 8)
    | _, _ => none
  | _ => none
def ab_m2 (f : Int32 → Int32 → Int32) : AS → AO
  | (pc, lv, .int y :: .int x :: r, h) => some ((pc + 3, lv, .int (f x y) :: r, h), (r.map fun v => v.category).sum ≤ 8)
  | _ => none
def ab_m1 (f : Int32 → Int32) : AS → AO
  | (pc, lv, .int x :: r, h) => some ((pc + 3, lv, .int (f x) :: r, h), (r.map fun v => v.category).sum ≤ 8)
  | _ => none
def ab_tsw (pc : Nat) (dflt lo hi : Int) (offs : Array Int) (x : Int32) : Nat := if x.toInt < lo ∨ hi < x.toInt then ((pc : Int) + dflt).toNat else match offs[(x.toInt - lo).toNat]? with
  | some o => ((pc : Int) + o).toNat
  | none => 0
/-- one instruction (no call, nothing made, no return): the state behind it, and what must hold for it -/
def ab_step (X : AX) (maxL : Nat) (e : AE) (S : AS) : AO := match e.1 with
  | .iconst _ => ab_push 1 (.int e.2.2.2.2.1) S
  | .bipush _ => ab_push 2 (.int e.2.2.2.2.1) S
  | .sipush _ => ab_push 3 (.int e.2.2.2.2.1) S
  | .ldc _ => ab_push 2 (.int e.2.2.2.2.1) S
  | .ldc_w _ => ab_push 3 (.int e.2.2.2.2.1) S
  | .lconst _ => ab_push 1 (.long e.2.2.2.2.2) S
  | .ldc2_w _ => ab_push 3 (.long e.2.2.2.2.2) S
  | .iload_n _ => ab_ldi 1 e.2.2.1 S
  | .iload _ => ab_ldi 2 e.2.2.1 S
  | .lload_n _ => ab_ldl 1 e.2.2.1 S
  | .lload _ => ab_ldl 2 e.2.2.1 S
  | .aload_n _ => ab_lda 1 e.2.2.1 S
  | .aload _ => ab_lda 2 e.2.2.1 S
  | .istore_n _ => ab_sti 1 e.2.2.1 maxL S
  | .istore _ => ab_sti 2 e.2.2.1 maxL S
  | .lstore_n _ => ab_stl 1 e.2.2.1 maxL S
  | .lstore _ => ab_stl 2 e.2.2.1 maxL S
  | .astore_n _ => ab_sta 1 e.2.2.1 maxL S
  | .iinc _ _ => ab_inc 3 e.2.2.1 maxL e.2.2.2.2.1 S
  | .iadd => ab_b 1 (· + ·) S
  | .isub => ab_b 1 (· - ·) S
  | .imul => ab_b 1 (· * ·) S
  | .iand => ab_b 1 (· &&& ·) S
  | .ior => ab_b 1 (· ||| ·) S
  | .ixor => ab_b 1 (· ^^^ ·) S
  | .idiv => ab_d 1 (· / ·) S
  | .irem => ab_d 1 (fun x y => x - x / y * y) S
  | .ishl => ab_b 1 (fun x y => x <<< (y &&& 31)) S
  | .ishr => ab_b 1 (fun x y => x >>> (y &&& 31)) S
  | .iushr => ab_b 1 (fun x y => (x.toUInt32 >>> (y.toUInt32 &&& Int32.toUInt32 31)).toInt32) S
  | .ineg => match S with
    | (pc, lv, .int x :: r, h) => some ((pc + 1, lv, .int (-x) :: r, h), True)
    | _ => none
  | .ladd => ab_bl 1 (· + ·) S
  | .lmul => ab_bl 1 (· * ·) S
  | .land => ab_bl 1 (· &&& ·) S
  | .ldiv => ab_dl 1 (· / ·) S
  | .lrem => ab_dl 1 (fun x y => x - x / y * y) S
  | .lcmp => match S with
    | (pc, lv, .long y :: .long x :: r, h) => some ((pc + 1, lv, .int (lg_cmp x y) :: r, h), True)
    | _ => none
  | .i2l => match S with
    | (pc, lv, .int x :: r, h) => some ((pc + 1, lv, .long x.toInt64 :: r, h), True)
    | _ => none
  | .l2i => match S with
    | (pc, lv, .long x :: r, h) => some ((pc + 1, lv, .int x.toInt32 :: r, h), True)
    | _ => none
  | .dup => match S with
    | (pc, lv, v :: r, h) => some ((pc + 1, lv, v :: v :: r, h), v.category = 1)
    | _ => none
  | .dup2 => match S with
    | (pc, lv, v :: w :: r, h) => some ((pc + 1, lv, v :: w :: v :: w :: r, h), v.category = 1 ∧ w.category = 1)
    | _ => none
  | .goto _ => match S with
    | (_, lv, r, h) => some ((e.2.2.1, lv, r, h), True)
  | .ifCond c _ => match S with
    | (pc, lv, .int x :: r, h) => some ((ab_if c x 0 e.2.2.1 (pc + 3), lv, r, h), True)
    | _ => none
  | .if_icmp c _ => match S with
    | (pc, lv, .int y :: .int x :: r, h) => some ((ab_if c x y e.2.2.1 (pc + 3), lv, r, h), True)
    | _ => none
  | .getfield _ => ab_get e.2.2.1 e.2.2.2.1 S
  | .putfield _ => if e.2.2.2.2.1 = 0 then ab_puti e.2.2.1 e.2.2.2.1 S else ab_puta e.2.2.1 e.2.2.2.1 S
  | .iaload => if X.isSome then ab_sld X S else ab_ald 0 S
  | .baload => ab_ald 1 S
  | .iastore => ab_ast S
  | .bastore => ab_zst S
  | .arraylength => ab_len X S
  | .invokestatic _ => if e.2.2.1 = 1 then ab_cpy S else if e.2.2.1 = 2 then ab_m2 (fun x y => if x < y then y else x) S else if e.2.2.1 = 3 then ab_m2 (fun x y => if y < x then y else x) S else if e.2.2.1 = 4 then ab_m1 (fun x => if 0 ≤ x then x else 0 - x) S else none
  | .invokespecial _ => if e.2.2.1 = 1 then match S with
    | (pc, lv, .ref _ :: r, h) => some ((pc + 3, lv, r, h), (r.map fun v => v.category).sum ≤ 8)
    | _ => none else none
  | .tableswitch dflt lo hi offs => match S with
    | (pc, lv, .int x :: r, h) => some ((ab_tsw pc dflt lo hi offs x, lv, r, h), True)
    | _ => none
  | .lookupswitch dflt ps => match S with
    | (pc, lv, .int x :: r, h) => some ((((pc : Int) + Op.lookupswitch.offset ps.toList dflt x.toInt).toNat, lv, r, h), 0 ≤ (pc : Int) + Op.lookupswitch.offset ps.toList dflt x.toInt)
    | _ => none
  | _ => none

def ab_iter (X : AX) (M : MI) : Nat → AS → AO
  | 0, S => some (S, True)
  | k + 1, S => match ab_lk M.2.2.2.2 S.1 with
    | some e => match ab_step X M.2.2.1 e S with
      | some (S', C) => match ab_iter X M k S' with
        | some (S2, C2) => some (S2, C ∧ C2)
        | none => none
      | none => none
    | none => none
/-- the words that every frame keeps; those of nest mates, that go along by themselves -/
def ab_T : List Cond := lw_tbl.filter goodWord
def ab_ns : Cond → Bool
  | .fieldLinkNest .. => true
  | .methodLinkNest .. => true
  | _ => false
def ab_U : List Cond := lw_tbl.filter ab_ns
theorem ab_in {i : Nat} {w : Cond} (h : lw_tbl[i]? = some w) (g : goodWord w = true) : w ∈ ab_T := List.mem_filter.mpr ⟨List.mem_of_getElem? h, g⟩
theorem ab_iu {i : Nat} {w : Cond} (h : lw_tbl[i]? = some w) (g : ab_ns w = true) : w ∈ ab_U := List.mem_filter.mpr ⟨List.mem_of_getElem? h, g⟩
/-- what a program decides of an entry -/
def ab_okd (pc : Nat) (e : AE) : Bool := match e.1 with
  | .iconst n => e.2.1 == 1 && Int32.ofInt n == e.2.2.2.2.1
  | .bipush n => e.2.1 == 2 && (Int8.ofInt n).toInt32 == e.2.2.2.2.1
  | .sipush n => e.2.1 == 3 && (Int16.ofInt n).toInt32 == e.2.2.2.2.1
  | .ldc _ => e.2.1 == 2
  | .ldc_w _ => e.2.1 == 3
  | .lconst n => e.2.1 == 1 && Int64.ofNat (n : Nat) == e.2.2.2.2.2
  | .ldc2_w _ => e.2.1 == 3
  | .iload_n k => e.2.1 == 1 && (k : Nat) == e.2.2.1
  | .iload k => e.2.1 == 2 && k == e.2.2.1
  | .lload_n k => e.2.1 == 1 && (k : Nat) == e.2.2.1
  | .lload k => e.2.1 == 2 && k == e.2.2.1
  | .aload_n k => e.2.1 == 1 && (k : Nat) == e.2.2.1
  | .aload k => e.2.1 == 2 && k == e.2.2.1
  | .istore_n k => e.2.1 == 1 && (k : Nat) == e.2.2.1
  | .istore k => e.2.1 == 2 && k == e.2.2.1
  | .lstore_n k => e.2.1 == 1 && (k : Nat) == e.2.2.1
  | .lstore k => e.2.1 == 2 && k == e.2.2.1
  | .astore_n k => e.2.1 == 1 && (k : Nat) == e.2.2.1
  | .iinc i n => e.2.1 == 3 && i == e.2.2.1 && Int32.ofInt n == e.2.2.2.2.1
  | .goto o => e.2.1 == 3 && decide ((pc : Int) + o = (e.2.2.1 : Int))
  | .ifCond _ o => e.2.1 == 3 && decide ((pc : Int) + o = (e.2.2.1 : Int))
  | .if_icmp _ o => e.2.1 == 3 && decide ((pc : Int) + o = (e.2.2.1 : Int))
  | .getfield _ => e.2.1 == 3
  | .putfield _ => e.2.1 == 3
  | .invokestatic _ => e.2.1 == 3
  | .invokespecial _ => e.2.1 == 3
  | .invokevirtual _ => e.2.1 == 3
  | .new _ => e.2.1 == 3
  | .newarray _ => e.2.1 == 2
  | .tableswitch dflt lo hi offs => decide (0 ≤ (pc : Int) + dflt) && decide (hi - lo < offs.size) && offs.toList.all (fun o => decide (0 ≤ (pc : Int) + o))
  | .lookupswitch _ ps => (ps.toList.zip (ps.toList.drop 1)).all (fun (a, next) => a.1 < next.1)
  | _ => e.2.1 == 1
/-- a field's words: read -/
def ab_F (own : String) (idx ci k : Nat) : Prop := ∃ (C : String) (T : u_T) (N : Nat), vwCl[ci]? = some (C, T, N) ∧ k < N ∧ (T k).1 = C ∧ (∀ w ∈ u_ws C T N, w ∈ ab_T) ∧ (Cond.fieldLink own idx C (T k).2.1 (T k).2.2.1 ∈ ab_T ∨ ∃ host, Cond.fieldLinkNest own idx C (T k).2.1 (T k).2.2.1 host ∈ ab_U)
/-- a field's words: write -/
def ab_G (own nm : String) (idx ci k : Nat) (z : Int32) : Prop := ∃ (C : String) (T : u_T) (N : Nat) (ty : Nat → FieldType), vwCl[ci]? = some (C, T, N) ∧ k < N ∧ (T k).1 = C ∧ (∀ w ∈ u_ws C T N, w ∈ ab_T) ∧ (∀ j, j < N → parseFieldDescriptor (T j).2.2.1 = some (ty j)) ∧ (∀ a, a < N → ∀ b, b < N → a ≠ b → (T a).2.1 ≠ (T b).2.1)
  ∧ ((z = 0 ∧ ty k = .int) ∨ (¬ z = 0 ∧ ((∃ t, ty k = .array t) ∨ ∃ o, ty k = .object o)))
  ∧ (((T k).2.2.2 = false ∧ (Cond.fieldLink own idx C (T k).2.1 (T k).2.2.1 ∈ ab_T ∨ ∃ host, Cond.fieldLinkNest own idx C (T k).2.1 (T k).2.2.1 host ∈ ab_U)) ∨ ((T k).2.2.2 = true ∧ nm = "<init>" ∧ (T k).1 = own ∧ Cond.fieldLink own idx C (T k).2.1 (T k).2.2.1 ∈ ab_T))
def ab_ln (M : MI) (e : AE) : Prop := match e.1 with
  | .getfield i => ab_F M.1.cls i e.2.2.1 e.2.2.2.1
  | .putfield i => ab_G M.1.cls M.1.name i e.2.2.1 e.2.2.2.1 e.2.2.2.2.1
  | .ldc i => Cond.constant M.1.cls i e.2.2.2.2.1 ∈ ab_T
  | .ldc_w i => Cond.constant M.1.cls i e.2.2.2.2.1 ∈ ab_T
  | .ldc2_w i => Cond.constantLong M.1.cls i e.2.2.2.2.2 ∈ ab_T
  | .invokestatic i => (e.2.2.1 = 1 → Cond.methodLink M.1.cls i arraycopyName ∈ ab_T) ∧ (e.2.2.1 = 2 → Cond.methodLink M.1.cls i Lib.Math.max.name ∈ ab_T) ∧ (e.2.2.1 = 3 → Cond.methodLink M.1.cls i Lib.Math.min.name ∈ ab_T) ∧ (e.2.2.1 = 4 → Cond.methodLink M.1.cls i Lib.Math.abs.name ∈ ab_T)
  | .invokespecial i => e.2.2.1 = 1 → Cond.methodLink M.1.cls i objectInit ∈ ab_T
  | _ => True
def ab_al (M : MI) : List (Nat × AE) → Prop
  | [] => True
  | q :: r => ab_ln M q.2 ∧ ab_al M r
def ab_ok (M : MI) : Prop := M.2.2.1 ≤ 45 ∧ M.2.2.2.2.all (fun q => decide (decode M.2.1 q.1 = .ok (q.2.1, q.2.2.1)) && ab_okd q.1 q.2) = true ∧ ab_al M M.2.2.2.2
/-- a call's words -/
def ab_CV (own : String) (idx ci : Nat) (M : MI) (n : Nat) : Prop := (∃ (T : u_T) (N : Nat), vwCl[ci]? = some (M.1.cls, T, N)) ∧ Cond.methodLink own idx M.1 ∈ ab_T ∧ Cond.instanceMethod M.1 ∈ ab_T ∧ Cond.selects M.1.cls M.1 M.1 ∈ ab_T ∧ Cond.initialized M.1.cls ∈ ab_T ∧ Cond.code M.1 M.2.1 M.2.2.1 M.2.2.2.1 ∈ ab_T ∧ M.1.cls ≠ "java/lang/invoke/MethodHandle" ∧ M.1.cls ≠ "java/lang/invoke/VarHandle" ∧ (parseMethodDescriptor M.1.desc).map (fun d => d.parameters.length) = some n ∧ plainName M.1.cls = true
def ab_CS (own : String) (idx : Nat) (M : MI) (n : Nat) : Prop := Cond.methodLink own idx M.1 ∈ ab_T ∧ Cond.static M.1 ∈ ab_T ∧ Cond.initialized M.1.cls ∈ ab_T ∧ Cond.code M.1 M.2.1 M.2.2.1 M.2.2.2.1 ∈ ab_T ∧ M.1.cls ≠ "java/lang/invoke/MethodHandle" ∧ M.1.cls ≠ "java/lang/invoke/VarHandle" ∧ (parseMethodDescriptor M.1.desc).map (fun d => d.parameters.length) = some n ∧ plainName M.1.cls = true
def ab_CI (own : String) (idx : Nat) (M : MI) (n : Nat) : Prop := (Cond.methodLink own idx M.1 ∈ ab_T ∨ ∃ host, Cond.methodLinkNest own idx M.1 host ∈ ab_U) ∧ Cond.instanceMethod M.1 ∈ ab_T ∧ M.1.name = "<init>" ∧ M.2.2.2.1 = none ∧ Cond.initialized M.1.cls ∈ ab_T ∧ Cond.code M.1 M.2.1 M.2.2.1 M.2.2.2.1 ∈ ab_T ∧ M.1.cls ≠ "java/lang/invoke/MethodHandle" ∧ M.1.cls ≠ "java/lang/invoke/VarHandle" ∧ (parseMethodDescriptor M.1.desc).map (fun d => d.parameters.length) = some n ∧ plainName M.1.cls = true
/-- what 'new' needs; the fields as they are at first -/
def ab_N (own : String) (idx ci N : Nat) (fs : List Value) : Prop := ∃ (C : String) (T : u_T) (ty : Nat → FieldType), vwCl[ci]? = some (C, T, N) ∧ (∀ w ∈ u_ws C T N, w ∈ ab_T) ∧ (∀ j, j < N → parseFieldDescriptor (T j).2.2.1 = some (ty j)) ∧ Cond.classLink own idx C ∈ ab_T ∧ Cond.instantiable C N ∈ ab_T ∧ Cond.initialized C ∈ ab_T ∧ (∀ j, j < N → defaultValue (ty j) = vp_V fs j) ∧ (∀ v ∈ fs, ∀ a, v ≠ .ref a)
def ab_wv (n : Nat) : Value → Bool
  | .ref a => decide (a < n) || decide (a = ab_scr)
  | _ => true
def ab_wl (n : Nat) (lv : List (Nat × Value)) : Bool := lv.all fun q => ab_wv n q.2
def ab_ws (n : Nat) (st : List Value) : Bool := st.all (ab_wv n)
def ab_wh (n : Nat) (h : AH) : Bool := h.all fun c => match c with
  | .inl _ => true
  | .inr o => o.2.all (ab_wv n)
def ab_wf (S : AS) : Bool := decide (S.2.2.2.length < 1000) && ab_wl S.2.2.2.length S.2.1 && ab_ws S.2.2.2.length S.2.2.1 && ab_wh S.2.2.2.length S.2.2.2
def ab_lz : Nat → List Value → List (Nat × Value)
  | _, [] => []
  | i, v :: vs => (i, v) :: ab_lz (if v.category = 2 then i + 2 else i + 1) vs
def ab_rt (M : MI) (i : Instr) (v : Option Value) : Prop := match v with
  | none => i = .return_ ∧ M.2.2.2.1 = none
  | some (.int x) => i = .ireturn ∧ (M.2.2.2.1 = some .int ∨ (M.2.2.2.1 = some .boolean ∧ (x = 0 ∨ x = 1)))
  | _ => False
def ab_vi (v : Option Value) : Prop := match v with
  | none => True
  | some (.int _) => True
  | _ => False
/-- a relation that is closed under the rules of the machine -/
def ab_Cl (P : AX → Nat → Nat → Nat → MI → AS → AR → Prop) : Prop :=
  (∀ X d k n M S R e S' C, ab_ok M → ab_lk M.2.2.2.2 S.1 = some e → ab_step X M.2.2.1 e S = some (S', C) → C → P X d k n M S' R → P X d k n M S R) ∧
  (∀ X d k n M pc lv v h e, ab_ok M → ab_lk M.2.2.2.2 pc = some e → ab_rt M e.1 v → P X d k n M (pc, lv, v.toList, h) (v, h)) ∧
  (∀ X d k n d1 k1 n1 k2 n2 M M' R pc lv (As rest : List Value) h h1 v e idx ci a c0 f0, ab_ok M → ab_ok M' → ab_lk M.2.2.2.2 pc = some e → e.1 = .invokevirtual idx → ab_CV M.1.cls idx ci M' As.length → ab_nt h a = some (.inr (c0, f0)) → c0 = ci →
    (lg_sl (Value.ref a :: As)).length ≤ M'.2.2.1 → d1 + 1 ≤ d → k1 + k2 ≤ k → n1 + n2 ≤ n → (rest.map fun v => v.category).sum ≤ 8 → h.length ≤ h1.length → (k1 = 0 ∨ (ab_wl h.length lv = true ∧ ab_ws h.length rest = true)) → ab_vi v →
    P none d1 k1 n1 M' (0, ab_lz 0 (Value.ref a :: As), [], h) (v, h1) → P X d k2 n2 M (pc + 3, lv, v.toList ++ rest, h1) R → P X d k n M (pc, lv, As.reverse ++ .ref a :: rest, h) R) ∧
  (∀ X d k n d1 k1 n1 k2 n2 M M' R pc lv (As rest : List Value) h h1 v e idx, ab_ok M → ab_ok M' → ab_lk M.2.2.2.2 pc = some e → e.1 = .invokestatic idx → ab_CS M.1.cls idx M' As.length →
    (lg_sl As).length ≤ M'.2.2.1 → d1 + 1 ≤ d → k1 + k2 ≤ k → n1 + n2 ≤ n → (rest.map fun v => v.category).sum ≤ 8 → h.length ≤ h1.length → (k1 = 0 ∨ (ab_wl h.length lv = true ∧ ab_ws h.length rest = true)) → ab_vi v →
    P none d1 k1 n1 M' (0, ab_lz 0 As, [], h) (v, h1) → P X d k2 n2 M (pc + 3, lv, v.toList ++ rest, h1) R → P X d k n M (pc, lv, As.reverse ++ rest, h) R) ∧
  (∀ X d k n d1 k1 n1 k2 n2 M M' R pc lv (As rest : List Value) h h1 e idx a, ab_ok M → ab_ok M' → ab_lk M.2.2.2.2 pc = some e → e.1 = .invokespecial idx → ab_CI M.1.cls idx M' As.length →
    (lg_sl (Value.ref a :: As)).length ≤ M'.2.2.1 → d1 + 1 ≤ d → k1 + k2 ≤ k → n1 + n2 ≤ n → (rest.map fun v => v.category).sum ≤ 8 → h.length ≤ h1.length → (k1 = 0 ∨ (ab_wl h.length lv = true ∧ ab_ws h.length rest = true)) →
    P none d1 k1 n1 M' (0, ab_lz 0 (Value.ref a :: As), [], h) (none, h1) → P X d k2 n2 M (pc + 3, lv, rest, h1) R → P X d k n M (pc, lv, As.reverse ++ .ref a :: rest, h) R) ∧
  (∀ X d k n k2 n2 M R pc lv st h e idx ci N fs, ab_ok M → ab_lk M.2.2.2.2 pc = some e → e.1 = .new idx → ab_N M.1.cls idx ci N fs → ab_wf (pc, lv, st, h) = true → k2 + 1 ≤ k → n2 + N ≤ n →
    P X d k2 n2 M (pc + 3, lv, .ref h.length :: st, h ++ [.inr (ci, fs)]) R → P X d k n M (pc, lv, st, h) R) ∧
  (∀ X d k n k2 n2 M R pc lv st h e t ty (N : Nat) (x : Int32), ab_ok M → ab_lk M.2.2.2.2 pc = some e → e.1 = .newarray ty → ((ty = .int ∧ t = 0) ∨ (ty = .boolean ∧ t = 1)) → ab_wf (pc, lv, st, h) = true → ¬ x < 0 → x.toNatClampNeg = N → N ≤ 1000 → k2 + 1 ≤ k → n2 + N ≤ n →
    P X d k2 n2 M (pc + 2, lv, .ref h.length :: st, h ++ [.inl (t, N, fun _ => 0)]) R → P X d k n M (pc, lv, .int x :: st, h) R) ∧
  (∀ X d k n M R pc lv lv' st h ks, lv_pick lv ks = lv' → P X d k n M (pc, lv', st, h) R → P X d k n M (pc, lv, st, h) R)
def ab_E (X : AX) (d k n : Nat) (M : MI) (S : AS) (R : AR) : Prop := ∀ P, ab_Cl P → P X d k n M S R
