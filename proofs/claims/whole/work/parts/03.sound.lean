/-! THE ABSTRACT MACHINE IS SOUND: what it runs to, the machine runs to. -/
def ab_r (ad : Nat → Nat) : Value → Value
  | .ref a => .ref (ad a)
  | v => v
def ab_rl (ad : Nat → Nat) (lv : List (Nat × Value)) : List (Nat × Value) := lv.map fun q => (q.1, ab_r ad q.2)
def ab_rz (ad : Nat → Nat) (cA : Nat → ClassId) : AC → va_E
  | .inl (t, n, f) => .inl (cA t, n, .inl f)
  | .inr (c, fs) => .inr (c, fs.map (ab_r ad))
def ab_wd (ad : Nat → Nat) (cA : Nat → ClassId) : Nat → AH → va_W
  | _, [] => []
  | k, c :: r => (ad k, ab_rz ad cA c) :: ab_wd ad cA (k + 1) r
theorem ab_r_cat (ad : Nat → Nat) (v : Value) : (ab_r ad v).category = v.category := by cases v <;> rfl
theorem ab_wd_nt (ad : Nat → Nat) (cA : Nat → ClassId) : ∀ (h : AH) (k i : Nat) (c : AC), ab_nt h i = some c → (ab_wd ad cA k h)[i]? = some (ad (k + i), ab_rz ad cA c)
  | [], _, _, _, e => by simp [ab_nt] at e
  | a :: r, k, 0, c, e => by
    simp only [ab_nt, Option.some.injEq] at e
    subst e
    simp [ab_wd]
  | a :: r, k, i + 1, c, e => by
    have := ab_wd_nt ad cA r (k + 1) i c e
    simp only [ab_wd, List.getElem?_cons_succ]
    rw [this, show k + 1 + i = k + (i + 1) by omega]
theorem ab_wd_st (ad : Nat → Nat) (cA : Nat → ClassId) : ∀ (h : AH) (k i : Nat) (c : AC), ab_wd ad cA k (ab_st h i c) = (ab_wd ad cA k h).set i (ad (k + i), ab_rz ad cA c)
  | [], _, _, _ => by simp [ab_st, ab_wd]
  | a :: r, k, 0, c => by simp [ab_st, ab_wd]
  | a :: r, k, i + 1, c => by
    have := ab_wd_st ad cA r (k + 1) i c
    simp only [ab_wd, ab_st, List.set_cons_succ]
    rw [this, show k + 1 + i = k + (i + 1) by omega]
theorem ab_wd_app (ad : Nat → Nat) (cA : Nat → ClassId) : ∀ (h : AH) (k : Nat) (c : AC), ab_wd ad cA k (h ++ [c]) = ab_wd ad cA k h ++ [(ad (k + h.length), ab_rz ad cA c)]
  | [], k, c => by simp [ab_wd]
  | a :: r, k, c => by
    have := ab_wd_app ad cA r (k + 1) c
    simp only [ab_wd, List.cons_append, List.length_cons]
    rw [this, show k + 1 + r.length = k + (r.length + 1) by omega]
theorem ab_st_len {α : Type} : ∀ (h : List α) (i : Nat) (c : α), (ab_st h i c).length = h.length
  | [], _, _ => rfl
  | _ :: _, 0, _ => rfl
  | a :: r, i + 1, c => by simp [ab_st, ab_st_len r i c]
theorem ab_nt_get {α : Type} : ∀ (h : List α) (i : Nat), ab_nt h i = h[i]?
  | [], _ => by simp [ab_nt]
  | a :: r, 0 => by simp [ab_nt]
  | a :: r, i + 1 => by simp [ab_nt, ab_nt_get r i]
theorem ab_st_set {α : Type} : ∀ (h : List α) (i : Nat) (c : α), ab_st h i c = h.set i c
  | [], _, _ => by simp [ab_st]
  | _ :: _, 0, _ => by simp [ab_st]
  | a :: r, i + 1, c => by simp [ab_st, ab_st_set r i c]
theorem ab_nt_map {α β : Type} (f : α → β) (h : List α) (i : Nat) (c : α) (e : ab_nt h i = some c) : (h.map f)[i]? = some (f c) := by
  rw [ab_nt_get] at e
  simp [e]
theorem ab_st_map {α β : Type} (f : α → β) (h : List α) (i : Nat) (c : α) : (ab_st h i c).map f = (h.map f).set i (f c) := by
  rw [ab_st_set, List.map_set]
theorem ab_lg_mem : ∀ (lv : List (Nat × Value)) (i : Nat) (v : Value), ab_lg lv i = some v → (i, v) ∈ lv
  | [], _, _, e => by simp [ab_lg] at e
  | q :: r, i, v, e => by
    unfold ab_lg at e
    split at e
    · next h =>
      cases e
      subst h
      exact List.mem_cons_self
    · exact List.mem_cons_of_mem _ (ab_lg_mem r i v e)
theorem ab_lg_has {ad : Nat → Nat} {ls : Array Slot} {nL : Nat} {lv : List (Nat × Value)} {i : Nat} {v : Value} (h : lv_has ls nL (ab_rl ad lv)) (e : ab_lg lv i = some v) : ls[i]? = some (.val (ab_r ad v)) :=
  h.2.2 (i, ab_r ad v) (List.mem_map.mpr ⟨(i, v), ab_lg_mem lv i v e, rfl⟩)
theorem ab_lg_at {ad : Nat → Nat} {lv : List (Nat × Value)} {i : Nat} {v : Value} (e : ab_lg lv i = some v) : ∃ k : Nat, (ab_rl ad lv)[k]? = some (i, ab_r ad v) :=
  List.getElem?_of_mem (List.mem_map.mpr ⟨(i, v), ab_lg_mem lv i v e, rfl⟩)
theorem ab_p1_r (ad : Nat → Nat) (lv : List (Nat × Value)) (i : Nat) (v : Value) : (i, ab_r ad v) :: (ab_rl ad lv).filter (fun q => !(q.1 == i) && !(q.1 + 1 == i && q.2.category == 2)) = ab_rl ad (ab_p1 lv i v) := by
  simp only [ab_rl, ab_p1, List.map_cons, List.filter_map]
  congr 2
  apply List.filter_congr
  intro q _
  simp [Function.comp, ab_r_cat]
theorem ab_p2_r (ad : Nat → Nat) (lv : List (Nat × Value)) (i : Nat) (v : Value) : (i, ab_r ad v) :: (ab_rl ad lv).filter (fun q => !(q.1 == i) && (!(q.1 == i + 1) && !(q.1 + 1 == i && q.2.category == 2))) = ab_rl ad (ab_p2 lv i v) := by
  simp only [ab_rl, ab_p2, List.map_cons, List.filter_map]
  congr 2
  apply List.filter_congr
  intro q _
  simp [Function.comp, ab_r_cat]
theorem ab_cat_sum (ad : Nat → Nat) (r : List Value) : ((r.map (ab_r ad)).map fun v => v.category).sum = (r.map fun v => v.category).sum := by
  simp [Function.comp_def, ab_r_cat]
/-- the same addresses below, and of the script -/
def ab_ag (ad ad' : Nat → Nat) (n k : Nat) : Prop := (k = 0 → ad' = ad) ∧ ∀ i, (i < n ∨ i = ab_scr) → ad' i = ad i
theorem ab_ag.rf (ad : Nat → Nat) (n k : Nat) : ab_ag ad ad n k := ⟨fun _ => rfl, fun _ _ => rfl⟩
theorem ab_ag_v {ad ad' : Nat → Nat} {n k : Nat} (g : ab_ag ad ad' n k) {v : Value} (h : ab_wv n v = true) : ab_r ad' v = ab_r ad v := by
  cases v with
  | ref a =>
    simp only [ab_wv, Bool.or_eq_true, decide_eq_true_eq] at h
    simp only [ab_r, g.2 a h]
  | _ => rfl
theorem ab_ag_s {ad ad' : Nat → Nat} {n k : Nat} (g : ab_ag ad ad' n k) {st : List Value} (h : k = 0 ∨ ab_ws n st = true) : st.map (ab_r ad') = st.map (ab_r ad) := by
  rcases h with h | h
  · rw [g.1 h]
  · exact List.map_congr_left fun v hv => ab_ag_v g (List.all_eq_true.mp h v hv)
theorem ab_ag_l {ad ad' : Nat → Nat} {n k : Nat} (g : ab_ag ad ad' n k) {lv : List (Nat × Value)} (h : k = 0 ∨ ab_wl n lv = true) : ab_rl ad' lv = ab_rl ad lv := by
  rcases h with h | h
  · rw [g.1 h]
  · exact List.map_congr_left fun v hv => by rw [ab_ag_v g (List.all_eq_true.mp h v hv)]
theorem ab_ag_h {ad ad' : Nat → Nat} {n k : Nat} (cA : Nat → ClassId) (g : ab_ag ad ad' n k) : ∀ (h : AH) (j : Nat), j + h.length ≤ n → ab_wh n h = true → ab_wd ad' cA j h = ab_wd ad cA j h
  | [], _, _, _ => rfl
  | c :: r, j, hl, hw => by
    simp only [ab_wh, List.all_cons, Bool.and_eq_true] at hw
    simp only [List.length_cons] at hl
    have ih := ab_ag_h cA g r (j + 1) (by omega) hw.2
    simp only [ab_wd, ih, g.2 j (Or.inl (by omega))]
    congr 2
    cases c with
    | inl x => rfl
    | inr o =>
      simp only [ab_rz]
      rw [ab_ag_s (k := k) g (Or.inr hw.1)]
theorem ab_lz_args (ad : Nat → Nat) : ∀ (vs : List Value) (i : Nat), lv_args i (vs.map (ab_r ad)) = ab_rl ad (ab_lz i vs)
  | [], _ => rfl
  | v :: vs, i => by
    simp only [List.map_cons, lv_args, ab_lz, ab_rl, ab_r_cat]
    rw [ab_lz_args ad vs]
    rfl
theorem ab_sl_len (ad : Nat → Nat) (vs : List Value) : (lg_sl (vs.map (ab_r ad))).length = (lg_sl vs).length := by
  induction vs with
  | nil => rfl
  | cons v t ih =>
    simp only [lg_sl, List.map_cons, List.flatMap_cons, List.length_append, ab_r_cat] at ih ⊢
    rw [ih]
    split <;> rfl
/-- what stands of a frame -/
def ab_Fx (p : Program) (s : State) (m : MethodId) (args : Array Value) (meth : Method) (c : Code) (M : MI) (dC : Nat → ClassId) (dI : Nat → Nat → Nat) (cA : Nat → ClassId) (A : Nat → Prop) : Prop :=
  p.tables.exec = Jvm.exec ∧ c.code = M.2.1 ∧ c.maxLocals = M.2.2.1 ∧ (M.1.name = "<init>" → meth.name = "<init>") ∧ s.vm.findClass M.1.cls = some m.cls ∧ (∀ w ∈ ab_T, w.before args s = true) ∧ va_K (dC, dI) vwCl [(cA 0, .int), (cA 1, .boolean)] s ∧ (∀ q, s.heap.size ≤ q → A q) ∧ (∀ w ∈ ab_U, va_Nw w s)
def ab_RP (l : Launch) (X : AX) (d k n : Nat) (M : MI) (S : AS) (R : AR) : Prop :=
  ∀ (p : Program) (e : Env) (Rm : Room) (s : State) (m : MethodId) (args : Array Value) (below : List Frame) (meth : Method) (c : Code) (dC : Nat → ClassId) (dI : Nat → Nat → Nat) (cA : Nat → ClassId) (A : Nat → Prop) (mc ms : Nat) (Q : State → Prop),
    ab_Fx p s m args meth c M dC dI cA A → d + 1 ≤ Rm.frames → 64 * (d + 1) ≤ Rm.locals → mc ≤ Rm.cells → ms ≤ Rm.slots →
    ∀ (ad : Nat → Nat) (H : Heap) (locs : List Loc) (cells slots : Nat) (ls : Array Slot),
      (∀ x, X = some x → va_X (ad ab_scr) x.1 x.2 s s.heap ∧ ad ab_scr < s.heap.size ∧ ¬ A (ad ab_scr)) →
      cells + k ≤ mc → slots + n ≤ ms → va_S A s.heap H locs → va_P (dC, dI) vwCl (ab_wd ad cA 0 S.2.2.2) H → va_D A (ab_wd ad cA 0 S.2.2.2) → lv_has ls M.2.2.1 (ab_rl ad S.2.1) →
      (∀ (ad' : Nat → Nat) (H' : Heap) (locs' : List Loc) (cells' slots' pc' : Nat) (ls' : Array Slot) (i : Instr), ab_ag ad ad' S.2.2.2.length k → cells' ≤ mc → slots' ≤ ms → va_S A s.heap H' locs' → va_P (dC, dI) vwCl (ab_wd ad' cA 0 R.2) H' → va_D A (ab_wd ad' cA 0 R.2) → decode M.2.1 pc' = .ok (i, 1) → ab_rt M i R.1 →
        W p l e Rm s m args below meth c H' locs' cells' slots' Q (F0 m pc' ls' (R.1.toList.map (ab_r ad')))) →
      W p l e Rm s m args below meth c H locs cells slots Q (F0 m S.1 ls (S.2.2.1.map (ab_r ad)))
theorem ab_lk_mem : ∀ (t : List (Nat × AE)) (pc : Nat) (e : AE), ab_lk t pc = some e → (pc, e) ∈ t
  | [], _, _, h => by simp [ab_lk] at h
  | q :: r, pc, e, h => by
    unfold ab_lk at h
    split at h
    · next g =>
      cases h
      subst g
      exact List.mem_cons_self
    · exact List.mem_cons_of_mem _ (ab_lk_mem r pc e h)
theorem ab_al_mem {M : MI} : ∀ (t : List (Nat × AE)) (q : Nat × AE), ab_al M t → q ∈ t → ab_ln M q.2
  | [], _, _, h => by cases h
  | a :: r, q, h, hq => by
    rcases List.mem_cons.mp hq with e | e
    · rw [e]; exact h.1
    · exact ab_al_mem r q h.2 e
theorem ab_ok_at {M : MI} {pc : Nat} {e : AE} (h : ab_ok M) (hl : ab_lk M.2.2.2.2 pc = some e) : decode M.2.1 pc = .ok (e.1, e.2.1) ∧ ab_okd pc e = true ∧ ab_ln M e := by
  have hm := ab_lk_mem _ _ _ hl
  have h2 := List.all_eq_true.mp h.2.1 _ hm
  simp only [Bool.and_eq_true, decide_eq_true_eq] at h2
  exact ⟨h2.1, h2.2, ab_al_mem _ _ h.2.2 hm⟩
/-- an instruction that leaves the heap as it is -/
theorem ab_pure {l : Launch} {X : AX} {d k n : Nat} {M : MI} {R : AR} {pc pc' : Nat} {lv lv' : List (Nat × Value)} {st st' : List Value} {h : AH}
    (hstep : ∀ (p : Program) (e : Env) (Rm : Room) (s : State) (m : MethodId) (args : Array Value) (below : List Frame) (meth : Method) (c : Code) (dC : Nat → ClassId) (dI : Nat → Nat → Nat) (cA : Nat → ClassId) (A : Nat → Prop) (Q : State → Prop) (ad : Nat → Nat) (H : Heap) (locs : List Loc) (cells slots : Nat) (ls : Array Slot),
      ab_Fx p s m args meth c M dC dI cA A → d + 1 ≤ Rm.frames → 64 * (d + 1) ≤ Rm.locals → lv_has ls M.2.2.1 (ab_rl ad lv) → (∀ x, X = some x → va_X (ad ab_scr) x.1 x.2 s s.heap ∧ ad ab_scr < s.heap.size ∧ ¬ A (ad ab_scr)) → va_S A s.heap H locs → va_P (dC, dI) vwCl (ab_wd ad cA 0 h) H → cells ≤ Rm.cells → slots ≤ Rm.slots →
      (∀ ls', lv_has ls' M.2.2.1 (ab_rl ad lv') → W p l e Rm s m args below meth c H locs cells slots Q (F0 m pc' ls' (st'.map (ab_r ad)))) → W p l e Rm s m args below meth c H locs cells slots Q (F0 m pc ls (st.map (ab_r ad))))
    (hP : ab_RP l X d k n M (pc', lv', st', h) R) : ab_RP l X d k n M (pc, lv, st, h) R := by
  intro p e Rm s m args below meth c dC dI cA A mc ms Q hF h1 h2 h3 h4 ad H locs cells slots ls hX h5 h6 hS hW hD hl hk
  exact hstep p e Rm s m args below meth c dC dI cA A Q ad H locs cells slots ls hF h1 h2 hl hX hS hW (by omega) (by omega) (fun ls' hl' => hP p e Rm s m args below meth c dC dI cA A mc ms Q hF h1 h2 h3 h4 ad H locs cells slots ls' hX h5 h6 hS hW hD hl' hk)
/-- an instruction that writes one cell -/
theorem ab_writ {l : Launch} {X : AX} {d k n : Nat} {M : MI} {R : AR} {pc pc' : Nat} {lv : List (Nat × Value)} {st st' : List Value} {h h' : AH} (hlen : h'.length = h.length)
    (hstep : ∀ (p : Program) (e : Env) (Rm : Room) (s : State) (m : MethodId) (args : Array Value) (below : List Frame) (meth : Method) (c : Code) (dC : Nat → ClassId) (dI : Nat → Nat → Nat) (cA : Nat → ClassId) (A : Nat → Prop) (Q : State → Prop) (ad : Nat → Nat) (H : Heap) (locs : List Loc) (cells slots : Nat) (ls : Array Slot),
      ab_Fx p s m args meth c M dC dI cA A → d + 1 ≤ Rm.frames → 64 * (d + 1) ≤ Rm.locals → ls.size = M.2.2.1 → va_S A s.heap H locs → va_P (dC, dI) vwCl (ab_wd ad cA 0 h) H → va_D A (ab_wd ad cA 0 h) →
      (∀ (H' : Heap) (locs' : List Loc), va_P (dC, dI) vwCl (ab_wd ad cA 0 h') H' → va_D A (ab_wd ad cA 0 h') → va_S A s.heap H' locs' → W p l e Rm s m args below meth c H' locs' cells slots Q (F0 m pc' ls (st'.map (ab_r ad)))) → W p l e Rm s m args below meth c H locs cells slots Q (F0 m pc ls (st.map (ab_r ad))))
    (hP : ab_RP l X d k n M (pc', lv, st', h') R) : ab_RP l X d k n M (pc, lv, st, h) R := by
  intro p e Rm s m args below meth c dC dI cA A mc ms Q hF h1 h2 h3 h4 ad H locs cells slots ls hX h5 h6 hS hW hD hl hk
  refine hstep p e Rm s m args below meth c dC dI cA A Q ad H locs cells slots ls hF h1 h2 hl.1 hS hW hD (fun H' locs' hW' hD' hS' => hP p e Rm s m args below meth c dC dI cA A mc ms Q hF h1 h2 h3 h4 ad H' locs' cells slots ls hX h5 h6 hS' hW' hD' hl ?_)
  intro ad' H2 l2 c2 s2 pc2 ls2 i g
  exact hk ad' H2 l2 c2 s2 pc2 ls2 i (by rw [← hlen]; exact g)
