section HPW
/-- what a walk's points share: program, launch, environment, room, entry state, method, arguments, frames below, method's row, code; its end; the cells that may change; the classes' numbers -/
abbrev hp_X : Type := Program × Launch × Env × Room × State × MethodId × Array Value × List Frame × Method × Code × (State → Prop) × (Nat → Prop) × hp_G
abbrev hp_LL : Type := List (Nat × hp_hv)
def hp_Lv (L : hp_LL) : List (Nat × Value) := L.map (fun q => (q.1, hp_v q.2))
/-- THE JUDGEMENT: from pc, with locals L, operand stack st, the pool S, k cells and n slots made, the walk comes to its end -/
def hp_V (X : hp_X) (nL pc : Nat) (L : hp_LL) (st : List hp_hv) (S : hp_T) (k n : Nat) : Prop := match X with
  | (p, l, e, R, s, m, args, below, meth, c, Q, A, G) => ∀ (H : Heap) (locs : List Loc) (ls : Array Slot), hp_w A G S H → va_S A s.heap H locs → lv_has ls nL (hp_Lv L) → W p l e R s m args below meth c H locs k n Q (F0 m pc ls (st.map hp_v))
def hp_lg : hp_LL → Nat → Option hp_hv
  | [], _ => none
  | (j, v) :: L, i => if j = i then some v else hp_lg L i
def hp_lng (v : hp_hv) : Bool := match v with
  | .inr (.inl _) => true
  | _ => false
def hp_dl : hp_LL → Nat → hp_LL
  | [], _ => []
  | (j, w) :: L, i => if j = i then hp_dl L i else if j + 1 = i ∧ hp_lng w = true then hp_dl L i else (j, w) :: hp_dl L i
def hp_ls : hp_LL → Nat → hp_hv → hp_LL
  | [], i, v => [(i, v)]
  | (j, w) :: L, i, v => if j = i then (i, v) :: hp_dl L i else if j + 1 = i ∧ hp_lng w = true then hp_ls L i v else (j, w) :: hp_ls L i v
theorem hp_lg_mem {L : hp_LL} {i : Nat} {v : hp_hv} (h : hp_lg L i = some v) : (i, v) ∈ L := by
  induction L with
  | nil => cases h
  | cons q L ih =>
    obtain ⟨j, w⟩ := q
    unfold hp_lg at h
    by_cases hj : j = i
    · rw [if_pos hj] at h
      cases h
      subst hj
      exact List.mem_cons_self
    · rw [if_neg hj] at h
      exact List.mem_cons_of_mem _ (ih h)
theorem hp_at {ls : Array Slot} {nL : Nat} {L : hp_LL} {i : Nat} {v : hp_hv} (hl : lv_has ls nL (hp_Lv L)) (h : hp_lg L i = some v) : ls[i]? = some (.val (hp_v v)) := hl.2.2 (i, hp_v v) (List.mem_map.mpr ⟨(i, v), hp_lg_mem h, rfl⟩)
theorem hp_dl_mem {L : hp_LL} {i : Nat} {q : Nat × hp_hv} (h : q ∈ hp_dl L i) : q ∈ L ∧ q.1 ≠ i ∧ ¬ (q.1 + 1 = i ∧ hp_lng q.2 = true) := by
  induction L with
  | nil => cases h
  | cons x L ih =>
    obtain ⟨j, w⟩ := x
    unfold hp_dl at h
    by_cases hj : j = i
    · rw [if_pos hj] at h
      obtain ⟨h1, h2⟩ := ih h
      exact ⟨List.mem_cons_of_mem _ h1, h2⟩
    · rw [if_neg hj] at h
      by_cases hk : j + 1 = i ∧ hp_lng w = true
      · rw [if_pos hk] at h
        obtain ⟨h1, h2⟩ := ih h
        exact ⟨List.mem_cons_of_mem _ h1, h2⟩
      · rw [if_neg hk] at h
        rcases List.mem_cons.mp h with h | h
        · subst h
          exact ⟨List.mem_cons_self, hj, hk⟩
        · obtain ⟨h1, h2⟩ := ih h
          exact ⟨List.mem_cons_of_mem _ h1, h2⟩
theorem hp_ls_mem {L : hp_LL} {i : Nat} {v : hp_hv} {q : Nat × hp_hv} (h : q ∈ hp_ls L i v) : q = (i, v) ∨ (q ∈ L ∧ q.1 ≠ i ∧ ¬ (q.1 + 1 = i ∧ hp_lng q.2 = true)) := by
  induction L with
  | nil =>
    unfold hp_ls at h
    exact Or.inl (List.mem_singleton.mp h)
  | cons x L ih =>
    obtain ⟨j, w⟩ := x
    unfold hp_ls at h
    by_cases hj : j = i
    · rw [if_pos hj] at h
      rcases List.mem_cons.mp h with h | h
      · exact Or.inl h
      · obtain ⟨h1, h2⟩ := hp_dl_mem h
        exact Or.inr ⟨List.mem_cons_of_mem _ h1, h2⟩
    · rw [if_neg hj] at h
      by_cases hk : j + 1 = i ∧ hp_lng w = true
      · rw [if_pos hk] at h
        rcases ih h with h | ⟨h1, h2⟩
        · exact Or.inl h
        · exact Or.inr ⟨List.mem_cons_of_mem _ h1, h2⟩
      · rw [if_neg hk] at h
        rcases List.mem_cons.mp h with h | h
        · subst h
          exact Or.inr ⟨List.mem_cons_self, hj, hk⟩
        · rcases ih h with h | ⟨h1, h2⟩
          · exact Or.inl h
          · exact Or.inr ⟨List.mem_cons_of_mem _ h1, h2⟩
theorem hp_cat (v : hp_hv) : (hp_v v).category = if hp_lng v = true then 2 else 1 := by
  rcases v with x | x | x
  · rfl
  · rfl
  · cases x <;> rfl
theorem hp_store {ls : Array Slot} {nL i : Nat} {L : hp_LL} {v : hp_hv} (h : lv_has ls nL ((i, hp_v v) :: (hp_Lv L).filter (fun q => !(q.1 == i) && !(q.1 + 1 == i && q.2.category == 2)))) : lv_has ls nL (hp_Lv (hp_ls L i v)) := by
  refine ⟨h.1, h.2.1, fun q hq => h.2.2 q ?_⟩
  obtain ⟨x, hx, rfl⟩ := List.mem_map.mp hq
  rcases hp_ls_mem hx with rfl | ⟨h1, h2, h3⟩
  · exact List.mem_cons_self
  · refine List.mem_cons_of_mem _ (List.mem_filter.mpr ⟨List.mem_map.mpr ⟨x, h1, rfl⟩, ?_⟩)
    have h4 := hp_cat x.2
    by_cases h5 : hp_lng x.2 = true
    · simp [h2, h4, h5]
      exact fun h6 => h3 ⟨h6, h5⟩
    · simp [h2, h4, h5]
theorem hp_store2 {ls : Array Slot} {nL i : Nat} {L : hp_LL} {v : hp_hv} (h : lv_has ls nL ((i, hp_v v) :: (hp_Lv L).filter (fun q => !(q.1 == i) && (!(q.1 == i + 1) && !(q.1 + 1 == i && q.2.category == 2))))) : lv_has ls nL (hp_Lv (hp_ls (hp_dl L (i + 1)) i v)) := by
  refine ⟨h.1, h.2.1, fun q hq => h.2.2 q ?_⟩
  obtain ⟨x, hx, rfl⟩ := List.mem_map.mp hq
  rcases hp_ls_mem hx with rfl | ⟨h0, h2, h3⟩
  · exact List.mem_cons_self
  · obtain ⟨h1, h6, -⟩ := hp_dl_mem h0
    refine List.mem_cons_of_mem _ (List.mem_filter.mpr ⟨List.mem_map.mpr ⟨x, h1, rfl⟩, ?_⟩)
    have h4 := hp_cat x.2
    by_cases h5 : hp_lng x.2 = true
    · simp [h2, h4, h5, h6]
      exact fun h7 => h3 ⟨h7, h5⟩
    · simp [h2, h4, h5, h6]
/-- fewer locals -/
theorem hp_sub {X : hp_X} {nL pc : Nat} {L L' : hp_LL} {st : List hp_hv} {S : hp_T} {k n : Nat} (h : ∀ q ∈ L', q ∈ L) (kk : hp_V X nL pc L' st S k n) : hp_V X nL pc L st S k n := by
  obtain ⟨p, l, e, R, s, m, args, below, meth, c, Q, A, G⟩ := X
  intro H locs ls hw hS hl
  refine kk H locs ls hw hS ⟨hl.1, hl.2.1, fun q hq => hl.2.2 q ?_⟩
  obtain ⟨x, hx, rfl⟩ := List.mem_map.mp hq
  exact List.mem_map.mpr ⟨x, h x hx, rfl⟩
/-- more room counted -/
theorem hp_wid {X : hp_X} {nL pc : Nat} {L : hp_LL} {st : List hp_hv} {S : hp_T} {k n k' n' : Nat} (h1 : k ≤ k') (h2 : n ≤ n') (kk : hp_V X nL pc L st S k' n') : hp_V X nL pc L st S k n := by
  obtain ⟨p, l, e, R, s, m, args, below, meth, c, Q, A, G⟩ := X
  intro H locs ls hw hS hl
  exact W.widen h1 h2 (kk H locs ls hw hS hl)
def hp_rv (i : Instr) (st : List hp_hv) : Option (Option hp_hv) := match i, st with
  | .ireturn, [.inl x] => some (some (.inl x))
  | .lreturn, [.inr (.inl x)] => some (some (.inr (.inl x)))
  | .areturn, [.inr (.inr x)] => some (some (.inr (.inr x)))
  | .return_, [] => some none
  | _, _ => none
/-- what a walk's points rest on -/
def hp_C0 (X : hp_X) (cc : ByteArray) (nL o : Nat) : Prop := match X with
  | (p, l, e, R, s, m, args, below, meth, c, Q, A, G) => p.tables.exec = Jvm.exec ∧ c.code = cc ∧ c.maxLocals = nL ∧ s.vm.findClass (hp_cn o) = some m.cls ∧ (∀ w ∈ hp_B, w.before args s = true) ∧ va_K G.1 vwCl (hp_tys G.2) s ∧ (∀ q, s.heap.size ≤ q → A q)
def hp_C (X : hp_X) (cc : ByteArray) (nL o : Nat) (rt : Option hp_hv → hp_T → Nat → Nat → Prop) : Prop := hp_C0 X cc nL o ∧ ∀ (i : Instr) (pc : Nat) (L : hp_LL) (st : List hp_hv) (S : hp_T) (k n : Nat) (v : Option hp_hv), decode cc pc = .ok (i, 1) → hp_rv i st = some v → rt v S k n → hp_V X nL pc L st S k n
def hp_ld (t : Nat) (r : Option hp_hv) (K : hp_hv → Prop) : Prop := match t, r with
  | 0, some (.inl x) => K (.inl x)
  | 1, some (.inr (.inl x)) => K (.inr (.inl x))
  | 2, some (.inr (.inr x)) => K (.inr (.inr x))
  | _, _ => False
def hp_s1 (t : Nat) (st : List hp_hv) (K : hp_hv → List hp_hv → Prop) : Prop := match t, st with
  | 0, .inl x :: r => K (.inl x) r
  | 1, .inr (.inl x) :: r => K (.inr (.inl x)) r
  | 2, .inr (.inr x) :: r => K (.inr (.inr x)) r
  | _, _ => False
def hq_i1 (st : List hp_hv) (K : Int32 → List hp_hv → Prop) : Prop := match st with
  | .inl x :: r => K x r
  | _ => False
def hq_i2 (st : List hp_hv) (K : Int32 → Int32 → List hp_hv → Prop) : Prop := match st with
  | .inl y :: .inl x :: r => K x y r
  | _ => False
def hq_l1 (st : List hp_hv) (K : Int64 → List hp_hv → Prop) : Prop := match st with
  | .inr (.inl x) :: r => K x r
  | _ => False
def hq_l2 (st : List hp_hv) (K : Int64 → Int64 → List hp_hv → Prop) : Prop := match st with
  | .inr (.inl y) :: .inr (.inl x) :: r => K x y r
  | _ => False
def hq_r1 (st : List hp_hv) (K : Option Nat → List hp_hv → Prop) : Prop := match st with
  | .inr (.inr x) :: r => K x r
  | _ => False
def hq_r2 (st : List hp_hv) (K : Option Nat → Option Nat → List hp_hv → Prop) : Prop := match st with
  | .inr (.inr y) :: .inr (.inr x) :: r => K x y r
  | _ => False
/-- an index and an array -/
def hp_ia (st : List hp_hv) (K : Option Nat → Int32 → List hp_hv → Prop) : Prop := match st with
  | .inl i :: .inr (.inr x) :: r => K x i r
  | _ => False
/-- a value, an index and an array -/
def hp_via (st : List hp_hv) (K : hp_hv → Option Nat → Int32 → List hp_hv → Prop) : Prop := match st with
  | v :: .inl i :: .inr (.inr x) :: r => K v x i r
  | _ => False
def hp_vr (st : List hp_hv) (K : hp_hv → Option Nat → List hp_hv → Prop) : Prop := match st with
  | v :: .inr (.inr x) :: r => K v x r
  | _ => False
/-- a field's value is put -/
def hp_sF (S : hp_T) (a k : Nat) (v : hp_hv) : hp_T := match v with
  | .inl x => hp_sI S a k x
  | .inr (.inl x) => hp_sJ S a k x
  | .inr (.inr x) => hp_sR S a k x
/-- a branch -/
def hp_br (pc : Nat) (off : Int) (P N : Prop) (K : Nat → Prop) : Prop := 0 ≤ (pc : Int) + off ∧ (P → K ((pc : Int) + off).toNat) ∧ (N → K (pc + 3))
def hp_rt (r : Option (Option hp_hv)) (rt : Option hp_hv → Prop) : Prop := match r with
  | some v => rt v
  | none => False
/-- one instruction: what must hold of the next point (K); E: no more than that the walk goes on from here -/
def hp_st (nL o : Nat) (rt : Option hp_hv → Prop) (i : Instr) (len pc : Nat) (L : hp_LL) (st : List hp_hv) (S : hp_T) (E : Prop) (K : Nat → hp_LL → List hp_hv → hp_T → Prop) : Prop := match i with
  | .iconst v => len = 1 ∧ K (pc + 1) L (.inl (Int32.ofInt v) :: st) S
  | .bipush v => len = 2 ∧ K (pc + 2) L (.inl (Int8.ofInt v).toInt32 :: st) S
  | .sipush v => len = 3 ∧ K (pc + 3) L (.inl (Int16.ofInt v).toInt32 :: st) S
  | .lconst v => len = 1 ∧ K (pc + 1) L (.inr (.inl (Int64.ofNat v.val)) :: st) S
  | .aconst_null => len = 1 ∧ K (pc + 1) L (.inr (.inr none) :: st) S
  | .iload_n j => len = 1 ∧ hp_ld 0 (hp_lg L j.val) (fun v => K (pc + 1) L (v :: st) S)
  | .iload j => len = 2 ∧ hp_ld 0 (hp_lg L j) (fun v => K (pc + 2) L (v :: st) S)
  | .istore_n j => len = 1 ∧ j.val < nL ∧ hp_s1 0 st (fun v r => K (pc + 1) (hp_ls L j.val v) r S)
  | .istore j => len = 2 ∧ j < nL ∧ hp_s1 0 st (fun v r => K (pc + 2) (hp_ls L j v) r S)
  | .lload_n j => len = 1 ∧ hp_ld 1 (hp_lg L j.val) (fun v => K (pc + 1) L (v :: st) S)
  | .lload j => len = 2 ∧ hp_ld 1 (hp_lg L j) (fun v => K (pc + 2) L (v :: st) S)
  | .lstore_n j => len = 1 ∧ j.val + 1 < nL ∧ hp_s1 1 st (fun v r => K (pc + 1) (hp_ls (hp_dl L (j.val + 1)) j.val v) r S)
  | .lstore j => len = 2 ∧ j + 1 < nL ∧ hp_s1 1 st (fun v r => K (pc + 2) (hp_ls (hp_dl L (j + 1)) j v) r S)
  | .aload_n j => len = 1 ∧ hp_ld 2 (hp_lg L j.val) (fun v => K (pc + 1) L (v :: st) S)
  | .aload j => len = 2 ∧ hp_ld 2 (hp_lg L j) (fun v => K (pc + 2) L (v :: st) S)
  | .astore_n j => len = 1 ∧ j.val < nL ∧ hp_s1 2 st (fun v r => K (pc + 1) (hp_ls L j.val v) r S)
  | .astore j => len = 2 ∧ j < nL ∧ hp_s1 2 st (fun v r => K (pc + 2) (hp_ls L j v) r S)
  | .iinc j d => len = 3 ∧ j < nL ∧ hp_ld 0 (hp_lg L j) (fun v => hq_i1 [v] (fun x _ => K (pc + 3) (hp_ls L j (.inl (x + Int32.ofInt d))) st S))
  | .iadd => len = 1 ∧ hq_i2 st (fun x y r => K (pc + 1) L (.inl (x + y) :: r) S)
  | .isub => len = 1 ∧ hq_i2 st (fun x y r => K (pc + 1) L (.inl (x - y) :: r) S)
  | .imul => len = 1 ∧ hq_i2 st (fun x y r => K (pc + 1) L (.inl (x * y) :: r) S)
  | .iand => len = 1 ∧ hq_i2 st (fun x y r => K (pc + 1) L (.inl (x &&& y) :: r) S)
  | .idiv => len = 1 ∧ hq_i2 st (fun x y r => ¬ y = 0 ∧ K (pc + 1) L (.inl (x / y) :: r) S)
  | .irem => len = 1 ∧ hq_i2 st (fun x y r => ¬ y = 0 ∧ K (pc + 1) L (.inl (x - x / y * y) :: r) S)
  | .ladd => len = 1 ∧ hq_l2 st (fun x y r => K (pc + 1) L (.inr (.inl (x + y)) :: r) S)
  | .lmul => len = 1 ∧ hq_l2 st (fun x y r => K (pc + 1) L (.inr (.inl (x * y)) :: r) S)
  | .ldiv => len = 1 ∧ hq_l2 st (fun x y r => ¬ y = 0 ∧ K (pc + 1) L (.inr (.inl (x / y)) :: r) S)
  | .lrem => len = 1 ∧ hq_l2 st (fun x y r => ¬ y = 0 ∧ K (pc + 1) L (.inr (.inl (x - x / y * y)) :: r) S)
  | .lcmp => len = 1 ∧ hq_l2 st (fun x y r => K (pc + 1) L (.inl (lg_cmp x y) :: r) S)
  | .i2l => len = 1 ∧ hq_i1 st (fun x r => K (pc + 1) L (.inr (.inl x.toInt64) :: r) S)
  | .l2i => len = 1 ∧ hq_l1 st (fun x r => K (pc + 1) L (.inl x.toInt32 :: r) S)
  | .dup => len = 1 ∧ (match st with
    | v :: r => hp_lng v = false ∧ K (pc + 1) L (v :: v :: r) S
    | _ => False)
  | .pop => len = 1 ∧ (match st with
    | v :: r => hp_lng v = false ∧ K (pc + 1) L r S
    | _ => False)
  | .dup2 => len = 1 ∧ (match st with
    | v :: w :: r => hp_lng v = false ∧ hp_lng w = false ∧ K (pc + 1) L (v :: w :: v :: w :: r) S
    | _ => False)
  | .ifCond .eq off => len = 3 ∧ hq_i1 st (fun x r => hp_br pc off (x = 0) (¬ x = 0) (fun t => K t L r S))
  | .if_icmp .eq off => len = 3 ∧ hq_i2 st (fun x y r => hp_br pc off (x = y) (¬ x = y) (fun t => K t L r S))
  | .ifCond .ne off => len = 3 ∧ hq_i1 st (fun x r => hp_br pc off (¬ x = 0) (x = 0) (fun t => K t L r S))
  | .if_icmp .ne off => len = 3 ∧ hq_i2 st (fun x y r => hp_br pc off (¬ x = y) (x = y) (fun t => K t L r S))
  | .ifCond .lt off => len = 3 ∧ hq_i1 st (fun x r => hp_br pc off (x < 0) (¬ x < 0) (fun t => K t L r S))
  | .if_icmp .lt off => len = 3 ∧ hq_i2 st (fun x y r => hp_br pc off (x < y) (¬ x < y) (fun t => K t L r S))
  | .ifCond .ge off => len = 3 ∧ hq_i1 st (fun x r => hp_br pc off (0 ≤ x) (¬ 0 ≤ x) (fun t => K t L r S))
  | .if_icmp .ge off => len = 3 ∧ hq_i2 st (fun x y r => hp_br pc off (y ≤ x) (¬ y ≤ x) (fun t => K t L r S))
  | .ifCond .gt off => len = 3 ∧ hq_i1 st (fun x r => hp_br pc off (0 < x) (¬ 0 < x) (fun t => K t L r S))
  | .if_icmp .gt off => len = 3 ∧ hq_i2 st (fun x y r => hp_br pc off (y < x) (¬ y < x) (fun t => K t L r S))
  | .ifCond .le off => len = 3 ∧ hq_i1 st (fun x r => hp_br pc off (x ≤ 0) (¬ x ≤ 0) (fun t => K t L r S))
  | .if_icmp .le off => len = 3 ∧ hq_i2 st (fun x y r => hp_br pc off (x ≤ y) (¬ x ≤ y) (fun t => K t L r S))
  | .if_acmp .eq off => len = 3 ∧ hq_r2 st (fun x y r => hp_br pc off (x = y) (¬ x = y) (fun t => K t L r S))
  | .if_acmp .ne off => len = 3 ∧ hq_r2 st (fun x y r => hp_br pc off (¬ x = y) (x = y) (fun t => K t L r S))
  | .ifnull off => len = 3 ∧ hq_r1 st (fun x r => hp_br pc off (x = none) (¬ x = none) (fun t => K t L r S))
  | .ifnonnull off => len = 3 ∧ hq_r1 st (fun x r => hp_br pc off (¬ x = none) (x = none) (fun t => K t L r S))
  | .goto off => len = 3 ∧ 0 ≤ (pc : Int) + off ∧ K ((pc : Int) + off).toNat L st S
  | .getfield idx => len = 3 ∧ (match hp_F o idx with
    | some (ci, f) => hq_r1 st (fun x r => ∃ a, x = some a ∧ hp_K S a = ci + 1 ∧ K (pc + 3) L (hp_fh S a (hp_ty ci f) f :: r) S)
    | none => False)
  | .putfield idx => (match hp_F o idx with
    | some (ci, f) => if hp_nfin ci f = true then len = 3 ∧ hp_vr st (fun v x r => ∃ a, x = some a ∧ hp_K S a = ci + 1 ∧ hp_fit (hp_ty ci f) v ∧ K (pc + 3) L r (hp_sF S a f v)) else E
    | none => False)
  | .iaload => len = 1 ∧ hp_ia st (fun x i r => ∃ a, x = some a ∧ hp_K S a = 6 ∧ vp_in i (hp_N S a) ∧ K (pc + 1) L (.inl (hp_I S a i.toNatClampNeg) :: r) S)
  | .baload => len = 1 ∧ hp_ia st (fun x i r => ∃ a, x = some a ∧ hp_K S a = 8 ∧ vp_in i (hp_N S a) ∧ K (pc + 1) L (.inl (hp_I S a i.toNatClampNeg) :: r) S)
  | .laload => len = 1 ∧ hp_ia st (fun x i r => ∃ a, x = some a ∧ hp_K S a = 7 ∧ vp_in i (hp_N S a) ∧ K (pc + 1) L (.inr (.inl (hp_J S a i.toNatClampNeg)) :: r) S)
  | .aaload => len = 1 ∧ hp_ia st (fun x i r => ∃ a, x = some a ∧ hp_K S a = 9 ∧ vp_in i (hp_N S a) ∧ K (pc + 1) L (.inr (.inr (hp_R S a i.toNatClampNeg)) :: r) S)
  | .iastore => len = 1 ∧ hp_via st (fun v x i r => hq_i1 [v] (fun y _ => ∃ a, x = some a ∧ hp_K S a = 6 ∧ vp_in i (hp_N S a) ∧ K (pc + 1) L r (hp_sI S a i.toNatClampNeg y)))
  | .bastore => len = 1 ∧ hp_via st (fun v x i r => hq_i1 [v] (fun y _ => ∃ a, x = some a ∧ hp_K S a = 8 ∧ vp_in i (hp_N S a) ∧ (y = 0 ∨ y = 1) ∧ K (pc + 1) L r (hp_sI S a i.toNatClampNeg y)))
  | .lastore => len = 1 ∧ hp_via st (fun v x i r => hq_l1 [v] (fun y _ => ∃ a, x = some a ∧ hp_K S a = 7 ∧ vp_in i (hp_N S a) ∧ K (pc + 1) L r (hp_sJ S a i.toNatClampNeg y)))
  | .aastore => len = 1 ∧ hp_via st (fun v x i r => hq_r1 [v] (fun y _ => ∃ a, x = some a ∧ hp_K S a = 9 ∧ vp_in i (hp_N S a) ∧ (∀ b, y = some b → hp_K S b = 2) ∧ K (pc + 1) L r (hp_sR S a i.toNatClampNeg y)))
  | .ireturn => len = 1 ∧ hp_rt (hp_rv .ireturn st) rt
  | .lreturn => len = 1 ∧ hp_rt (hp_rv .lreturn st) rt
  | .areturn => len = 1 ∧ hp_rt (hp_rv .areturn st) rt
  | .return_ => len = 1 ∧ hp_rt (hp_rv .return_ st) rt
  | _ => E
end HPW
