section HPR
theorem hp_st_ok {X : hp_X} {cc : ByteArray} {nL o : Nat} {rt : Option hp_hv → hp_T → Nat → Nat → Prop} {i : Instr} {len pc : Nat} {L : hp_LL} {st : List hp_hv} {S : hp_T} {k n : Nat} {E : Prop} {K : Nat → hp_LL → List hp_hv → hp_T → Prop} (C : hp_C X cc nL o rt) (hd : decode cc pc = .ok (i, len)) (hE : E → hp_V X nL pc L st S k n) (hK : ∀ pc L st S, K pc L st S → hp_V X nL pc L st S k n) (h : hp_st nL o (fun v => rt v S k n) i len pc L st S E K) : hp_V X nL pc L st S k n := by
  cases i with
  | iconst _ => exact hk_iconst C.1 hd hK h
  | bipush _ => exact hk_bipush C.1 hd hK h
  | sipush _ => exact hk_sipush C.1 hd hK h
  | lconst _ => exact hk_lconst C.1 hd hK h
  | aconst_null  => exact hk_aconst_null C.1 hd hK h
  | iload_n _ => exact hk_iload_n C.1 hd hK h
  | iload _ => exact hk_iload C.1 hd hK h
  | lload_n _ => exact hk_lload_n C.1 hd hK h
  | lload _ => exact hk_lload C.1 hd hK h
  | aload_n _ => exact hk_aload_n C.1 hd hK h
  | aload _ => exact hk_aload C.1 hd hK h
  | istore_n _ => exact hk_istore_n C.1 hd hK h
  | lstore_n _ => exact hk_lstore_n C.1 hd hK h
  | astore_n _ => exact hk_astore_n C.1 hd hK h
  | istore _ => exact hk_istore C.1 hd hK h
  | lstore _ => exact hk_lstore C.1 hd hK h
  | astore _ => exact hk_astore C.1 hd hK h
  | iinc _ _ => exact hk_iinc C.1 hd hK h
  | iadd  => exact hk_iadd C.1 hd hK h
  | isub  => exact hk_isub C.1 hd hK h
  | imul  => exact hk_imul C.1 hd hK h
  | iand  => exact hk_iand C.1 hd hK h
  | idiv  => exact hk_idiv C.1 hd hK h
  | irem  => exact hk_irem C.1 hd hK h
  | ladd  => exact hk_ladd C.1 hd hK h
  | lmul  => exact hk_lmul C.1 hd hK h
  | ldiv  => exact hk_ldiv C.1 hd hK h
  | lrem  => exact hk_lrem C.1 hd hK h
  | lcmp  => exact hk_lcmp C.1 hd hK h
  | i2l  => exact hk_i2l C.1 hd hK h
  | l2i  => exact hk_l2i C.1 hd hK h
  | dup  => exact hk_dup C.1 hd hK h
  | pop  => exact hk_pop C.1 hd hK h
  | dup2  => exact hk_dup2 C.1 hd hK h
  | ifnull _ => exact hk_ifnull C.1 hd hK h
  | ifnonnull _ => exact hk_ifnonnull C.1 hd hK h
  | goto _ => exact hk_goto C.1 hd hK h
  | getfield _ => exact hk_getfield C.1 hd hK h
  | iaload  => exact hk_iaload C.1 hd hK h
  | laload  => exact hk_laload C.1 hd hK h
  | baload  => exact hk_baload C.1 hd hK h
  | aaload  => exact hk_aaload C.1 hd hK h
  | iastore  => exact hk_iastore C.1 hd hK h
  | lastore  => exact hk_lastore C.1 hd hK h
  | bastore  => exact hk_bastore C.1 hd hK h
  | aastore  => exact hk_aastore C.1 hd hK h
  | ifCond cnd off =>
    cases cnd with
    | eq => exact hk_if_eq C.1 hd hK h
    | ne => exact hk_if_ne C.1 hd hK h
    | lt => exact hk_if_lt C.1 hd hK h
    | ge => exact hk_if_ge C.1 hd hK h
    | gt => exact hk_if_gt C.1 hd hK h
    | le => exact hk_if_le C.1 hd hK h
  | if_icmp cnd off =>
    cases cnd with
    | eq => exact hk_icmp_eq C.1 hd hK h
    | ne => exact hk_icmp_ne C.1 hd hK h
    | lt => exact hk_icmp_lt C.1 hd hK h
    | ge => exact hk_icmp_ge C.1 hd hK h
    | gt => exact hk_icmp_gt C.1 hd hK h
    | le => exact hk_icmp_le C.1 hd hK h
  | if_acmp cnd off =>
    cases cnd with
    | eq => exact hk_acmp_eq C.1 hd hK h
    | ne => exact hk_acmp_ne C.1 hd hK h
  | putfield idx => exact hk_putfield C.1 hd hE hK h
  | ireturn =>
    obtain ⟨rfl, h⟩ := h
    cases hv : hp_rv .ireturn st with
    | none => rw [hv] at h; exact (show False from h).elim
    | some v => rw [hv] at h; exact C.2 _ _ L st S k n v hd hv h
  | lreturn =>
    obtain ⟨rfl, h⟩ := h
    cases hv : hp_rv .lreturn st with
    | none => rw [hv] at h; exact (show False from h).elim
    | some v => rw [hv] at h; exact C.2 _ _ L st S k n v hd hv h
  | areturn =>
    obtain ⟨rfl, h⟩ := h
    cases hv : hp_rv .areturn st with
    | none => rw [hv] at h; exact (show False from h).elim
    | some v => rw [hv] at h; exact C.2 _ _ L st S k n v hd hv h
  | return_ =>
    obtain ⟨rfl, h⟩ := h
    cases hv : hp_rv .return_ st with
    | none => rw [hv] at h; exact (show False from h).elim
    | some v => rw [hv] at h; exact C.2 _ _ L st S k n v hd hv h
  | _ => exact hE h
def hp_cut : List Nat → Nat → Bool
  | [], _ => false
  | c :: l, pc => c == pc || hp_cut l pc
/-- a run of at most f instructions, up to the cuts: what must hold so that the walk comes to its end -/
def hp_wp (X : hp_X) (cc : ByteArray) (nL o : Nat) (rt : Option hp_hv → hp_T → Nat → Nat → Prop) (cuts : List Nat) (k n : Nat) : Nat → Nat → hp_LL → List hp_hv → hp_T → Prop
  | 0, pc, L, st, S => hp_V X nL pc L st S k n
  | f + 1, pc, L, st, S => if hp_cut cuts pc = true then hp_V X nL pc L st S k n else match decode cc pc with
    | .ok (i, len) => hp_st nL o (fun v => rt v S k n) i len pc L st S (hp_V X nL pc L st S k n) (hp_wp X cc nL o rt cuts k n f)
    | .error _ => False
theorem hp_run {X : hp_X} {cc : ByteArray} {nL o : Nat} {rt : Option hp_hv → hp_T → Nat → Nat → Prop} (C : hp_C X cc nL o rt) (cuts : List Nat) {k n : Nat} : ∀ (f pc : Nat) (L : hp_LL) (st : List hp_hv) (S : hp_T), hp_wp X cc nL o rt cuts k n f pc L st S → hp_V X nL pc L st S k n := by
  intro f
  induction f with
  | zero => exact fun pc L st S h => h
  | succ f ih =>
    intro pc L st S h
    unfold hp_wp at h
    by_cases hc : hp_cut cuts pc = true
    · rw [if_pos hc] at h
      exact h
    · rw [if_neg hc] at h
      cases hd : decode cc pc with
      | error x => rw [hd] at h; exact (show False from h).elim
      | ok q =>
        obtain ⟨i, len⟩ := q
        rw [hd] at h
        exact hp_st_ok C hd (fun h => h) ih h
/-- the same, its first instruction not held up by the cuts -/
theorem hp_run1 {X : hp_X} {cc : ByteArray} {nL o : Nat} {rt : Option hp_hv → hp_T → Nat → Nat → Prop} (C : hp_C X cc nL o rt) (cuts : List Nat) {k n : Nat} (f : Nat) {pc : Nat} {L : hp_LL} {st : List hp_hv} {S : hp_T} {i : Instr} {len : Nat} (hd : decode cc pc = .ok (i, len)) (h : hp_st nL o (fun v => rt v S k n) i len pc L st S (hp_V X nL pc L st S k n) (hp_wp X cc nL o rt cuts k n f)) : hp_V X nL pc L st S k n := hp_st_ok C hd (fun h => h) (hp_run C cuts f) h
/-- rows for simp -/
theorem hp_wp0 {X : hp_X} {cc : ByteArray} {nL o : Nat} {rt : Option hp_hv → hp_T → Nat → Nat → Prop} {cuts : List Nat} {k n : Nat} {pc : Nat} {L : hp_LL} {st : List hp_hv} {S : hp_T} : hp_wp X cc nL o rt cuts k n 0 pc L st S = hp_V X nL pc L st S k n := rfl
theorem hp_wpS {X : hp_X} {cc : ByteArray} {nL o : Nat} {rt : Option hp_hv → hp_T → Nat → Nat → Prop} {cuts : List Nat} {k n f : Nat} {pc : Nat} {L : hp_LL} {st : List hp_hv} {S : hp_T} : hp_wp X cc nL o rt cuts k n (f + 1) pc L st S = if hp_cut cuts pc = true then hp_V X nL pc L st S k n else match decode cc pc with
    | .ok (i, len) => hp_st nL o (fun v => rt v S k n) i len pc L st S (hp_V X nL pc L st S k n) (hp_wp X cc nL o rt cuts k n f)
    | .error _ => False := rfl
end HPR
