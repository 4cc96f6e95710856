section HPE
variable (nL o : Nat) (rt : Option hp_hv → Prop) (len pc : Nat) (L : hp_LL) (st : List hp_hv) (S : hp_T) (E : Prop) (K : Nat → hp_LL → List hp_hv → hp_T → Prop)
theorem hr_iconst (v : Int) : hp_st nL o rt (.iconst v) len pc L st S E K = (len = 1 ∧ K (pc + 1) L (.inl (Int32.ofInt v) :: st) S) := rfl
theorem hr_bipush (v : Int) : hp_st nL o rt (.bipush v) len pc L st S E K = (len = 2 ∧ K (pc + 2) L (.inl (Int8.ofInt v).toInt32 :: st) S) := rfl
theorem hr_sipush (v : Int) : hp_st nL o rt (.sipush v) len pc L st S E K = (len = 3 ∧ K (pc + 3) L (.inl (Int16.ofInt v).toInt32 :: st) S) := rfl
theorem hr_lconst (v : Fin 2) : hp_st nL o rt (.lconst v) len pc L st S E K = (len = 1 ∧ K (pc + 1) L (.inr (.inl (Int64.ofNat v.val)) :: st) S) := rfl
theorem hr_aconst_null  : hp_st nL o rt (.aconst_null) len pc L st S E K = (len = 1 ∧ K (pc + 1) L (.inr (.inr none) :: st) S) := rfl
theorem hr_iload_n (j : Fin 4) : hp_st nL o rt (.iload_n j) len pc L st S E K = (len = 1 ∧ hp_ld 0 (hp_lg L j.val) (fun v => K (pc + 1) L (v :: st) S)) := rfl
theorem hr_iload (j : Nat) : hp_st nL o rt (.iload j) len pc L st S E K = (len = 2 ∧ hp_ld 0 (hp_lg L j) (fun v => K (pc + 2) L (v :: st) S)) := rfl
theorem hr_istore_n (j : Fin 4) : hp_st nL o rt (.istore_n j) len pc L st S E K = (len = 1 ∧ j.val < nL ∧ hp_s1 0 st (fun v r => K (pc + 1) (hp_ls L j.val v) r S)) := rfl
theorem hr_istore (j : Nat) : hp_st nL o rt (.istore j) len pc L st S E K = (len = 2 ∧ j < nL ∧ hp_s1 0 st (fun v r => K (pc + 2) (hp_ls L j v) r S)) := rfl
theorem hr_lload_n (j : Fin 4) : hp_st nL o rt (.lload_n j) len pc L st S E K = (len = 1 ∧ hp_ld 1 (hp_lg L j.val) (fun v => K (pc + 1) L (v :: st) S)) := rfl
theorem hr_lload (j : Nat) : hp_st nL o rt (.lload j) len pc L st S E K = (len = 2 ∧ hp_ld 1 (hp_lg L j) (fun v => K (pc + 2) L (v :: st) S)) := rfl
theorem hr_lstore_n (j : Fin 4) : hp_st nL o rt (.lstore_n j) len pc L st S E K = (len = 1 ∧ j.val + 1 < nL ∧ hp_s1 1 st (fun v r => K (pc + 1) (hp_ls (hp_dl L (j.val + 1)) j.val v) r S)) := rfl
theorem hr_lstore (j : Nat) : hp_st nL o rt (.lstore j) len pc L st S E K = (len = 2 ∧ j + 1 < nL ∧ hp_s1 1 st (fun v r => K (pc + 2) (hp_ls (hp_dl L (j + 1)) j v) r S)) := rfl
theorem hr_aload_n (j : Fin 4) : hp_st nL o rt (.aload_n j) len pc L st S E K = (len = 1 ∧ hp_ld 2 (hp_lg L j.val) (fun v => K (pc + 1) L (v :: st) S)) := rfl
theorem hr_aload (j : Nat) : hp_st nL o rt (.aload j) len pc L st S E K = (len = 2 ∧ hp_ld 2 (hp_lg L j) (fun v => K (pc + 2) L (v :: st) S)) := rfl
theorem hr_astore_n (j : Fin 4) : hp_st nL o rt (.astore_n j) len pc L st S E K = (len = 1 ∧ j.val < nL ∧ hp_s1 2 st (fun v r => K (pc + 1) (hp_ls L j.val v) r S)) := rfl
theorem hr_astore (j : Nat) : hp_st nL o rt (.astore j) len pc L st S E K = (len = 2 ∧ j < nL ∧ hp_s1 2 st (fun v r => K (pc + 2) (hp_ls L j v) r S)) := rfl
theorem hr_iinc (j : Nat) (d : Int) : hp_st nL o rt (.iinc j d) len pc L st S E K = (len = 3 ∧ j < nL ∧ hp_ld 0 (hp_lg L j) (fun v => hq_i1 [v] (fun x _ => K (pc + 3) (hp_ls L j (.inl (x + Int32.ofInt d))) st S))) := rfl
theorem hr_iadd  : hp_st nL o rt (.iadd) len pc L st S E K = (len = 1 ∧ hq_i2 st (fun x y r => K (pc + 1) L (.inl (x + y) :: r) S)) := rfl
theorem hr_isub  : hp_st nL o rt (.isub) len pc L st S E K = (len = 1 ∧ hq_i2 st (fun x y r => K (pc + 1) L (.inl (x - y) :: r) S)) := rfl
theorem hr_imul  : hp_st nL o rt (.imul) len pc L st S E K = (len = 1 ∧ hq_i2 st (fun x y r => K (pc + 1) L (.inl (x * y) :: r) S)) := rfl
theorem hr_iand  : hp_st nL o rt (.iand) len pc L st S E K = (len = 1 ∧ hq_i2 st (fun x y r => K (pc + 1) L (.inl (x &&& y) :: r) S)) := rfl
theorem hr_idiv  : hp_st nL o rt (.idiv) len pc L st S E K = (len = 1 ∧ hq_i2 st (fun x y r => ¬ y = 0 ∧ K (pc + 1) L (.inl (x / y) :: r) S)) := rfl
theorem hr_irem  : hp_st nL o rt (.irem) len pc L st S E K = (len = 1 ∧ hq_i2 st (fun x y r => ¬ y = 0 ∧ K (pc + 1) L (.inl (x - x / y * y) :: r) S)) := rfl
theorem hr_ladd  : hp_st nL o rt (.ladd) len pc L st S E K = (len = 1 ∧ hq_l2 st (fun x y r => K (pc + 1) L (.inr (.inl (x + y)) :: r) S)) := rfl
theorem hr_lmul  : hp_st nL o rt (.lmul) len pc L st S E K = (len = 1 ∧ hq_l2 st (fun x y r => K (pc + 1) L (.inr (.inl (x * y)) :: r) S)) := rfl
theorem hr_ldiv  : hp_st nL o rt (.ldiv) len pc L st S E K = (len = 1 ∧ hq_l2 st (fun x y r => ¬ y = 0 ∧ K (pc + 1) L (.inr (.inl (x / y)) :: r) S)) := rfl
theorem hr_lrem  : hp_st nL o rt (.lrem) len pc L st S E K = (len = 1 ∧ hq_l2 st (fun x y r => ¬ y = 0 ∧ K (pc + 1) L (.inr (.inl (x - x / y * y)) :: r) S)) := rfl
theorem hr_lcmp  : hp_st nL o rt (.lcmp) len pc L st S E K = (len = 1 ∧ hq_l2 st (fun x y r => K (pc + 1) L (.inl (lg_cmp x y) :: r) S)) := rfl
theorem hr_i2l  : hp_st nL o rt (.i2l) len pc L st S E K = (len = 1 ∧ hq_i1 st (fun x r => K (pc + 1) L (.inr (.inl x.toInt64) :: r) S)) := rfl
theorem hr_l2i  : hp_st nL o rt (.l2i) len pc L st S E K = (len = 1 ∧ hq_l1 st (fun x r => K (pc + 1) L (.inl x.toInt32 :: r) S)) := rfl
theorem hr_dup  : hp_st nL o rt (.dup) len pc L st S E K = (len = 1 ∧ (match st with
    | v :: r => hp_lng v = false ∧ K (pc + 1) L (v :: v :: r) S
    | _ => False)) := rfl
theorem hr_pop  : hp_st nL o rt (.pop) len pc L st S E K = (len = 1 ∧ (match st with
    | v :: r => hp_lng v = false ∧ K (pc + 1) L r S
    | _ => False)) := rfl
theorem hr_dup2  : hp_st nL o rt (.dup2) len pc L st S E K = (len = 1 ∧ (match st with
    | v :: w :: r => hp_lng v = false ∧ hp_lng w = false ∧ K (pc + 1) L (v :: w :: v :: w :: r) S
    | _ => False)) := rfl
theorem hr_ifCond_eq (off : Int) : hp_st nL o rt (.ifCond .eq off) len pc L st S E K = (len = 3 ∧ hq_i1 st (fun x r => hp_br pc off (x = 0) (¬ x = 0) (fun t => K t L r S))) := rfl
theorem hr_if_icmp_eq (off : Int) : hp_st nL o rt (.if_icmp .eq off) len pc L st S E K = (len = 3 ∧ hq_i2 st (fun x y r => hp_br pc off (x = y) (¬ x = y) (fun t => K t L r S))) := rfl
theorem hr_ifCond_ne (off : Int) : hp_st nL o rt (.ifCond .ne off) len pc L st S E K = (len = 3 ∧ hq_i1 st (fun x r => hp_br pc off (¬ x = 0) (x = 0) (fun t => K t L r S))) := rfl
theorem hr_if_icmp_ne (off : Int) : hp_st nL o rt (.if_icmp .ne off) len pc L st S E K = (len = 3 ∧ hq_i2 st (fun x y r => hp_br pc off (¬ x = y) (x = y) (fun t => K t L r S))) := rfl
theorem hr_ifCond_lt (off : Int) : hp_st nL o rt (.ifCond .lt off) len pc L st S E K = (len = 3 ∧ hq_i1 st (fun x r => hp_br pc off (x < 0) (¬ x < 0) (fun t => K t L r S))) := rfl
theorem hr_if_icmp_lt (off : Int) : hp_st nL o rt (.if_icmp .lt off) len pc L st S E K = (len = 3 ∧ hq_i2 st (fun x y r => hp_br pc off (x < y) (¬ x < y) (fun t => K t L r S))) := rfl
theorem hr_ifCond_ge (off : Int) : hp_st nL o rt (.ifCond .ge off) len pc L st S E K = (len = 3 ∧ hq_i1 st (fun x r => hp_br pc off (0 ≤ x) (¬ 0 ≤ x) (fun t => K t L r S))) := rfl
theorem hr_if_icmp_ge (off : Int) : hp_st nL o rt (.if_icmp .ge off) len pc L st S E K = (len = 3 ∧ hq_i2 st (fun x y r => hp_br pc off (y ≤ x) (¬ y ≤ x) (fun t => K t L r S))) := rfl
theorem hr_ifCond_gt (off : Int) : hp_st nL o rt (.ifCond .gt off) len pc L st S E K = (len = 3 ∧ hq_i1 st (fun x r => hp_br pc off (0 < x) (¬ 0 < x) (fun t => K t L r S))) := rfl
theorem hr_if_icmp_gt (off : Int) : hp_st nL o rt (.if_icmp .gt off) len pc L st S E K = (len = 3 ∧ hq_i2 st (fun x y r => hp_br pc off (y < x) (¬ y < x) (fun t => K t L r S))) := rfl
theorem hr_ifCond_le (off : Int) : hp_st nL o rt (.ifCond .le off) len pc L st S E K = (len = 3 ∧ hq_i1 st (fun x r => hp_br pc off (x ≤ 0) (¬ x ≤ 0) (fun t => K t L r S))) := rfl
theorem hr_if_icmp_le (off : Int) : hp_st nL o rt (.if_icmp .le off) len pc L st S E K = (len = 3 ∧ hq_i2 st (fun x y r => hp_br pc off (x ≤ y) (¬ x ≤ y) (fun t => K t L r S))) := rfl
theorem hr_if_acmp_eq (off : Int) : hp_st nL o rt (.if_acmp .eq off) len pc L st S E K = (len = 3 ∧ hq_r2 st (fun x y r => hp_br pc off (x = y) (¬ x = y) (fun t => K t L r S))) := rfl
theorem hr_if_acmp_ne (off : Int) : hp_st nL o rt (.if_acmp .ne off) len pc L st S E K = (len = 3 ∧ hq_r2 st (fun x y r => hp_br pc off (¬ x = y) (x = y) (fun t => K t L r S))) := rfl
theorem hr_ifnull (off : Int) : hp_st nL o rt (.ifnull off) len pc L st S E K = (len = 3 ∧ hq_r1 st (fun x r => hp_br pc off (x = none) (¬ x = none) (fun t => K t L r S))) := rfl
theorem hr_ifnonnull (off : Int) : hp_st nL o rt (.ifnonnull off) len pc L st S E K = (len = 3 ∧ hq_r1 st (fun x r => hp_br pc off (¬ x = none) (x = none) (fun t => K t L r S))) := rfl
theorem hr_goto (off : Int) : hp_st nL o rt (.goto off) len pc L st S E K = (len = 3 ∧ 0 ≤ (pc : Int) + off ∧ K ((pc : Int) + off).toNat L st S) := rfl
theorem hr_getfield (idx : Nat) : hp_st nL o rt (.getfield idx) len pc L st S E K = (len = 3 ∧ (match hp_F o idx with
    | some (ci, f) => hq_r1 st (fun x r => ∃ a, x = some a ∧ hp_K S a = ci + 1 ∧ K (pc + 3) L (hp_fh S a (hp_ty ci f) f :: r) S)
    | none => False)) := rfl
theorem hr_putfield (idx : Nat) : hp_st nL o rt (.putfield idx) len pc L st S E K = ((match hp_F o idx with
    | some (ci, f) => if hp_nfin ci f = true then len = 3 ∧ hp_vr st (fun v x r => ∃ a, x = some a ∧ hp_K S a = ci + 1 ∧ hp_fit (hp_ty ci f) v ∧ K (pc + 3) L r (hp_sF S a f v)) else E
    | none => False)) := rfl
theorem hr_iaload  : hp_st nL o rt (.iaload) len pc L st S E K = (len = 1 ∧ hp_ia st (fun x i r => ∃ a, x = some a ∧ hp_K S a = 6 ∧ vp_in i (hp_N S a) ∧ K (pc + 1) L (.inl (hp_I S a i.toNatClampNeg) :: r) S)) := rfl
theorem hr_baload  : hp_st nL o rt (.baload) len pc L st S E K = (len = 1 ∧ hp_ia st (fun x i r => ∃ a, x = some a ∧ hp_K S a = 8 ∧ vp_in i (hp_N S a) ∧ K (pc + 1) L (.inl (hp_I S a i.toNatClampNeg) :: r) S)) := rfl
theorem hr_laload  : hp_st nL o rt (.laload) len pc L st S E K = (len = 1 ∧ hp_ia st (fun x i r => ∃ a, x = some a ∧ hp_K S a = 7 ∧ vp_in i (hp_N S a) ∧ K (pc + 1) L (.inr (.inl (hp_J S a i.toNatClampNeg)) :: r) S)) := rfl
theorem hr_aaload  : hp_st nL o rt (.aaload) len pc L st S E K = (len = 1 ∧ hp_ia st (fun x i r => ∃ a, x = some a ∧ hp_K S a = 9 ∧ vp_in i (hp_N S a) ∧ K (pc + 1) L (.inr (.inr (hp_R S a i.toNatClampNeg)) :: r) S)) := rfl
theorem hr_iastore  : hp_st nL o rt (.iastore) len pc L st S E K = (len = 1 ∧ hp_via st (fun v x i r => hq_i1 [v] (fun y _ => ∃ a, x = some a ∧ hp_K S a = 6 ∧ vp_in i (hp_N S a) ∧ K (pc + 1) L r (hp_sI S a i.toNatClampNeg y)))) := rfl
theorem hr_bastore  : hp_st nL o rt (.bastore) len pc L st S E K = (len = 1 ∧ hp_via st (fun v x i r => hq_i1 [v] (fun y _ => ∃ a, x = some a ∧ hp_K S a = 8 ∧ vp_in i (hp_N S a) ∧ (y = 0 ∨ y = 1) ∧ K (pc + 1) L r (hp_sI S a i.toNatClampNeg y)))) := rfl
theorem hr_lastore  : hp_st nL o rt (.lastore) len pc L st S E K = (len = 1 ∧ hp_via st (fun v x i r => hq_l1 [v] (fun y _ => ∃ a, x = some a ∧ hp_K S a = 7 ∧ vp_in i (hp_N S a) ∧ K (pc + 1) L r (hp_sJ S a i.toNatClampNeg y)))) := rfl
theorem hr_aastore  : hp_st nL o rt (.aastore) len pc L st S E K = (len = 1 ∧ hp_via st (fun v x i r => hq_r1 [v] (fun y _ => ∃ a, x = some a ∧ hp_K S a = 9 ∧ vp_in i (hp_N S a) ∧ (∀ b, y = some b → hp_K S b = 2) ∧ K (pc + 1) L r (hp_sR S a i.toNatClampNeg y)))) := rfl
theorem hr_ireturn  : hp_st nL o rt (.ireturn) len pc L st S E K = (len = 1 ∧ hp_rt (hp_rv .ireturn st) rt) := rfl
theorem hr_lreturn  : hp_st nL o rt (.lreturn) len pc L st S E K = (len = 1 ∧ hp_rt (hp_rv .lreturn st) rt) := rfl
theorem hr_areturn  : hp_st nL o rt (.areturn) len pc L st S E K = (len = 1 ∧ hp_rt (hp_rv .areturn st) rt) := rfl
theorem hr_return_  : hp_st nL o rt (.return_) len pc L st S E K = (len = 1 ∧ hp_rt (hp_rv .return_ st) rt) := rfl
theorem hr_ldc (idx : Nat) : hp_st nL o rt (.ldc idx) len pc L st S E K = E := rfl
theorem hr_ldc2_w (idx : Nat) : hp_st nL o rt (.ldc2_w idx) len pc L st S E K = E := rfl
theorem hr_invokevirtual (idx : Nat) : hp_st nL o rt (.invokevirtual idx) len pc L st S E K = E := rfl
theorem hr_invokespecial (idx : Nat) : hp_st nL o rt (.invokespecial idx) len pc L st S E K = E := rfl
theorem hr_invokestatic (idx : Nat) : hp_st nL o rt (.invokestatic idx) len pc L st S E K = E := rfl
theorem hr_new (idx : Nat) : hp_st nL o rt (.new idx) len pc L st S E K = E := rfl
theorem hr_newarray (t : ArrayType) : hp_st nL o rt (.newarray t) len pc L st S E K = E := rfl
theorem hr_anewarray (idx : Nat) : hp_st nL o rt (.anewarray idx) len pc L st S E K = E := rfl
theorem hr_athrow  : hp_st nL o rt (.athrow) len pc L st S E K = E := rfl
theorem hr_tableswitch (d lo hi : Int) (os : Array Int) : hp_st nL o rt (.tableswitch d lo hi os) len pc L st S E K = E := rfl
end HPE
section HPE2
theorem hz_i1 (x : Int32) (r : List hp_hv) (K : Int32 → List hp_hv → Prop) : hq_i1 (.inl x :: r) K = K x r := rfl
theorem hz_i2 (x y : Int32) (r : List hp_hv) (K : Int32 → Int32 → List hp_hv → Prop) : hq_i2 (.inl y :: .inl x :: r) K = K x y r := rfl
theorem hz_l1 (x : Int64) (r : List hp_hv) (K : Int64 → List hp_hv → Prop) : hq_l1 (.inr (.inl x) :: r) K = K x r := rfl
theorem hz_l2 (x y : Int64) (r : List hp_hv) (K : Int64 → Int64 → List hp_hv → Prop) : hq_l2 (.inr (.inl y) :: .inr (.inl x) :: r) K = K x y r := rfl
theorem hz_r1 (x : Option Nat) (r : List hp_hv) (K : Option Nat → List hp_hv → Prop) : hq_r1 (.inr (.inr x) :: r) K = K x r := rfl
theorem hz_r2 (x y : Option Nat) (r : List hp_hv) (K : Option Nat → Option Nat → List hp_hv → Prop) : hq_r2 (.inr (.inr y) :: .inr (.inr x) :: r) K = K x y r := rfl
theorem hz_ia (x : Option Nat) (i : Int32) (r : List hp_hv) (K : Option Nat → Int32 → List hp_hv → Prop) : hp_ia (.inl i :: .inr (.inr x) :: r) K = K x i r := rfl
theorem hz_via (v : hp_hv) (x : Option Nat) (i : Int32) (r : List hp_hv) (K : hp_hv → Option Nat → Int32 → List hp_hv → Prop) : hp_via (v :: .inl i :: .inr (.inr x) :: r) K = K v x i r := rfl
theorem hz_vr (v : hp_hv) (x : Option Nat) (r : List hp_hv) (K : hp_hv → Option Nat → List hp_hv → Prop) : hp_vr (v :: .inr (.inr x) :: r) K = K v x r := rfl
theorem hz_ld0 (x : Int32) (K : hp_hv → Prop) : hp_ld 0 (some (.inl x)) K = K (.inl x) := rfl
theorem hz_ld1 (x : Int64) (K : hp_hv → Prop) : hp_ld 1 (some (.inr (.inl x))) K = K (.inr (.inl x)) := rfl
theorem hz_ld2 (x : Option Nat) (K : hp_hv → Prop) : hp_ld 2 (some (.inr (.inr x))) K = K (.inr (.inr x)) := rfl
theorem hz_s0 (x : Int32) (r : List hp_hv) (K : hp_hv → List hp_hv → Prop) : hp_s1 0 (.inl x :: r) K = K (.inl x) r := rfl
theorem hz_s1 (x : Int64) (r : List hp_hv) (K : hp_hv → List hp_hv → Prop) : hp_s1 1 (.inr (.inl x) :: r) K = K (.inr (.inl x)) r := rfl
theorem hz_s2 (x : Option Nat) (r : List hp_hv) (K : hp_hv → List hp_hv → Prop) : hp_s1 2 (.inr (.inr x) :: r) K = K (.inr (.inr x)) r := rfl
theorem hz_g0 (i : Nat) : hp_lg [] i = none := rfl
theorem hz_g1 (j i : Nat) (v : hp_hv) (L : hp_LL) : hp_lg ((j, v) :: L) i = if j = i then some v else hp_lg L i := rfl
theorem hz_d0 (i : Nat) : hp_dl [] i = [] := rfl
theorem hz_d1 (j i : Nat) (x : Int32) (L : hp_LL) : hp_dl ((j, .inl x) :: L) i = if j = i then hp_dl L i else (j, .inl x) :: hp_dl L i := by simp [hp_dl, hp_lng]
theorem hz_d3 (j i : Nat) (x : Option Nat) (L : hp_LL) : hp_dl ((j, .inr (.inr x)) :: L) i = if j = i then hp_dl L i else (j, .inr (.inr x)) :: hp_dl L i := by simp [hp_dl, hp_lng]
theorem hz_d2 (j i : Nat) (x : Int64) (L : hp_LL) : hp_dl ((j, .inr (.inl x)) :: L) i = if j = i then hp_dl L i else if j + 1 = i then hp_dl L i else (j, .inr (.inl x)) :: hp_dl L i := by simp [hp_dl, hp_lng]
theorem hz_t0 (i : Nat) (v : hp_hv) : hp_ls [] i v = [(i, v)] := rfl
theorem hz_t1 (j i : Nat) (x : Int32) (v : hp_hv) (L : hp_LL) : hp_ls ((j, .inl x) :: L) i v = if j = i then (i, v) :: hp_dl L i else (j, .inl x) :: hp_ls L i v := by simp [hp_ls, hp_lng]
theorem hz_t3 (j i : Nat) (x : Option Nat) (v : hp_hv) (L : hp_LL) : hp_ls ((j, .inr (.inr x)) :: L) i v = if j = i then (i, v) :: hp_dl L i else (j, .inr (.inr x)) :: hp_ls L i v := by simp [hp_ls, hp_lng]
theorem hz_t2 (j i : Nat) (x : Int64) (v : hp_hv) (L : hp_LL) : hp_ls ((j, .inr (.inl x)) :: L) i v = if j = i then (i, v) :: hp_dl L i else if j + 1 = i then hp_ls L i v else (j, .inr (.inl x)) :: hp_ls L i v := by simp [hp_ls, hp_lng]
theorem hz_c0 (pc : Nat) : hp_cut [] pc = false := rfl
theorem hz_c1 (c pc : Nat) (l : List Nat) : hp_cut (c :: l) pc = (c == pc || hp_cut l pc) := rfl
theorem hz_rti (x : Int32) (rt : Option hp_hv → Prop) : hp_rt (hp_rv .ireturn [.inl x]) rt = rt (some (.inl x)) := rfl
theorem hz_rtl (x : Int64) (rt : Option hp_hv → Prop) : hp_rt (hp_rv .lreturn [.inr (.inl x)]) rt = rt (some (.inr (.inl x))) := rfl
theorem hz_rta (x : Option Nat) (rt : Option hp_hv → Prop) : hp_rt (hp_rv .areturn [.inr (.inr x)]) rt = rt (some (.inr (.inr x))) := rfl
theorem hz_rtv (rt : Option hp_hv → Prop) : hp_rt (hp_rv .return_ []) rt = rt none := rfl
theorem hz_br (pc : Nat) (off : Int) (P N : Prop) (K : Nat → Prop) : hp_br pc off P N K = (0 ≤ (pc : Int) + off ∧ (P → K ((pc : Int) + off).toNat) ∧ (N → K (pc + 3))) := rfl
theorem hz_fh0 (S : hp_T) (a k : Nat) : hp_fh S a 0 k = .inl (hp_I S a k) := rfl
theorem hz_fh1 (S : hp_T) (a k : Nat) : hp_fh S a 1 k = .inr (.inl (hp_J S a k)) := rfl
theorem hz_fh2 (S : hp_T) (a k : Nat) : hp_fh S a 2 k = .inr (.inr (hp_R S a k)) := rfl
theorem hz_fh3 (S : hp_T) (a k : Nat) : hp_fh S a 3 k = .inl (hp_I S a k) := rfl
theorem hz_ft0 (x : Int32) : hp_fit 0 (.inl x) = True := rfl
theorem hz_ft1 (x : Int64) : hp_fit 1 (.inr (.inl x)) = True := rfl
theorem hz_ft2 (x : Option Nat) : hp_fit 2 (.inr (.inr x)) = True := rfl
theorem hz_ft3 (x : Int32) : hp_fit 3 (.inl x) = (x = 0 ∨ x = 1) := rfl
theorem hz_sF0 (S : hp_T) (a k : Nat) (x : Int32) : hp_sF S a k (.inl x) = hp_sI S a k x := rfl
theorem hz_sF1 (S : hp_T) (a k : Nat) (x : Int64) : hp_sF S a k (.inr (.inl x)) = hp_sJ S a k x := rfl
theorem hz_sF2 (S : hp_T) (a k : Nat) (x : Option Nat) : hp_sF S a k (.inr (.inr x)) = hp_sR S a k x := rfl
theorem hz_lg0 (x : Int32) : hp_lng (.inl x) = false := rfl
theorem hz_lg1 (x : Int64) : hp_lng (.inr (.inl x)) = true := rfl
theorem hz_lg2 (x : Option Nat) : hp_lng (.inr (.inr x)) = false := rfl
theorem hz_f0  : ((0 : Fin 4) : Fin 4).val = 0 := rfl
theorem hz_f1  : (1 : Fin 4).val = 1 := rfl
theorem hz_f2  : (2 : Fin 4).val = 2 := rfl
theorem hz_f3  : (3 : Fin 4).val = 3 := rfl
theorem hz_k0  : (0 : Fin 2).val = 0 := rfl
theorem hz_k1  : (1 : Fin 2).val = 1 := rfl
theorem hz_rm (ret : Option FieldType) (rm : Room) (post : Option hp_hv → hp_T → Prop) (v : Option hp_hv) (S : hp_T) (k n : Nat) : hp_rtM ret rm post v S k n = (hp_rok ret v ∧ post v S ∧ k ≤ rm.cells ∧ n ≤ rm.slots) := rfl
theorem hz_ok0  : hp_rok none none = True := rfl
theorem hz_ok1 (x : Int32) : hp_rok (some .int) (some (.inl x)) = True := rfl
theorem hz_ok2 (x : Int32) : hp_rok (some .boolean) (some (.inl x)) = (x = 0 ∨ x = 1) := rfl
theorem hz_ok3 (x : Int64) : hp_rok (some .long) (some (.inr (.inl x))) = True := rfl
theorem hz_ok4 (x : Option Nat) (c : String) : hp_rok (some (.object c)) (some (.inr (.inr x))) = True := rfl
theorem hz_l0  : Int64.ofNat 0 = (0 : Int64) := rfl
theorem hz_l1c  : Int64.ofNat 1 = (1 : Int64) := rfl
theorem hz_ar0 (i : Nat) : hp_ar i [] = [] := rfl
theorem hz_ar1 (i : Nat) (v : hp_hv) (vs : List hp_hv) : hp_ar i (v :: vs) = (i, v) :: hp_ar (if hp_lng v = true then i + 2 else i + 1) vs := rfl
theorem ht_0_0 : hp_ty 0 0 = 2 := rfl
theorem hn_0_0 : hp_nfin 0 0 = true := by decide +kernel
theorem ht_0_1 : hp_ty 0 1 = 2 := rfl
theorem hn_0_1 : hp_nfin 0 1 = true := by decide +kernel
theorem ht_0_2 : hp_ty 0 2 = 0 := rfl
theorem hn_0_2 : hp_nfin 0 2 = true := by decide +kernel
theorem ht_0_3 : hp_ty 0 3 = 0 := rfl
theorem hn_0_3 : hp_nfin 0 3 = true := by decide +kernel
theorem hnf_0 : hp_nf 0 = 4 := rfl
theorem ht_1_0 : hp_ty 1 0 = 0 := rfl
theorem hn_1_0 : hp_nfin 1 0 = false := by decide +kernel
theorem ht_1_1 : hp_ty 1 1 = 0 := rfl
theorem hn_1_1 : hp_nfin 1 1 = false := by decide +kernel
theorem ht_1_2 : hp_ty 1 2 = 2 := rfl
theorem hn_1_2 : hp_nfin 1 2 = false := by decide +kernel
theorem ht_1_3 : hp_ty 1 3 = 0 := rfl
theorem hn_1_3 : hp_nfin 1 3 = true := by decide +kernel
theorem ht_1_4 : hp_ty 1 4 = 2 := rfl
theorem hn_1_4 : hp_nfin 1 4 = true := by decide +kernel
theorem ht_1_5 : hp_ty 1 5 = 2 := rfl
theorem hn_1_5 : hp_nfin 1 5 = true := by decide +kernel
theorem ht_1_6 : hp_ty 1 6 = 2 := rfl
theorem hn_1_6 : hp_nfin 1 6 = true := by decide +kernel
theorem ht_1_7 : hp_ty 1 7 = 0 := rfl
theorem hn_1_7 : hp_nfin 1 7 = true := by decide +kernel
theorem ht_1_8 : hp_ty 1 8 = 3 := rfl
theorem hn_1_8 : hp_nfin 1 8 = true := by decide +kernel
theorem ht_1_9 : hp_ty 1 9 = 0 := rfl
theorem hn_1_9 : hp_nfin 1 9 = true := by decide +kernel
theorem ht_1_10 : hp_ty 1 10 = 1 := rfl
theorem hn_1_10 : hp_nfin 1 10 = true := by decide +kernel
theorem ht_1_11 : hp_ty 1 11 = 0 := rfl
theorem hn_1_11 : hp_nfin 1 11 = true := by decide +kernel
theorem ht_1_12 : hp_ty 1 12 = 1 := rfl
theorem hn_1_12 : hp_nfin 1 12 = true := by decide +kernel
theorem ht_1_13 : hp_ty 1 13 = 1 := rfl
theorem hn_1_13 : hp_nfin 1 13 = true := by decide +kernel
theorem hnf_1 : hp_nf 1 = 14 := rfl
theorem ht_2_0 : hp_ty 2 0 = 0 := rfl
theorem hn_2_0 : hp_nfin 2 0 = true := by decide +kernel
theorem ht_2_1 : hp_ty 2 1 = 0 := rfl
theorem hn_2_1 : hp_nfin 2 1 = true := by decide +kernel
theorem ht_2_2 : hp_ty 2 2 = 2 := rfl
theorem hn_2_2 : hp_nfin 2 2 = true := by decide +kernel
theorem hnf_2 : hp_nf 2 = 3 := rfl
theorem ht_3_0 : hp_ty 3 0 = 2 := rfl
theorem hn_3_0 : hp_nfin 3 0 = false := by decide +kernel
theorem ht_3_1 : hp_ty 3 1 = 2 := rfl
theorem hn_3_1 : hp_nfin 3 1 = false := by decide +kernel
theorem ht_3_2 : hp_ty 3 2 = 0 := rfl
theorem hn_3_2 : hp_nfin 3 2 = true := by decide +kernel
theorem ht_3_3 : hp_ty 3 3 = 0 := rfl
theorem hn_3_3 : hp_nfin 3 3 = true := by decide +kernel
theorem ht_3_4 : hp_ty 3 4 = 0 := rfl
theorem hn_3_4 : hp_nfin 3 4 = true := by decide +kernel
theorem ht_3_5 : hp_ty 3 5 = 0 := rfl
theorem hn_3_5 : hp_nfin 3 5 = true := by decide +kernel
theorem ht_3_6 : hp_ty 3 6 = 0 := rfl
theorem hn_3_6 : hp_nfin 3 6 = true := by decide +kernel
theorem ht_3_7 : hp_ty 3 7 = 0 := rfl
theorem hn_3_7 : hp_nfin 3 7 = true := by decide +kernel
theorem ht_3_8 : hp_ty 3 8 = 0 := rfl
theorem hn_3_8 : hp_nfin 3 8 = true := by decide +kernel
theorem ht_3_9 : hp_ty 3 9 = 0 := rfl
theorem hn_3_9 : hp_nfin 3 9 = true := by decide +kernel
theorem ht_3_10 : hp_ty 3 10 = 2 := rfl
theorem hn_3_10 : hp_nfin 3 10 = true := by decide +kernel
theorem hnf_3 : hp_nf 3 = 11 := rfl
theorem ht_4_0 : hp_ty 4 0 = 0 := rfl
theorem hn_4_0 : hp_nfin 4 0 = true := by decide +kernel
theorem ht_4_1 : hp_ty 4 1 = 2 := rfl
theorem hn_4_1 : hp_nfin 4 1 = false := by decide +kernel
theorem ht_4_2 : hp_ty 4 2 = 2 := rfl
theorem hn_4_2 : hp_nfin 4 2 = false := by decide +kernel
theorem ht_4_3 : hp_ty 4 3 = 2 := rfl
theorem hn_4_3 : hp_nfin 4 3 = false := by decide +kernel
theorem ht_4_4 : hp_ty 4 4 = 2 := rfl
theorem hn_4_4 : hp_nfin 4 4 = false := by decide +kernel
theorem ht_4_5 : hp_ty 4 5 = 2 := rfl
theorem hn_4_5 : hp_nfin 4 5 = false := by decide +kernel
theorem ht_4_6 : hp_ty 4 6 = 2 := rfl
theorem hn_4_6 : hp_nfin 4 6 = false := by decide +kernel
theorem ht_4_7 : hp_ty 4 7 = 2 := rfl
theorem hn_4_7 : hp_nfin 4 7 = false := by decide +kernel
theorem ht_4_8 : hp_ty 4 8 = 2 := rfl
theorem hn_4_8 : hp_nfin 4 8 = false := by decide +kernel
theorem ht_4_9 : hp_ty 4 9 = 2 := rfl
theorem hn_4_9 : hp_nfin 4 9 = false := by decide +kernel
theorem ht_4_10 : hp_ty 4 10 = 2 := rfl
theorem hn_4_10 : hp_nfin 4 10 = false := by decide +kernel
theorem ht_4_11 : hp_ty 4 11 = 2 := rfl
theorem hn_4_11 : hp_nfin 4 11 = false := by decide +kernel
theorem ht_4_12 : hp_ty 4 12 = 2 := rfl
theorem hn_4_12 : hp_nfin 4 12 = false := by decide +kernel
theorem ht_4_13 : hp_ty 4 13 = 2 := rfl
theorem hn_4_13 : hp_nfin 4 13 = false := by decide +kernel
theorem ht_4_14 : hp_ty 4 14 = 0 := rfl
theorem hn_4_14 : hp_nfin 4 14 = true := by decide +kernel
theorem ht_4_15 : hp_ty 4 15 = 0 := rfl
theorem hn_4_15 : hp_nfin 4 15 = true := by decide +kernel
theorem ht_4_16 : hp_ty 4 16 = 0 := rfl
theorem hn_4_16 : hp_nfin 4 16 = true := by decide +kernel
theorem ht_4_17 : hp_ty 4 17 = 0 := rfl
theorem hn_4_17 : hp_nfin 4 17 = true := by decide +kernel
theorem ht_4_18 : hp_ty 4 18 = 0 := rfl
theorem hn_4_18 : hp_nfin 4 18 = true := by decide +kernel
theorem ht_4_19 : hp_ty 4 19 = 0 := rfl
theorem hn_4_19 : hp_nfin 4 19 = true := by decide +kernel
theorem hnf_4 : hp_nf 4 = 20 := rfl
theorem hc_im1 : Int32.ofInt (-1) = (-1 : Int32) := by decide
theorem hc_i0 : Int32.ofInt (0) = (0 : Int32) := by decide
theorem hc_i1 : Int32.ofInt (1) = (1 : Int32) := by decide
theorem hc_i2 : Int32.ofInt (2) = (2 : Int32) := by decide
theorem hc_i3 : Int32.ofInt (3) = (3 : Int32) := by decide
theorem hc_i4 : Int32.ofInt (4) = (4 : Int32) := by decide
theorem hc_i5 : Int32.ofInt (5) = (5 : Int32) := by decide
theorem hc_bm2 : (Int8.ofInt (-2)).toInt32 = (-2 : Int32) := by decide
theorem hc_b6 : (Int8.ofInt (6)).toInt32 = (6 : Int32) := by decide
theorem hc_b7 : (Int8.ofInt (7)).toInt32 = (7 : Int32) := by decide
theorem hc_b15 : (Int8.ofInt (15)).toInt32 = (15 : Int32) := by decide
theorem hc_b64 : (Int8.ofInt (64)).toInt32 = (64 : Int32) := by decide
theorem hc_s500 : (Int16.ofInt (500)).toInt32 = (500 : Int32) := by decide
theorem hc_s1000 : (Int16.ofInt (1000)).toInt32 = (1000 : Int32) := by decide
theorem hc_s2000 : (Int16.ofInt (2000)).toInt32 = (2000 : Int32) := by decide
theorem hw_10 : ((1 : Int32) = 0) = False := by decide
theorem hw_01 : ((0 : Int32) = 1) = False := by decide
end HPE2
