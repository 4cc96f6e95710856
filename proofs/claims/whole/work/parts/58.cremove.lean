/-! THE CLASS: remove -/
section M58
theorem na_nd {S : hp_T} {x0 : Nat} {Z : cd_T} {M : ab_T} {nb : Nat → Nat} (h : RepN S x0 Z M nb) {j : Nat} {xs : List Nat} (hj : j < 64) (hpj : ¬ pa M j = 65) (hx : ∀ k ∈ xs, k < 64 ∧ ¬ pa M k = 65) (hn : j ∉ xs) : dna Z j ∉ xs.map (dna Z) := by
  intro q
  obtain ⟨k, hk, e⟩ := List.mem_map.mp q
  have w := hx k hk
  rw [na_inj (h.2.1 k w.1 w.2).1 (h.2.1 j hj hpj).1 w.1 hj e] at hk
  exact hn hk
/-- the split of the chain of children -/
theorem ch_split {S : hp_T} {x0 : Nat} {Z : cd_T} {M : ab_T} {nb : Nat → Nat} (h : RepN S x0 Z M nb) {j b : Nat} (hj : j < 64) (hb : b < 64) (hpb : ¬ pa M b = 65) (hjb : pa M j = b) : ∃ xs ys, dch Z b = xs ++ j :: ys ∧ lk S 6 (hp_R S (dna Z b) 5) (xs.map (dna Z) ++ dna Z j :: ys.map (dna Z)) ∧ (∀ x ∈ xs.map (dna Z), hp_K S x = 2) ∧ dna Z j ∉ xs.map (dna Z) := by
  obtain ⟨g1, g2, -, -⟩ := h.2.2.2.1 b hb hpb
  obtain ⟨xs, ys, e⟩ := List.append_of_mem ((g2 j).mpr ⟨hj, hjb⟩)
  have hx : ∀ k ∈ xs, k < 64 ∧ ¬ pa M k = 65 := fun k hk => by
    have := (g2 k).mp (by rw [e]; exact List.mem_append_left _ hk)
    exact ⟨this.1, by omega⟩
  have hl := (h.2.1 b hb hpb).1.2.2.2.2.2.2.1
  refine ⟨xs, ys, e, ?_, fun x hx2 => ?_, na_nd h hj (by omega) hx (fun q => ?_)⟩
  · rw [e, List.map_append, List.map_cons] at hl
    exact hl
  · obtain ⟨k, hk, rfl⟩ := List.mem_map.mp hx2
    have w := hx k hk
    exact (h.2.1 k w.1 w.2).1.1
  · rw [e, List.nodup_append] at g1
    exact g1.2.2 j q j List.mem_cons_self rfl
theorem frC.letGo (S : hp_T) {a b : Nat} {xs : List Nat} (ha : hp_K S a = 2) (hb : hp_K S b = 2) (hx : ∀ x ∈ xs, hp_K S x = 2) : frC S (f_letGo S a b xs) := by
  intro p p1 p2
  obtain ⟨f1, f2, f3, f4⟩ := f_letGo_K S a b xs
  refine ⟨by rw [f1], by rw [f4], fun j => by rw [f2], fun j => by rw [f3], fun j => ?_⟩
  rw [f_letGo_R, if_neg (fun z => by rw [z.1] at p1; omega), if_neg (fun z => by rw [z.1] at p1; omega)]
  cases hg : xs.getLast? with
  | none =>
    show (if p = a ∧ j = 5 then _ else _) = _
    rw [if_neg (fun z => by rw [z.1] at p1; omega)]
  | some q =>
    have := hx q (List.mem_of_getLast? hg)
    show (if p = q ∧ j = 6 then _ else _) = _
    rw [if_neg (fun z => by rw [z.1] at p1; omega)]
theorem frC.adopt (S : hp_T) {a b : Nat} (ha : hp_K S a = 2) (hb : hp_K S b = 2) : frC S (f_adopt S a b) := by
  unfold f_adopt
  exact ((frC.sR S _ _ _ (Or.inl (by omega))).trans (frC.sR _ _ _ _ (Or.inl (by rw [hp_K_sR]; omega)))).trans (frC.sR _ _ _ _ (Or.inl (by rw [hp_K_sR, hp_K_sR]; omega)))
theorem mn_mn (M : ab_T) (f c v w : Nat) : mn (mn M f c v) f c w = mn M f c w := by
  refine Prod.ext ?_ rfl
  funext g k
  show (if g = f ∧ k = c then w else (if g = f ∧ k = c then v else M.1 g k)) = (if g = f ∧ k = c then w else M.1 g k)
  by_cases q : g = f ∧ k = c
  · rw [if_pos q, if_pos q]
  · rw [if_neg q, if_neg q, if_neg q]
theorem fix_remove {M : ab_T} (hf : fix M (op M)) {j : Nat} (hj : j < 64) (ho : op M j = 0) : fix (mn M 0 j 65) (op M) := by
  intro c hc
  obtain ⟨q1, q2⟩ := hf c hc
  refine ⟨q1, ?_⟩
  rw [q2]
  show hd M c = 0 ∧ _ ↔ hd M c = 0 ∧ _
  refine and_congr_right (fun _ => or_congr Iff.rfl ?_)
  constructor
  · rintro ⟨k, k1, k2, k3⟩
    refine ⟨k, k1, ?_, k3⟩
    rw [pa_mn, if_neg (fun z => by rw [z] at k3; omega)]
    exact k2
  · rintro ⟨k, k1, k2, k3⟩
    rw [pa_mn, if_neg (fun z => by rw [z] at k3; omega)] at k2
    exact ⟨k, k1, k2, k3⟩
theorem noc_remove {M : ab_T} {j : Nat} (ho : op M j = 0) (v c : Nat) : noc (mn M 0 j v) c = noc M c := by
  unfold noc
  refine cnt_congr (fun i hi => ?_)
  rw [pa_mn, show op (mn M 0 j v) i = op M i from rfl]
  by_cases q : i = j
  · subst q; simp [ho]
  · rw [if_neg q]
/-- a leaf without packets isn't one to send from -/
theorem op_leaf {M : ab_T} (h : rin M) {j : Nat} (hj : j < 64) (hn : nch M j = 0) (ho : own M j = []) : op M j = 0 := by
  obtain ⟨q1, q2⟩ := h.2.1 j hj
  have : ¬ op M j = 1 := fun q => by
    obtain ⟨-, p | ⟨k, k1, k2, -⟩⟩ := q2.mp q
    · exact own_ne.mpr p ho
    · exact (nch_0 h.1.1.1.1 hj).mp hn k k1 k2
  omega
set_option maxRecDepth 20000 in
set_option maxHeartbeats 4000000 in
theorem ct_remove (l : Launch) (hlt : l.stackTraces = false) (G : hp_G) (S : hp_T) (x0 : Nat) (Z : cd_T) (M : ab_T) (c : Int32) (h : RepC S x0 Z M) (hr : rin M) : hp_MetX l G yX3_remove cX3_remove 4 none rm_w [.inr (.inr (some x0)), .inl c] S (fun v S' => v = none ∧ cps S x0 (sp_remove M c 0) S') (fun E => (x_IOE E ∧ sp_remove M c 1 M) ∨ (x_ISE E ∧ sp_remove M c 2 M)) := by
  have h1 := h.1
  have kx := h1.1
  refine hp_MetX.of (by decide) rfl hlt (by show 2 ≤ 4; decide) (fun X C D CX => ?_)
  refine hp_run C [] 60 _ _ _ _ ?_
  simp only [or_true, or_false, true_or, false_or, or_self, hp_wp0, hp_wpS, eq_self, true_and, and_true, false_and, and_false, if_true, if_false, Bool.false_eq_true, Bool.or_false, Bool.or_true, Bool.true_or, Bool.false_or, ite_true, ite_false, ↓reduceIte, reduceCtorEq, Nat.reduceBEq, Nat.reduceAdd, Nat.reduceEqDiff, Nat.reduceLT, Nat.reduceLeDiff, Int.reduceAdd, Int.reduceToNat, Int.reduceLE, Int.reduceNeg, Int.cast_ofNat_Int, Nat.zero_add, Option.some.injEq, exists_eq_left', exists_eq_left, not_true_eq_false, not_false_eq_true, false_implies, true_implies, forall_const, implies_true, List.cons_append, List.nil_append, Nat.le_refl, Nat.zero_le, hp_K_sI, hp_K_sJ, hp_K_sR, hp_N_sI, hp_N_sJ, hp_N_sR, hp_I_sI, hp_I_sJ, hp_I_sR, hp_J_sI, hp_J_sJ, hp_J_sR, hp_R_sI, hp_R_sJ, hp_R_sR, hr_iconst, hr_aconst_null, hr_iload_n, hr_aload_n, hr_astore_n, hr_isub, hr_dup, hr_ifCond_eq, hr_ifCond_le, hr_ifnull, hr_getfield, hr_putfield, hr_aastore, hr_return_, hr_invokevirtual, hr_invokespecial, hr_new, hr_athrow, hz_i1, hz_i2, hz_l1, hz_l2, hz_r1, hz_r2, hz_ia, hz_via, hz_vr, hz_ld0, hz_ld1, hz_ld2, hz_s0, hz_s1, hz_s2, hz_g0, hz_g1, hz_d0, hz_d1, hz_d3, hz_d2, hz_t0, hz_t1, hz_t3, hz_t2, hz_c0, hz_c1, hz_rti, hz_rtl, hz_rta, hz_rtv, hz_br, hz_fh0, hz_fh1, hz_fh2, hz_fh3, hz_ft0, hz_ft1, hz_ft2, hz_ft3, hz_sF0, hz_sF1, hz_sF2, hz_lg0, hz_lg1, hz_lg2, hz_f0, hz_f1, hz_f2, hz_f3, hz_k0, hz_k1, hz_rm, hz_ok0, hz_ok1, hz_ok2, hz_ok3, hz_ok4, hz_l0, hz_l1c, hz_ar0, hz_ar1, ht_0_0, hn_0_0, ht_0_1, hn_0_1, ht_0_2, hn_0_2, ht_0_3, hn_0_3, hnf_0, ht_1_0, hn_1_0, ht_1_1, hn_1_1, ht_1_2, hn_1_2, ht_1_3, hn_1_3, ht_1_4, hn_1_4, ht_1_5, hn_1_5, ht_1_6, hn_1_6, ht_1_7, hn_1_7, ht_1_8, hn_1_8, ht_1_9, hn_1_9, ht_1_10, hn_1_10, ht_1_11, hn_1_11, ht_1_12, hn_1_12, ht_1_13, hn_1_13, hnf_1, ht_2_0, hn_2_0, ht_2_1, hn_2_1, ht_2_2, hn_2_2, hnf_2, ht_3_0, hn_3_0, ht_3_1, hn_3_1, ht_3_2, hn_3_2, ht_3_3, hn_3_3, ht_3_4, hn_3_4, ht_3_5, hn_3_5, ht_3_6, hn_3_6, ht_3_7, hn_3_7, ht_3_8, hn_3_8, ht_3_9, hn_3_9, ht_3_10, hn_3_10, hnf_3, ht_4_0, hn_4_0, ht_4_1, hn_4_1, ht_4_2, hn_4_2, ht_4_3, hn_4_3, ht_4_4, hn_4_4, ht_4_5, hn_4_5, ht_4_6, hn_4_6, ht_4_7, hn_4_7, ht_4_8, hn_4_8, ht_4_9, hn_4_9, ht_4_10, hn_4_10, ht_4_11, hn_4_11, ht_4_12, hn_4_12, ht_4_13, hn_4_13, ht_4_14, hn_4_14, ht_4_15, hn_4_15, ht_4_16, hn_4_16, ht_4_17, hn_4_17, ht_4_18, hn_4_18, ht_4_19, hn_4_19, hnf_4, hc_im1, hc_i0, hc_i1, hc_i2, hc_i3, hc_i4, hc_i5, hc_bm2, hc_b6, hc_b7, hc_b15, hc_b64, hc_s500, hc_s1000, hc_s2000, hw_10, hw_01, hp_F_3_18, hp_F_3_22, hp_F_3_43, hp_F_3_47, hp_F_3_66, hp_F_3_76, dX3_remove_0, dX3_remove_1, dX3_remove_2, dX3_remove_5, dX3_remove_6, dX3_remove_7, dX3_remove_10, dX3_remove_11, dX3_remove_12, dX3_remove_15, dX3_remove_16, dX3_remove_19, dX3_remove_22, dX3_remove_23, dX3_remove_26, dX3_remove_29, dX3_remove_32, dX3_remove_35, dX3_remove_36, dX3_remove_39, dX3_remove_40, dX3_remove_41, dX3_remove_42, dX3_remove_45, dX3_remove_46, dX3_remove_49, dX3_remove_50, dX3_remove_53, dX3_remove_54, dX3_remove_55, dX3_remove_56, dX3_remove_57, dX3_remove_60, dX3_remove_61, dX3_remove_62, dX3_remove_65, rm_wc, rm_ws, hw_20, hw_30, hw_40, hx_0, hx_1, hx_2, hx_3, hx_4, hy_00, hy_10]
  refine hp_callX (as := [.inl c]) (rest := []) C D CX dX3_remove_2 kV_3_32 (mt_existing l hlt G S x0 _ c (tk_ok h1)) h1.1 (by decide) rfl ⟨⟨by decide, by decide⟩, ⟨by decide, by decide⟩, by decide⟩ (by decide) (fun E q => Or.inl ⟨q.1, Or.inl ⟨rfl, tc_none h1 q.2, rfl⟩⟩) (fun v S' hv => ?_)
  obtain ⟨rfl, a, ha, rfl⟩ := hv
  obtain ⟨j, hj, hpj, rfl, rfl⟩ := tc_some h1 ha
  obtain ⟨hcn, hcl⟩ := h.2.1 j hj hpj
  have hk := hcn.1
  have r2 := hcn.2.2.2.1
  have r4 := hcn.2.2.2.2.2.1
  have kl := hcl.1
  have l2 := hcl.2.2.2.1
  have bad : ¬ (¬ j = 0 ∧ nch M j = 0 ∧ own M j = []) → sp_remove M (nI j) 2 M := fun z => Or.inr (Or.inl ⟨rfl, ⟨j, hj, hpj, rfl, z⟩, rfl⟩)
  refine hp_run C [] 60 _ _ _ _ ?_
  by_cases j0 : j = 0
  · have e4 : hp_R S (dna Z j) 4 = none := by rw [r4, j0, hr.1.1.1.1]; rfl
    simp only [or_true, or_false, true_or, false_or, or_self, hp_wp0, hp_wpS, eq_self, true_and, and_true, false_and, and_false, if_true, if_false, Bool.false_eq_true, Bool.or_false, Bool.or_true, Bool.true_or, Bool.false_or, ite_true, ite_false, ↓reduceIte, reduceCtorEq, Nat.reduceBEq, Nat.reduceAdd, Nat.reduceEqDiff, Nat.reduceLT, Nat.reduceLeDiff, Int.reduceAdd, Int.reduceToNat, Int.reduceLE, Int.reduceNeg, Int.cast_ofNat_Int, Nat.zero_add, Option.some.injEq, exists_eq_left', exists_eq_left, not_true_eq_false, not_false_eq_true, false_implies, true_implies, forall_const, implies_true, List.cons_append, List.nil_append, Nat.le_refl, Nat.zero_le, hp_K_sI, hp_K_sJ, hp_K_sR, hp_N_sI, hp_N_sJ, hp_N_sR, hp_I_sI, hp_I_sJ, hp_I_sR, hp_J_sI, hp_J_sJ, hp_J_sR, hp_R_sI, hp_R_sJ, hp_R_sR, hr_iconst, hr_aconst_null, hr_iload_n, hr_aload_n, hr_astore_n, hr_isub, hr_dup, hr_ifCond_eq, hr_ifCond_le, hr_ifnull, hr_getfield, hr_putfield, hr_aastore, hr_return_, hr_invokevirtual, hr_invokespecial, hr_new, hr_athrow, hz_i1, hz_i2, hz_l1, hz_l2, hz_r1, hz_r2, hz_ia, hz_via, hz_vr, hz_ld0, hz_ld1, hz_ld2, hz_s0, hz_s1, hz_s2, hz_g0, hz_g1, hz_d0, hz_d1, hz_d3, hz_d2, hz_t0, hz_t1, hz_t3, hz_t2, hz_c0, hz_c1, hz_rti, hz_rtl, hz_rta, hz_rtv, hz_br, hz_fh0, hz_fh1, hz_fh2, hz_fh3, hz_ft0, hz_ft1, hz_ft2, hz_ft3, hz_sF0, hz_sF1, hz_sF2, hz_lg0, hz_lg1, hz_lg2, hz_f0, hz_f1, hz_f2, hz_f3, hz_k0, hz_k1, hz_rm, hz_ok0, hz_ok1, hz_ok2, hz_ok3, hz_ok4, hz_l0, hz_l1c, hz_ar0, hz_ar1, ht_0_0, hn_0_0, ht_0_1, hn_0_1, ht_0_2, hn_0_2, ht_0_3, hn_0_3, hnf_0, ht_1_0, hn_1_0, ht_1_1, hn_1_1, ht_1_2, hn_1_2, ht_1_3, hn_1_3, ht_1_4, hn_1_4, ht_1_5, hn_1_5, ht_1_6, hn_1_6, ht_1_7, hn_1_7, ht_1_8, hn_1_8, ht_1_9, hn_1_9, ht_1_10, hn_1_10, ht_1_11, hn_1_11, ht_1_12, hn_1_12, ht_1_13, hn_1_13, hnf_1, ht_2_0, hn_2_0, ht_2_1, hn_2_1, ht_2_2, hn_2_2, hnf_2, ht_3_0, hn_3_0, ht_3_1, hn_3_1, ht_3_2, hn_3_2, ht_3_3, hn_3_3, ht_3_4, hn_3_4, ht_3_5, hn_3_5, ht_3_6, hn_3_6, ht_3_7, hn_3_7, ht_3_8, hn_3_8, ht_3_9, hn_3_9, ht_3_10, hn_3_10, hnf_3, ht_4_0, hn_4_0, ht_4_1, hn_4_1, ht_4_2, hn_4_2, ht_4_3, hn_4_3, ht_4_4, hn_4_4, ht_4_5, hn_4_5, ht_4_6, hn_4_6, ht_4_7, hn_4_7, ht_4_8, hn_4_8, ht_4_9, hn_4_9, ht_4_10, hn_4_10, ht_4_11, hn_4_11, ht_4_12, hn_4_12, ht_4_13, hn_4_13, ht_4_14, hn_4_14, ht_4_15, hn_4_15, ht_4_16, hn_4_16, ht_4_17, hn_4_17, ht_4_18, hn_4_18, ht_4_19, hn_4_19, hnf_4, hc_im1, hc_i0, hc_i1, hc_i2, hc_i3, hc_i4, hc_i5, hc_bm2, hc_b6, hc_b7, hc_b15, hc_b64, hc_s500, hc_s1000, hc_s2000, hw_10, hw_01, hp_F_3_18, hp_F_3_22, hp_F_3_43, hp_F_3_47, hp_F_3_66, hp_F_3_76, dX3_remove_0, dX3_remove_1, dX3_remove_2, dX3_remove_5, dX3_remove_6, dX3_remove_7, dX3_remove_10, dX3_remove_11, dX3_remove_12, dX3_remove_15, dX3_remove_16, dX3_remove_19, dX3_remove_22, dX3_remove_23, dX3_remove_26, dX3_remove_29, dX3_remove_32, dX3_remove_35, dX3_remove_36, dX3_remove_39, dX3_remove_40, dX3_remove_41, dX3_remove_42, dX3_remove_45, dX3_remove_46, dX3_remove_49, dX3_remove_50, dX3_remove_53, dX3_remove_54, dX3_remove_55, dX3_remove_56, dX3_remove_57, dX3_remove_60, dX3_remove_61, dX3_remove_62, dX3_remove_65, hk, e4, rm_wc, rm_ws, rm_xc, rm_xs, Option.toList_some, List.singleton_append, hw_20, hw_30, hw_40, hx_0, hx_1, hx_2, hx_3, hx_4, hy_00, hy_10]
    exact hp_throw CX D hp_x_ISE (Or.inr ⟨rfl, bad (fun z => z.1 j0)⟩) dX3_remove_32 dX3_remove_35 dX3_remove_36 dX3_remove_39 (by decide)
  · have hb : pa M j < 64 := by
      have := hr.1.1.1.2 j hj (by omega)
      omega
    have hpb : ¬ pa M (pa M j) = 65 := hr.1.1.2.1 j hj hb
    rw [if_pos hb] at r4
    have kb := (h.2.1 _ hb hpb).1.1
    simp only [or_true, or_false, true_or, false_or, or_self, hp_wp0, hp_wpS, eq_self, true_and, and_true, false_and, and_false, if_true, if_false, Bool.false_eq_true, Bool.or_false, Bool.or_true, Bool.true_or, Bool.false_or, ite_true, ite_false, ↓reduceIte, reduceCtorEq, Nat.reduceBEq, Nat.reduceAdd, Nat.reduceEqDiff, Nat.reduceLT, Nat.reduceLeDiff, Int.reduceAdd, Int.reduceToNat, Int.reduceLE, Int.reduceNeg, Int.cast_ofNat_Int, Nat.zero_add, Option.some.injEq, exists_eq_left', exists_eq_left, not_true_eq_false, not_false_eq_true, false_implies, true_implies, forall_const, implies_true, List.cons_append, List.nil_append, Nat.le_refl, Nat.zero_le, hp_K_sI, hp_K_sJ, hp_K_sR, hp_N_sI, hp_N_sJ, hp_N_sR, hp_I_sI, hp_I_sJ, hp_I_sR, hp_J_sI, hp_J_sJ, hp_J_sR, hp_R_sI, hp_R_sJ, hp_R_sR, hr_iconst, hr_aconst_null, hr_iload_n, hr_aload_n, hr_astore_n, hr_isub, hr_dup, hr_ifCond_eq, hr_ifCond_le, hr_ifnull, hr_getfield, hr_putfield, hr_aastore, hr_return_, hr_invokevirtual, hr_invokespecial, hr_new, hr_athrow, hz_i1, hz_i2, hz_l1, hz_l2, hz_r1, hz_r2, hz_ia, hz_via, hz_vr, hz_ld0, hz_ld1, hz_ld2, hz_s0, hz_s1, hz_s2, hz_g0, hz_g1, hz_d0, hz_d1, hz_d3, hz_d2, hz_t0, hz_t1, hz_t3, hz_t2, hz_c0, hz_c1, hz_rti, hz_rtl, hz_rta, hz_rtv, hz_br, hz_fh0, hz_fh1, hz_fh2, hz_fh3, hz_ft0, hz_ft1, hz_ft2, hz_ft3, hz_sF0, hz_sF1, hz_sF2, hz_lg0, hz_lg1, hz_lg2, hz_f0, hz_f1, hz_f2, hz_f3, hz_k0, hz_k1, hz_rm, hz_ok0, hz_ok1, hz_ok2, hz_ok3, hz_ok4, hz_l0, hz_l1c, hz_ar0, hz_ar1, ht_0_0, hn_0_0, ht_0_1, hn_0_1, ht_0_2, hn_0_2, ht_0_3, hn_0_3, hnf_0, ht_1_0, hn_1_0, ht_1_1, hn_1_1, ht_1_2, hn_1_2, ht_1_3, hn_1_3, ht_1_4, hn_1_4, ht_1_5, hn_1_5, ht_1_6, hn_1_6, ht_1_7, hn_1_7, ht_1_8, hn_1_8, ht_1_9, hn_1_9, ht_1_10, hn_1_10, ht_1_11, hn_1_11, ht_1_12, hn_1_12, ht_1_13, hn_1_13, hnf_1, ht_2_0, hn_2_0, ht_2_1, hn_2_1, ht_2_2, hn_2_2, hnf_2, ht_3_0, hn_3_0, ht_3_1, hn_3_1, ht_3_2, hn_3_2, ht_3_3, hn_3_3, ht_3_4, hn_3_4, ht_3_5, hn_3_5, ht_3_6, hn_3_6, ht_3_7, hn_3_7, ht_3_8, hn_3_8, ht_3_9, hn_3_9, ht_3_10, hn_3_10, hnf_3, ht_4_0, hn_4_0, ht_4_1, hn_4_1, ht_4_2, hn_4_2, ht_4_3, hn_4_3, ht_4_4, hn_4_4, ht_4_5, hn_4_5, ht_4_6, hn_4_6, ht_4_7, hn_4_7, ht_4_8, hn_4_8, ht_4_9, hn_4_9, ht_4_10, hn_4_10, ht_4_11, hn_4_11, ht_4_12, hn_4_12, ht_4_13, hn_4_13, ht_4_14, hn_4_14, ht_4_15, hn_4_15, ht_4_16, hn_4_16, ht_4_17, hn_4_17, ht_4_18, hn_4_18, ht_4_19, hn_4_19, hnf_4, hc_im1, hc_i0, hc_i1, hc_i2, hc_i3, hc_i4, hc_i5, hc_bm2, hc_b6, hc_b7, hc_b15, hc_b64, hc_s500, hc_s1000, hc_s2000, hw_10, hw_01, hp_F_3_18, hp_F_3_22, hp_F_3_43, hp_F_3_47, hp_F_3_66, hp_F_3_76, dX3_remove_0, dX3_remove_1, dX3_remove_2, dX3_remove_5, dX3_remove_6, dX3_remove_7, dX3_remove_10, dX3_remove_11, dX3_remove_12, dX3_remove_15, dX3_remove_16, dX3_remove_19, dX3_remove_22, dX3_remove_23, dX3_remove_26, dX3_remove_29, dX3_remove_32, dX3_remove_35, dX3_remove_36, dX3_remove_39, dX3_remove_40, dX3_remove_41, dX3_remove_42, dX3_remove_45, dX3_remove_46, dX3_remove_49, dX3_remove_50, dX3_remove_53, dX3_remove_54, dX3_remove_55, dX3_remove_56, dX3_remove_57, dX3_remove_60, dX3_remove_61, dX3_remove_62, dX3_remove_65, hk, r4, rm_wc, rm_ws, rm_xc, rm_xs, Option.toList_some, List.singleton_append, hw_20, hw_30, hw_40, hx_0, hx_1, hx_2, hx_3, hx_4, hy_00, hy_10]
    refine hp_callV (as := []) (rest := []) C D dX3_remove_16 kV_3_69 (mt_isLeaf l G S (dna Z j) hk) hk (by decide) rfl ⟨⟨by decide, by decide⟩, ⟨by decide, by decide⟩, by decide⟩ (fun v S' hv => ?_)
    obtain ⟨rfl, rfl⟩ := hv
    simp only [leaf_iff h hr.1.1 hj hpj]
    refine hp_run C [] 60 _ _ _ _ ?_
    by_cases g1 : ¬ j = 0 ∧ nch M j = 0
    · simp only [if_pos g1]
      have hle := own_le h.2.2.2.2.2.2.2 j
      by_cases g3 : own M j = []
      · have g4 : nI (own M j).length ≤ 0 := by rw [g3]; decide
        simp only [or_true, or_false, true_or, false_or, or_self, hp_wp0, hp_wpS, eq_self, true_and, and_true, false_and, and_false, if_true, if_false, Bool.false_eq_true, Bool.or_false, Bool.or_true, Bool.true_or, Bool.false_or, ite_true, ite_false, ↓reduceIte, reduceCtorEq, Nat.reduceBEq, Nat.reduceAdd, Nat.reduceEqDiff, Nat.reduceLT, Nat.reduceLeDiff, Int.reduceAdd, Int.reduceToNat, Int.reduceLE, Int.reduceNeg, Int.cast_ofNat_Int, Nat.zero_add, Option.some.injEq, exists_eq_left', exists_eq_left, not_true_eq_false, not_false_eq_true, false_implies, true_implies, forall_const, implies_true, List.cons_append, List.nil_append, Nat.le_refl, Nat.zero_le, hp_K_sI, hp_K_sJ, hp_K_sR, hp_N_sI, hp_N_sJ, hp_N_sR, hp_I_sI, hp_I_sJ, hp_I_sR, hp_J_sI, hp_J_sJ, hp_J_sR, hp_R_sI, hp_R_sJ, hp_R_sR, hr_iconst, hr_aconst_null, hr_iload_n, hr_aload_n, hr_astore_n, hr_isub, hr_dup, hr_ifCond_eq, hr_ifCond_le, hr_ifnull, hr_getfield, hr_putfield, hr_aastore, hr_return_, hr_invokevirtual, hr_invokespecial, hr_new, hr_athrow, hz_i1, hz_i2, hz_l1, hz_l2, hz_r1, hz_r2, hz_ia, hz_via, hz_vr, hz_ld0, hz_ld1, hz_ld2, hz_s0, hz_s1, hz_s2, hz_g0, hz_g1, hz_d0, hz_d1, hz_d3, hz_d2, hz_t0, hz_t1, hz_t3, hz_t2, hz_c0, hz_c1, hz_rti, hz_rtl, hz_rta, hz_rtv, hz_br, hz_fh0, hz_fh1, hz_fh2, hz_fh3, hz_ft0, hz_ft1, hz_ft2, hz_ft3, hz_sF0, hz_sF1, hz_sF2, hz_lg0, hz_lg1, hz_lg2, hz_f0, hz_f1, hz_f2, hz_f3, hz_k0, hz_k1, hz_rm, hz_ok0, hz_ok1, hz_ok2, hz_ok3, hz_ok4, hz_l0, hz_l1c, hz_ar0, hz_ar1, ht_0_0, hn_0_0, ht_0_1, hn_0_1, ht_0_2, hn_0_2, ht_0_3, hn_0_3, hnf_0, ht_1_0, hn_1_0, ht_1_1, hn_1_1, ht_1_2, hn_1_2, ht_1_3, hn_1_3, ht_1_4, hn_1_4, ht_1_5, hn_1_5, ht_1_6, hn_1_6, ht_1_7, hn_1_7, ht_1_8, hn_1_8, ht_1_9, hn_1_9, ht_1_10, hn_1_10, ht_1_11, hn_1_11, ht_1_12, hn_1_12, ht_1_13, hn_1_13, hnf_1, ht_2_0, hn_2_0, ht_2_1, hn_2_1, ht_2_2, hn_2_2, hnf_2, ht_3_0, hn_3_0, ht_3_1, hn_3_1, ht_3_2, hn_3_2, ht_3_3, hn_3_3, ht_3_4, hn_3_4, ht_3_5, hn_3_5, ht_3_6, hn_3_6, ht_3_7, hn_3_7, ht_3_8, hn_3_8, ht_3_9, hn_3_9, ht_3_10, hn_3_10, hnf_3, ht_4_0, hn_4_0, ht_4_1, hn_4_1, ht_4_2, hn_4_2, ht_4_3, hn_4_3, ht_4_4, hn_4_4, ht_4_5, hn_4_5, ht_4_6, hn_4_6, ht_4_7, hn_4_7, ht_4_8, hn_4_8, ht_4_9, hn_4_9, ht_4_10, hn_4_10, ht_4_11, hn_4_11, ht_4_12, hn_4_12, ht_4_13, hn_4_13, ht_4_14, hn_4_14, ht_4_15, hn_4_15, ht_4_16, hn_4_16, ht_4_17, hn_4_17, ht_4_18, hn_4_18, ht_4_19, hn_4_19, hnf_4, hc_im1, hc_i0, hc_i1, hc_i2, hc_i3, hc_i4, hc_i5, hc_bm2, hc_b6, hc_b7, hc_b15, hc_b64, hc_s500, hc_s1000, hc_s2000, hw_10, hw_01, hp_F_3_18, hp_F_3_22, hp_F_3_43, hp_F_3_47, hp_F_3_66, hp_F_3_76, dX3_remove_0, dX3_remove_1, dX3_remove_2, dX3_remove_5, dX3_remove_6, dX3_remove_7, dX3_remove_10, dX3_remove_11, dX3_remove_12, dX3_remove_15, dX3_remove_16, dX3_remove_19, dX3_remove_22, dX3_remove_23, dX3_remove_26, dX3_remove_29, dX3_remove_32, dX3_remove_35, dX3_remove_36, dX3_remove_39, dX3_remove_40, dX3_remove_41, dX3_remove_42, dX3_remove_45, dX3_remove_46, dX3_remove_49, dX3_remove_50, dX3_remove_53, dX3_remove_54, dX3_remove_55, dX3_remove_56, dX3_remove_57, dX3_remove_60, dX3_remove_61, dX3_remove_62, dX3_remove_65, hk, r2, kl, l2, g4, rm_wc, rm_ws, rm_0c, rm_0s, Option.toList_some, List.singleton_append, hw_20, hw_30, hw_40, hx_0, hx_1, hx_2, hx_3, hx_4, hy_00, hy_10]
        obtain ⟨xs, ys, s1, s2, s3, s4⟩ := ch_split h hj hb hpb rfl
        refine hp_callV (as := [.inr (.inr (some (dna Z j)))]) (rest := []) C D dX3_remove_42 kV_3_73 (mt_letGo l G S (dna Z (pa M j)) (dna Z j) _ _ kb s2 s3 hk s4) kb (by decide) rfl ⟨⟨by decide, by decide⟩, ⟨by decide, by decide⟩, by decide⟩ (fun v S1 hv => ?_)
        obtain ⟨e1, rfl⟩ := hv
        have hR1 := rn_letGo h hj hb hpb rfl s1
        have hf1 := frC.letGo S kb hk s3
        rw [← e1] at hR1 hf1
        clear e1 s2
        have c1 := hR1.1
        have kx1 := c1.1
        have q1 := c1.2.2.1
        have q2 := c1.2.2.2.1
        have q3 := c1.2.2.2.2.1
        have q4 := c1.2.2.2.2.2.1
        have p1 : ¬ pa (mn M 0 j 64) j = 65 := by rw [pa_mn, if_pos rfl]; omega
        have n1 := (hR1.2.1 j hj p1).1
        have k1 : hp_K S1 (dna Z j) = 2 := n1.1
        have n2 : hp_I S1 (dna Z j) 0 = nI j := n1.2.1
        have q1 : hp_R S1 x0 1 = some (dca Z) := q1
        have q2 : hp_K S1 (dca Z) = 9 := q2
        have q3 : hp_N S1 (dca Z) = 64 := q3
        have h5 : vp_in (nI j) 64 := vp_in_nI hj (by decide)
        have h6 : (nI j).toNatClampNeg = j := nI_clamp (by omega)
        refine hp_run C [] 60 _ _ _ _ ?_
        simp only [or_true, or_false, true_or, false_or, or_self, hp_wp0, hp_wpS, eq_self, true_and, and_true, false_and, and_false, if_true, if_false, Bool.false_eq_true, Bool.or_false, Bool.or_true, Bool.true_or, Bool.false_or, ite_true, ite_false, ↓reduceIte, reduceCtorEq, Nat.reduceBEq, Nat.reduceAdd, Nat.reduceEqDiff, Nat.reduceLT, Nat.reduceLeDiff, Int.reduceAdd, Int.reduceToNat, Int.reduceLE, Int.reduceNeg, Int.cast_ofNat_Int, Nat.zero_add, Option.some.injEq, exists_eq_left', exists_eq_left, not_true_eq_false, not_false_eq_true, false_implies, true_implies, forall_const, implies_true, List.cons_append, List.nil_append, Nat.le_refl, Nat.zero_le, hp_K_sI, hp_K_sJ, hp_K_sR, hp_N_sI, hp_N_sJ, hp_N_sR, hp_I_sI, hp_I_sJ, hp_I_sR, hp_J_sI, hp_J_sJ, hp_J_sR, hp_R_sI, hp_R_sJ, hp_R_sR, hr_iconst, hr_aconst_null, hr_iload_n, hr_aload_n, hr_astore_n, hr_isub, hr_dup, hr_ifCond_eq, hr_ifCond_le, hr_ifnull, hr_getfield, hr_putfield, hr_aastore, hr_return_, hr_invokevirtual, hr_invokespecial, hr_new, hr_athrow, hz_i1, hz_i2, hz_l1, hz_l2, hz_r1, hz_r2, hz_ia, hz_via, hz_vr, hz_ld0, hz_ld1, hz_ld2, hz_s0, hz_s1, hz_s2, hz_g0, hz_g1, hz_d0, hz_d1, hz_d3, hz_d2, hz_t0, hz_t1, hz_t3, hz_t2, hz_c0, hz_c1, hz_rti, hz_rtl, hz_rta, hz_rtv, hz_br, hz_fh0, hz_fh1, hz_fh2, hz_fh3, hz_ft0, hz_ft1, hz_ft2, hz_ft3, hz_sF0, hz_sF1, hz_sF2, hz_lg0, hz_lg1, hz_lg2, hz_f0, hz_f1, hz_f2, hz_f3, hz_k0, hz_k1, hz_rm, hz_ok0, hz_ok1, hz_ok2, hz_ok3, hz_ok4, hz_l0, hz_l1c, hz_ar0, hz_ar1, ht_0_0, hn_0_0, ht_0_1, hn_0_1, ht_0_2, hn_0_2, ht_0_3, hn_0_3, hnf_0, ht_1_0, hn_1_0, ht_1_1, hn_1_1, ht_1_2, hn_1_2, ht_1_3, hn_1_3, ht_1_4, hn_1_4, ht_1_5, hn_1_5, ht_1_6, hn_1_6, ht_1_7, hn_1_7, ht_1_8, hn_1_8, ht_1_9, hn_1_9, ht_1_10, hn_1_10, ht_1_11, hn_1_11, ht_1_12, hn_1_12, ht_1_13, hn_1_13, hnf_1, ht_2_0, hn_2_0, ht_2_1, hn_2_1, ht_2_2, hn_2_2, hnf_2, ht_3_0, hn_3_0, ht_3_1, hn_3_1, ht_3_2, hn_3_2, ht_3_3, hn_3_3, ht_3_4, hn_3_4, ht_3_5, hn_3_5, ht_3_6, hn_3_6, ht_3_7, hn_3_7, ht_3_8, hn_3_8, ht_3_9, hn_3_9, ht_3_10, hn_3_10, hnf_3, ht_4_0, hn_4_0, ht_4_1, hn_4_1, ht_4_2, hn_4_2, ht_4_3, hn_4_3, ht_4_4, hn_4_4, ht_4_5, hn_4_5, ht_4_6, hn_4_6, ht_4_7, hn_4_7, ht_4_8, hn_4_8, ht_4_9, hn_4_9, ht_4_10, hn_4_10, ht_4_11, hn_4_11, ht_4_12, hn_4_12, ht_4_13, hn_4_13, ht_4_14, hn_4_14, ht_4_15, hn_4_15, ht_4_16, hn_4_16, ht_4_17, hn_4_17, ht_4_18, hn_4_18, ht_4_19, hn_4_19, hnf_4, hc_im1, hc_i0, hc_i1, hc_i2, hc_i3, hc_i4, hc_i5, hc_bm2, hc_b6, hc_b7, hc_b15, hc_b64, hc_s500, hc_s1000, hc_s2000, hw_10, hw_01, hp_F_3_18, hp_F_3_22, hp_F_3_43, hp_F_3_47, hp_F_3_66, hp_F_3_76, dX3_remove_0, dX3_remove_1, dX3_remove_2, dX3_remove_5, dX3_remove_6, dX3_remove_7, dX3_remove_10, dX3_remove_11, dX3_remove_12, dX3_remove_15, dX3_remove_16, dX3_remove_19, dX3_remove_22, dX3_remove_23, dX3_remove_26, dX3_remove_29, dX3_remove_32, dX3_remove_35, dX3_remove_36, dX3_remove_39, dX3_remove_40, dX3_remove_41, dX3_remove_42, dX3_remove_45, dX3_remove_46, dX3_remove_49, dX3_remove_50, dX3_remove_53, dX3_remove_54, dX3_remove_55, dX3_remove_56, dX3_remove_57, dX3_remove_60, dX3_remove_61, dX3_remove_62, dX3_remove_65, kx1, k1, n2, q1, q2, q3, q4, h5, h6, rm_wc, rm_ws, rm_0c, rm_0s, Option.toList_none, hw_20, hw_30, hw_40, hx_0, hx_1, hx_2, hx_3, hx_4, hy_00, hy_10]
        have ho := op_leaf hr hj g1.2 g3
        have hR2 := rn_gone hR1 hj j0 (by rw [pa_mn, if_pos rfl]) (fun k hk2 => by
          rw [pa_mn]
          by_cases z : k = j
          · rw [if_pos z]; omega
          · rw [if_neg z]; exact (nch_0 hr.1.1.1.1 hj).mp g1.2 k hk2)
        rw [mn_mn] at hR2
        refine ⟨_, _, Or.inr (Or.inr ⟨rfl, j, hj, hpj, rfl, j0, g1.2, g3, stl_self (fix_remove hr.2.1 hj ho)⟩), rn_nb hR2 (fun e _ => (noc_remove ho 65 e)), ?_⟩
        refine hf1.trans ((frC.sR _ _ _ _ (Or.inr ?_)).trans (frC.sI _ _ _ _ (Or.inl ?_)))
        · rw [q2]; omega
        · rw [hp_K_sR, kx1]; omega
      · have hpos : 0 < (own M j).length := by
          rcases Nat.eq_zero_or_pos (own M j).length with e | e
          · exact absurd (List.eq_nil_of_length_eq_zero e) g3
          · exact e
        have g4 : ¬ nI (own M j).length ≤ 0 := nI_nle hpos (by omega)
        simp only [or_true, or_false, true_or, false_or, or_self, hp_wp0, hp_wpS, eq_self, true_and, and_true, false_and, and_false, if_true, if_false, Bool.false_eq_true, Bool.or_false, Bool.or_true, Bool.true_or, Bool.false_or, ite_true, ite_false, ↓reduceIte, reduceCtorEq, Nat.reduceBEq, Nat.reduceAdd, Nat.reduceEqDiff, Nat.reduceLT, Nat.reduceLeDiff, Int.reduceAdd, Int.reduceToNat, Int.reduceLE, Int.reduceNeg, Int.cast_ofNat_Int, Nat.zero_add, Option.some.injEq, exists_eq_left', exists_eq_left, not_true_eq_false, not_false_eq_true, false_implies, true_implies, forall_const, implies_true, List.cons_append, List.nil_append, Nat.le_refl, Nat.zero_le, hp_K_sI, hp_K_sJ, hp_K_sR, hp_N_sI, hp_N_sJ, hp_N_sR, hp_I_sI, hp_I_sJ, hp_I_sR, hp_J_sI, hp_J_sJ, hp_J_sR, hp_R_sI, hp_R_sJ, hp_R_sR, hr_iconst, hr_aconst_null, hr_iload_n, hr_aload_n, hr_astore_n, hr_isub, hr_dup, hr_ifCond_eq, hr_ifCond_le, hr_ifnull, hr_getfield, hr_putfield, hr_aastore, hr_return_, hr_invokevirtual, hr_invokespecial, hr_new, hr_athrow, hz_i1, hz_i2, hz_l1, hz_l2, hz_r1, hz_r2, hz_ia, hz_via, hz_vr, hz_ld0, hz_ld1, hz_ld2, hz_s0, hz_s1, hz_s2, hz_g0, hz_g1, hz_d0, hz_d1, hz_d3, hz_d2, hz_t0, hz_t1, hz_t3, hz_t2, hz_c0, hz_c1, hz_rti, hz_rtl, hz_rta, hz_rtv, hz_br, hz_fh0, hz_fh1, hz_fh2, hz_fh3, hz_ft0, hz_ft1, hz_ft2, hz_ft3, hz_sF0, hz_sF1, hz_sF2, hz_lg0, hz_lg1, hz_lg2, hz_f0, hz_f1, hz_f2, hz_f3, hz_k0, hz_k1, hz_rm, hz_ok0, hz_ok1, hz_ok2, hz_ok3, hz_ok4, hz_l0, hz_l1c, hz_ar0, hz_ar1, ht_0_0, hn_0_0, ht_0_1, hn_0_1, ht_0_2, hn_0_2, ht_0_3, hn_0_3, hnf_0, ht_1_0, hn_1_0, ht_1_1, hn_1_1, ht_1_2, hn_1_2, ht_1_3, hn_1_3, ht_1_4, hn_1_4, ht_1_5, hn_1_5, ht_1_6, hn_1_6, ht_1_7, hn_1_7, ht_1_8, hn_1_8, ht_1_9, hn_1_9, ht_1_10, hn_1_10, ht_1_11, hn_1_11, ht_1_12, hn_1_12, ht_1_13, hn_1_13, hnf_1, ht_2_0, hn_2_0, ht_2_1, hn_2_1, ht_2_2, hn_2_2, hnf_2, ht_3_0, hn_3_0, ht_3_1, hn_3_1, ht_3_2, hn_3_2, ht_3_3, hn_3_3, ht_3_4, hn_3_4, ht_3_5, hn_3_5, ht_3_6, hn_3_6, ht_3_7, hn_3_7, ht_3_8, hn_3_8, ht_3_9, hn_3_9, ht_3_10, hn_3_10, hnf_3, ht_4_0, hn_4_0, ht_4_1, hn_4_1, ht_4_2, hn_4_2, ht_4_3, hn_4_3, ht_4_4, hn_4_4, ht_4_5, hn_4_5, ht_4_6, hn_4_6, ht_4_7, hn_4_7, ht_4_8, hn_4_8, ht_4_9, hn_4_9, ht_4_10, hn_4_10, ht_4_11, hn_4_11, ht_4_12, hn_4_12, ht_4_13, hn_4_13, ht_4_14, hn_4_14, ht_4_15, hn_4_15, ht_4_16, hn_4_16, ht_4_17, hn_4_17, ht_4_18, hn_4_18, ht_4_19, hn_4_19, hnf_4, hc_im1, hc_i0, hc_i1, hc_i2, hc_i3, hc_i4, hc_i5, hc_bm2, hc_b6, hc_b7, hc_b15, hc_b64, hc_s500, hc_s1000, hc_s2000, hw_10, hw_01, hp_F_3_18, hp_F_3_22, hp_F_3_43, hp_F_3_47, hp_F_3_66, hp_F_3_76, dX3_remove_0, dX3_remove_1, dX3_remove_2, dX3_remove_5, dX3_remove_6, dX3_remove_7, dX3_remove_10, dX3_remove_11, dX3_remove_12, dX3_remove_15, dX3_remove_16, dX3_remove_19, dX3_remove_22, dX3_remove_23, dX3_remove_26, dX3_remove_29, dX3_remove_32, dX3_remove_35, dX3_remove_36, dX3_remove_39, dX3_remove_40, dX3_remove_41, dX3_remove_42, dX3_remove_45, dX3_remove_46, dX3_remove_49, dX3_remove_50, dX3_remove_53, dX3_remove_54, dX3_remove_55, dX3_remove_56, dX3_remove_57, dX3_remove_60, dX3_remove_61, dX3_remove_62, dX3_remove_65, hk, r2, kl, l2, g4, rm_wc, rm_ws, rm_0c, rm_0s, Option.toList_some, List.singleton_append, hw_20, hw_30, hw_40, hx_0, hx_1, hx_2, hx_3, hx_4, hy_00, hy_10]
        exact hp_throw CX D hp_x_ISE (Or.inr ⟨rfl, bad (fun z => g3 z.2.2)⟩) dX3_remove_32 dX3_remove_35 dX3_remove_36 dX3_remove_39 (by decide)
    · simp only [if_neg g1]
      simp only [or_true, or_false, true_or, false_or, or_self, hp_wp0, hp_wpS, eq_self, true_and, and_true, false_and, and_false, if_true, if_false, Bool.false_eq_true, Bool.or_false, Bool.or_true, Bool.true_or, Bool.false_or, ite_true, ite_false, ↓reduceIte, reduceCtorEq, Nat.reduceBEq, Nat.reduceAdd, Nat.reduceEqDiff, Nat.reduceLT, Nat.reduceLeDiff, Int.reduceAdd, Int.reduceToNat, Int.reduceLE, Int.reduceNeg, Int.cast_ofNat_Int, Nat.zero_add, Option.some.injEq, exists_eq_left', exists_eq_left, not_true_eq_false, not_false_eq_true, false_implies, true_implies, forall_const, implies_true, List.cons_append, List.nil_append, Nat.le_refl, Nat.zero_le, hp_K_sI, hp_K_sJ, hp_K_sR, hp_N_sI, hp_N_sJ, hp_N_sR, hp_I_sI, hp_I_sJ, hp_I_sR, hp_J_sI, hp_J_sJ, hp_J_sR, hp_R_sI, hp_R_sJ, hp_R_sR, hr_iconst, hr_aconst_null, hr_iload_n, hr_aload_n, hr_astore_n, hr_isub, hr_dup, hr_ifCond_eq, hr_ifCond_le, hr_ifnull, hr_getfield, hr_putfield, hr_aastore, hr_return_, hr_invokevirtual, hr_invokespecial, hr_new, hr_athrow, hz_i1, hz_i2, hz_l1, hz_l2, hz_r1, hz_r2, hz_ia, hz_via, hz_vr, hz_ld0, hz_ld1, hz_ld2, hz_s0, hz_s1, hz_s2, hz_g0, hz_g1, hz_d0, hz_d1, hz_d3, hz_d2, hz_t0, hz_t1, hz_t3, hz_t2, hz_c0, hz_c1, hz_rti, hz_rtl, hz_rta, hz_rtv, hz_br, hz_fh0, hz_fh1, hz_fh2, hz_fh3, hz_ft0, hz_ft1, hz_ft2, hz_ft3, hz_sF0, hz_sF1, hz_sF2, hz_lg0, hz_lg1, hz_lg2, hz_f0, hz_f1, hz_f2, hz_f3, hz_k0, hz_k1, hz_rm, hz_ok0, hz_ok1, hz_ok2, hz_ok3, hz_ok4, hz_l0, hz_l1c, hz_ar0, hz_ar1, ht_0_0, hn_0_0, ht_0_1, hn_0_1, ht_0_2, hn_0_2, ht_0_3, hn_0_3, hnf_0, ht_1_0, hn_1_0, ht_1_1, hn_1_1, ht_1_2, hn_1_2, ht_1_3, hn_1_3, ht_1_4, hn_1_4, ht_1_5, hn_1_5, ht_1_6, hn_1_6, ht_1_7, hn_1_7, ht_1_8, hn_1_8, ht_1_9, hn_1_9, ht_1_10, hn_1_10, ht_1_11, hn_1_11, ht_1_12, hn_1_12, ht_1_13, hn_1_13, hnf_1, ht_2_0, hn_2_0, ht_2_1, hn_2_1, ht_2_2, hn_2_2, hnf_2, ht_3_0, hn_3_0, ht_3_1, hn_3_1, ht_3_2, hn_3_2, ht_3_3, hn_3_3, ht_3_4, hn_3_4, ht_3_5, hn_3_5, ht_3_6, hn_3_6, ht_3_7, hn_3_7, ht_3_8, hn_3_8, ht_3_9, hn_3_9, ht_3_10, hn_3_10, hnf_3, ht_4_0, hn_4_0, ht_4_1, hn_4_1, ht_4_2, hn_4_2, ht_4_3, hn_4_3, ht_4_4, hn_4_4, ht_4_5, hn_4_5, ht_4_6, hn_4_6, ht_4_7, hn_4_7, ht_4_8, hn_4_8, ht_4_9, hn_4_9, ht_4_10, hn_4_10, ht_4_11, hn_4_11, ht_4_12, hn_4_12, ht_4_13, hn_4_13, ht_4_14, hn_4_14, ht_4_15, hn_4_15, ht_4_16, hn_4_16, ht_4_17, hn_4_17, ht_4_18, hn_4_18, ht_4_19, hn_4_19, hnf_4, hc_im1, hc_i0, hc_i1, hc_i2, hc_i3, hc_i4, hc_i5, hc_bm2, hc_b6, hc_b7, hc_b15, hc_b64, hc_s500, hc_s1000, hc_s2000, hw_10, hw_01, hp_F_3_18, hp_F_3_22, hp_F_3_43, hp_F_3_47, hp_F_3_66, hp_F_3_76, dX3_remove_0, dX3_remove_1, dX3_remove_2, dX3_remove_5, dX3_remove_6, dX3_remove_7, dX3_remove_10, dX3_remove_11, dX3_remove_12, dX3_remove_15, dX3_remove_16, dX3_remove_19, dX3_remove_22, dX3_remove_23, dX3_remove_26, dX3_remove_29, dX3_remove_32, dX3_remove_35, dX3_remove_36, dX3_remove_39, dX3_remove_40, dX3_remove_41, dX3_remove_42, dX3_remove_45, dX3_remove_46, dX3_remove_49, dX3_remove_50, dX3_remove_53, dX3_remove_54, dX3_remove_55, dX3_remove_56, dX3_remove_57, dX3_remove_60, dX3_remove_61, dX3_remove_62, dX3_remove_65, hk, rm_wc, rm_ws, rm_0c, rm_0s, Option.toList_some, List.singleton_append, hw_20, hw_30, hw_40, hx_0, hx_1, hx_2, hx_3, hx_4, hy_00, hy_10]
      exact hp_throw CX D hp_x_ISE (Or.inr ⟨rfl, bad (fun z => g1 ⟨z.1, z.2.1⟩)⟩) dX3_remove_32 dX3_remove_35 dX3_remove_36 dX3_remove_39 (by decide)
end M58
