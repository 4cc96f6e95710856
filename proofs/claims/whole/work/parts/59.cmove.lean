/-! THE CLASS: move -/
section M59
theorem cnt_at {P : Nat → Bool} {m : Nat} (hm : m < 64) : cnt P = cnt (fun i => P i && decide (¬ i = m)) + (if P m = true then 1 else 0) := by
  by_cases h : P m = true
  · rw [if_pos h]
    exact cnt_del hm h
  · rw [if_neg h, Nat.add_zero]
    refine cnt_congr (fun i hi => ?_)
    by_cases q : i = m
    · subst q
      have : P i = false := by simpa using h
      simp [this]
    · simp [q]
theorem noc_move {M : ab_T} {j b : Nat} (hj : j < 64) (c : Nat) : noc M c + (if b = c ∧ op M j = 1 then 1 else 0) = noc (mmv M j b) c + (if pa M j = c ∧ op M j = 1 then 1 else 0) := by
  unfold noc
  rw [cnt_at (P := fun k => decide (pa M k = c) && decide (op M k = 1)) hj, cnt_at (P := fun k => decide (pa (mmv M j b) k = c) && decide (op (mmv M j b) k = 1)) hj]
  have e : cnt (fun i => (decide (pa (mmv M j b) i = c) && decide (op (mmv M j b) i = 1)) && decide (¬ i = j)) = cnt (fun i => (decide (pa M i = c) && decide (op M i = 1)) && decide (¬ i = j)) := by
    refine cnt_congr (fun i hi => ?_)
    rw [mmv_pa, mmv_op]
    by_cases q : i = j
    · simp [q]
    · rw [if_neg q]
  rw [e]
  have e1 : (if (decide (pa M j = c) && decide (op M j = 1)) = true then 1 else 0) = if pa M j = c ∧ op M j = 1 then 1 else 0 := by simp
  have e2 : (if (decide (pa (mmv M j b) j = c) && decide (op (mmv M j b) j = 1)) = true then 1 else 0) = if b = c ∧ op M j = 1 then 1 else 0 := by
    rw [mmv_pa, mmv_op, if_pos rfl]
    simp
  show _ + (if (decide (pa M j = c) && decide (op M j = 1)) = true then 1 else 0) + _ = _ + (if (decide (pa (mmv M j b) j = c) && decide (op (mmv M j b) j = 1)) = true then 1 else 0) + _
  rw [e1, e2]
  omega
/-- the way up from the old parent is the same in the new state -/
theorem upl_mmv {M : ab_T} {j b : Nat} : ∀ (us : List Nat) (c : Nat), upl M c us → j ∉ us → upl (mmv M j b) c us := by
  intro us
  induction us with
  | nil => intro c h _; exact h
  | cons u us ih =>
    intro c h hn
    obtain ⟨rfl, h1, h2⟩ := h
    refine ⟨rfl, h1, ?_⟩
    rw [mmv_pa, if_neg (fun q => hn (by rw [q]; exact List.mem_cons_self))]
    exact ih _ h2 (fun q => hn (List.mem_cons_of_mem _ q))
theorem upl_rk {M : ab_T} {rk : Nat → Nat} (hr : ∀ c, c < 64 → pa M c < 64 → rk (pa M c) < rk c) : ∀ (us : List Nat) (c : Nat), c < 64 → upl M c us → ∀ u ∈ us, rk u ≤ rk c := by
  intro us
  induction us with
  | nil => intro c _ _ u hu; cases hu
  | cons v us ih =>
    intro c hc h u hu
    obtain ⟨rfl, h1, h2⟩ := h
    rcases List.mem_cons.mp hu with q | q
    · rw [q]; exact Nat.le_refl _
    · by_cases g : pa M c < 64
      · have := ih _ g h2 u q
        have := hr c hc g
        omega
      · exfalso
        cases us with
        | nil => cases q
        | cons w us => exact g (by have := h2.2.1; rw [← h2.1] at this; omega)
theorem upl_nj {M : ab_T} (hr : rkd M) {j : Nat} {us : List Nat} (hj : j < 64) (hb : pa M j < 64) (hu : upl M (pa M j) us) : j ∉ us := by
  obtain ⟨rk, h⟩ := hr
  intro q
  have := upl_rk h us _ hb hu j q
  have := h j hj hb
  omega
theorem fix_move0 {M : ab_T} (hf : fix M (op M)) {j b : Nat} (ho : op M j = 0) : fix (mmv M j b) (op M) := by
  intro c hc
  obtain ⟨q1, q2⟩ := hf c hc
  refine ⟨q1, ?_⟩
  rw [q2]
  show hd M c = 0 ∧ _ ↔ hd M c = 0 ∧ _
  refine and_congr_right (fun _ => or_congr Iff.rfl ?_)
  constructor
  · rintro ⟨k, k1, k2, k3⟩
    refine ⟨k, k1, ?_, k3⟩
    rw [mmv_pa, if_neg (fun z => by rw [z] at k3; omega)]
    exact k2
  · rintro ⟨k, k1, k2, k3⟩
    rw [mmv_pa, if_neg (fun z => by rw [z] at k3; omega)] at k2
    exact ⟨k, k1, k2, k3⟩
theorem wfS_as {M : ab_T} (h : wfS M) (o : Nat → Nat) : wfS (a_set M o) := h
/-- an open class went from one parent to another: what both walks make of the state -/
theorem go_carry {M : ab_T} (hr : rin M) {j b : Nat} {us vs : List Nat} (hj : j < 64) (hF : pa M j < 64) (hb : b < 64) (ho : op M j = 1) (hw1 : wfS (mmv M j b)) (hu : upl (mmv M j b) b us) (hv : upl M (pa M j) vs) : ∃ o1, sgo (mmv M j b) us = a_set (mmv M j b) o1 ∧ vis (pa M j) (mmv M j b) us ∧ (∀ c, c < 64 → o1 c ≤ 1) ∧ stl (mmv M j b) (sgo (a_set (mmv M j b) o1) vs) := by
  have hf := hr.2.1
  have hop := hr.1.2.2
  have nj := upl_nj hr.1.1.2.2.1 hj hF hv
  have hv1 : upl (mmv M j b) (pa M j) vs := upl_mmv vs _ hv nj
  have as0 : a_set (mmv M j b) (op M) = mmv M j b := as_self (mmv M j b)
  have c1 : ∀ c, c < 64 → ¬ c = pa M j → op M c = 1 → cpo (mmv M j b) (op M) c := by
    intro c hc hne q
    obtain ⟨a1, a2 | ⟨k, k1, k2, k3⟩⟩ := (hf c hc).2.mp q
    · exact ⟨a1, Or.inl a2⟩
    · refine ⟨a1, Or.inr ⟨k, k1, ?_, k3⟩⟩
      rw [mmv_pa, if_neg (fun z => hne (by rw [← z]; exact k2.symm))]
      exact k2
  have c2 : ∀ c, c < 64 → ¬ c = b → cpo (mmv M j b) (op M) c → op M c = 1 := by
    rintro c hc hne ⟨a1, a2 | ⟨k, k1, k2, k3⟩⟩
    · exact (hf c hc).2.mpr ⟨a1, Or.inl a2⟩
    · refine (hf c hc).2.mpr ⟨a1, Or.inr ⟨k, k1, ?_, k3⟩⟩
      rw [mmv_pa] at k2
      by_cases z : k = j
      · rw [if_pos z] at k2; exact absurd k2.symm hne
      · rw [if_neg z] at k2; exact k2
  obtain ⟨o1, r1, r2, r3, r4, r5, r6, r7⟩ := sgo_open hw1 (E := pa M j) (Y := fun _ => False) us b (op M) hu hop c1 (fun _ q => ((hf _ hF).2.mp q).1) (fun e _ => ⟨j, hj, by rw [mmv_pa, if_pos rfl], ho⟩) (fun c hc _ hne q => c2 c hc hne q) (fun _ _ q => q)
  rw [as0] at r1 r2
  obtain ⟨o2, s1, s2, -⟩ := sgo_close hw1 vs (pa M j) o1 hv1 r3 (fun c hc q => r6 c hc (fun z => z) q) r4 (fun _ q => (hf _ hF).2.mpr ⟨r5 hF q, Or.inr ⟨j, hj, rfl, ho⟩⟩) (fun w hw q1 q2 q3 _ => by
    have wj : ¬ w = j := fun z => nj (by rw [← z]; exact hw)
    rw [mmv_pa, if_neg wj] at q2 q3 ⊢
    exact (hf _ q2).2.mpr ⟨q3, Or.inr ⟨w, (upl_in vs _ hv w hw).1, rfl, q1⟩⟩)
  exact ⟨o1, r1, r2, r3, o2, s2, s1⟩
theorem rx_carry {S : hp_T} {x0 : Nat} {Z : cd_T} {M : ab_T} {nb o1 : Nat → Nat} {F b : Nat} {us vs : List Nat} (h : RepN S x0 Z M nb) (hnb : ∀ c, c < 64 → nb c + (if b = c then 1 else 0) = noc M c + (if F = c then 1 else 0)) (hw : wfS M) (hop : ∀ e, e < 64 → op M e ≤ 1) (hb : b < 64) (hpb : ¬ pa M b = 65) (hF : F < 64) (hpF : ¬ pa M F = 65) (hu : upl M b us) (hv : upl M F vs) (h1 : sgo M us = a_set M o1) (h2 : vis F M us) (h3 : ∀ c, c < 64 → o1 c ≤ 1) : RepC (f_carry S x0 (dna Z F) (dna Z b) (vs.map (dna Z)) (us.map (dna Z))) x0 Z (sgo (a_set M o1) vs) ∧ frC S (f_carry S x0 (dna Z F) (dna Z b) (vs.map (dna Z)) (us.map (dna Z))) := by
  have kb := (h.2.1 b hb hpb).1.1
  have i7 := (h.2.1 b hb hpb).1.2.2.2.2.2.2.2.1
  have hR1 : RepN (hp_sI S (dna Z b) 7 (hp_I S (dna Z b) 7 + 1)) x0 Z M (fun c => nb c + (if b = c then 1 else 0)) := by
    refine rn_nbw h hb hpb ?_ (fun e he => ?_)
    · rw [i7, if_pos rfl, ← nI_add]; rfl
    · show nb e + (if b = e then 1 else 0) = nb e
      rw [if_neg (fun q => he q.symm)]; rfl
  have hf1 := frC.sI S (dna Z b) 7 (hp_I S (dna Z b) 7 + 1) (Or.inl (by rw [kb]; omega))
  have hR2 : RepN _ x0 Z M (xnb F M) := rn_nb hR1 (fun c hc => by
    show xnb F M c = _
    rw [hnb c hc]
    unfold xnb
    by_cases q : c = F
    · rw [if_pos q, if_pos q.symm]
    · rw [if_neg q, if_neg (fun z => q z.symm)])
  obtain ⟨hR3, hf3⟩ := rx_settle us b M _ hR2 hw hop hu h2
  rw [h1] at hR3
  unfold f_carry
  show RepC (f_settle x0 (vs.map (dna Z)) (hp_sI _ (dna Z F) 7 _)) x0 Z _ ∧ frC S (f_settle x0 (vs.map (dna Z)) (hp_sI _ (dna Z F) 7 _))
  generalize f_settle x0 (us.map (dna Z)) (hp_sI S (dna Z b) 7 (hp_I S (dna Z b) 7 + 1)) = T at hR3 hf3 ⊢
  have kF := (hR3.2.1 F hF hpF).1.1
  have j7 := (hR3.2.1 F hF hpF).1.2.2.2.2.2.2.2.1
  have hR4 : RepN (hp_sI T (dna Z F) 7 (hp_I T (dna Z F) 7 - 1)) x0 Z (a_set M o1) (noc (a_set M o1)) := by
    refine rn_nbw hR3 hF hpF ?_ (fun e he => ?_)
    · rw [j7]
      unfold xnb
      rw [if_pos rfl, ← nI_add]
      exact Int32.add_sub_cancel _ _
    · unfold xnb
      rw [if_neg he]; rfl
  have hv2 : upl (a_set M o1) F vs := upl_pa (fun c => as_pa M o1 c) vs F hv
  obtain ⟨hR5, hf5⟩ := rx_settle vs F (a_set M o1) _ (rc_x.mp hR4) (wfS_as hw o1) (fun e he => by rw [as_op M o1 he]; exact h3 e he) hv2 (vis_64 vs _ F hv2)
  exact ⟨rc_x.mpr hR5, (hf1.trans hf3).trans ((frC.sI _ _ _ _ (Or.inl (by rw [kF]; omega))).trans hf5)⟩
set_option maxRecDepth 20000 in
set_option maxHeartbeats 4000000 in
theorem ct_move (l : Launch) (hlt : l.stackTraces = false) (G : hp_G) (S : hp_T) (x0 : Nat) (Z : cd_T) (M : ab_T) (c p : Int32) (h : RepC S x0 Z M) (hr : rin M) : hp_MetX l G yX3_move cX3_move 6 none rm_w [.inr (.inr (some x0)), .inl c, .inl p] S (fun v S' => v = none ∧ cps S x0 (sp_move M c p 0) S') (fun E => (x_IOE E ∧ sp_move M c p 1 M) ∨ (x_IAE E ∧ sp_move M c p 2 M) ∨ (x_ISE E ∧ sp_move M c p 3 M)) := by
  have h1 := h.1
  have kx := h1.1
  refine hp_MetX.of (by decide) rfl hlt (by show 3 ≤ 6; decide) (fun X C D CX => ?_)
  refine hp_run C [] 60 _ _ _ _ ?_
  simp only [or_true, or_false, true_or, false_or, or_self, hp_wp0, hp_wpS, eq_self, true_and, and_true, false_and, and_false, if_true, if_false, Bool.false_eq_true, Bool.or_false, Bool.or_true, Bool.true_or, Bool.false_or, ite_true, ite_false, ↓reduceIte, reduceCtorEq, Nat.reduceBEq, Nat.reduceAdd, Nat.reduceEqDiff, Nat.reduceLT, Nat.reduceLeDiff, Int.reduceAdd, Int.reduceToNat, Int.reduceLE, Int.reduceNeg, Int.cast_ofNat_Int, Nat.zero_add, Option.some.injEq, exists_eq_left', exists_eq_left, not_true_eq_false, not_false_eq_true, false_implies, true_implies, forall_const, implies_true, List.cons_append, List.nil_append, Nat.le_refl, Nat.zero_le, hp_K_sI, hp_K_sJ, hp_K_sR, hp_N_sI, hp_N_sJ, hp_N_sR, hp_I_sI, hp_I_sJ, hp_I_sR, hp_J_sI, hp_J_sJ, hp_J_sR, hp_R_sI, hp_R_sJ, hp_R_sR, hr_iconst, hr_iload_n, hr_aload_n, hr_aload, hr_astore_n, hr_astore, hr_dup, hr_ifCond_eq, hr_ifCond_le, hr_ifnull, hr_getfield, hr_putfield, hr_return_, hr_invokevirtual, hr_invokespecial, hr_new, hr_athrow, hz_i1, hz_i2, hz_l1, hz_l2, hz_r1, hz_r2, hz_ia, hz_via, hz_vr, hz_ld0, hz_ld1, hz_ld2, hz_s0, hz_s1, hz_s2, hz_g0, hz_g1, hz_d0, hz_d1, hz_d3, hz_d2, hz_t0, hz_t1, hz_t3, hz_t2, hz_c0, hz_c1, hz_rti, hz_rtl, hz_rta, hz_rtv, hz_br, hz_fh0, hz_fh1, hz_fh2, hz_fh3, hz_ft0, hz_ft1, hz_ft2, hz_ft3, hz_sF0, hz_sF1, hz_sF2, hz_lg0, hz_lg1, hz_lg2, hz_f0, hz_f1, hz_f2, hz_f3, hz_k0, hz_k1, hz_rm, hz_ok0, hz_ok1, hz_ok2, hz_ok3, hz_ok4, hz_l0, hz_l1c, hz_ar0, hz_ar1, ht_0_0, hn_0_0, ht_0_1, hn_0_1, ht_0_2, hn_0_2, ht_0_3, hn_0_3, hnf_0, ht_1_0, hn_1_0, ht_1_1, hn_1_1, ht_1_2, hn_1_2, ht_1_3, hn_1_3, ht_1_4, hn_1_4, ht_1_5, hn_1_5, ht_1_6, hn_1_6, ht_1_7, hn_1_7, ht_1_8, hn_1_8, ht_1_9, hn_1_9, ht_1_10, hn_1_10, ht_1_11, hn_1_11, ht_1_12, hn_1_12, ht_1_13, hn_1_13, hnf_1, ht_2_0, hn_2_0, ht_2_1, hn_2_1, ht_2_2, hn_2_2, hnf_2, ht_3_0, hn_3_0, ht_3_1, hn_3_1, ht_3_2, hn_3_2, ht_3_3, hn_3_3, ht_3_4, hn_3_4, ht_3_5, hn_3_5, ht_3_6, hn_3_6, ht_3_7, hn_3_7, ht_3_8, hn_3_8, ht_3_9, hn_3_9, ht_3_10, hn_3_10, hnf_3, ht_4_0, hn_4_0, ht_4_1, hn_4_1, ht_4_2, hn_4_2, ht_4_3, hn_4_3, ht_4_4, hn_4_4, ht_4_5, hn_4_5, ht_4_6, hn_4_6, ht_4_7, hn_4_7, ht_4_8, hn_4_8, ht_4_9, hn_4_9, ht_4_10, hn_4_10, ht_4_11, hn_4_11, ht_4_12, hn_4_12, ht_4_13, hn_4_13, ht_4_14, hn_4_14, ht_4_15, hn_4_15, ht_4_16, hn_4_16, ht_4_17, hn_4_17, ht_4_18, hn_4_18, ht_4_19, hn_4_19, hnf_4, hc_im1, hc_i0, hc_i1, hc_i2, hc_i3, hc_i4, hc_i5, hc_bm2, hc_b6, hc_b7, hc_b15, hc_b64, hc_s500, hc_s1000, hc_s2000, hw_10, hw_01, hp_F_3_43, hp_F_3_47, hp_F_3_66, hp_F_3_85, hp_F_3_92, hp_F_3_96, hp_F_3_99, dX3_move_0, dX3_move_1, dX3_move_2, dX3_move_5, dX3_move_6, dX3_move_7, dX3_move_8, dX3_move_11, dX3_move_13, dX3_move_15, dX3_move_16, dX3_move_19, dX3_move_22, dX3_move_25, dX3_move_26, dX3_move_29, dX3_move_30, dX3_move_32, dX3_move_35, dX3_move_38, dX3_move_41, dX3_move_44, dX3_move_45, dX3_move_48, dX3_move_49, dX3_move_50, dX3_move_53, dX3_move_55, dX3_move_57, dX3_move_60, dX3_move_62, dX3_move_63, dX3_move_66, dX3_move_68, dX3_move_69, dX3_move_72, dX3_move_73, dX3_move_75, dX3_move_78, dX3_move_81, dX3_move_82, dX3_move_83, dX3_move_86, dX3_move_87, dX3_move_90, dX3_move_93, dX3_move_95, dX3_move_98, dX3_move_99, dX3_move_101, dX3_move_103, dX3_move_106, rm_wc, rm_ws, hw_20, hw_30, hw_40, hx_0, hx_1, hx_2, hx_3, hx_4, hy_00, hy_10]
  refine hp_callX (as := [.inl c]) (rest := []) C D CX dX3_move_2 kV_3_79 (mt_existingBelowRoot l hlt G S x0 _ c (tk_ok h1)) h1.1 (by decide) rfl ⟨⟨by decide, by decide⟩, ⟨by decide, by decide⟩, by decide⟩ (by decide) (fun E q => Or.inl ⟨q.1, Or.inl ⟨rfl, q.2.elim (fun z => Or.inr (Or.inl z)) (fun z => Or.inl (tc_none h1 z)), rfl⟩⟩) (fun v S' hv => ?_)
  obtain ⟨rfl, hc0, a, ha, rfl⟩ := hv
  obtain ⟨j, hj, hpj, rfl, rfl⟩ := tc_some h1 ha
  have j0 : ¬ j = 0 := fun q => hc0 (by rw [q]; rfl)
  refine hp_run C [] 60 _ _ _ _ ?_
  simp only [or_true, or_false, true_or, false_or, or_self, hp_wp0, hp_wpS, eq_self, true_and, and_true, false_and, and_false, if_true, if_false, Bool.false_eq_true, Bool.or_false, Bool.or_true, Bool.true_or, Bool.false_or, ite_true, ite_false, ↓reduceIte, reduceCtorEq, Nat.reduceBEq, Nat.reduceAdd, Nat.reduceEqDiff, Nat.reduceLT, Nat.reduceLeDiff, Int.reduceAdd, Int.reduceToNat, Int.reduceLE, Int.reduceNeg, Int.cast_ofNat_Int, Nat.zero_add, Option.some.injEq, exists_eq_left', exists_eq_left, not_true_eq_false, not_false_eq_true, false_implies, true_implies, forall_const, implies_true, List.cons_append, List.nil_append, Nat.le_refl, Nat.zero_le, hp_K_sI, hp_K_sJ, hp_K_sR, hp_N_sI, hp_N_sJ, hp_N_sR, hp_I_sI, hp_I_sJ, hp_I_sR, hp_J_sI, hp_J_sJ, hp_J_sR, hp_R_sI, hp_R_sJ, hp_R_sR, hr_iconst, hr_iload_n, hr_aload_n, hr_aload, hr_astore_n, hr_astore, hr_dup, hr_ifCond_eq, hr_ifCond_le, hr_ifnull, hr_getfield, hr_putfield, hr_return_, hr_invokevirtual, hr_invokespecial, hr_new, hr_athrow, hz_i1, hz_i2, hz_l1, hz_l2, hz_r1, hz_r2, hz_ia, hz_via, hz_vr, hz_ld0, hz_ld1, hz_ld2, hz_s0, hz_s1, hz_s2, hz_g0, hz_g1, hz_d0, hz_d1, hz_d3, hz_d2, hz_t0, hz_t1, hz_t3, hz_t2, hz_c0, hz_c1, hz_rti, hz_rtl, hz_rta, hz_rtv, hz_br, hz_fh0, hz_fh1, hz_fh2, hz_fh3, hz_ft0, hz_ft1, hz_ft2, hz_ft3, hz_sF0, hz_sF1, hz_sF2, hz_lg0, hz_lg1, hz_lg2, hz_f0, hz_f1, hz_f2, hz_f3, hz_k0, hz_k1, hz_rm, hz_ok0, hz_ok1, hz_ok2, hz_ok3, hz_ok4, hz_l0, hz_l1c, hz_ar0, hz_ar1, ht_0_0, hn_0_0, ht_0_1, hn_0_1, ht_0_2, hn_0_2, ht_0_3, hn_0_3, hnf_0, ht_1_0, hn_1_0, ht_1_1, hn_1_1, ht_1_2, hn_1_2, ht_1_3, hn_1_3, ht_1_4, hn_1_4, ht_1_5, hn_1_5, ht_1_6, hn_1_6, ht_1_7, hn_1_7, ht_1_8, hn_1_8, ht_1_9, hn_1_9, ht_1_10, hn_1_10, ht_1_11, hn_1_11, ht_1_12, hn_1_12, ht_1_13, hn_1_13, hnf_1, ht_2_0, hn_2_0, ht_2_1, hn_2_1, ht_2_2, hn_2_2, hnf_2, ht_3_0, hn_3_0, ht_3_1, hn_3_1, ht_3_2, hn_3_2, ht_3_3, hn_3_3, ht_3_4, hn_3_4, ht_3_5, hn_3_5, ht_3_6, hn_3_6, ht_3_7, hn_3_7, ht_3_8, hn_3_8, ht_3_9, hn_3_9, ht_3_10, hn_3_10, hnf_3, ht_4_0, hn_4_0, ht_4_1, hn_4_1, ht_4_2, hn_4_2, ht_4_3, hn_4_3, ht_4_4, hn_4_4, ht_4_5, hn_4_5, ht_4_6, hn_4_6, ht_4_7, hn_4_7, ht_4_8, hn_4_8, ht_4_9, hn_4_9, ht_4_10, hn_4_10, ht_4_11, hn_4_11, ht_4_12, hn_4_12, ht_4_13, hn_4_13, ht_4_14, hn_4_14, ht_4_15, hn_4_15, ht_4_16, hn_4_16, ht_4_17, hn_4_17, ht_4_18, hn_4_18, ht_4_19, hn_4_19, hnf_4, hc_im1, hc_i0, hc_i1, hc_i2, hc_i3, hc_i4, hc_i5, hc_bm2, hc_b6, hc_b7, hc_b15, hc_b64, hc_s500, hc_s1000, hc_s2000, hw_10, hw_01, hp_F_3_43, hp_F_3_47, hp_F_3_66, hp_F_3_85, hp_F_3_92, hp_F_3_96, hp_F_3_99, dX3_move_0, dX3_move_1, dX3_move_2, dX3_move_5, dX3_move_6, dX3_move_7, dX3_move_8, dX3_move_11, dX3_move_13, dX3_move_15, dX3_move_16, dX3_move_19, dX3_move_22, dX3_move_25, dX3_move_26, dX3_move_29, dX3_move_30, dX3_move_32, dX3_move_35, dX3_move_38, dX3_move_41, dX3_move_44, dX3_move_45, dX3_move_48, dX3_move_49, dX3_move_50, dX3_move_53, dX3_move_55, dX3_move_57, dX3_move_60, dX3_move_62, dX3_move_63, dX3_move_66, dX3_move_68, dX3_move_69, dX3_move_72, dX3_move_73, dX3_move_75, dX3_move_78, dX3_move_81, dX3_move_82, dX3_move_83, dX3_move_86, dX3_move_87, dX3_move_90, dX3_move_93, dX3_move_95, dX3_move_98, dX3_move_99, dX3_move_101, dX3_move_103, dX3_move_106, rm_wc, rm_ws, rm_x2c, rm_x2s, Option.toList_some, List.singleton_append, hw_20, hw_30, hw_40, hx_0, hx_1, hx_2, hx_3, hx_4, hy_00, hy_10]
  refine hp_callX (as := [.inl p]) (rest := []) C D CX dX3_move_8 kV_3_32 (mt_existing l hlt G S x0 _ p (tk_ok h1)) h1.1 (by decide) rfl ⟨⟨by decide, by decide⟩, ⟨by decide, by decide⟩, by decide⟩ (by decide) (fun E q => Or.inl ⟨q.1, Or.inl ⟨rfl, Or.inr (Or.inr (tc_none h1 q.2)), rfl⟩⟩) (fun v S' hv => ?_)
  obtain ⟨rfl, a, hab, rfl⟩ := hv
  obtain ⟨b, hb, hpb, rfl, rfl⟩ := tc_some h1 hab
  obtain ⟨ncn, ncl⟩ := h.2.1 j hj hpj
  obtain ⟨bcn, bcl⟩ := h.2.1 b hb hpb
  have hk := ncn.1
  have kb := bcn.1
  have r4 := ncn.2.2.2.2.2.1
  have i8 := ncn.2.2.2.2.2.2.2.2.1
  have r2 := bcn.2.2.2.1
  have kl := bcl.1
  have l2 := bcl.2.2.2.1
  have hF : pa M j < 64 := by
    have := hr.1.1.1.2 j hj (by omega)
    omega
  have hpF : ¬ pa M (pa M j) = 65 := hr.1.1.2.1 j hj hF
  rw [if_pos hF] at r4
  have kF := (h.2.1 _ hF hpF).1.1
  obtain ⟨ws, hws, -⟩ := upl_ex hr.1.1 b hb hpb
  have hin : dna Z j ∈ ws.map (dna Z) ↔ und M b j := by
    constructor
    · intro q
      obtain ⟨k, q1, q2⟩ := List.mem_map.mp q
      have w := upl_in ws b hws k q1
      rw [na_inj (h.2.1 k w.1 w.2).1 ncn w.1 hj q2] at q1
      exact ⟨ws, hws, q1⟩
    · rintro ⟨us, q1, q2⟩
      rw [upl_un us ws b q1 hws] at q2
      exact List.mem_map.mpr ⟨j, q2, rfl⟩
  refine hp_run C [] 60 _ _ _ _ ?_
  simp only [or_true, or_false, true_or, false_or, or_self, hp_wp0, hp_wpS, eq_self, true_and, and_true, false_and, and_false, if_true, if_false, Bool.false_eq_true, Bool.or_false, Bool.or_true, Bool.true_or, Bool.false_or, ite_true, ite_false, ↓reduceIte, reduceCtorEq, Nat.reduceBEq, Nat.reduceAdd, Nat.reduceEqDiff, Nat.reduceLT, Nat.reduceLeDiff, Int.reduceAdd, Int.reduceToNat, Int.reduceLE, Int.reduceNeg, Int.cast_ofNat_Int, Nat.zero_add, Option.some.injEq, exists_eq_left', exists_eq_left, not_true_eq_false, not_false_eq_true, false_implies, true_implies, forall_const, implies_true, List.cons_append, List.nil_append, Nat.le_refl, Nat.zero_le, hp_K_sI, hp_K_sJ, hp_K_sR, hp_N_sI, hp_N_sJ, hp_N_sR, hp_I_sI, hp_I_sJ, hp_I_sR, hp_J_sI, hp_J_sJ, hp_J_sR, hp_R_sI, hp_R_sJ, hp_R_sR, hr_iconst, hr_iload_n, hr_aload_n, hr_aload, hr_astore_n, hr_astore, hr_dup, hr_ifCond_eq, hr_ifCond_le, hr_ifnull, hr_getfield, hr_putfield, hr_return_, hr_invokevirtual, hr_invokespecial, hr_new, hr_athrow, hz_i1, hz_i2, hz_l1, hz_l2, hz_r1, hz_r2, hz_ia, hz_via, hz_vr, hz_ld0, hz_ld1, hz_ld2, hz_s0, hz_s1, hz_s2, hz_g0, hz_g1, hz_d0, hz_d1, hz_d3, hz_d2, hz_t0, hz_t1, hz_t3, hz_t2, hz_c0, hz_c1, hz_rti, hz_rtl, hz_rta, hz_rtv, hz_br, hz_fh0, hz_fh1, hz_fh2, hz_fh3, hz_ft0, hz_ft1, hz_ft2, hz_ft3, hz_sF0, hz_sF1, hz_sF2, hz_lg0, hz_lg1, hz_lg2, hz_f0, hz_f1, hz_f2, hz_f3, hz_k0, hz_k1, hz_rm, hz_ok0, hz_ok1, hz_ok2, hz_ok3, hz_ok4, hz_l0, hz_l1c, hz_ar0, hz_ar1, ht_0_0, hn_0_0, ht_0_1, hn_0_1, ht_0_2, hn_0_2, ht_0_3, hn_0_3, hnf_0, ht_1_0, hn_1_0, ht_1_1, hn_1_1, ht_1_2, hn_1_2, ht_1_3, hn_1_3, ht_1_4, hn_1_4, ht_1_5, hn_1_5, ht_1_6, hn_1_6, ht_1_7, hn_1_7, ht_1_8, hn_1_8, ht_1_9, hn_1_9, ht_1_10, hn_1_10, ht_1_11, hn_1_11, ht_1_12, hn_1_12, ht_1_13, hn_1_13, hnf_1, ht_2_0, hn_2_0, ht_2_1, hn_2_1, ht_2_2, hn_2_2, hnf_2, ht_3_0, hn_3_0, ht_3_1, hn_3_1, ht_3_2, hn_3_2, ht_3_3, hn_3_3, ht_3_4, hn_3_4, ht_3_5, hn_3_5, ht_3_6, hn_3_6, ht_3_7, hn_3_7, ht_3_8, hn_3_8, ht_3_9, hn_3_9, ht_3_10, hn_3_10, hnf_3, ht_4_0, hn_4_0, ht_4_1, hn_4_1, ht_4_2, hn_4_2, ht_4_3, hn_4_3, ht_4_4, hn_4_4, ht_4_5, hn_4_5, ht_4_6, hn_4_6, ht_4_7, hn_4_7, ht_4_8, hn_4_8, ht_4_9, hn_4_9, ht_4_10, hn_4_10, ht_4_11, hn_4_11, ht_4_12, hn_4_12, ht_4_13, hn_4_13, ht_4_14, hn_4_14, ht_4_15, hn_4_15, ht_4_16, hn_4_16, ht_4_17, hn_4_17, ht_4_18, hn_4_18, ht_4_19, hn_4_19, hnf_4, hc_im1, hc_i0, hc_i1, hc_i2, hc_i3, hc_i4, hc_i5, hc_bm2, hc_b6, hc_b7, hc_b15, hc_b64, hc_s500, hc_s1000, hc_s2000, hw_10, hw_01, hp_F_3_43, hp_F_3_47, hp_F_3_66, hp_F_3_85, hp_F_3_92, hp_F_3_96, hp_F_3_99, dX3_move_0, dX3_move_1, dX3_move_2, dX3_move_5, dX3_move_6, dX3_move_7, dX3_move_8, dX3_move_11, dX3_move_13, dX3_move_15, dX3_move_16, dX3_move_19, dX3_move_22, dX3_move_25, dX3_move_26, dX3_move_29, dX3_move_30, dX3_move_32, dX3_move_35, dX3_move_38, dX3_move_41, dX3_move_44, dX3_move_45, dX3_move_48, dX3_move_49, dX3_move_50, dX3_move_53, dX3_move_55, dX3_move_57, dX3_move_60, dX3_move_62, dX3_move_63, dX3_move_66, dX3_move_68, dX3_move_69, dX3_move_72, dX3_move_73, dX3_move_75, dX3_move_78, dX3_move_81, dX3_move_82, dX3_move_83, dX3_move_86, dX3_move_87, dX3_move_90, dX3_move_93, dX3_move_95, dX3_move_98, dX3_move_99, dX3_move_101, dX3_move_103, dX3_move_106, rm_wc, rm_ws, rm_xc, rm_xs, Option.toList_some, List.singleton_append, hw_20, hw_30, hw_40, hx_0, hx_1, hx_2, hx_3, hx_4, hy_00, hy_10]
  refine hp_callV (as := [.inr (.inr (some (dna Z j)))]) (rest := []) C D dX3_move_16 kV_3_88 (mt_isInside l G S (dna Z b) (dna Z j) _ (upl_lk h ws b hws hb) (fun x hx => (upl_nd h hws x hx).1)) kb (by decide) rfl ⟨⟨by decide, by decide⟩, ⟨by decide, by decide⟩, by decide⟩ (fun v S' hv => ?_)
  obtain ⟨rfl, rfl⟩ := hv
  refine hp_run C [] 60 _ _ _ _ ?_
  by_cases g1 : und M b j
  · simp only [if_pos (hin.mpr g1)]
    simp only [or_true, or_false, true_or, false_or, or_self, hp_wp0, hp_wpS, eq_self, true_and, and_true, false_and, and_false, if_true, if_false, Bool.false_eq_true, Bool.or_false, Bool.or_true, Bool.true_or, Bool.false_or, ite_true, ite_false, ↓reduceIte, reduceCtorEq, Nat.reduceBEq, Nat.reduceAdd, Nat.reduceEqDiff, Nat.reduceLT, Nat.reduceLeDiff, Int.reduceAdd, Int.reduceToNat, Int.reduceLE, Int.reduceNeg, Int.cast_ofNat_Int, Nat.zero_add, Option.some.injEq, exists_eq_left', exists_eq_left, not_true_eq_false, not_false_eq_true, false_implies, true_implies, forall_const, implies_true, List.cons_append, List.nil_append, Nat.le_refl, Nat.zero_le, hp_K_sI, hp_K_sJ, hp_K_sR, hp_N_sI, hp_N_sJ, hp_N_sR, hp_I_sI, hp_I_sJ, hp_I_sR, hp_J_sI, hp_J_sJ, hp_J_sR, hp_R_sI, hp_R_sJ, hp_R_sR, hr_iconst, hr_iload_n, hr_aload_n, hr_aload, hr_astore_n, hr_astore, hr_dup, hr_ifCond_eq, hr_ifCond_le, hr_ifnull, hr_getfield, hr_putfield, hr_return_, hr_invokevirtual, hr_invokespecial, hr_new, hr_athrow, hz_i1, hz_i2, hz_l1, hz_l2, hz_r1, hz_r2, hz_ia, hz_via, hz_vr, hz_ld0, hz_ld1, hz_ld2, hz_s0, hz_s1, hz_s2, hz_g0, hz_g1, hz_d0, hz_d1, hz_d3, hz_d2, hz_t0, hz_t1, hz_t3, hz_t2, hz_c0, hz_c1, hz_rti, hz_rtl, hz_rta, hz_rtv, hz_br, hz_fh0, hz_fh1, hz_fh2, hz_fh3, hz_ft0, hz_ft1, hz_ft2, hz_ft3, hz_sF0, hz_sF1, hz_sF2, hz_lg0, hz_lg1, hz_lg2, hz_f0, hz_f1, hz_f2, hz_f3, hz_k0, hz_k1, hz_rm, hz_ok0, hz_ok1, hz_ok2, hz_ok3, hz_ok4, hz_l0, hz_l1c, hz_ar0, hz_ar1, ht_0_0, hn_0_0, ht_0_1, hn_0_1, ht_0_2, hn_0_2, ht_0_3, hn_0_3, hnf_0, ht_1_0, hn_1_0, ht_1_1, hn_1_1, ht_1_2, hn_1_2, ht_1_3, hn_1_3, ht_1_4, hn_1_4, ht_1_5, hn_1_5, ht_1_6, hn_1_6, ht_1_7, hn_1_7, ht_1_8, hn_1_8, ht_1_9, hn_1_9, ht_1_10, hn_1_10, ht_1_11, hn_1_11, ht_1_12, hn_1_12, ht_1_13, hn_1_13, hnf_1, ht_2_0, hn_2_0, ht_2_1, hn_2_1, ht_2_2, hn_2_2, hnf_2, ht_3_0, hn_3_0, ht_3_1, hn_3_1, ht_3_2, hn_3_2, ht_3_3, hn_3_3, ht_3_4, hn_3_4, ht_3_5, hn_3_5, ht_3_6, hn_3_6, ht_3_7, hn_3_7, ht_3_8, hn_3_8, ht_3_9, hn_3_9, ht_3_10, hn_3_10, hnf_3, ht_4_0, hn_4_0, ht_4_1, hn_4_1, ht_4_2, hn_4_2, ht_4_3, hn_4_3, ht_4_4, hn_4_4, ht_4_5, hn_4_5, ht_4_6, hn_4_6, ht_4_7, hn_4_7, ht_4_8, hn_4_8, ht_4_9, hn_4_9, ht_4_10, hn_4_10, ht_4_11, hn_4_11, ht_4_12, hn_4_12, ht_4_13, hn_4_13, ht_4_14, hn_4_14, ht_4_15, hn_4_15, ht_4_16, hn_4_16, ht_4_17, hn_4_17, ht_4_18, hn_4_18, ht_4_19, hn_4_19, hnf_4, hc_im1, hc_i0, hc_i1, hc_i2, hc_i3, hc_i4, hc_i5, hc_bm2, hc_b6, hc_b7, hc_b15, hc_b64, hc_s500, hc_s1000, hc_s2000, hw_10, hw_01, hp_F_3_43, hp_F_3_47, hp_F_3_66, hp_F_3_85, hp_F_3_92, hp_F_3_96, hp_F_3_99, dX3_move_0, dX3_move_1, dX3_move_2, dX3_move_5, dX3_move_6, dX3_move_7, dX3_move_8, dX3_move_11, dX3_move_13, dX3_move_15, dX3_move_16, dX3_move_19, dX3_move_22, dX3_move_25, dX3_move_26, dX3_move_29, dX3_move_30, dX3_move_32, dX3_move_35, dX3_move_38, dX3_move_41, dX3_move_44, dX3_move_45, dX3_move_48, dX3_move_49, dX3_move_50, dX3_move_53, dX3_move_55, dX3_move_57, dX3_move_60, dX3_move_62, dX3_move_63, dX3_move_66, dX3_move_68, dX3_move_69, dX3_move_72, dX3_move_73, dX3_move_75, dX3_move_78, dX3_move_81, dX3_move_82, dX3_move_83, dX3_move_86, dX3_move_87, dX3_move_90, dX3_move_93, dX3_move_95, dX3_move_98, dX3_move_99, dX3_move_101, dX3_move_103, dX3_move_106, rm_wc, rm_ws, rm_0c, rm_0s, Option.toList_some, List.singleton_append, hw_20, hw_30, hw_40, hx_0, hx_1, hx_2, hx_3, hx_4, hy_00, hy_10]
    exact hp_throw CX D hp_x_IAE (Or.inr (Or.inl ⟨rfl, Or.inr ⟨j, b, hj, j0, hpj, rfl, hb, hpb, rfl, Or.inl ⟨rfl, g1, rfl⟩⟩⟩)) dX3_move_22 dX3_move_25 dX3_move_26 dX3_move_29 (by decide)
  simp only [if_neg (fun z => g1 (hin.mp z))]
  have hle := own_le h.2.2.2.2.2.2.2 b
  by_cases g3 : own M b = []
  · have g4 : nI (own M b).length ≤ 0 := by rw [g3]; decide
    simp only [or_true, or_false, true_or, false_or, or_self, hp_wp0, hp_wpS, eq_self, true_and, and_true, false_and, and_false, if_true, if_false, Bool.false_eq_true, Bool.or_false, Bool.or_true, Bool.true_or, Bool.false_or, ite_true, ite_false, ↓reduceIte, reduceCtorEq, Nat.reduceBEq, Nat.reduceAdd, Nat.reduceEqDiff, Nat.reduceLT, Nat.reduceLeDiff, Int.reduceAdd, Int.reduceToNat, Int.reduceLE, Int.reduceNeg, Int.cast_ofNat_Int, Nat.zero_add, Option.some.injEq, exists_eq_left', exists_eq_left, not_true_eq_false, not_false_eq_true, false_implies, true_implies, forall_const, implies_true, List.cons_append, List.nil_append, Nat.le_refl, Nat.zero_le, hp_K_sI, hp_K_sJ, hp_K_sR, hp_N_sI, hp_N_sJ, hp_N_sR, hp_I_sI, hp_I_sJ, hp_I_sR, hp_J_sI, hp_J_sJ, hp_J_sR, hp_R_sI, hp_R_sJ, hp_R_sR, hr_iconst, hr_iload_n, hr_aload_n, hr_aload, hr_astore_n, hr_astore, hr_dup, hr_ifCond_eq, hr_ifCond_le, hr_ifnull, hr_getfield, hr_putfield, hr_return_, hr_invokevirtual, hr_invokespecial, hr_new, hr_athrow, hz_i1, hz_i2, hz_l1, hz_l2, hz_r1, hz_r2, hz_ia, hz_via, hz_vr, hz_ld0, hz_ld1, hz_ld2, hz_s0, hz_s1, hz_s2, hz_g0, hz_g1, hz_d0, hz_d1, hz_d3, hz_d2, hz_t0, hz_t1, hz_t3, hz_t2, hz_c0, hz_c1, hz_rti, hz_rtl, hz_rta, hz_rtv, hz_br, hz_fh0, hz_fh1, hz_fh2, hz_fh3, hz_ft0, hz_ft1, hz_ft2, hz_ft3, hz_sF0, hz_sF1, hz_sF2, hz_lg0, hz_lg1, hz_lg2, hz_f0, hz_f1, hz_f2, hz_f3, hz_k0, hz_k1, hz_rm, hz_ok0, hz_ok1, hz_ok2, hz_ok3, hz_ok4, hz_l0, hz_l1c, hz_ar0, hz_ar1, ht_0_0, hn_0_0, ht_0_1, hn_0_1, ht_0_2, hn_0_2, ht_0_3, hn_0_3, hnf_0, ht_1_0, hn_1_0, ht_1_1, hn_1_1, ht_1_2, hn_1_2, ht_1_3, hn_1_3, ht_1_4, hn_1_4, ht_1_5, hn_1_5, ht_1_6, hn_1_6, ht_1_7, hn_1_7, ht_1_8, hn_1_8, ht_1_9, hn_1_9, ht_1_10, hn_1_10, ht_1_11, hn_1_11, ht_1_12, hn_1_12, ht_1_13, hn_1_13, hnf_1, ht_2_0, hn_2_0, ht_2_1, hn_2_1, ht_2_2, hn_2_2, hnf_2, ht_3_0, hn_3_0, ht_3_1, hn_3_1, ht_3_2, hn_3_2, ht_3_3, hn_3_3, ht_3_4, hn_3_4, ht_3_5, hn_3_5, ht_3_6, hn_3_6, ht_3_7, hn_3_7, ht_3_8, hn_3_8, ht_3_9, hn_3_9, ht_3_10, hn_3_10, hnf_3, ht_4_0, hn_4_0, ht_4_1, hn_4_1, ht_4_2, hn_4_2, ht_4_3, hn_4_3, ht_4_4, hn_4_4, ht_4_5, hn_4_5, ht_4_6, hn_4_6, ht_4_7, hn_4_7, ht_4_8, hn_4_8, ht_4_9, hn_4_9, ht_4_10, hn_4_10, ht_4_11, hn_4_11, ht_4_12, hn_4_12, ht_4_13, hn_4_13, ht_4_14, hn_4_14, ht_4_15, hn_4_15, ht_4_16, hn_4_16, ht_4_17, hn_4_17, ht_4_18, hn_4_18, ht_4_19, hn_4_19, hnf_4, hc_im1, hc_i0, hc_i1, hc_i2, hc_i3, hc_i4, hc_i5, hc_bm2, hc_b6, hc_b7, hc_b15, hc_b64, hc_s500, hc_s1000, hc_s2000, hw_10, hw_01, hp_F_3_43, hp_F_3_47, hp_F_3_66, hp_F_3_85, hp_F_3_92, hp_F_3_96, hp_F_3_99, dX3_move_0, dX3_move_1, dX3_move_2, dX3_move_5, dX3_move_6, dX3_move_7, dX3_move_8, dX3_move_11, dX3_move_13, dX3_move_15, dX3_move_16, dX3_move_19, dX3_move_22, dX3_move_25, dX3_move_26, dX3_move_29, dX3_move_30, dX3_move_32, dX3_move_35, dX3_move_38, dX3_move_41, dX3_move_44, dX3_move_45, dX3_move_48, dX3_move_49, dX3_move_50, dX3_move_53, dX3_move_55, dX3_move_57, dX3_move_60, dX3_move_62, dX3_move_63, dX3_move_66, dX3_move_68, dX3_move_69, dX3_move_72, dX3_move_73, dX3_move_75, dX3_move_78, dX3_move_81, dX3_move_82, dX3_move_83, dX3_move_86, dX3_move_87, dX3_move_90, dX3_move_93, dX3_move_95, dX3_move_98, dX3_move_99, dX3_move_101, dX3_move_103, dX3_move_106, hk, kb, r2, r4, kl, l2, g4, rm_wc, rm_ws, rm_0c, rm_0s, Option.toList_some, List.singleton_append, hw_20, hw_30, hw_40, hx_0, hx_1, hx_2, hx_3, hx_4, hy_00, hy_10]
    obtain ⟨xs, ys, s1, s2, s3, s4⟩ := ch_split h hj hF hpF rfl
    refine hp_callV (as := [.inr (.inr (some (dna Z j)))]) (rest := []) C D dX3_move_63 kV_3_73 (mt_letGo l G S (dna Z (pa M j)) (dna Z j) _ _ kF s2 s3 hk s4) kF (by decide) rfl ⟨⟨by decide, by decide⟩, ⟨by decide, by decide⟩, by decide⟩ (fun v S1 hv => ?_)
    obtain ⟨e1, rfl⟩ := hv
    have hR1 := rn_letGo h hj hF hpF rfl s1
    have hf1 := frC.letGo S kF hk s3
    rw [← e1] at hR1 hf1
    clear e1 s2
    obtain ⟨Z1, hZ1⟩ : ∃ Z1, Z1 = zch Z (fun e => if e = pa M j then xs ++ ys else dch Z e) := ⟨_, rfl⟩
    have d1 : ∀ e, dna Z1 e = dna Z e := fun e => by rw [hZ1]; rfl
    rw [← hZ1] at hR1
    have p1 : pa (mn M 0 j 64) j = 64 := by rw [pa_mn, if_pos rfl]
    have p2 : ¬ pa (mn M 0 j 64) b = 65 := by
      rw [pa_mn]
      by_cases z : b = j
      · rw [if_pos z]; omega
      · rw [if_neg z]; exact hpb
    have k1 : hp_K S1 (dna Z j) = 2 := by rw [← d1]; exact (hR1.2.1 j hj (by omega)).1.1
    have k2 : hp_K S1 (dna Z b) = 2 := by rw [← d1]; exact (hR1.2.1 b hb p2).1.1
    refine hp_run C [] 60 _ _ _ _ ?_
    simp only [or_true, or_false, true_or, false_or, or_self, hp_wp0, hp_wpS, eq_self, true_and, and_true, false_and, and_false, if_true, if_false, Bool.false_eq_true, Bool.or_false, Bool.or_true, Bool.true_or, Bool.false_or, ite_true, ite_false, ↓reduceIte, reduceCtorEq, Nat.reduceBEq, Nat.reduceAdd, Nat.reduceEqDiff, Nat.reduceLT, Nat.reduceLeDiff, Int.reduceAdd, Int.reduceToNat, Int.reduceLE, Int.reduceNeg, Int.cast_ofNat_Int, Nat.zero_add, Option.some.injEq, exists_eq_left', exists_eq_left, not_true_eq_false, not_false_eq_true, false_implies, true_implies, forall_const, implies_true, List.cons_append, List.nil_append, Nat.le_refl, Nat.zero_le, hp_K_sI, hp_K_sJ, hp_K_sR, hp_N_sI, hp_N_sJ, hp_N_sR, hp_I_sI, hp_I_sJ, hp_I_sR, hp_J_sI, hp_J_sJ, hp_J_sR, hp_R_sI, hp_R_sJ, hp_R_sR, hr_iconst, hr_iload_n, hr_aload_n, hr_aload, hr_astore_n, hr_astore, hr_dup, hr_ifCond_eq, hr_ifCond_le, hr_ifnull, hr_getfield, hr_putfield, hr_return_, hr_invokevirtual, hr_invokespecial, hr_new, hr_athrow, hz_i1, hz_i2, hz_l1, hz_l2, hz_r1, hz_r2, hz_ia, hz_via, hz_vr, hz_ld0, hz_ld1, hz_ld2, hz_s0, hz_s1, hz_s2, hz_g0, hz_g1, hz_d0, hz_d1, hz_d3, hz_d2, hz_t0, hz_t1, hz_t3, hz_t2, hz_c0, hz_c1, hz_rti, hz_rtl, hz_rta, hz_rtv, hz_br, hz_fh0, hz_fh1, hz_fh2, hz_fh3, hz_ft0, hz_ft1, hz_ft2, hz_ft3, hz_sF0, hz_sF1, hz_sF2, hz_lg0, hz_lg1, hz_lg2, hz_f0, hz_f1, hz_f2, hz_f3, hz_k0, hz_k1, hz_rm, hz_ok0, hz_ok1, hz_ok2, hz_ok3, hz_ok4, hz_l0, hz_l1c, hz_ar0, hz_ar1, ht_0_0, hn_0_0, ht_0_1, hn_0_1, ht_0_2, hn_0_2, ht_0_3, hn_0_3, hnf_0, ht_1_0, hn_1_0, ht_1_1, hn_1_1, ht_1_2, hn_1_2, ht_1_3, hn_1_3, ht_1_4, hn_1_4, ht_1_5, hn_1_5, ht_1_6, hn_1_6, ht_1_7, hn_1_7, ht_1_8, hn_1_8, ht_1_9, hn_1_9, ht_1_10, hn_1_10, ht_1_11, hn_1_11, ht_1_12, hn_1_12, ht_1_13, hn_1_13, hnf_1, ht_2_0, hn_2_0, ht_2_1, hn_2_1, ht_2_2, hn_2_2, hnf_2, ht_3_0, hn_3_0, ht_3_1, hn_3_1, ht_3_2, hn_3_2, ht_3_3, hn_3_3, ht_3_4, hn_3_4, ht_3_5, hn_3_5, ht_3_6, hn_3_6, ht_3_7, hn_3_7, ht_3_8, hn_3_8, ht_3_9, hn_3_9, ht_3_10, hn_3_10, hnf_3, ht_4_0, hn_4_0, ht_4_1, hn_4_1, ht_4_2, hn_4_2, ht_4_3, hn_4_3, ht_4_4, hn_4_4, ht_4_5, hn_4_5, ht_4_6, hn_4_6, ht_4_7, hn_4_7, ht_4_8, hn_4_8, ht_4_9, hn_4_9, ht_4_10, hn_4_10, ht_4_11, hn_4_11, ht_4_12, hn_4_12, ht_4_13, hn_4_13, ht_4_14, hn_4_14, ht_4_15, hn_4_15, ht_4_16, hn_4_16, ht_4_17, hn_4_17, ht_4_18, hn_4_18, ht_4_19, hn_4_19, hnf_4, hc_im1, hc_i0, hc_i1, hc_i2, hc_i3, hc_i4, hc_i5, hc_bm2, hc_b6, hc_b7, hc_b15, hc_b64, hc_s500, hc_s1000, hc_s2000, hw_10, hw_01, hp_F_3_43, hp_F_3_47, hp_F_3_66, hp_F_3_85, hp_F_3_92, hp_F_3_96, hp_F_3_99, dX3_move_0, dX3_move_1, dX3_move_2, dX3_move_5, dX3_move_6, dX3_move_7, dX3_move_8, dX3_move_11, dX3_move_13, dX3_move_15, dX3_move_16, dX3_move_19, dX3_move_22, dX3_move_25, dX3_move_26, dX3_move_29, dX3_move_30, dX3_move_32, dX3_move_35, dX3_move_38, dX3_move_41, dX3_move_44, dX3_move_45, dX3_move_48, dX3_move_49, dX3_move_50, dX3_move_53, dX3_move_55, dX3_move_57, dX3_move_60, dX3_move_62, dX3_move_63, dX3_move_66, dX3_move_68, dX3_move_69, dX3_move_72, dX3_move_73, dX3_move_75, dX3_move_78, dX3_move_81, dX3_move_82, dX3_move_83, dX3_move_86, dX3_move_87, dX3_move_90, dX3_move_93, dX3_move_95, dX3_move_98, dX3_move_99, dX3_move_101, dX3_move_103, dX3_move_106, k1, k2, rm_wc, rm_ws, rm_0c, rm_0s, Option.toList_none, hw_20, hw_30, hw_40, hx_0, hx_1, hx_2, hx_3, hx_4, hy_00, hy_10]
    refine hp_callV (as := [.inr (.inr (some (dna Z j)))]) (rest := []) C D dX3_move_69 kV_3_62 (mt_adopt l G S1 (dna Z b) (dna Z j) k2 k1) k2 (by decide) rfl ⟨⟨by decide, by decide⟩, ⟨by decide, by decide⟩, by decide⟩ (fun v S2 hv => ?_)
    obtain ⟨e2, rfl⟩ := hv
    have hR2 := rn_adopt hR1 hj hb p2 p1
    have hf2 := frC.adopt S1 k2 k1
    rw [d1, d1, ← e2, mn_mn] at hR2
    rw [← e2] at hf2
    clear e2
    obtain ⟨Z2, hZ2⟩ : ∃ Z2, Z2 = zch Z1 (fun e => if e = b then j :: dch Z1 b else dch Z1 e) := ⟨_, rfl⟩
    have d2 : ∀ e, dna Z2 e = dna Z e := fun e => by rw [hZ2]; exact d1 e
    rw [← hZ2] at hR2
    have p3 : ¬ pa (mn M 0 j b) j = 65 := by rw [pa_mn, if_pos rfl]; omega
    have p4 : ¬ pa (mn M 0 j b) b = 65 := by
      rw [pa_mn]
      by_cases z : b = j
      · rw [if_pos z]; omega
      · rw [if_neg z]; exact hpb
    have k3 : hp_K S2 (dna Z j) = 2 := by rw [← d2]; exact (hR2.2.1 j hj p3).1.1
    have k4 : hp_K S2 (dna Z b) = 2 := by rw [← d2]; exact (hR2.2.1 b hb p4).1.1
    have t4 : hp_J S2 (dna Z b) 12 = tm M b := by rw [← d2]; exact (hR2.2.1 b hb p4).1.2.2.2.2.2.2.2.2.2.2.2.2.1
    have o4 : hp_I S2 (dna Z j) 8 = nI (op M j) := by rw [← d2]; exact (hR2.2.1 j hj p3).1.2.2.2.2.2.2.2.2.1
    have hR3 : RepN (hp_sI (hp_sJ S2 (dna Z j) 10 (tm M b)) (dna Z j) 11 0) x0 Z2 (mmv M j b) (noc M) := by
      have q := rn_rs (rn_tg hR2 hj p3 (tm M b)) hj p3 0
      rw [d2] at q
      exact q
    have hf3 : frC S (hp_sI (hp_sJ S2 (dna Z j) 10 (tm M b)) (dna Z j) 11 0) := (hf1.trans hf2).trans ((frC.sJ _ _ _ _ (Or.inl (by rw [k3]; omega))).trans (frC.sI _ _ _ _ (Or.inl (by rw [hp_K_sJ, k3]; omega))))
    have hsk := sok_move hr.1 hj j0 hpj hb hpb g1 g3
    have hop := hr.1.2.2 j hj
    refine hp_run C [] 60 _ _ _ _ ?_
    by_cases g5 : op M j = 0
    · have o5 : hp_I S2 (dna Z j) 8 = 0 := by rw [o4, g5]; rfl
      simp only [or_true, or_false, true_or, false_or, or_self, hp_wp0, hp_wpS, eq_self, true_and, and_true, false_and, and_false, if_true, if_false, Bool.false_eq_true, Bool.or_false, Bool.or_true, Bool.true_or, Bool.false_or, ite_true, ite_false, ↓reduceIte, reduceCtorEq, Nat.reduceBEq, Nat.reduceAdd, Nat.reduceEqDiff, Nat.reduceLT, Nat.reduceLeDiff, Int.reduceAdd, Int.reduceToNat, Int.reduceLE, Int.reduceNeg, Int.cast_ofNat_Int, Nat.zero_add, Option.some.injEq, exists_eq_left', exists_eq_left, not_true_eq_false, not_false_eq_true, false_implies, true_implies, forall_const, implies_true, List.cons_append, List.nil_append, Nat.le_refl, Nat.zero_le, hp_K_sI, hp_K_sJ, hp_K_sR, hp_N_sI, hp_N_sJ, hp_N_sR, hp_I_sI, hp_I_sJ, hp_I_sR, hp_J_sI, hp_J_sJ, hp_J_sR, hp_R_sI, hp_R_sJ, hp_R_sR, hr_iconst, hr_iload_n, hr_aload_n, hr_aload, hr_astore_n, hr_astore, hr_dup, hr_ifCond_eq, hr_ifCond_le, hr_ifnull, hr_getfield, hr_putfield, hr_return_, hr_invokevirtual, hr_invokespecial, hr_new, hr_athrow, hz_i1, hz_i2, hz_l1, hz_l2, hz_r1, hz_r2, hz_ia, hz_via, hz_vr, hz_ld0, hz_ld1, hz_ld2, hz_s0, hz_s1, hz_s2, hz_g0, hz_g1, hz_d0, hz_d1, hz_d3, hz_d2, hz_t0, hz_t1, hz_t3, hz_t2, hz_c0, hz_c1, hz_rti, hz_rtl, hz_rta, hz_rtv, hz_br, hz_fh0, hz_fh1, hz_fh2, hz_fh3, hz_ft0, hz_ft1, hz_ft2, hz_ft3, hz_sF0, hz_sF1, hz_sF2, hz_lg0, hz_lg1, hz_lg2, hz_f0, hz_f1, hz_f2, hz_f3, hz_k0, hz_k1, hz_rm, hz_ok0, hz_ok1, hz_ok2, hz_ok3, hz_ok4, hz_l0, hz_l1c, hz_ar0, hz_ar1, ht_0_0, hn_0_0, ht_0_1, hn_0_1, ht_0_2, hn_0_2, ht_0_3, hn_0_3, hnf_0, ht_1_0, hn_1_0, ht_1_1, hn_1_1, ht_1_2, hn_1_2, ht_1_3, hn_1_3, ht_1_4, hn_1_4, ht_1_5, hn_1_5, ht_1_6, hn_1_6, ht_1_7, hn_1_7, ht_1_8, hn_1_8, ht_1_9, hn_1_9, ht_1_10, hn_1_10, ht_1_11, hn_1_11, ht_1_12, hn_1_12, ht_1_13, hn_1_13, hnf_1, ht_2_0, hn_2_0, ht_2_1, hn_2_1, ht_2_2, hn_2_2, hnf_2, ht_3_0, hn_3_0, ht_3_1, hn_3_1, ht_3_2, hn_3_2, ht_3_3, hn_3_3, ht_3_4, hn_3_4, ht_3_5, hn_3_5, ht_3_6, hn_3_6, ht_3_7, hn_3_7, ht_3_8, hn_3_8, ht_3_9, hn_3_9, ht_3_10, hn_3_10, hnf_3, ht_4_0, hn_4_0, ht_4_1, hn_4_1, ht_4_2, hn_4_2, ht_4_3, hn_4_3, ht_4_4, hn_4_4, ht_4_5, hn_4_5, ht_4_6, hn_4_6, ht_4_7, hn_4_7, ht_4_8, hn_4_8, ht_4_9, hn_4_9, ht_4_10, hn_4_10, ht_4_11, hn_4_11, ht_4_12, hn_4_12, ht_4_13, hn_4_13, ht_4_14, hn_4_14, ht_4_15, hn_4_15, ht_4_16, hn_4_16, ht_4_17, hn_4_17, ht_4_18, hn_4_18, ht_4_19, hn_4_19, hnf_4, hc_im1, hc_i0, hc_i1, hc_i2, hc_i3, hc_i4, hc_i5, hc_bm2, hc_b6, hc_b7, hc_b15, hc_b64, hc_s500, hc_s1000, hc_s2000, hw_10, hw_01, hp_F_3_43, hp_F_3_47, hp_F_3_66, hp_F_3_85, hp_F_3_92, hp_F_3_96, hp_F_3_99, dX3_move_0, dX3_move_1, dX3_move_2, dX3_move_5, dX3_move_6, dX3_move_7, dX3_move_8, dX3_move_11, dX3_move_13, dX3_move_15, dX3_move_16, dX3_move_19, dX3_move_22, dX3_move_25, dX3_move_26, dX3_move_29, dX3_move_30, dX3_move_32, dX3_move_35, dX3_move_38, dX3_move_41, dX3_move_44, dX3_move_45, dX3_move_48, dX3_move_49, dX3_move_50, dX3_move_53, dX3_move_55, dX3_move_57, dX3_move_60, dX3_move_62, dX3_move_63, dX3_move_66, dX3_move_68, dX3_move_69, dX3_move_72, dX3_move_73, dX3_move_75, dX3_move_78, dX3_move_81, dX3_move_82, dX3_move_83, dX3_move_86, dX3_move_87, dX3_move_90, dX3_move_93, dX3_move_95, dX3_move_98, dX3_move_99, dX3_move_101, dX3_move_103, dX3_move_106, k3, k4, t4, o5, rm_wc, rm_ws, rm_0c, rm_0s, Option.toList_none, hw_20, hw_30, hw_40, hx_0, hx_1, hx_2, hx_3, hx_4, hy_00, hy_10]
      refine ⟨_, _, Or.inr ⟨j, b, hj, j0, hpj, rfl, hb, hpb, rfl, Or.inr (Or.inr ⟨rfl, g1, g3, stl_self (fix_move0 hr.2.1 g5)⟩)⟩, rn_nb hR3 (fun e _ => ?_), hf3⟩
      have := noc_move (M := M) (b := b) hj e
      rw [if_neg (fun z => by omega), if_neg (fun z => by omega)] at this
      omega
    · have g6 : op M j = 1 := by omega
      have o5 : hp_I S2 (dna Z j) 8 = 1 := by rw [o4, g6]; rfl
      simp only [or_true, or_false, true_or, false_or, or_self, hp_wp0, hp_wpS, eq_self, true_and, and_true, false_and, and_false, if_true, if_false, Bool.false_eq_true, Bool.or_false, Bool.or_true, Bool.true_or, Bool.false_or, ite_true, ite_false, ↓reduceIte, reduceCtorEq, Nat.reduceBEq, Nat.reduceAdd, Nat.reduceEqDiff, Nat.reduceLT, Nat.reduceLeDiff, Int.reduceAdd, Int.reduceToNat, Int.reduceLE, Int.reduceNeg, Int.cast_ofNat_Int, Nat.zero_add, Option.some.injEq, exists_eq_left', exists_eq_left, not_true_eq_false, not_false_eq_true, false_implies, true_implies, forall_const, implies_true, List.cons_append, List.nil_append, Nat.le_refl, Nat.zero_le, hp_K_sI, hp_K_sJ, hp_K_sR, hp_N_sI, hp_N_sJ, hp_N_sR, hp_I_sI, hp_I_sJ, hp_I_sR, hp_J_sI, hp_J_sJ, hp_J_sR, hp_R_sI, hp_R_sJ, hp_R_sR, hr_iconst, hr_iload_n, hr_aload_n, hr_aload, hr_astore_n, hr_astore, hr_dup, hr_ifCond_eq, hr_ifCond_le, hr_ifnull, hr_getfield, hr_putfield, hr_return_, hr_invokevirtual, hr_invokespecial, hr_new, hr_athrow, hz_i1, hz_i2, hz_l1, hz_l2, hz_r1, hz_r2, hz_ia, hz_via, hz_vr, hz_ld0, hz_ld1, hz_ld2, hz_s0, hz_s1, hz_s2, hz_g0, hz_g1, hz_d0, hz_d1, hz_d3, hz_d2, hz_t0, hz_t1, hz_t3, hz_t2, hz_c0, hz_c1, hz_rti, hz_rtl, hz_rta, hz_rtv, hz_br, hz_fh0, hz_fh1, hz_fh2, hz_fh3, hz_ft0, hz_ft1, hz_ft2, hz_ft3, hz_sF0, hz_sF1, hz_sF2, hz_lg0, hz_lg1, hz_lg2, hz_f0, hz_f1, hz_f2, hz_f3, hz_k0, hz_k1, hz_rm, hz_ok0, hz_ok1, hz_ok2, hz_ok3, hz_ok4, hz_l0, hz_l1c, hz_ar0, hz_ar1, ht_0_0, hn_0_0, ht_0_1, hn_0_1, ht_0_2, hn_0_2, ht_0_3, hn_0_3, hnf_0, ht_1_0, hn_1_0, ht_1_1, hn_1_1, ht_1_2, hn_1_2, ht_1_3, hn_1_3, ht_1_4, hn_1_4, ht_1_5, hn_1_5, ht_1_6, hn_1_6, ht_1_7, hn_1_7, ht_1_8, hn_1_8, ht_1_9, hn_1_9, ht_1_10, hn_1_10, ht_1_11, hn_1_11, ht_1_12, hn_1_12, ht_1_13, hn_1_13, hnf_1, ht_2_0, hn_2_0, ht_2_1, hn_2_1, ht_2_2, hn_2_2, hnf_2, ht_3_0, hn_3_0, ht_3_1, hn_3_1, ht_3_2, hn_3_2, ht_3_3, hn_3_3, ht_3_4, hn_3_4, ht_3_5, hn_3_5, ht_3_6, hn_3_6, ht_3_7, hn_3_7, ht_3_8, hn_3_8, ht_3_9, hn_3_9, ht_3_10, hn_3_10, hnf_3, ht_4_0, hn_4_0, ht_4_1, hn_4_1, ht_4_2, hn_4_2, ht_4_3, hn_4_3, ht_4_4, hn_4_4, ht_4_5, hn_4_5, ht_4_6, hn_4_6, ht_4_7, hn_4_7, ht_4_8, hn_4_8, ht_4_9, hn_4_9, ht_4_10, hn_4_10, ht_4_11, hn_4_11, ht_4_12, hn_4_12, ht_4_13, hn_4_13, ht_4_14, hn_4_14, ht_4_15, hn_4_15, ht_4_16, hn_4_16, ht_4_17, hn_4_17, ht_4_18, hn_4_18, ht_4_19, hn_4_19, hnf_4, hc_im1, hc_i0, hc_i1, hc_i2, hc_i3, hc_i4, hc_i5, hc_bm2, hc_b6, hc_b7, hc_b15, hc_b64, hc_s500, hc_s1000, hc_s2000, hw_10, hw_01, hp_F_3_43, hp_F_3_47, hp_F_3_66, hp_F_3_85, hp_F_3_92, hp_F_3_96, hp_F_3_99, dX3_move_0, dX3_move_1, dX3_move_2, dX3_move_5, dX3_move_6, dX3_move_7, dX3_move_8, dX3_move_11, dX3_move_13, dX3_move_15, dX3_move_16, dX3_move_19, dX3_move_22, dX3_move_25, dX3_move_26, dX3_move_29, dX3_move_30, dX3_move_32, dX3_move_35, dX3_move_38, dX3_move_41, dX3_move_44, dX3_move_45, dX3_move_48, dX3_move_49, dX3_move_50, dX3_move_53, dX3_move_55, dX3_move_57, dX3_move_60, dX3_move_62, dX3_move_63, dX3_move_66, dX3_move_68, dX3_move_69, dX3_move_72, dX3_move_73, dX3_move_75, dX3_move_78, dX3_move_81, dX3_move_82, dX3_move_83, dX3_move_86, dX3_move_87, dX3_move_90, dX3_move_93, dX3_move_95, dX3_move_98, dX3_move_99, dX3_move_101, dX3_move_103, dX3_move_106, k3, k4, t4, o5, rm_wc, rm_ws, rm_0c, rm_0s, Option.toList_none, hw_20, hw_30, hw_40, hx_0, hx_1, hx_2, hx_3, hx_4, hy_00, hy_10]
      have pb1 : ¬ pa (mmv M j b) b = 65 := p4
      have pF1 : ¬ pa (mmv M j b) (pa M j) = 65 := by
        rw [mmv_pa]
        by_cases z : pa M j = j
        · rw [if_pos z]; omega
        · rw [if_neg z]; exact hpF
      obtain ⟨us, hus, -⟩ := upl_ex hsk.1 b hb pb1
      obtain ⟨vs, hvs, -⟩ := upl_ex hr.1.1 (pa M j) hF hpF
      have hvs1 : upl (mmv M j b) (pa M j) vs := upl_mmv vs _ hvs (upl_nj hr.1.1.2.2.1 hj hF hvs)
      obtain ⟨o1, t1, t2, t3, t5⟩ := go_carry hr hj hF hb g6 hsk.1 hus hvs
      obtain ⟨hR4, hf4⟩ := rx_carry hR3 (fun e he => by
        have := noc_move (M := M) (b := b) hj e
        rw [g6] at this
        simp only [and_true] at this
        exact this) hsk.1 hsk.2.2 hb pb1 hF pF1 hus hvs1 t1 t2 t3
      rw [d2, d2] at hR4 hf4
      have lu := upl_lk hR3 us b hus hb
      have lv := upl_lk hR3 vs (pa M j) hvs1 hF
      have nu := upl_nd hR3 hus
      have nv := upl_nd hR3 hvs1
      rw [d2] at lu lv
      have kx3 := hR3.1.1
      generalize hp_sI (hp_sJ S2 (dna Z j) 10 (tm M b)) (dna Z j) 11 0 = S3 at *
      refine hp_callV (as := [.inr (.inr (some (dna Z (pa M j)))), .inr (.inr (some (dna Z b)))]) (rest := []) C D dX3_move_103 kV_3_103 (mt_carry l G S3 x0 (dna Z (pa M j)) (dna Z b) _ _ kx3 lv lu nv nu (by rw [← d2]; exact (hR3.2.1 _ hF pF1).1.1) (by rw [← d2]; exact (hR3.2.1 _ hb pb1).1.1)) kx3 (by decide) rfl ⟨⟨by decide, by decide⟩, ⟨by decide, by decide⟩, by decide⟩ (fun v S4 hv => ?_)
      obtain ⟨e4, rfl⟩ := hv
      rw [← e4] at hR4 hf4
      refine hp_run C [] 60 _ _ _ _ ?_
      simp only [or_true, or_false, true_or, false_or, or_self, hp_wp0, hp_wpS, eq_self, true_and, and_true, false_and, and_false, if_true, if_false, Bool.false_eq_true, Bool.or_false, Bool.or_true, Bool.true_or, Bool.false_or, ite_true, ite_false, ↓reduceIte, reduceCtorEq, Nat.reduceBEq, Nat.reduceAdd, Nat.reduceEqDiff, Nat.reduceLT, Nat.reduceLeDiff, Int.reduceAdd, Int.reduceToNat, Int.reduceLE, Int.reduceNeg, Int.cast_ofNat_Int, Nat.zero_add, Option.some.injEq, exists_eq_left', exists_eq_left, not_true_eq_false, not_false_eq_true, false_implies, true_implies, forall_const, implies_true, List.cons_append, List.nil_append, Nat.le_refl, Nat.zero_le, hp_K_sI, hp_K_sJ, hp_K_sR, hp_N_sI, hp_N_sJ, hp_N_sR, hp_I_sI, hp_I_sJ, hp_I_sR, hp_J_sI, hp_J_sJ, hp_J_sR, hp_R_sI, hp_R_sJ, hp_R_sR, hr_iconst, hr_iload_n, hr_aload_n, hr_aload, hr_astore_n, hr_astore, hr_dup, hr_ifCond_eq, hr_ifCond_le, hr_ifnull, hr_getfield, hr_putfield, hr_return_, hr_invokevirtual, hr_invokespecial, hr_new, hr_athrow, hz_i1, hz_i2, hz_l1, hz_l2, hz_r1, hz_r2, hz_ia, hz_via, hz_vr, hz_ld0, hz_ld1, hz_ld2, hz_s0, hz_s1, hz_s2, hz_g0, hz_g1, hz_d0, hz_d1, hz_d3, hz_d2, hz_t0, hz_t1, hz_t3, hz_t2, hz_c0, hz_c1, hz_rti, hz_rtl, hz_rta, hz_rtv, hz_br, hz_fh0, hz_fh1, hz_fh2, hz_fh3, hz_ft0, hz_ft1, hz_ft2, hz_ft3, hz_sF0, hz_sF1, hz_sF2, hz_lg0, hz_lg1, hz_lg2, hz_f0, hz_f1, hz_f2, hz_f3, hz_k0, hz_k1, hz_rm, hz_ok0, hz_ok1, hz_ok2, hz_ok3, hz_ok4, hz_l0, hz_l1c, hz_ar0, hz_ar1, ht_0_0, hn_0_0, ht_0_1, hn_0_1, ht_0_2, hn_0_2, ht_0_3, hn_0_3, hnf_0, ht_1_0, hn_1_0, ht_1_1, hn_1_1, ht_1_2, hn_1_2, ht_1_3, hn_1_3, ht_1_4, hn_1_4, ht_1_5, hn_1_5, ht_1_6, hn_1_6, ht_1_7, hn_1_7, ht_1_8, hn_1_8, ht_1_9, hn_1_9, ht_1_10, hn_1_10, ht_1_11, hn_1_11, ht_1_12, hn_1_12, ht_1_13, hn_1_13, hnf_1, ht_2_0, hn_2_0, ht_2_1, hn_2_1, ht_2_2, hn_2_2, hnf_2, ht_3_0, hn_3_0, ht_3_1, hn_3_1, ht_3_2, hn_3_2, ht_3_3, hn_3_3, ht_3_4, hn_3_4, ht_3_5, hn_3_5, ht_3_6, hn_3_6, ht_3_7, hn_3_7, ht_3_8, hn_3_8, ht_3_9, hn_3_9, ht_3_10, hn_3_10, hnf_3, ht_4_0, hn_4_0, ht_4_1, hn_4_1, ht_4_2, hn_4_2, ht_4_3, hn_4_3, ht_4_4, hn_4_4, ht_4_5, hn_4_5, ht_4_6, hn_4_6, ht_4_7, hn_4_7, ht_4_8, hn_4_8, ht_4_9, hn_4_9, ht_4_10, hn_4_10, ht_4_11, hn_4_11, ht_4_12, hn_4_12, ht_4_13, hn_4_13, ht_4_14, hn_4_14, ht_4_15, hn_4_15, ht_4_16, hn_4_16, ht_4_17, hn_4_17, ht_4_18, hn_4_18, ht_4_19, hn_4_19, hnf_4, hc_im1, hc_i0, hc_i1, hc_i2, hc_i3, hc_i4, hc_i5, hc_bm2, hc_b6, hc_b7, hc_b15, hc_b64, hc_s500, hc_s1000, hc_s2000, hw_10, hw_01, hp_F_3_43, hp_F_3_47, hp_F_3_66, hp_F_3_85, hp_F_3_92, hp_F_3_96, hp_F_3_99, dX3_move_0, dX3_move_1, dX3_move_2, dX3_move_5, dX3_move_6, dX3_move_7, dX3_move_8, dX3_move_11, dX3_move_13, dX3_move_15, dX3_move_16, dX3_move_19, dX3_move_22, dX3_move_25, dX3_move_26, dX3_move_29, dX3_move_30, dX3_move_32, dX3_move_35, dX3_move_38, dX3_move_41, dX3_move_44, dX3_move_45, dX3_move_48, dX3_move_49, dX3_move_50, dX3_move_53, dX3_move_55, dX3_move_57, dX3_move_60, dX3_move_62, dX3_move_63, dX3_move_66, dX3_move_68, dX3_move_69, dX3_move_72, dX3_move_73, dX3_move_75, dX3_move_78, dX3_move_81, dX3_move_82, dX3_move_83, dX3_move_86, dX3_move_87, dX3_move_90, dX3_move_93, dX3_move_95, dX3_move_98, dX3_move_99, dX3_move_101, dX3_move_103, dX3_move_106, rm_wc, rm_ws, rm_s2c, rm_s2s, Option.toList_none, hw_20, hw_30, hw_40, hx_0, hx_1, hx_2, hx_3, hx_4, hy_00, hy_10]
      exact ⟨_, _, Or.inr ⟨j, b, hj, j0, hpj, rfl, hb, hpb, rfl, Or.inr (Or.inr ⟨rfl, g1, g3, t5⟩)⟩, hR4, hf3.trans hf4⟩
  · have hpos : 0 < (own M b).length := by
      rcases Nat.eq_zero_or_pos (own M b).length with e | e
      · exact absurd (List.eq_nil_of_length_eq_zero e) g3
      · exact e
    have g4 : ¬ nI (own M b).length ≤ 0 := nI_nle hpos (by omega)
    simp only [or_true, or_false, true_or, false_or, or_self, hp_wp0, hp_wpS, eq_self, true_and, and_true, false_and, and_false, if_true, if_false, Bool.false_eq_true, Bool.or_false, Bool.or_true, Bool.true_or, Bool.false_or, ite_true, ite_false, ↓reduceIte, reduceCtorEq, Nat.reduceBEq, Nat.reduceAdd, Nat.reduceEqDiff, Nat.reduceLT, Nat.reduceLeDiff, Int.reduceAdd, Int.reduceToNat, Int.reduceLE, Int.reduceNeg, Int.cast_ofNat_Int, Nat.zero_add, Option.some.injEq, exists_eq_left', exists_eq_left, not_true_eq_false, not_false_eq_true, false_implies, true_implies, forall_const, implies_true, List.cons_append, List.nil_append, Nat.le_refl, Nat.zero_le, hp_K_sI, hp_K_sJ, hp_K_sR, hp_N_sI, hp_N_sJ, hp_N_sR, hp_I_sI, hp_I_sJ, hp_I_sR, hp_J_sI, hp_J_sJ, hp_J_sR, hp_R_sI, hp_R_sJ, hp_R_sR, hr_iconst, hr_iload_n, hr_aload_n, hr_aload, hr_astore_n, hr_astore, hr_dup, hr_ifCond_eq, hr_ifCond_le, hr_ifnull, hr_getfield, hr_putfield, hr_return_, hr_invokevirtual, hr_invokespecial, hr_new, hr_athrow, hz_i1, hz_i2, hz_l1, hz_l2, hz_r1, hz_r2, hz_ia, hz_via, hz_vr, hz_ld0, hz_ld1, hz_ld2, hz_s0, hz_s1, hz_s2, hz_g0, hz_g1, hz_d0, hz_d1, hz_d3, hz_d2, hz_t0, hz_t1, hz_t3, hz_t2, hz_c0, hz_c1, hz_rti, hz_rtl, hz_rta, hz_rtv, hz_br, hz_fh0, hz_fh1, hz_fh2, hz_fh3, hz_ft0, hz_ft1, hz_ft2, hz_ft3, hz_sF0, hz_sF1, hz_sF2, hz_lg0, hz_lg1, hz_lg2, hz_f0, hz_f1, hz_f2, hz_f3, hz_k0, hz_k1, hz_rm, hz_ok0, hz_ok1, hz_ok2, hz_ok3, hz_ok4, hz_l0, hz_l1c, hz_ar0, hz_ar1, ht_0_0, hn_0_0, ht_0_1, hn_0_1, ht_0_2, hn_0_2, ht_0_3, hn_0_3, hnf_0, ht_1_0, hn_1_0, ht_1_1, hn_1_1, ht_1_2, hn_1_2, ht_1_3, hn_1_3, ht_1_4, hn_1_4, ht_1_5, hn_1_5, ht_1_6, hn_1_6, ht_1_7, hn_1_7, ht_1_8, hn_1_8, ht_1_9, hn_1_9, ht_1_10, hn_1_10, ht_1_11, hn_1_11, ht_1_12, hn_1_12, ht_1_13, hn_1_13, hnf_1, ht_2_0, hn_2_0, ht_2_1, hn_2_1, ht_2_2, hn_2_2, hnf_2, ht_3_0, hn_3_0, ht_3_1, hn_3_1, ht_3_2, hn_3_2, ht_3_3, hn_3_3, ht_3_4, hn_3_4, ht_3_5, hn_3_5, ht_3_6, hn_3_6, ht_3_7, hn_3_7, ht_3_8, hn_3_8, ht_3_9, hn_3_9, ht_3_10, hn_3_10, hnf_3, ht_4_0, hn_4_0, ht_4_1, hn_4_1, ht_4_2, hn_4_2, ht_4_3, hn_4_3, ht_4_4, hn_4_4, ht_4_5, hn_4_5, ht_4_6, hn_4_6, ht_4_7, hn_4_7, ht_4_8, hn_4_8, ht_4_9, hn_4_9, ht_4_10, hn_4_10, ht_4_11, hn_4_11, ht_4_12, hn_4_12, ht_4_13, hn_4_13, ht_4_14, hn_4_14, ht_4_15, hn_4_15, ht_4_16, hn_4_16, ht_4_17, hn_4_17, ht_4_18, hn_4_18, ht_4_19, hn_4_19, hnf_4, hc_im1, hc_i0, hc_i1, hc_i2, hc_i3, hc_i4, hc_i5, hc_bm2, hc_b6, hc_b7, hc_b15, hc_b64, hc_s500, hc_s1000, hc_s2000, hw_10, hw_01, hp_F_3_43, hp_F_3_47, hp_F_3_66, hp_F_3_85, hp_F_3_92, hp_F_3_96, hp_F_3_99, dX3_move_0, dX3_move_1, dX3_move_2, dX3_move_5, dX3_move_6, dX3_move_7, dX3_move_8, dX3_move_11, dX3_move_13, dX3_move_15, dX3_move_16, dX3_move_19, dX3_move_22, dX3_move_25, dX3_move_26, dX3_move_29, dX3_move_30, dX3_move_32, dX3_move_35, dX3_move_38, dX3_move_41, dX3_move_44, dX3_move_45, dX3_move_48, dX3_move_49, dX3_move_50, dX3_move_53, dX3_move_55, dX3_move_57, dX3_move_60, dX3_move_62, dX3_move_63, dX3_move_66, dX3_move_68, dX3_move_69, dX3_move_72, dX3_move_73, dX3_move_75, dX3_move_78, dX3_move_81, dX3_move_82, dX3_move_83, dX3_move_86, dX3_move_87, dX3_move_90, dX3_move_93, dX3_move_95, dX3_move_98, dX3_move_99, dX3_move_101, dX3_move_103, dX3_move_106, hk, kb, r2, r4, kl, l2, g4, rm_wc, rm_ws, rm_0c, rm_0s, Option.toList_some, List.singleton_append, hw_20, hw_30, hw_40, hx_0, hx_1, hx_2, hx_3, hx_4, hy_00, hy_10]
    exact hp_throw CX D hp_x_ISE (Or.inr (Or.inr ⟨rfl, Or.inr ⟨j, b, hj, j0, hpj, rfl, hb, hpb, rfl, Or.inr (Or.inl ⟨rfl, g1, g3, rfl⟩)⟩⟩)) dX3_move_41 dX3_move_44 dX3_move_45 dX3_move_48 (by decide)
end M59
