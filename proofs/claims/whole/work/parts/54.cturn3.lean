/-! THE CLASS: takeTurn, turn, turns -/
section M54
theorem fsp_own {M : ab_T} {e p len : Nat} {id : Int32} (h : fsp M e p id len) : ∃ os, own M e = (e, id, len) :: os ∧ ∀ c, ((pks M).eraseIdx p).filter (fun z => z.1 == c) = if c = e then os else own M c := by
  obtain ⟨h1, h2⟩ := h
  have hp := (List.getElem?_eq_some_iff.mp h1).1
  have e1 : pks M = (pks M).take p ++ ((e, id, len) :: (pks M).drop (p + 1)) := by
    have h3 := (List.getElem?_eq_some_iff.mp h1).2
    rw [← h3, ← List.drop_eq_getElem_cons hp, List.take_append_drop]
  have e2 : (pks M).eraseIdx p = (pks M).take p ++ (pks M).drop (p + 1) := List.eraseIdx_eq_take_drop_succ _ _
  have e3 : ((pks M).take p).filter (fun z => z.1 == e) = [] := by
    rw [List.filter_eq_nil_iff]
    intro z hz
    obtain ⟨i, hi⟩ := List.getElem?_of_mem hz
    rw [List.getElem?_take] at hi
    by_cases g : i < p
    · rw [if_pos g] at hi
      have := h2 i z g hi
      simp [this]
    · rw [if_neg g] at hi; cases hi
  refine ⟨((pks M).drop (p + 1)).filter (fun z => z.1 == e), ?_, fun c => ?_⟩
  · unfold own
    conv => lhs; rw [e1]
    rw [List.filter_append, e3, List.nil_append, List.filter_cons]
    simp
  · rw [e2, List.filter_append]
    by_cases g : c = e
    · subst g
      rw [if_pos rfl, e3, List.nil_append]
    · rw [if_neg g]
      unfold own
      conv => rhs; rw [e1]
      rw [List.filter_append, List.filter_cons]
      have : (e == c) = false := by simp; exact fun q => g q.symm
      simp [this]
/-- all the classes above the leaf whose turn it is are open -/
theorem dnl_up {M : ab_T} : ∀ (ks : List Nat) (c e : Nat) (vs us : List Nat), dnl M c ks e → upl M c vs → (∀ u ∈ vs, op M u = 1) → upl M e us → ∀ u ∈ us, op M u = 1 := by
  intro ks
  induction ks with
  | nil =>
    intro c e vs us h1 h2 h3 h4
    obtain ⟨rfl, -⟩ := h1
    rw [upl_un us vs c h4 h2]
    exact h3
  | cons k ks ih =>
    intro c e vs us h1 h2 h3 h4
    obtain ⟨-, -, hb, hk, h5⟩ := h1
    rcases hb with ⟨z, -⟩ | ⟨-, -, -, z1, z2, -⟩
    · omega
    · exact ih k e (k :: vs) us h5 ⟨rfl, hk, by rw [z1]; exact h2⟩ (fun u hu => by
        rcases List.mem_cons.mp hu with y | y
        · rw [y]; exact z2
        · exact h3 u y) h4
theorem upl_par {M : ab_T} : ∀ (us : List Nat) (c : Nat), upl M c us → ∀ w ∈ us, pa M w < 64 → pa M w ∈ us := by
  intro us
  induction us with
  | nil => exact fun _ _ w hw => absurd hw List.not_mem_nil
  | cons u us ih =>
    intro c hu w hw hp
    rcases List.mem_cons.mp hw with y | y
    · subst y
      have h3 := hu.2.2
      cases us with
      | nil => have h3 : pa M w = 64 := h3; omega
      | cons v us => rw [h3.1]; exact List.mem_cons_of_mem _ List.mem_cons_self
    · exact List.mem_cons_of_mem _ (ih _ hu.2.2 w y hp)
theorem turn_cons {M X : ab_T} (hr : rin M) (h0 : hd M 0 = 0) {du : Nat → Nat} {k e : Nat} {ks us : List Nat} (hd1 : dnl M 0 (k :: ks) e) (he : e < 64) (hus : upl M e us) (hpa : ∀ c, pa X c = pa M c) (hop : ∀ c, op X c = op M c) (hhd : ∀ c, c < 64 → hd X c = hd M c - 1) (hpk1 : ∀ c, ¬ c = e → own X c = own M c) (hpk2 : ∀ z ∈ pks X, z ∈ pks M) (hdu : ∀ c, c < 64 → ¬ pa M c = 65 → hd M c = du c - trn M) : (∀ u ∈ us, op M u = 1) ∧ op M e = 1 ∧ hd M e = 0 ∧ (∀ c, c < 64 → ¬ c = e → op X c = 1 → cpo X (op X) c) ∧ (∀ c, c < 64 → ¬ (¬ pa X c = 65 ∧ du c = trn M + 1) → cpo X (op X) c → op X c = 1) := by
  have hvs : ∀ u ∈ us, op M u = 1 := by
    refine dnl_up (k :: ks) 0 e [0] us hd1 ⟨rfl, by decide, hr.1.1.1.1⟩ (fun u hu => ?_) hus
    rw [List.mem_singleton.mp hu]
    refine (hr.2.1 0 (by decide)).2.mpr ⟨h0, Or.inr ?_⟩
    obtain ⟨-, -, hb, hk, -⟩ := hd1
    rcases hb with ⟨z, -⟩ | ⟨-, -, z0, z1, z2, -⟩
    · omega
    · exact ⟨k, z0, z1, z2⟩
  have hme : e ∈ us := by
    cases us with
    | nil => have z : e = 64 := hus; omega
    | cons u us => rw [hus.1]; exact List.mem_cons_self
  have hoe : op M e = 1 := hvs e hme
  refine ⟨hvs, hoe, ((hr.2.1 e he).2.mp hoe).1, fun c hc hne q => ?_, fun c hc hn q => ?_⟩
  · rw [hop] at q
    obtain ⟨z1, z2⟩ := (hr.2.1 c hc).2.mp q
    refine ⟨by rw [hhd c hc]; omega, ?_⟩
    simp only [hop, hpa]
    rw [← own_ne, hpk1 c hne, own_ne]
    exact z2
  · rw [hpa] at hn
    rw [hop]
    obtain ⟨z1, z2⟩ := q
    rw [hhd c hc] at z1
    simp only [hop, hpa] at z2
    have hex : ¬ pa M c = 65 := by
      rcases z2 with ⟨z, z3, z4⟩ | ⟨k2, k3, k4, -⟩
      · have := (hr.1.1.2.2.2 z (hpk2 z z3)).2.2.1
        rw [z4] at this
        omega
      · rw [← k4]
        exact hr.1.1.2.1 k2 k3 (by omega)
    have hdc := hdu c hc hex
    refine (hr.2.1 c hc).2.mpr ⟨?_, z2.elim (fun ⟨z, z3, z4⟩ => Or.inl ⟨z, hpk2 z z3, z4⟩) Or.inr⟩
    have : ¬ du c = trn M + 1 := fun y => hn ⟨hex, y⟩
    clear z2 hn
    omega
theorem f_charge_I {S : hp_T} {a : Nat} {n : Int32} {b : Nat} (h : ¬ b = a) (j : Nat) : hp_I (f_charge S a n) b j = hp_I S b j := by
  unfold f_charge
  split
  · rfl
  · rw [hp_I_sI, if_neg (fun q => h q.1)]
    rfl
theorem f_charge_K (S : hp_T) (a : Nat) (n : Int32) : hp_K (f_charge S a n) = hp_K S := by
  unfold f_charge
  split <;> rfl
theorem f_charge_R (S : hp_T) (a : Nat) (n : Int32) : hp_R (f_charge S a n) = hp_R S := by
  unfold f_charge
  split <;> rfl
def rm_tt : Room := { frames := 3, cells := 0, slots := 0, locals := 90 }
theorem rm_ttc : rm_tt.cells = 0 := rfl
theorem rm_tts : rm_tt.slots = 0 := rfl
set_option maxRecDepth 20000 in
set_option maxHeartbeats 8000000 in
theorem ct_takeTurn (l : Launch) (G : hp_G) (S : hp_T) (x0 : Nat) (Z : cd_T) (M : ab_T) (h : RepC S x0 Z M) (hci : cin M) (htr : trn M + 1 ≤ 1000000) : hp_Met l G yX3_takeTurn cX3_takeTurn 4 (some .boolean) rm_tt [.inr (.inr (some x0))] S (fun v S' => ∃ r M' Z', v = some (.inl (nI r)) ∧ sp_turn M r M' ∧ RepC S' x0 Z' M' ∧ frC S S') := by
  have hr := hci.1
  have kx := h.1.1
  refine hp_Met.of (o := 3) (by decide) rfl (by show 1 ≤ 4; decide) (fun X C D => ?_)
  refine hp_run C [65] 60 _ _ _ _ ?_
  simp only [or_true, or_false, true_or, false_or, or_self, hp_wp0, hp_wpS, eq_self, true_and, and_true, false_and, and_false, if_true, if_false, Bool.false_eq_true, Bool.or_false, Bool.or_true, Bool.true_or, Bool.false_or, ite_true, ite_false, ↓reduceIte, reduceCtorEq, Nat.reduceBEq, Nat.reduceAdd, Nat.reduceEqDiff, Nat.reduceLT, Nat.reduceLeDiff, Int.reduceAdd, Int.reduceToNat, Int.reduceLE, Int.reduceNeg, Int.cast_ofNat_Int, Nat.zero_add, Option.some.injEq, exists_eq_left', exists_eq_left, not_true_eq_false, not_false_eq_true, false_implies, true_implies, forall_const, implies_true, List.cons_append, List.nil_append, Nat.le_refl, Nat.zero_le, hp_K_sI, hp_K_sJ, hp_K_sR, hp_N_sI, hp_N_sJ, hp_N_sR, hp_I_sI, hp_I_sJ, hp_I_sR, hp_J_sI, hp_J_sJ, hp_J_sR, hp_R_sI, hp_R_sJ, hp_R_sR, hr_iconst, hr_aload_n, hr_astore_n, hr_iadd, hr_isub, hr_dup, hr_ifnull, hr_ifnonnull, hr_goto, hr_getfield, hr_putfield, hr_ireturn, hr_invokevirtual, hz_i1, hz_i2, hz_l1, hz_l2, hz_r1, hz_r2, hz_ia, hz_via, hz_vr, hz_ld0, hz_ld1, hz_ld2, hz_s0, hz_s1, hz_s2, hz_g0, hz_g1, hz_d0, hz_d1, hz_d3, hz_d2, hz_t0, hz_t1, hz_t3, hz_t2, hz_c0, hz_c1, hz_rti, hz_rtl, hz_rta, hz_rtv, hz_br, hz_fh0, hz_fh1, hz_fh2, hz_fh3, hz_ft0, hz_ft1, hz_ft2, hz_ft3, hz_sF0, hz_sF1, hz_sF2, hz_lg0, hz_lg1, hz_lg2, hz_f0, hz_f1, hz_f2, hz_f3, hz_k0, hz_k1, hz_rm, hz_ok0, hz_ok1, hz_ok2, hz_ok3, hz_ok4, hz_l0, hz_l1c, hz_ar0, hz_ar1, ht_0_0, hn_0_0, ht_0_1, hn_0_1, ht_0_2, hn_0_2, ht_0_3, hn_0_3, hnf_0, ht_1_0, hn_1_0, ht_1_1, hn_1_1, ht_1_2, hn_1_2, ht_1_3, hn_1_3, ht_1_4, hn_1_4, ht_1_5, hn_1_5, ht_1_6, hn_1_6, ht_1_7, hn_1_7, ht_1_8, hn_1_8, ht_1_9, hn_1_9, ht_1_10, hn_1_10, ht_1_11, hn_1_11, ht_1_12, hn_1_12, ht_1_13, hn_1_13, hnf_1, ht_2_0, hn_2_0, ht_2_1, hn_2_1, ht_2_2, hn_2_2, hnf_2, ht_3_0, hn_3_0, ht_3_1, hn_3_1, ht_3_2, hn_3_2, ht_3_3, hn_3_3, ht_3_4, hn_3_4, ht_3_5, hn_3_5, ht_3_6, hn_3_6, ht_3_7, hn_3_7, ht_3_8, hn_3_8, ht_3_9, hn_3_9, ht_3_10, hn_3_10, hnf_3, ht_4_0, hn_4_0, ht_4_1, hn_4_1, ht_4_2, hn_4_2, ht_4_3, hn_4_3, ht_4_4, hn_4_4, ht_4_5, hn_4_5, ht_4_6, hn_4_6, ht_4_7, hn_4_7, ht_4_8, hn_4_8, ht_4_9, hn_4_9, ht_4_10, hn_4_10, ht_4_11, hn_4_11, ht_4_12, hn_4_12, ht_4_13, hn_4_13, ht_4_14, hn_4_14, ht_4_15, hn_4_15, ht_4_16, hn_4_16, ht_4_17, hn_4_17, ht_4_18, hn_4_18, ht_4_19, hn_4_19, hnf_4, hc_im1, hc_i0, hc_i1, hc_i2, hc_i3, hc_i4, hc_i5, hc_bm2, hc_b6, hc_b7, hc_b15, hc_b64, hc_s500, hc_s1000, hc_s2000, hw_10, hw_01, hp_F_3_113, hp_F_3_126, hp_F_3_133, hp_F_3_147, hp_F_3_172, hp_F_3_201, hp_F_3_209, hp_F_3_26, hp_F_3_29, hp_F_3_43, hp_F_3_66, hp_F_3_76, dX3_takeTurn_0, dX3_takeTurn_1, dX3_takeTurn_4, dX3_takeTurn_5, dX3_takeTurn_6, dX3_takeTurn_9, dX3_takeTurn_12, dX3_takeTurn_13, dX3_takeTurn_14, dX3_takeTurn_17, dX3_takeTurn_18, dX3_takeTurn_19, dX3_takeTurn_20, dX3_takeTurn_21, dX3_takeTurn_24, dX3_takeTurn_25, dX3_takeTurn_26, dX3_takeTurn_29, dX3_takeTurn_30, dX3_takeTurn_31, dX3_takeTurn_34, dX3_takeTurn_35, dX3_takeTurn_36, dX3_takeTurn_39, dX3_takeTurn_40, dX3_takeTurn_41, dX3_takeTurn_44, dX3_takeTurn_47, dX3_takeTurn_48, dX3_takeTurn_49, dX3_takeTurn_52, dX3_takeTurn_55, dX3_takeTurn_56, dX3_takeTurn_57, dX3_takeTurn_60, dX3_takeTurn_63, dX3_takeTurn_64, dX3_takeTurn_65, dX3_takeTurn_66, dX3_takeTurn_69, dX3_takeTurn_70, dX3_takeTurn_71, dX3_takeTurn_74, dX3_takeTurn_77, dX3_takeTurn_78, dX3_takeTurn_81, dX3_takeTurn_82, dX3_takeTurn_85, dX3_takeTurn_86, dX3_takeTurn_87, dX3_takeTurn_90, dX3_takeTurn_93, dX3_takeTurn_94, dX3_takeTurn_95, dX3_takeTurn_98, dX3_takeTurn_99, dX3_takeTurn_102, dX3_takeTurn_103, dX3_takeTurn_104, dX3_takeTurn_107, dX3_takeTurn_108, rm_ttc, rm_tts, hw_20, hw_30, hw_40, hx_0, hx_1, hx_2, hx_3, hx_4, hy_00, hy_10]
  refine hp_callV (as := []) (rest := []) C D dX3_takeTurn_1 kV_3_212 (ct_goDown l G S x0 Z M h hr) kx (by decide) rfl ⟨⟨by decide, by decide⟩, ⟨by decide, by decide⟩, by decide⟩ (fun v T hv => ?_)
  rcases hv with ⟨hb, rfl, rfl⟩ | ⟨k, ks, e, hd1, he, hpe0, rfl, hT, hfT⟩
  · -- nothing to send
    have hp0 : ¬ pa M 0 = 65 := by rw [hr.1.1.1.1]; omega
    obtain ⟨hcn, hcl⟩ := h.2.1 0 (by decide) hp0
    have k0 := hcn.1
    have r2 := hcn.2.2.2.1
    have kl := hcl.1
    have hown : own M 0 = [] := own_nil.mpr (fun p hp q => by have := (hr.1.1.2.2.2 p hp).2.1; omega)
    have hdp : dpk Z 0 = [] := by
      have := hcl.2.2.2.2.2.1
      rw [hown] at this
      exact List.length_eq_zero_iff.mp this
    have hR0 : hp_R S (dln Z 0) 0 = none := (lk_none hcl.2.1).mpr hdp
    refine hp_run C [65] 60 _ _ _ _ ?_
    simp only [or_true, or_false, true_or, false_or, or_self, hp_wp0, hp_wpS, eq_self, true_and, and_true, false_and, and_false, if_true, if_false, Bool.false_eq_true, Bool.or_false, Bool.or_true, Bool.true_or, Bool.false_or, ite_true, ite_false, ↓reduceIte, reduceCtorEq, Nat.reduceBEq, Nat.reduceAdd, Nat.reduceEqDiff, Nat.reduceLT, Nat.reduceLeDiff, Int.reduceAdd, Int.reduceToNat, Int.reduceLE, Int.reduceNeg, Int.cast_ofNat_Int, Nat.zero_add, Option.some.injEq, exists_eq_left', exists_eq_left, not_true_eq_false, not_false_eq_true, false_implies, true_implies, forall_const, implies_true, List.cons_append, List.nil_append, Nat.le_refl, Nat.zero_le, hp_K_sI, hp_K_sJ, hp_K_sR, hp_N_sI, hp_N_sJ, hp_N_sR, hp_I_sI, hp_I_sJ, hp_I_sR, hp_J_sI, hp_J_sJ, hp_J_sR, hp_R_sI, hp_R_sJ, hp_R_sR, hr_iconst, hr_aload_n, hr_astore_n, hr_iadd, hr_isub, hr_dup, hr_ifnull, hr_ifnonnull, hr_goto, hr_getfield, hr_putfield, hr_ireturn, hr_invokevirtual, hz_i1, hz_i2, hz_l1, hz_l2, hz_r1, hz_r2, hz_ia, hz_via, hz_vr, hz_ld0, hz_ld1, hz_ld2, hz_s0, hz_s1, hz_s2, hz_g0, hz_g1, hz_d0, hz_d1, hz_d3, hz_d2, hz_t0, hz_t1, hz_t3, hz_t2, hz_c0, hz_c1, hz_rti, hz_rtl, hz_rta, hz_rtv, hz_br, hz_fh0, hz_fh1, hz_fh2, hz_fh3, hz_ft0, hz_ft1, hz_ft2, hz_ft3, hz_sF0, hz_sF1, hz_sF2, hz_lg0, hz_lg1, hz_lg2, hz_f0, hz_f1, hz_f2, hz_f3, hz_k0, hz_k1, hz_rm, hz_ok0, hz_ok1, hz_ok2, hz_ok3, hz_ok4, hz_l0, hz_l1c, hz_ar0, hz_ar1, ht_0_0, hn_0_0, ht_0_1, hn_0_1, ht_0_2, hn_0_2, ht_0_3, hn_0_3, hnf_0, ht_1_0, hn_1_0, ht_1_1, hn_1_1, ht_1_2, hn_1_2, ht_1_3, hn_1_3, ht_1_4, hn_1_4, ht_1_5, hn_1_5, ht_1_6, hn_1_6, ht_1_7, hn_1_7, ht_1_8, hn_1_8, ht_1_9, hn_1_9, ht_1_10, hn_1_10, ht_1_11, hn_1_11, ht_1_12, hn_1_12, ht_1_13, hn_1_13, hnf_1, ht_2_0, hn_2_0, ht_2_1, hn_2_1, ht_2_2, hn_2_2, hnf_2, ht_3_0, hn_3_0, ht_3_1, hn_3_1, ht_3_2, hn_3_2, ht_3_3, hn_3_3, ht_3_4, hn_3_4, ht_3_5, hn_3_5, ht_3_6, hn_3_6, ht_3_7, hn_3_7, ht_3_8, hn_3_8, ht_3_9, hn_3_9, ht_3_10, hn_3_10, hnf_3, ht_4_0, hn_4_0, ht_4_1, hn_4_1, ht_4_2, hn_4_2, ht_4_3, hn_4_3, ht_4_4, hn_4_4, ht_4_5, hn_4_5, ht_4_6, hn_4_6, ht_4_7, hn_4_7, ht_4_8, hn_4_8, ht_4_9, hn_4_9, ht_4_10, hn_4_10, ht_4_11, hn_4_11, ht_4_12, hn_4_12, ht_4_13, hn_4_13, ht_4_14, hn_4_14, ht_4_15, hn_4_15, ht_4_16, hn_4_16, ht_4_17, hn_4_17, ht_4_18, hn_4_18, ht_4_19, hn_4_19, hnf_4, hc_im1, hc_i0, hc_i1, hc_i2, hc_i3, hc_i4, hc_i5, hc_bm2, hc_b6, hc_b7, hc_b15, hc_b64, hc_s500, hc_s1000, hc_s2000, hw_10, hw_01, hp_F_3_113, hp_F_3_126, hp_F_3_133, hp_F_3_147, hp_F_3_172, hp_F_3_201, hp_F_3_209, hp_F_3_26, hp_F_3_29, hp_F_3_43, hp_F_3_66, hp_F_3_76, dX3_takeTurn_0, dX3_takeTurn_1, dX3_takeTurn_4, dX3_takeTurn_5, dX3_takeTurn_6, dX3_takeTurn_9, dX3_takeTurn_12, dX3_takeTurn_13, dX3_takeTurn_14, dX3_takeTurn_17, dX3_takeTurn_18, dX3_takeTurn_19, dX3_takeTurn_20, dX3_takeTurn_21, dX3_takeTurn_24, dX3_takeTurn_25, dX3_takeTurn_26, dX3_takeTurn_29, dX3_takeTurn_30, dX3_takeTurn_31, dX3_takeTurn_34, dX3_takeTurn_35, dX3_takeTurn_36, dX3_takeTurn_39, dX3_takeTurn_40, dX3_takeTurn_41, dX3_takeTurn_44, dX3_takeTurn_47, dX3_takeTurn_48, dX3_takeTurn_49, dX3_takeTurn_52, dX3_takeTurn_55, dX3_takeTurn_56, dX3_takeTurn_57, dX3_takeTurn_60, dX3_takeTurn_63, dX3_takeTurn_64, dX3_takeTurn_65, dX3_takeTurn_66, dX3_takeTurn_69, dX3_takeTurn_70, dX3_takeTurn_71, dX3_takeTurn_74, dX3_takeTurn_77, dX3_takeTurn_78, dX3_takeTurn_81, dX3_takeTurn_82, dX3_takeTurn_85, dX3_takeTurn_86, dX3_takeTurn_87, dX3_takeTurn_90, dX3_takeTurn_93, dX3_takeTurn_94, dX3_takeTurn_95, dX3_takeTurn_98, dX3_takeTurn_99, dX3_takeTurn_102, dX3_takeTurn_103, dX3_takeTurn_104, dX3_takeTurn_107, dX3_takeTurn_108, k0, r2, rm_ttc, rm_tts, rm_gc, rm_gs, Option.toList_some, List.singleton_append, hw_20, hw_30, hw_40, hx_0, hx_1, hx_2, hx_3, hx_4, hy_00, hy_10]
    refine hp_callV (as := []) (rest := []) C D dX3_takeTurn_9 kV_3_216 (mt_leave l G S (dln Z 0) kl (fun p hp => by rw [hR0] at hp; cases hp)) kl (by decide) rfl ⟨⟨by decide, by decide⟩, ⟨by decide, by decide⟩, by decide⟩ (fun v S1 hv => ?_)
    obtain ⟨rfl, rfl⟩ := hv
    have e1 : f_leave S (dln Z 0) = S := by unfold f_leave; rw [hR0]
    rw [e1, hR0]
    refine hp_run C [65] 60 _ _ _ _ ?_
    simp only [or_true, or_false, true_or, false_or, or_self, hp_wp0, hp_wpS, eq_self, true_and, and_true, false_and, and_false, if_true, if_false, Bool.false_eq_true, Bool.or_false, Bool.or_true, Bool.true_or, Bool.false_or, ite_true, ite_false, ↓reduceIte, reduceCtorEq, Nat.reduceBEq, Nat.reduceAdd, Nat.reduceEqDiff, Nat.reduceLT, Nat.reduceLeDiff, Int.reduceAdd, Int.reduceToNat, Int.reduceLE, Int.reduceNeg, Int.cast_ofNat_Int, Nat.zero_add, Option.some.injEq, exists_eq_left', exists_eq_left, not_true_eq_false, not_false_eq_true, false_implies, true_implies, forall_const, implies_true, List.cons_append, List.nil_append, Nat.le_refl, Nat.zero_le, hp_K_sI, hp_K_sJ, hp_K_sR, hp_N_sI, hp_N_sJ, hp_N_sR, hp_I_sI, hp_I_sJ, hp_I_sR, hp_J_sI, hp_J_sJ, hp_J_sR, hp_R_sI, hp_R_sJ, hp_R_sR, hr_iconst, hr_aload_n, hr_astore_n, hr_iadd, hr_isub, hr_dup, hr_ifnull, hr_ifnonnull, hr_goto, hr_getfield, hr_putfield, hr_ireturn, hr_invokevirtual, hz_i1, hz_i2, hz_l1, hz_l2, hz_r1, hz_r2, hz_ia, hz_via, hz_vr, hz_ld0, hz_ld1, hz_ld2, hz_s0, hz_s1, hz_s2, hz_g0, hz_g1, hz_d0, hz_d1, hz_d3, hz_d2, hz_t0, hz_t1, hz_t3, hz_t2, hz_c0, hz_c1, hz_rti, hz_rtl, hz_rta, hz_rtv, hz_br, hz_fh0, hz_fh1, hz_fh2, hz_fh3, hz_ft0, hz_ft1, hz_ft2, hz_ft3, hz_sF0, hz_sF1, hz_sF2, hz_lg0, hz_lg1, hz_lg2, hz_f0, hz_f1, hz_f2, hz_f3, hz_k0, hz_k1, hz_rm, hz_ok0, hz_ok1, hz_ok2, hz_ok3, hz_ok4, hz_l0, hz_l1c, hz_ar0, hz_ar1, ht_0_0, hn_0_0, ht_0_1, hn_0_1, ht_0_2, hn_0_2, ht_0_3, hn_0_3, hnf_0, ht_1_0, hn_1_0, ht_1_1, hn_1_1, ht_1_2, hn_1_2, ht_1_3, hn_1_3, ht_1_4, hn_1_4, ht_1_5, hn_1_5, ht_1_6, hn_1_6, ht_1_7, hn_1_7, ht_1_8, hn_1_8, ht_1_9, hn_1_9, ht_1_10, hn_1_10, ht_1_11, hn_1_11, ht_1_12, hn_1_12, ht_1_13, hn_1_13, hnf_1, ht_2_0, hn_2_0, ht_2_1, hn_2_1, ht_2_2, hn_2_2, hnf_2, ht_3_0, hn_3_0, ht_3_1, hn_3_1, ht_3_2, hn_3_2, ht_3_3, hn_3_3, ht_3_4, hn_3_4, ht_3_5, hn_3_5, ht_3_6, hn_3_6, ht_3_7, hn_3_7, ht_3_8, hn_3_8, ht_3_9, hn_3_9, ht_3_10, hn_3_10, hnf_3, ht_4_0, hn_4_0, ht_4_1, hn_4_1, ht_4_2, hn_4_2, ht_4_3, hn_4_3, ht_4_4, hn_4_4, ht_4_5, hn_4_5, ht_4_6, hn_4_6, ht_4_7, hn_4_7, ht_4_8, hn_4_8, ht_4_9, hn_4_9, ht_4_10, hn_4_10, ht_4_11, hn_4_11, ht_4_12, hn_4_12, ht_4_13, hn_4_13, ht_4_14, hn_4_14, ht_4_15, hn_4_15, ht_4_16, hn_4_16, ht_4_17, hn_4_17, ht_4_18, hn_4_18, ht_4_19, hn_4_19, hnf_4, hc_im1, hc_i0, hc_i1, hc_i2, hc_i3, hc_i4, hc_i5, hc_bm2, hc_b6, hc_b7, hc_b15, hc_b64, hc_s500, hc_s1000, hc_s2000, hw_10, hw_01, hp_F_3_113, hp_F_3_126, hp_F_3_133, hp_F_3_147, hp_F_3_172, hp_F_3_201, hp_F_3_209, hp_F_3_26, hp_F_3_29, hp_F_3_43, hp_F_3_66, hp_F_3_76, dX3_takeTurn_0, dX3_takeTurn_1, dX3_takeTurn_4, dX3_takeTurn_5, dX3_takeTurn_6, dX3_takeTurn_9, dX3_takeTurn_12, dX3_takeTurn_13, dX3_takeTurn_14, dX3_takeTurn_17, dX3_takeTurn_18, dX3_takeTurn_19, dX3_takeTurn_20, dX3_takeTurn_21, dX3_takeTurn_24, dX3_takeTurn_25, dX3_takeTurn_26, dX3_takeTurn_29, dX3_takeTurn_30, dX3_takeTurn_31, dX3_takeTurn_34, dX3_takeTurn_35, dX3_takeTurn_36, dX3_takeTurn_39, dX3_takeTurn_40, dX3_takeTurn_41, dX3_takeTurn_44, dX3_takeTurn_47, dX3_takeTurn_48, dX3_takeTurn_49, dX3_takeTurn_52, dX3_takeTurn_55, dX3_takeTurn_56, dX3_takeTurn_57, dX3_takeTurn_60, dX3_takeTurn_63, dX3_takeTurn_64, dX3_takeTurn_65, dX3_takeTurn_66, dX3_takeTurn_69, dX3_takeTurn_70, dX3_takeTurn_71, dX3_takeTurn_74, dX3_takeTurn_77, dX3_takeTurn_78, dX3_takeTurn_81, dX3_takeTurn_82, dX3_takeTurn_85, dX3_takeTurn_86, dX3_takeTurn_87, dX3_takeTurn_90, dX3_takeTurn_93, dX3_takeTurn_94, dX3_takeTurn_95, dX3_takeTurn_98, dX3_takeTurn_99, dX3_takeTurn_102, dX3_takeTurn_103, dX3_takeTurn_104, dX3_takeTurn_107, dX3_takeTurn_108, rm_ttc, rm_tts, rm_gc, rm_gs, rm_0c, rm_0s, Option.toList_some, List.singleton_append, hw_20, hw_30, hw_40, hx_0, hx_1, hx_2, hx_3, hx_4, hy_00, hy_10]
    exact ⟨0, M, Z, rfl, Or.inl ⟨rfl, hb, rfl⟩, h, frC.rf S⟩
  · -- the leaf e
    obtain ⟨p0, id, len, hfs⟩ := fsp_ex hpe0
    obtain ⟨os, ho1, ho2⟩ := fsp_own hfs
    have hpe : ¬ pa M e = 65 := by
      obtain ⟨z, hz, rfl⟩ := hpe0
      have := (hr.1.1.2.2.2 z hz).2.2.1
      omega
    have hp0l : p0 < (pks M).length := (List.getElem?_eq_some_iff.mp hfs.1).1
    have hlen : len ≤ 2000 := (hr.1.1.2.2.2 _ (List.mem_of_getElem? hfs.1)).2.2.2.2.2
    obtain ⟨us, hus, -⟩ := upl_ex hr.1.1 e he hpe
    have hsam : sam (tim M 0 (k :: ks)) M := sam_tim _ _ _ ⟨rfl, rfl, rfl, rfl⟩
    have epa1 : ∀ c, pa (tim M 0 (k :: ks)) c = pa M c := fun c => by unfold pa; rw [hsam.1]
    have epk1 : pks (tim M 0 (k :: ks)) = pks M := by unfold pks; rw [hsam.2.2.2]
    have eow1 : ∀ c, own (tim M 0 (k :: ks)) c = own M c := fun c => by unfold own; rw [epk1]
    have etr1 : trn (tim M 0 (k :: ks)) = trn M := by unfold trn; rw [hsam.2.2.2]
    obtain ⟨hcn, hcl⟩ := hT.2.1 e he (by rw [epa1]; exact hpe)
    have ke := hcn.1
    have i0 := hcn.2.1
    have r2 := hcn.2.2.2.1
    obtain ⟨kl, l0, l1, l2, l3, ll, lp, lnd⟩ := hcl
    rw [eow1, ho1] at l2 l3 ll lp
    have kxT := hT.1.1
    have t3 := hT.1.2.2.2.2.2.2.1
    rw [epk1] at t3
    have t5 := (xo_rep hT).1
    rw [etr1] at t5
    -- the first packet of its line
    obtain ⟨p, ps, hpk⟩ : ∃ p ps, dpk Z e = p :: ps := by
      cases hh : dpk Z e with
      | nil => rw [hh] at ll; simp at ll
      | cons p ps => exact ⟨p, ps, rfl⟩
    rw [hpk] at l0 l1 ll
    have hR0 : hp_R T (dln Z e) 0 = some p := l0.1
    obtain ⟨kp, -, lq⟩ := lp 0 p (by rw [hpk]; rfl)
    obtain ⟨pi0, pi1⟩ := lq _ rfl
    have pi0 : hp_I T p 0 = id := pi0
    have pi1 : hp_I T p 1 = nI len := pi1
    have hlx : ¬ dln Z e = x0 := fun z => by rw [z, kxT] at kl; omega
    have hpx : ¬ p = x0 := fun z => by rw [z, kxT] at kp; omega
    have hpl : ¬ p = dln Z e := fun z => by rw [z, kl] at kp; omega
    have hxl : ¬ x0 = dln Z e := fun z => hlx z.symm
    have hnx : ¬ dna Z e = x0 := fun z => by rw [z, kxT] at ke; omega
    have hnl : ¬ dna Z e = dln Z e := fun z => by rw [z, kl] at ke; omega
    refine hp_run C [65] 60 _ _ _ _ ?_
    simp only [or_true, or_false, true_or, false_or, or_self, hp_wp0, hp_wpS, eq_self, true_and, and_true, false_and, and_false, if_true, if_false, Bool.false_eq_true, Bool.or_false, Bool.or_true, Bool.true_or, Bool.false_or, ite_true, ite_false, ↓reduceIte, reduceCtorEq, Nat.reduceBEq, Nat.reduceAdd, Nat.reduceEqDiff, Nat.reduceLT, Nat.reduceLeDiff, Int.reduceAdd, Int.reduceToNat, Int.reduceLE, Int.reduceNeg, Int.cast_ofNat_Int, Nat.zero_add, Option.some.injEq, exists_eq_left', exists_eq_left, not_true_eq_false, not_false_eq_true, false_implies, true_implies, forall_const, implies_true, List.cons_append, List.nil_append, Nat.le_refl, Nat.zero_le, hp_K_sI, hp_K_sJ, hp_K_sR, hp_N_sI, hp_N_sJ, hp_N_sR, hp_I_sI, hp_I_sJ, hp_I_sR, hp_J_sI, hp_J_sJ, hp_J_sR, hp_R_sI, hp_R_sJ, hp_R_sR, hr_iconst, hr_aload_n, hr_astore_n, hr_iadd, hr_isub, hr_dup, hr_ifnull, hr_ifnonnull, hr_goto, hr_getfield, hr_putfield, hr_ireturn, hr_invokevirtual, hz_i1, hz_i2, hz_l1, hz_l2, hz_r1, hz_r2, hz_ia, hz_via, hz_vr, hz_ld0, hz_ld1, hz_ld2, hz_s0, hz_s1, hz_s2, hz_g0, hz_g1, hz_d0, hz_d1, hz_d3, hz_d2, hz_t0, hz_t1, hz_t3, hz_t2, hz_c0, hz_c1, hz_rti, hz_rtl, hz_rta, hz_rtv, hz_br, hz_fh0, hz_fh1, hz_fh2, hz_fh3, hz_ft0, hz_ft1, hz_ft2, hz_ft3, hz_sF0, hz_sF1, hz_sF2, hz_lg0, hz_lg1, hz_lg2, hz_f0, hz_f1, hz_f2, hz_f3, hz_k0, hz_k1, hz_rm, hz_ok0, hz_ok1, hz_ok2, hz_ok3, hz_ok4, hz_l0, hz_l1c, hz_ar0, hz_ar1, ht_0_0, hn_0_0, ht_0_1, hn_0_1, ht_0_2, hn_0_2, ht_0_3, hn_0_3, hnf_0, ht_1_0, hn_1_0, ht_1_1, hn_1_1, ht_1_2, hn_1_2, ht_1_3, hn_1_3, ht_1_4, hn_1_4, ht_1_5, hn_1_5, ht_1_6, hn_1_6, ht_1_7, hn_1_7, ht_1_8, hn_1_8, ht_1_9, hn_1_9, ht_1_10, hn_1_10, ht_1_11, hn_1_11, ht_1_12, hn_1_12, ht_1_13, hn_1_13, hnf_1, ht_2_0, hn_2_0, ht_2_1, hn_2_1, ht_2_2, hn_2_2, hnf_2, ht_3_0, hn_3_0, ht_3_1, hn_3_1, ht_3_2, hn_3_2, ht_3_3, hn_3_3, ht_3_4, hn_3_4, ht_3_5, hn_3_5, ht_3_6, hn_3_6, ht_3_7, hn_3_7, ht_3_8, hn_3_8, ht_3_9, hn_3_9, ht_3_10, hn_3_10, hnf_3, ht_4_0, hn_4_0, ht_4_1, hn_4_1, ht_4_2, hn_4_2, ht_4_3, hn_4_3, ht_4_4, hn_4_4, ht_4_5, hn_4_5, ht_4_6, hn_4_6, ht_4_7, hn_4_7, ht_4_8, hn_4_8, ht_4_9, hn_4_9, ht_4_10, hn_4_10, ht_4_11, hn_4_11, ht_4_12, hn_4_12, ht_4_13, hn_4_13, ht_4_14, hn_4_14, ht_4_15, hn_4_15, ht_4_16, hn_4_16, ht_4_17, hn_4_17, ht_4_18, hn_4_18, ht_4_19, hn_4_19, hnf_4, hc_im1, hc_i0, hc_i1, hc_i2, hc_i3, hc_i4, hc_i5, hc_bm2, hc_b6, hc_b7, hc_b15, hc_b64, hc_s500, hc_s1000, hc_s2000, hw_10, hw_01, hp_F_3_113, hp_F_3_126, hp_F_3_133, hp_F_3_147, hp_F_3_172, hp_F_3_201, hp_F_3_209, hp_F_3_26, hp_F_3_29, hp_F_3_43, hp_F_3_66, hp_F_3_76, dX3_takeTurn_0, dX3_takeTurn_1, dX3_takeTurn_4, dX3_takeTurn_5, dX3_takeTurn_6, dX3_takeTurn_9, dX3_takeTurn_12, dX3_takeTurn_13, dX3_takeTurn_14, dX3_takeTurn_17, dX3_takeTurn_18, dX3_takeTurn_19, dX3_takeTurn_20, dX3_takeTurn_21, dX3_takeTurn_24, dX3_takeTurn_25, dX3_takeTurn_26, dX3_takeTurn_29, dX3_takeTurn_30, dX3_takeTurn_31, dX3_takeTurn_34, dX3_takeTurn_35, dX3_takeTurn_36, dX3_takeTurn_39, dX3_takeTurn_40, dX3_takeTurn_41, dX3_takeTurn_44, dX3_takeTurn_47, dX3_takeTurn_48, dX3_takeTurn_49, dX3_takeTurn_52, dX3_takeTurn_55, dX3_takeTurn_56, dX3_takeTurn_57, dX3_takeTurn_60, dX3_takeTurn_63, dX3_takeTurn_64, dX3_takeTurn_65, dX3_takeTurn_66, dX3_takeTurn_69, dX3_takeTurn_70, dX3_takeTurn_71, dX3_takeTurn_74, dX3_takeTurn_77, dX3_takeTurn_78, dX3_takeTurn_81, dX3_takeTurn_82, dX3_takeTurn_85, dX3_takeTurn_86, dX3_takeTurn_87, dX3_takeTurn_90, dX3_takeTurn_93, dX3_takeTurn_94, dX3_takeTurn_95, dX3_takeTurn_98, dX3_takeTurn_99, dX3_takeTurn_102, dX3_takeTurn_103, dX3_takeTurn_104, dX3_takeTurn_107, dX3_takeTurn_108, ke, r2, rm_ttc, rm_tts, rm_gc, rm_gs, Option.toList_some, List.singleton_append, hw_20, hw_30, hw_40, hx_0, hx_1, hx_2, hx_3, hx_4, hy_00, hy_10]
    refine hp_callV (as := []) (rest := []) C D dX3_takeTurn_9 kV_3_216 (mt_leave l G T (dln Z e) kl (fun q hq => by
      rw [hR0] at hq
      cases hq
      exact kp)) kl (by decide) rfl ⟨⟨by decide, by decide⟩, ⟨by decide, by decide⟩, by decide⟩ (fun v S1 hv => ?_)
    obtain ⟨rfl, rfl⟩ := hv
    rw [hR0]
    -- the pool behind it
    have fK : hp_K (f_leave T (dln Z e)) = hp_K T := by
      unfold f_leave; rw [hR0]; simp only; cases hp_R T p 2 <;> rfl
    have fN : hp_N (f_leave T (dln Z e)) = hp_N T := by
      unfold f_leave; rw [hR0]; simp only; cases hp_R T p 2 <;> rfl
    have fJ : hp_J (f_leave T (dln Z e)) = hp_J T := by
      unfold f_leave; rw [hR0]; simp only; cases hp_R T p 2 <;> rfl
    have fI : ∀ a j, hp_I (f_leave T (dln Z e)) a j = if a = dln Z e ∧ j = 3 then nI (os.map (fun z => z.2.2)).sum else if a = dln Z e ∧ j = 2 then nI os.length else hp_I T a j := by
      have e1 : hp_I T (dln Z e) 2 - 1 = nI os.length := by rw [l2, List.length_cons, nI_pred]
      have e2 : hp_I T (dln Z e) 3 - hp_I T p 1 = nI (os.map (fun z => z.2.2)).sum := by
        rw [l3, pi1, List.map_cons, List.sum_cons, pk_sub (Nat.le_add_right _ _), Nat.add_sub_cancel_left]
      intro a j
      unfold f_leave
      rw [hR0]
      simp only [e1, e2]
      cases hp_R T p 2 <;> rfl
    have fR : ∀ a j, hp_R (f_leave T (dln Z e)) a j = if a = dln Z e ∧ j = 0 then hp_R T p 2 else if a = dln Z e ∧ j = 1 then ps.getLast? else hp_R T a j := by
      intro a j
      have l0b : lk T 2 (hp_R T p 2) ps := l0.2
      unfold f_leave
      rw [hR0]
      simp only
      cases hps : ps with
      | nil =>
        have e1 : hp_R T p 2 = none := (lk_none l0b).mpr hps
        rw [e1]
        simp only [hp_R_sI, hp_R_sR]
        by_cases z1 : a = dln Z e
        · by_cases z2 : j = 0
          · simp [z1, z2]
          · by_cases z3 : j = 1
            · simp [z1, z3]
            · simp [z2, z3]
        · simp [z1]
      | cons p2 ps2 =>
        have e1 : hp_R T p 2 = some p2 := by rw [hps] at l0b; exact l0b.1
        rw [e1]
        simp only [hp_R_sI, hp_R_sR]
        by_cases z1 : a = dln Z e
        · by_cases z2 : j = 0
          · simp [z1, z2]
          · by_cases z3 : j = 1
            · subst z3
              rw [hps] at l1
              rw [z1]
              simp only [Nat.reduceEqDiff, and_false, if_false, and_self, if_true, l1, List.getLast?_cons_cons]
            · simp [z2, z3]
        · simp [z1]
    generalize hT2 : f_leave T (dln Z e) = T2 at fK fN fJ fI fR
    have x3 : hp_I T2 x0 3 = nI (pks M).length := by rw [fI, if_neg (fun z => hxl z.1), if_neg (fun z => hxl z.1)]; exact t3
    have x5 : hp_I T2 x0 5 = nI (trn M) := by rw [fI, if_neg (fun z => hxl z.1), if_neg (fun z => hxl z.1)]; exact t5
    have xe : hp_I T2 (dna Z e) 0 = nI e := by rw [fI, if_neg (fun z => hnl z.1), if_neg (fun z => hnl z.1)]; exact i0
    have xp0 : hp_I T2 p 0 = id := by rw [fI, if_neg (fun z => hpl z.1), if_neg (fun z => hpl z.1)]; exact pi0
    have xp1 : hp_I T2 p 1 = nI len := by rw [fI, if_neg (fun z => hpl z.1), if_neg (fun z => hpl z.1)]; exact pi1
    have kx2 : hp_K T2 x0 = 4 := by rw [fK]; exact kxT
    have ke2 : hp_K T2 (dna Z e) = 2 := by rw [fK]; exact ke
    have kp2 : hp_K T2 p = 3 := by rw [fK]; exact kp
    have hel : ((pks M).eraseIdx p0).length + 1 = (pks M).length := by rw [List.length_eraseIdx_of_lt hp0l]; omega
    have e3 : nI (pks M).length - 1 = nI ((pks M).eraseIdx p0).length := by rw [← hel, nI_pred]
    refine hp_run C [65] 60 _ _ _ _ ?_
    simp only [or_true, or_false, true_or, false_or, or_self, hp_wp0, hp_wpS, eq_self, true_and, and_true, false_and, and_false, if_true, if_false, Bool.false_eq_true, Bool.or_false, Bool.or_true, Bool.true_or, Bool.false_or, ite_true, ite_false, ↓reduceIte, reduceCtorEq, Nat.reduceBEq, Nat.reduceAdd, Nat.reduceEqDiff, Nat.reduceLT, Nat.reduceLeDiff, Int.reduceAdd, Int.reduceToNat, Int.reduceLE, Int.reduceNeg, Int.cast_ofNat_Int, Nat.zero_add, Option.some.injEq, exists_eq_left', exists_eq_left, not_true_eq_false, not_false_eq_true, false_implies, true_implies, forall_const, implies_true, List.cons_append, List.nil_append, Nat.le_refl, Nat.zero_le, hp_K_sI, hp_K_sJ, hp_K_sR, hp_N_sI, hp_N_sJ, hp_N_sR, hp_I_sI, hp_I_sJ, hp_I_sR, hp_J_sI, hp_J_sJ, hp_J_sR, hp_R_sI, hp_R_sJ, hp_R_sR, hr_iconst, hr_aload_n, hr_astore_n, hr_iadd, hr_isub, hr_dup, hr_ifnull, hr_ifnonnull, hr_goto, hr_getfield, hr_putfield, hr_ireturn, hr_invokevirtual, hz_i1, hz_i2, hz_l1, hz_l2, hz_r1, hz_r2, hz_ia, hz_via, hz_vr, hz_ld0, hz_ld1, hz_ld2, hz_s0, hz_s1, hz_s2, hz_g0, hz_g1, hz_d0, hz_d1, hz_d3, hz_d2, hz_t0, hz_t1, hz_t3, hz_t2, hz_c0, hz_c1, hz_rti, hz_rtl, hz_rta, hz_rtv, hz_br, hz_fh0, hz_fh1, hz_fh2, hz_fh3, hz_ft0, hz_ft1, hz_ft2, hz_ft3, hz_sF0, hz_sF1, hz_sF2, hz_lg0, hz_lg1, hz_lg2, hz_f0, hz_f1, hz_f2, hz_f3, hz_k0, hz_k1, hz_rm, hz_ok0, hz_ok1, hz_ok2, hz_ok3, hz_ok4, hz_l0, hz_l1c, hz_ar0, hz_ar1, ht_0_0, hn_0_0, ht_0_1, hn_0_1, ht_0_2, hn_0_2, ht_0_3, hn_0_3, hnf_0, ht_1_0, hn_1_0, ht_1_1, hn_1_1, ht_1_2, hn_1_2, ht_1_3, hn_1_3, ht_1_4, hn_1_4, ht_1_5, hn_1_5, ht_1_6, hn_1_6, ht_1_7, hn_1_7, ht_1_8, hn_1_8, ht_1_9, hn_1_9, ht_1_10, hn_1_10, ht_1_11, hn_1_11, ht_1_12, hn_1_12, ht_1_13, hn_1_13, hnf_1, ht_2_0, hn_2_0, ht_2_1, hn_2_1, ht_2_2, hn_2_2, hnf_2, ht_3_0, hn_3_0, ht_3_1, hn_3_1, ht_3_2, hn_3_2, ht_3_3, hn_3_3, ht_3_4, hn_3_4, ht_3_5, hn_3_5, ht_3_6, hn_3_6, ht_3_7, hn_3_7, ht_3_8, hn_3_8, ht_3_9, hn_3_9, ht_3_10, hn_3_10, hnf_3, ht_4_0, hn_4_0, ht_4_1, hn_4_1, ht_4_2, hn_4_2, ht_4_3, hn_4_3, ht_4_4, hn_4_4, ht_4_5, hn_4_5, ht_4_6, hn_4_6, ht_4_7, hn_4_7, ht_4_8, hn_4_8, ht_4_9, hn_4_9, ht_4_10, hn_4_10, ht_4_11, hn_4_11, ht_4_12, hn_4_12, ht_4_13, hn_4_13, ht_4_14, hn_4_14, ht_4_15, hn_4_15, ht_4_16, hn_4_16, ht_4_17, hn_4_17, ht_4_18, hn_4_18, ht_4_19, hn_4_19, hnf_4, hc_im1, hc_i0, hc_i1, hc_i2, hc_i3, hc_i4, hc_i5, hc_bm2, hc_b6, hc_b7, hc_b15, hc_b64, hc_s500, hc_s1000, hc_s2000, hw_10, hw_01, hp_F_3_113, hp_F_3_126, hp_F_3_133, hp_F_3_147, hp_F_3_172, hp_F_3_201, hp_F_3_209, hp_F_3_26, hp_F_3_29, hp_F_3_43, hp_F_3_66, hp_F_3_76, dX3_takeTurn_0, dX3_takeTurn_1, dX3_takeTurn_4, dX3_takeTurn_5, dX3_takeTurn_6, dX3_takeTurn_9, dX3_takeTurn_12, dX3_takeTurn_13, dX3_takeTurn_14, dX3_takeTurn_17, dX3_takeTurn_18, dX3_takeTurn_19, dX3_takeTurn_20, dX3_takeTurn_21, dX3_takeTurn_24, dX3_takeTurn_25, dX3_takeTurn_26, dX3_takeTurn_29, dX3_takeTurn_30, dX3_takeTurn_31, dX3_takeTurn_34, dX3_takeTurn_35, dX3_takeTurn_36, dX3_takeTurn_39, dX3_takeTurn_40, dX3_takeTurn_41, dX3_takeTurn_44, dX3_takeTurn_47, dX3_takeTurn_48, dX3_takeTurn_49, dX3_takeTurn_52, dX3_takeTurn_55, dX3_takeTurn_56, dX3_takeTurn_57, dX3_takeTurn_60, dX3_takeTurn_63, dX3_takeTurn_64, dX3_takeTurn_65, dX3_takeTurn_66, dX3_takeTurn_69, dX3_takeTurn_70, dX3_takeTurn_71, dX3_takeTurn_74, dX3_takeTurn_77, dX3_takeTurn_78, dX3_takeTurn_81, dX3_takeTurn_82, dX3_takeTurn_85, dX3_takeTurn_86, dX3_takeTurn_87, dX3_takeTurn_90, dX3_takeTurn_93, dX3_takeTurn_94, dX3_takeTurn_95, dX3_takeTurn_98, dX3_takeTurn_99, dX3_takeTurn_102, dX3_takeTurn_103, dX3_takeTurn_104, dX3_takeTurn_107, dX3_takeTurn_108, kx2, ke2, kp2, x3, x5, xe, xp0, xp1, e3, hpx, hnx, nI_1, rm_ttc, rm_tts, rm_gc, rm_gs, rm_0c, rm_0s, Option.toList_some, List.singleton_append, hw_20, hw_30, hw_40, hx_0, hx_1, hx_2, hx_3, hx_4, hy_00, hy_10]
    -- what it stands for
    obtain ⟨hL1, hL2, hL3⟩ := rn_leave (S := T) (S' := hp_sI (hp_sI (hp_sI (hp_sI (hp_sI T2 x0 3 (nI ((pks M).eraseIdx p0).length)) x0 5 (nI (trn M + 1))) x0 7 (nI e)) x0 8 id) x0 9 (nI len)) (p := p) (ps := ps) (id := id) (len := len) (os := os) (P := (pks M).eraseIdx p0) hT he (by rw [epa1]; exact hpe) hpk (by rw [eow1]; exact ho1) (fun c => by rw [ho2 c, eow1]) (by rw [epk1]; exact hel) (by rw [etr1]; exact htr) fK fN fJ (fun a j => by
        rw [etr1]
        simp only [hp_I_sI, fI]
        by_cases z1 : a = x0
        · subst z1
          by_cases y3 : j = 3
          · subst y3; simp
          · by_cases y5 : j = 5
            · subst y5; simp
            · by_cases y7 : j = 7
              · subst y7; simp
              · by_cases y8 : j = 8
                · subst y8; simp
                · by_cases y9 : j = 9
                  · subst y9; simp
                  · simp [y3, y5, y7, y8, y9, hxl]
        · simp only [z1, false_and, if_false]
          by_cases y2 : j = 2
          · subst y2; simp
          · simp [y2]) (fun a j => by simp only [hp_R_sI, fR])
    rw [etr1] at hL1
    -- the charges
    have eM2 : hdN (mT (mL (mP (tim M 0 (k :: ks)) ((pks M).eraseIdx p0)) (nI e) id (nI len)) (trn M + 1)) 64 = hdN (mT (mP (mL (tim M 0 (k :: ks)) (nI e) id (nI len)) ((pks M).eraseIdx p0)) (trn M + 1)) 64 := rfl
    rw [eM2] at hL1
    have fin : ∀ (X3 : ab_T), sok X3 → (∀ c, pa X3 c = pa M c) → (∀ c, op X3 c = op M c) → (∀ c, c < 64 → hd X3 c = hd M c - 1) → (∀ c, ¬ c = e → own X3 c = own M c) → (∀ z ∈ pks X3, z ∈ pks M) → trn X3 = trn M + 1 → (∀ M', stl X3 M' → sp_turn M 1 M') → ∀ (T3 : hp_T) (L : hp_LL), (∀ q ∈ [(0, (.inr (.inr (some x0)) : hp_hv)), (1, .inr (.inr (some (dna Z e)))), (2, .inr (.inr (some p)))], q ∈ L) → RepN T3 x0 (zpk Z (fun c => if c = e then ps else dpk Z c) (dsp Z) (fun a => if a = p then 65 else dow Z a)) X3 (noc X3) → hp_K T3 p = 3 → frC S T3 → hp_V X 4 85 L [] T3 0 0 := by
      intro X3 hso hpa3 hop3 hhd hpk1 hpk2 htr3 hsp T3 L hL a1 a2 a3
      refine hp_sub hL ?_
      have hfr : fre T3 (zpk Z (fun c => if c = e then ps else dpk Z c) (dsp Z) (fun a => if a = p then 65 else dow Z a)) p := ⟨a2, hL2.2⟩
      obtain ⟨b1, b2⟩ := rn_push a1 hfr
      have kx3 := a1.1.1
      refine hp_run C [65] 60 _ _ _ _ ?_
      simp only [or_true, or_false, true_or, false_or, or_self, hp_wp0, hp_wpS, eq_self, true_and, and_true, false_and, and_false, if_true, if_false, Bool.false_eq_true, Bool.or_false, Bool.or_true, Bool.true_or, Bool.false_or, ite_true, ite_false, ↓reduceIte, reduceCtorEq, Nat.reduceBEq, Nat.reduceAdd, Nat.reduceEqDiff, Nat.reduceLT, Nat.reduceLeDiff, Int.reduceAdd, Int.reduceToNat, Int.reduceLE, Int.reduceNeg, Int.cast_ofNat_Int, Nat.zero_add, Option.some.injEq, exists_eq_left', exists_eq_left, not_true_eq_false, not_false_eq_true, false_implies, true_implies, forall_const, implies_true, List.cons_append, List.nil_append, Nat.le_refl, Nat.zero_le, hp_K_sI, hp_K_sJ, hp_K_sR, hp_N_sI, hp_N_sJ, hp_N_sR, hp_I_sI, hp_I_sJ, hp_I_sR, hp_J_sI, hp_J_sJ, hp_J_sR, hp_R_sI, hp_R_sJ, hp_R_sR, hr_iconst, hr_aload_n, hr_astore_n, hr_iadd, hr_isub, hr_dup, hr_ifnull, hr_ifnonnull, hr_goto, hr_getfield, hr_putfield, hr_ireturn, hr_invokevirtual, hz_i1, hz_i2, hz_l1, hz_l2, hz_r1, hz_r2, hz_ia, hz_via, hz_vr, hz_ld0, hz_ld1, hz_ld2, hz_s0, hz_s1, hz_s2, hz_g0, hz_g1, hz_d0, hz_d1, hz_d3, hz_d2, hz_t0, hz_t1, hz_t3, hz_t2, hz_c0, hz_c1, hz_rti, hz_rtl, hz_rta, hz_rtv, hz_br, hz_fh0, hz_fh1, hz_fh2, hz_fh3, hz_ft0, hz_ft1, hz_ft2, hz_ft3, hz_sF0, hz_sF1, hz_sF2, hz_lg0, hz_lg1, hz_lg2, hz_f0, hz_f1, hz_f2, hz_f3, hz_k0, hz_k1, hz_rm, hz_ok0, hz_ok1, hz_ok2, hz_ok3, hz_ok4, hz_l0, hz_l1c, hz_ar0, hz_ar1, ht_0_0, hn_0_0, ht_0_1, hn_0_1, ht_0_2, hn_0_2, ht_0_3, hn_0_3, hnf_0, ht_1_0, hn_1_0, ht_1_1, hn_1_1, ht_1_2, hn_1_2, ht_1_3, hn_1_3, ht_1_4, hn_1_4, ht_1_5, hn_1_5, ht_1_6, hn_1_6, ht_1_7, hn_1_7, ht_1_8, hn_1_8, ht_1_9, hn_1_9, ht_1_10, hn_1_10, ht_1_11, hn_1_11, ht_1_12, hn_1_12, ht_1_13, hn_1_13, hnf_1, ht_2_0, hn_2_0, ht_2_1, hn_2_1, ht_2_2, hn_2_2, hnf_2, ht_3_0, hn_3_0, ht_3_1, hn_3_1, ht_3_2, hn_3_2, ht_3_3, hn_3_3, ht_3_4, hn_3_4, ht_3_5, hn_3_5, ht_3_6, hn_3_6, ht_3_7, hn_3_7, ht_3_8, hn_3_8, ht_3_9, hn_3_9, ht_3_10, hn_3_10, hnf_3, ht_4_0, hn_4_0, ht_4_1, hn_4_1, ht_4_2, hn_4_2, ht_4_3, hn_4_3, ht_4_4, hn_4_4, ht_4_5, hn_4_5, ht_4_6, hn_4_6, ht_4_7, hn_4_7, ht_4_8, hn_4_8, ht_4_9, hn_4_9, ht_4_10, hn_4_10, ht_4_11, hn_4_11, ht_4_12, hn_4_12, ht_4_13, hn_4_13, ht_4_14, hn_4_14, ht_4_15, hn_4_15, ht_4_16, hn_4_16, ht_4_17, hn_4_17, ht_4_18, hn_4_18, ht_4_19, hn_4_19, hnf_4, hc_im1, hc_i0, hc_i1, hc_i2, hc_i3, hc_i4, hc_i5, hc_bm2, hc_b6, hc_b7, hc_b15, hc_b64, hc_s500, hc_s1000, hc_s2000, hw_10, hw_01, hp_F_3_113, hp_F_3_126, hp_F_3_133, hp_F_3_147, hp_F_3_172, hp_F_3_201, hp_F_3_209, hp_F_3_26, hp_F_3_29, hp_F_3_43, hp_F_3_66, hp_F_3_76, dX3_takeTurn_0, dX3_takeTurn_1, dX3_takeTurn_4, dX3_takeTurn_5, dX3_takeTurn_6, dX3_takeTurn_9, dX3_takeTurn_12, dX3_takeTurn_13, dX3_takeTurn_14, dX3_takeTurn_17, dX3_takeTurn_18, dX3_takeTurn_19, dX3_takeTurn_20, dX3_takeTurn_21, dX3_takeTurn_24, dX3_takeTurn_25, dX3_takeTurn_26, dX3_takeTurn_29, dX3_takeTurn_30, dX3_takeTurn_31, dX3_takeTurn_34, dX3_takeTurn_35, dX3_takeTurn_36, dX3_takeTurn_39, dX3_takeTurn_40, dX3_takeTurn_41, dX3_takeTurn_44, dX3_takeTurn_47, dX3_takeTurn_48, dX3_takeTurn_49, dX3_takeTurn_52, dX3_takeTurn_55, dX3_takeTurn_56, dX3_takeTurn_57, dX3_takeTurn_60, dX3_takeTurn_63, dX3_takeTurn_64, dX3_takeTurn_65, dX3_takeTurn_66, dX3_takeTurn_69, dX3_takeTurn_70, dX3_takeTurn_71, dX3_takeTurn_74, dX3_takeTurn_77, dX3_takeTurn_78, dX3_takeTurn_81, dX3_takeTurn_82, dX3_takeTurn_85, dX3_takeTurn_86, dX3_takeTurn_87, dX3_takeTurn_90, dX3_takeTurn_93, dX3_takeTurn_94, dX3_takeTurn_95, dX3_takeTurn_98, dX3_takeTurn_99, dX3_takeTurn_102, dX3_takeTurn_103, dX3_takeTurn_104, dX3_takeTurn_107, dX3_takeTurn_108, kx3, a2, rm_ttc, rm_tts, hw_20, hw_30, hw_40, hx_0, hx_1, hx_2, hx_3, hx_4, hy_00, hy_10]
      obtain ⟨hvs, hoe, hde, hO, hC⟩ := turn_cons (X := X3) (du := dhu Z) hr hci.2.2.1 hd1 he hus hpa3 hop3 hhd hpk1 hpk2 (fun c hc hpc => (h.2.2.2.1 c hc hpc).2.2.1)
      have hdu : dhu Z e < trn X3 := by
        have := (h.2.2.2.1 e he hpe).2.2.1
        rw [htr3]
        omega
      rw [← htr3] at hC
      refine hp_callV (as := []) (rest := []) C D dX3_takeTurn_99 kV_3_223 (ct_endHolds l G _ x0 _ X3 e b1 hso he (by rw [hhd e he, hde]) hdu hO hC) b1.1.1 (by decide) rfl ⟨⟨by decide, by decide⟩, ⟨by decide, by decide⟩, by decide⟩ (fun v S4 hv => ?_)
      obtain ⟨rfl, o, c1, c2, c3, c4, c5, c6⟩ := hv
      refine hp_run C [65] 60 _ _ _ _ ?_
      simp only [or_true, or_false, true_or, false_or, or_self, hp_wp0, hp_wpS, eq_self, true_and, and_true, false_and, and_false, if_true, if_false, Bool.false_eq_true, Bool.or_false, Bool.or_true, Bool.true_or, Bool.false_or, ite_true, ite_false, ↓reduceIte, reduceCtorEq, Nat.reduceBEq, Nat.reduceAdd, Nat.reduceEqDiff, Nat.reduceLT, Nat.reduceLeDiff, Int.reduceAdd, Int.reduceToNat, Int.reduceLE, Int.reduceNeg, Int.cast_ofNat_Int, Nat.zero_add, Option.some.injEq, exists_eq_left', exists_eq_left, not_true_eq_false, not_false_eq_true, false_implies, true_implies, forall_const, implies_true, List.cons_append, List.nil_append, Nat.le_refl, Nat.zero_le, hp_K_sI, hp_K_sJ, hp_K_sR, hp_N_sI, hp_N_sJ, hp_N_sR, hp_I_sI, hp_I_sJ, hp_I_sR, hp_J_sI, hp_J_sJ, hp_J_sR, hp_R_sI, hp_R_sJ, hp_R_sR, hr_iconst, hr_aload_n, hr_astore_n, hr_iadd, hr_isub, hr_dup, hr_ifnull, hr_ifnonnull, hr_goto, hr_getfield, hr_putfield, hr_ireturn, hr_invokevirtual, hz_i1, hz_i2, hz_l1, hz_l2, hz_r1, hz_r2, hz_ia, hz_via, hz_vr, hz_ld0, hz_ld1, hz_ld2, hz_s0, hz_s1, hz_s2, hz_g0, hz_g1, hz_d0, hz_d1, hz_d3, hz_d2, hz_t0, hz_t1, hz_t3, hz_t2, hz_c0, hz_c1, hz_rti, hz_rtl, hz_rta, hz_rtv, hz_br, hz_fh0, hz_fh1, hz_fh2, hz_fh3, hz_ft0, hz_ft1, hz_ft2, hz_ft3, hz_sF0, hz_sF1, hz_sF2, hz_lg0, hz_lg1, hz_lg2, hz_f0, hz_f1, hz_f2, hz_f3, hz_k0, hz_k1, hz_rm, hz_ok0, hz_ok1, hz_ok2, hz_ok3, hz_ok4, hz_l0, hz_l1c, hz_ar0, hz_ar1, ht_0_0, hn_0_0, ht_0_1, hn_0_1, ht_0_2, hn_0_2, ht_0_3, hn_0_3, hnf_0, ht_1_0, hn_1_0, ht_1_1, hn_1_1, ht_1_2, hn_1_2, ht_1_3, hn_1_3, ht_1_4, hn_1_4, ht_1_5, hn_1_5, ht_1_6, hn_1_6, ht_1_7, hn_1_7, ht_1_8, hn_1_8, ht_1_9, hn_1_9, ht_1_10, hn_1_10, ht_1_11, hn_1_11, ht_1_12, hn_1_12, ht_1_13, hn_1_13, hnf_1, ht_2_0, hn_2_0, ht_2_1, hn_2_1, ht_2_2, hn_2_2, hnf_2, ht_3_0, hn_3_0, ht_3_1, hn_3_1, ht_3_2, hn_3_2, ht_3_3, hn_3_3, ht_3_4, hn_3_4, ht_3_5, hn_3_5, ht_3_6, hn_3_6, ht_3_7, hn_3_7, ht_3_8, hn_3_8, ht_3_9, hn_3_9, ht_3_10, hn_3_10, hnf_3, ht_4_0, hn_4_0, ht_4_1, hn_4_1, ht_4_2, hn_4_2, ht_4_3, hn_4_3, ht_4_4, hn_4_4, ht_4_5, hn_4_5, ht_4_6, hn_4_6, ht_4_7, hn_4_7, ht_4_8, hn_4_8, ht_4_9, hn_4_9, ht_4_10, hn_4_10, ht_4_11, hn_4_11, ht_4_12, hn_4_12, ht_4_13, hn_4_13, ht_4_14, hn_4_14, ht_4_15, hn_4_15, ht_4_16, hn_4_16, ht_4_17, hn_4_17, ht_4_18, hn_4_18, ht_4_19, hn_4_19, hnf_4, hc_im1, hc_i0, hc_i1, hc_i2, hc_i3, hc_i4, hc_i5, hc_bm2, hc_b6, hc_b7, hc_b15, hc_b64, hc_s500, hc_s1000, hc_s2000, hw_10, hw_01, hp_F_3_113, hp_F_3_126, hp_F_3_133, hp_F_3_147, hp_F_3_172, hp_F_3_201, hp_F_3_209, hp_F_3_26, hp_F_3_29, hp_F_3_43, hp_F_3_66, hp_F_3_76, dX3_takeTurn_0, dX3_takeTurn_1, dX3_takeTurn_4, dX3_takeTurn_5, dX3_takeTurn_6, dX3_takeTurn_9, dX3_takeTurn_12, dX3_takeTurn_13, dX3_takeTurn_14, dX3_takeTurn_17, dX3_takeTurn_18, dX3_takeTurn_19, dX3_takeTurn_20, dX3_takeTurn_21, dX3_takeTurn_24, dX3_takeTurn_25, dX3_takeTurn_26, dX3_takeTurn_29, dX3_takeTurn_30, dX3_takeTurn_31, dX3_takeTurn_34, dX3_takeTurn_35, dX3_takeTurn_36, dX3_takeTurn_39, dX3_takeTurn_40, dX3_takeTurn_41, dX3_takeTurn_44, dX3_takeTurn_47, dX3_takeTurn_48, dX3_takeTurn_49, dX3_takeTurn_52, dX3_takeTurn_55, dX3_takeTurn_56, dX3_takeTurn_57, dX3_takeTurn_60, dX3_takeTurn_63, dX3_takeTurn_64, dX3_takeTurn_65, dX3_takeTurn_66, dX3_takeTurn_69, dX3_takeTurn_70, dX3_takeTurn_71, dX3_takeTurn_74, dX3_takeTurn_77, dX3_takeTurn_78, dX3_takeTurn_81, dX3_takeTurn_82, dX3_takeTurn_85, dX3_takeTurn_86, dX3_takeTurn_87, dX3_takeTurn_90, dX3_takeTurn_93, dX3_takeTurn_94, dX3_takeTurn_95, dX3_takeTurn_98, dX3_takeTurn_99, dX3_takeTurn_102, dX3_takeTurn_103, dX3_takeTurn_104, dX3_takeTurn_107, dX3_takeTurn_108, rm_ttc, rm_tts, rm_vc, rm_vs, Option.toList_none, hw_20, hw_30, hw_40, hx_0, hx_1, hx_2, hx_3, hx_4, hy_00, hy_10]
      have hus3 : upl X3 e us := upl_pa hpa3 us e hus
      have hus4 : upl (a_set X3 o) e us := upl_pa (M := X3) (M' := a_set X3 o) (fun _ => rfl) us e hus3
      have hset := ct_settle l G S4 x0 _ (a_set X3 o) 64 e us (rc_x.mp c1) hso.1 (fun c hc => by rw [as_op _ o hc]; exact c3 c hc) he hus4 (vis_64 us _ e hus4)
      refine hp_callV (as := [.inr (.inr (some (dna Z e)))]) (rest := []) C D dX3_takeTurn_104 kV_3_141 hset c1.1.1 (by decide) rfl ⟨⟨by decide, by decide⟩, ⟨by decide, by decide⟩, by decide⟩ (fun v S5 hv => ?_)
      obtain ⟨rfl, d1, d2⟩ := hv
      refine hp_run C [65] 60 _ _ _ _ ?_
      simp only [or_true, or_false, true_or, false_or, or_self, hp_wp0, hp_wpS, eq_self, true_and, and_true, false_and, and_false, if_true, if_false, Bool.false_eq_true, Bool.or_false, Bool.or_true, Bool.true_or, Bool.false_or, ite_true, ite_false, ↓reduceIte, reduceCtorEq, Nat.reduceBEq, Nat.reduceAdd, Nat.reduceEqDiff, Nat.reduceLT, Nat.reduceLeDiff, Int.reduceAdd, Int.reduceToNat, Int.reduceLE, Int.reduceNeg, Int.cast_ofNat_Int, Nat.zero_add, Option.some.injEq, exists_eq_left', exists_eq_left, not_true_eq_false, not_false_eq_true, false_implies, true_implies, forall_const, implies_true, List.cons_append, List.nil_append, Nat.le_refl, Nat.zero_le, hp_K_sI, hp_K_sJ, hp_K_sR, hp_N_sI, hp_N_sJ, hp_N_sR, hp_I_sI, hp_I_sJ, hp_I_sR, hp_J_sI, hp_J_sJ, hp_J_sR, hp_R_sI, hp_R_sJ, hp_R_sR, hr_iconst, hr_aload_n, hr_astore_n, hr_iadd, hr_isub, hr_dup, hr_ifnull, hr_ifnonnull, hr_goto, hr_getfield, hr_putfield, hr_ireturn, hr_invokevirtual, hz_i1, hz_i2, hz_l1, hz_l2, hz_r1, hz_r2, hz_ia, hz_via, hz_vr, hz_ld0, hz_ld1, hz_ld2, hz_s0, hz_s1, hz_s2, hz_g0, hz_g1, hz_d0, hz_d1, hz_d3, hz_d2, hz_t0, hz_t1, hz_t3, hz_t2, hz_c0, hz_c1, hz_rti, hz_rtl, hz_rta, hz_rtv, hz_br, hz_fh0, hz_fh1, hz_fh2, hz_fh3, hz_ft0, hz_ft1, hz_ft2, hz_ft3, hz_sF0, hz_sF1, hz_sF2, hz_lg0, hz_lg1, hz_lg2, hz_f0, hz_f1, hz_f2, hz_f3, hz_k0, hz_k1, hz_rm, hz_ok0, hz_ok1, hz_ok2, hz_ok3, hz_ok4, hz_l0, hz_l1c, hz_ar0, hz_ar1, ht_0_0, hn_0_0, ht_0_1, hn_0_1, ht_0_2, hn_0_2, ht_0_3, hn_0_3, hnf_0, ht_1_0, hn_1_0, ht_1_1, hn_1_1, ht_1_2, hn_1_2, ht_1_3, hn_1_3, ht_1_4, hn_1_4, ht_1_5, hn_1_5, ht_1_6, hn_1_6, ht_1_7, hn_1_7, ht_1_8, hn_1_8, ht_1_9, hn_1_9, ht_1_10, hn_1_10, ht_1_11, hn_1_11, ht_1_12, hn_1_12, ht_1_13, hn_1_13, hnf_1, ht_2_0, hn_2_0, ht_2_1, hn_2_1, ht_2_2, hn_2_2, hnf_2, ht_3_0, hn_3_0, ht_3_1, hn_3_1, ht_3_2, hn_3_2, ht_3_3, hn_3_3, ht_3_4, hn_3_4, ht_3_5, hn_3_5, ht_3_6, hn_3_6, ht_3_7, hn_3_7, ht_3_8, hn_3_8, ht_3_9, hn_3_9, ht_3_10, hn_3_10, hnf_3, ht_4_0, hn_4_0, ht_4_1, hn_4_1, ht_4_2, hn_4_2, ht_4_3, hn_4_3, ht_4_4, hn_4_4, ht_4_5, hn_4_5, ht_4_6, hn_4_6, ht_4_7, hn_4_7, ht_4_8, hn_4_8, ht_4_9, hn_4_9, ht_4_10, hn_4_10, ht_4_11, hn_4_11, ht_4_12, hn_4_12, ht_4_13, hn_4_13, ht_4_14, hn_4_14, ht_4_15, hn_4_15, ht_4_16, hn_4_16, ht_4_17, hn_4_17, ht_4_18, hn_4_18, ht_4_19, hn_4_19, hnf_4, hc_im1, hc_i0, hc_i1, hc_i2, hc_i3, hc_i4, hc_i5, hc_bm2, hc_b6, hc_b7, hc_b15, hc_b64, hc_s500, hc_s1000, hc_s2000, hw_10, hw_01, hp_F_3_113, hp_F_3_126, hp_F_3_133, hp_F_3_147, hp_F_3_172, hp_F_3_201, hp_F_3_209, hp_F_3_26, hp_F_3_29, hp_F_3_43, hp_F_3_66, hp_F_3_76, dX3_takeTurn_0, dX3_takeTurn_1, dX3_takeTurn_4, dX3_takeTurn_5, dX3_takeTurn_6, dX3_takeTurn_9, dX3_takeTurn_12, dX3_takeTurn_13, dX3_takeTurn_14, dX3_takeTurn_17, dX3_takeTurn_18, dX3_takeTurn_19, dX3_takeTurn_20, dX3_takeTurn_21, dX3_takeTurn_24, dX3_takeTurn_25, dX3_takeTurn_26, dX3_takeTurn_29, dX3_takeTurn_30, dX3_takeTurn_31, dX3_takeTurn_34, dX3_takeTurn_35, dX3_takeTurn_36, dX3_takeTurn_39, dX3_takeTurn_40, dX3_takeTurn_41, dX3_takeTurn_44, dX3_takeTurn_47, dX3_takeTurn_48, dX3_takeTurn_49, dX3_takeTurn_52, dX3_takeTurn_55, dX3_takeTurn_56, dX3_takeTurn_57, dX3_takeTurn_60, dX3_takeTurn_63, dX3_takeTurn_64, dX3_takeTurn_65, dX3_takeTurn_66, dX3_takeTurn_69, dX3_takeTurn_70, dX3_takeTurn_71, dX3_takeTurn_74, dX3_takeTurn_77, dX3_takeTurn_78, dX3_takeTurn_81, dX3_takeTurn_82, dX3_takeTurn_85, dX3_takeTurn_86, dX3_takeTurn_87, dX3_takeTurn_90, dX3_takeTurn_93, dX3_takeTurn_94, dX3_takeTurn_95, dX3_takeTurn_98, dX3_takeTurn_99, dX3_takeTurn_102, dX3_takeTurn_103, dX3_takeTurn_104, dX3_takeTurn_107, dX3_takeTurn_108, rm_ttc, rm_tts, rm_vc, rm_vs, rm_sc, rm_ss, Option.toList_none, hw_20, hw_30, hw_40, hx_0, hx_1, hx_2, hx_3, hx_4, hy_00, hy_10]
      obtain ⟨o2, q1, q2, -⟩ := sgo_close hso.1 us e o hus3 c3 c5 (fun c hc hne q => c4 c hc hne q) (fun _ _ => by rw [hop3]; exact hoe) (fun w hw _ hpw _ _ => by
        rw [hop3]
        rw [hpa3] at hpw ⊢
        exact hvs _ (upl_par us e hus w hw hpw))
      rw [q1] at d1
      exact ⟨1, _, _, rfl, hsp _ ⟨o2, q2, rfl⟩, rc_x.mpr d1, ((a3.trans b2).trans c2).trans d2⟩
    have hX3 : ∃ X3, X3 = trd M (k :: ks) e us p0 id len := ⟨_, rfl⟩
    obtain ⟨X3, hX3⟩ := hX3
    have g1 : sok X3 := by rw [hX3]; exact sok_trd hr.1
    have g2 : ∀ c, pa X3 c = pa M c := fun c => by rw [hX3]; exact trd_pa c
    have g3 : ∀ c, op X3 c = op M c := fun c => by rw [hX3]; exact trd_op c
    have g4 : ∀ c, c < 64 → hd X3 c = hd M c - 1 := fun c hc => by rw [hX3]; exact trd_hd hc
    have g5 : ∀ c, ¬ c = e → own X3 c = own M c := fun c hc => by
      unfold own
      rw [hX3, trd_pks]
      have := ho2 c
      rw [if_neg hc] at this
      exact this
    have g6 : ∀ z ∈ pks X3, z ∈ pks M := fun z hz => List.mem_of_mem_eraseIdx (by rw [hX3, trd_pks] at hz; exact hz)
    have g7 : trn X3 = trn M + 1 := by rw [hX3]; rfl
    have g8 : ∀ M', stl X3 M' → sp_turn M 1 M' := fun M' hst => Or.inr ⟨rfl, k, ks, e, us, p0, id, len, hd1, hus, hfs, by rw [← hX3]; exact hst⟩
    have loop : ∀ (vs : List Nat) (c : Nat) (M2 : ab_T) (T3 : hp_T) (L : hp_LL), (∀ q ∈ [(0, (.inr (.inr (some x0)) : hp_hv)), (1, .inr (.inr (some (dna Z e)))), (2, .inr (.inr (some p))), (3, .inr (.inr (if c < 64 then some (dna Z c) else none)))], q ∈ L) → upl M2 c vs → RepN T3 x0 (zpk Z (fun c => if c = e then ps else dpk Z c) (dsp Z) (fun a => if a = p then 65 else dow Z a)) M2 (noc M2) → wok M2 → wt M2 0 = 0 → hp_K T3 p = 3 → hp_I T3 p 1 = nI len → frC S T3 → chgs M2 len vs = X3 → hp_V X 4 65 L [] T3 0 0 := by
      intro vs
      induction vs with
      | nil =>
        intro c M2 T3 L hL hu a1 a2 a3 a4 a5 a6 a7
        refine hp_sub hL ?_
        have hu : c = 64 := hu
        have e9 : (if c < 64 then some (dna Z c) else none) = none := if_neg (by omega)
        rw [e9]
        refine hp_run1 C [65, 85] 60 dX3_takeTurn_65 ?_
        simp only [or_true, or_false, true_or, false_or, or_self, hp_wp0, hp_wpS, eq_self, true_and, and_true, false_and, and_false, if_true, if_false, Bool.false_eq_true, Bool.or_false, Bool.or_true, Bool.true_or, Bool.false_or, ite_true, ite_false, ↓reduceIte, reduceCtorEq, Nat.reduceBEq, Nat.reduceAdd, Nat.reduceEqDiff, Nat.reduceLT, Nat.reduceLeDiff, Int.reduceAdd, Int.reduceToNat, Int.reduceLE, Int.reduceNeg, Int.cast_ofNat_Int, Nat.zero_add, Option.some.injEq, exists_eq_left', exists_eq_left, not_true_eq_false, not_false_eq_true, false_implies, true_implies, forall_const, implies_true, List.cons_append, List.nil_append, Nat.le_refl, Nat.zero_le, hp_K_sI, hp_K_sJ, hp_K_sR, hp_N_sI, hp_N_sJ, hp_N_sR, hp_I_sI, hp_I_sJ, hp_I_sR, hp_J_sI, hp_J_sJ, hp_J_sR, hp_R_sI, hp_R_sJ, hp_R_sR, hr_iconst, hr_aload_n, hr_astore_n, hr_iadd, hr_isub, hr_dup, hr_ifnull, hr_ifnonnull, hr_goto, hr_getfield, hr_putfield, hr_ireturn, hr_invokevirtual, hz_i1, hz_i2, hz_l1, hz_l2, hz_r1, hz_r2, hz_ia, hz_via, hz_vr, hz_ld0, hz_ld1, hz_ld2, hz_s0, hz_s1, hz_s2, hz_g0, hz_g1, hz_d0, hz_d1, hz_d3, hz_d2, hz_t0, hz_t1, hz_t3, hz_t2, hz_c0, hz_c1, hz_rti, hz_rtl, hz_rta, hz_rtv, hz_br, hz_fh0, hz_fh1, hz_fh2, hz_fh3, hz_ft0, hz_ft1, hz_ft2, hz_ft3, hz_sF0, hz_sF1, hz_sF2, hz_lg0, hz_lg1, hz_lg2, hz_f0, hz_f1, hz_f2, hz_f3, hz_k0, hz_k1, hz_rm, hz_ok0, hz_ok1, hz_ok2, hz_ok3, hz_ok4, hz_l0, hz_l1c, hz_ar0, hz_ar1, ht_0_0, hn_0_0, ht_0_1, hn_0_1, ht_0_2, hn_0_2, ht_0_3, hn_0_3, hnf_0, ht_1_0, hn_1_0, ht_1_1, hn_1_1, ht_1_2, hn_1_2, ht_1_3, hn_1_3, ht_1_4, hn_1_4, ht_1_5, hn_1_5, ht_1_6, hn_1_6, ht_1_7, hn_1_7, ht_1_8, hn_1_8, ht_1_9, hn_1_9, ht_1_10, hn_1_10, ht_1_11, hn_1_11, ht_1_12, hn_1_12, ht_1_13, hn_1_13, hnf_1, ht_2_0, hn_2_0, ht_2_1, hn_2_1, ht_2_2, hn_2_2, hnf_2, ht_3_0, hn_3_0, ht_3_1, hn_3_1, ht_3_2, hn_3_2, ht_3_3, hn_3_3, ht_3_4, hn_3_4, ht_3_5, hn_3_5, ht_3_6, hn_3_6, ht_3_7, hn_3_7, ht_3_8, hn_3_8, ht_3_9, hn_3_9, ht_3_10, hn_3_10, hnf_3, ht_4_0, hn_4_0, ht_4_1, hn_4_1, ht_4_2, hn_4_2, ht_4_3, hn_4_3, ht_4_4, hn_4_4, ht_4_5, hn_4_5, ht_4_6, hn_4_6, ht_4_7, hn_4_7, ht_4_8, hn_4_8, ht_4_9, hn_4_9, ht_4_10, hn_4_10, ht_4_11, hn_4_11, ht_4_12, hn_4_12, ht_4_13, hn_4_13, ht_4_14, hn_4_14, ht_4_15, hn_4_15, ht_4_16, hn_4_16, ht_4_17, hn_4_17, ht_4_18, hn_4_18, ht_4_19, hn_4_19, hnf_4, hc_im1, hc_i0, hc_i1, hc_i2, hc_i3, hc_i4, hc_i5, hc_bm2, hc_b6, hc_b7, hc_b15, hc_b64, hc_s500, hc_s1000, hc_s2000, hw_10, hw_01, hp_F_3_113, hp_F_3_126, hp_F_3_133, hp_F_3_147, hp_F_3_172, hp_F_3_201, hp_F_3_209, hp_F_3_26, hp_F_3_29, hp_F_3_43, hp_F_3_66, hp_F_3_76, dX3_takeTurn_0, dX3_takeTurn_1, dX3_takeTurn_4, dX3_takeTurn_5, dX3_takeTurn_6, dX3_takeTurn_9, dX3_takeTurn_12, dX3_takeTurn_13, dX3_takeTurn_14, dX3_takeTurn_17, dX3_takeTurn_18, dX3_takeTurn_19, dX3_takeTurn_20, dX3_takeTurn_21, dX3_takeTurn_24, dX3_takeTurn_25, dX3_takeTurn_26, dX3_takeTurn_29, dX3_takeTurn_30, dX3_takeTurn_31, dX3_takeTurn_34, dX3_takeTurn_35, dX3_takeTurn_36, dX3_takeTurn_39, dX3_takeTurn_40, dX3_takeTurn_41, dX3_takeTurn_44, dX3_takeTurn_47, dX3_takeTurn_48, dX3_takeTurn_49, dX3_takeTurn_52, dX3_takeTurn_55, dX3_takeTurn_56, dX3_takeTurn_57, dX3_takeTurn_60, dX3_takeTurn_63, dX3_takeTurn_64, dX3_takeTurn_65, dX3_takeTurn_66, dX3_takeTurn_69, dX3_takeTurn_70, dX3_takeTurn_71, dX3_takeTurn_74, dX3_takeTurn_77, dX3_takeTurn_78, dX3_takeTurn_81, dX3_takeTurn_82, dX3_takeTurn_85, dX3_takeTurn_86, dX3_takeTurn_87, dX3_takeTurn_90, dX3_takeTurn_93, dX3_takeTurn_94, dX3_takeTurn_95, dX3_takeTurn_98, dX3_takeTurn_99, dX3_takeTurn_102, dX3_takeTurn_103, dX3_takeTurn_104, dX3_takeTurn_107, dX3_takeTurn_108, rm_ttc, rm_tts, hw_20, hw_30, hw_40, hx_0, hx_1, hx_2, hx_3, hx_4, hy_00, hy_10]
        have a7 : M2 = X3 := a7
        rw [a7] at a1
        exact fin X3 g1 g2 g3 g4 g5 g6 g7 g8 T3 _ (by simp) a1 a4 a6
      | cons u vs ih =>
        intro c M2 T3 L hL hu a1 a2 a3 a4 a5 a6 a7
        refine hp_sub hL ?_
        have hin := upl_in (u :: vs) c hu u List.mem_cons_self
        obtain ⟨rfl, hc, hu2⟩ := hu
        have e9 : (if c < 64 then some (dna Z c) else none) = some (dna Z c) := if_pos hc
        rw [e9]
        obtain ⟨b1, b2⟩ := rn_charge a1 a2 a3 hc hin.2 hlen
        have hcn2 := (a1.2.1 c hc hin.2).1
        have kc : hp_K T3 (dna Z c) = 2 := hcn2.1
        have r4 : hp_R T3 (dna Z c) 4 = if pa M2 c < 64 then some (dna Z (pa M2 c)) else none := hcn2.2.2.2.2.2.1
        have hpc2 : ¬ p = dna Z c := fun z => by rw [z, kc] at a4; omega
        refine hp_run1 C [65, 85] 60 dX3_takeTurn_65 ?_
        simp only [or_true, or_false, true_or, false_or, or_self, hp_wp0, hp_wpS, eq_self, true_and, and_true, false_and, and_false, if_true, if_false, Bool.false_eq_true, Bool.or_false, Bool.or_true, Bool.true_or, Bool.false_or, ite_true, ite_false, ↓reduceIte, reduceCtorEq, Nat.reduceBEq, Nat.reduceAdd, Nat.reduceEqDiff, Nat.reduceLT, Nat.reduceLeDiff, Int.reduceAdd, Int.reduceToNat, Int.reduceLE, Int.reduceNeg, Int.cast_ofNat_Int, Nat.zero_add, Option.some.injEq, exists_eq_left', exists_eq_left, not_true_eq_false, not_false_eq_true, false_implies, true_implies, forall_const, implies_true, List.cons_append, List.nil_append, Nat.le_refl, Nat.zero_le, hp_K_sI, hp_K_sJ, hp_K_sR, hp_N_sI, hp_N_sJ, hp_N_sR, hp_I_sI, hp_I_sJ, hp_I_sR, hp_J_sI, hp_J_sJ, hp_J_sR, hp_R_sI, hp_R_sJ, hp_R_sR, hr_iconst, hr_aload_n, hr_astore_n, hr_iadd, hr_isub, hr_dup, hr_ifnull, hr_ifnonnull, hr_goto, hr_getfield, hr_putfield, hr_ireturn, hr_invokevirtual, hz_i1, hz_i2, hz_l1, hz_l2, hz_r1, hz_r2, hz_ia, hz_via, hz_vr, hz_ld0, hz_ld1, hz_ld2, hz_s0, hz_s1, hz_s2, hz_g0, hz_g1, hz_d0, hz_d1, hz_d3, hz_d2, hz_t0, hz_t1, hz_t3, hz_t2, hz_c0, hz_c1, hz_rti, hz_rtl, hz_rta, hz_rtv, hz_br, hz_fh0, hz_fh1, hz_fh2, hz_fh3, hz_ft0, hz_ft1, hz_ft2, hz_ft3, hz_sF0, hz_sF1, hz_sF2, hz_lg0, hz_lg1, hz_lg2, hz_f0, hz_f1, hz_f2, hz_f3, hz_k0, hz_k1, hz_rm, hz_ok0, hz_ok1, hz_ok2, hz_ok3, hz_ok4, hz_l0, hz_l1c, hz_ar0, hz_ar1, ht_0_0, hn_0_0, ht_0_1, hn_0_1, ht_0_2, hn_0_2, ht_0_3, hn_0_3, hnf_0, ht_1_0, hn_1_0, ht_1_1, hn_1_1, ht_1_2, hn_1_2, ht_1_3, hn_1_3, ht_1_4, hn_1_4, ht_1_5, hn_1_5, ht_1_6, hn_1_6, ht_1_7, hn_1_7, ht_1_8, hn_1_8, ht_1_9, hn_1_9, ht_1_10, hn_1_10, ht_1_11, hn_1_11, ht_1_12, hn_1_12, ht_1_13, hn_1_13, hnf_1, ht_2_0, hn_2_0, ht_2_1, hn_2_1, ht_2_2, hn_2_2, hnf_2, ht_3_0, hn_3_0, ht_3_1, hn_3_1, ht_3_2, hn_3_2, ht_3_3, hn_3_3, ht_3_4, hn_3_4, ht_3_5, hn_3_5, ht_3_6, hn_3_6, ht_3_7, hn_3_7, ht_3_8, hn_3_8, ht_3_9, hn_3_9, ht_3_10, hn_3_10, hnf_3, ht_4_0, hn_4_0, ht_4_1, hn_4_1, ht_4_2, hn_4_2, ht_4_3, hn_4_3, ht_4_4, hn_4_4, ht_4_5, hn_4_5, ht_4_6, hn_4_6, ht_4_7, hn_4_7, ht_4_8, hn_4_8, ht_4_9, hn_4_9, ht_4_10, hn_4_10, ht_4_11, hn_4_11, ht_4_12, hn_4_12, ht_4_13, hn_4_13, ht_4_14, hn_4_14, ht_4_15, hn_4_15, ht_4_16, hn_4_16, ht_4_17, hn_4_17, ht_4_18, hn_4_18, ht_4_19, hn_4_19, hnf_4, hc_im1, hc_i0, hc_i1, hc_i2, hc_i3, hc_i4, hc_i5, hc_bm2, hc_b6, hc_b7, hc_b15, hc_b64, hc_s500, hc_s1000, hc_s2000, hw_10, hw_01, hp_F_3_113, hp_F_3_126, hp_F_3_133, hp_F_3_147, hp_F_3_172, hp_F_3_201, hp_F_3_209, hp_F_3_26, hp_F_3_29, hp_F_3_43, hp_F_3_66, hp_F_3_76, dX3_takeTurn_0, dX3_takeTurn_1, dX3_takeTurn_4, dX3_takeTurn_5, dX3_takeTurn_6, dX3_takeTurn_9, dX3_takeTurn_12, dX3_takeTurn_13, dX3_takeTurn_14, dX3_takeTurn_17, dX3_takeTurn_18, dX3_takeTurn_19, dX3_takeTurn_20, dX3_takeTurn_21, dX3_takeTurn_24, dX3_takeTurn_25, dX3_takeTurn_26, dX3_takeTurn_29, dX3_takeTurn_30, dX3_takeTurn_31, dX3_takeTurn_34, dX3_takeTurn_35, dX3_takeTurn_36, dX3_takeTurn_39, dX3_takeTurn_40, dX3_takeTurn_41, dX3_takeTurn_44, dX3_takeTurn_47, dX3_takeTurn_48, dX3_takeTurn_49, dX3_takeTurn_52, dX3_takeTurn_55, dX3_takeTurn_56, dX3_takeTurn_57, dX3_takeTurn_60, dX3_takeTurn_63, dX3_takeTurn_64, dX3_takeTurn_65, dX3_takeTurn_66, dX3_takeTurn_69, dX3_takeTurn_70, dX3_takeTurn_71, dX3_takeTurn_74, dX3_takeTurn_77, dX3_takeTurn_78, dX3_takeTurn_81, dX3_takeTurn_82, dX3_takeTurn_85, dX3_takeTurn_86, dX3_takeTurn_87, dX3_takeTurn_90, dX3_takeTurn_93, dX3_takeTurn_94, dX3_takeTurn_95, dX3_takeTurn_98, dX3_takeTurn_99, dX3_takeTurn_102, dX3_takeTurn_103, dX3_takeTurn_104, dX3_takeTurn_107, dX3_takeTurn_108, a4, a5, rm_ttc, rm_tts, hw_20, hw_30, hw_40, hx_0, hx_1, hx_2, hx_3, hx_4, hy_00, hy_10]
        refine hp_callV (as := [.inl (nI len)]) (rest := []) C D dX3_takeTurn_74 kV_3_219 (mt_charge l G T3 (dna Z c) (nI len) kc) kc (by decide) rfl ⟨⟨by decide, by decide⟩, ⟨by decide, by decide⟩, by decide⟩ (fun v S4 hv => ?_)
        obtain ⟨rfl, rfl⟩ := hv
        have kc4 : hp_K (f_charge T3 (dna Z c) (nI len)) (dna Z c) = 2 := by rw [f_charge_K]; exact kc
        have r44 : hp_R (f_charge T3 (dna Z c) (nI len)) (dna Z c) 4 = if pa M2 c < 64 then some (dna Z (pa M2 c)) else none := by rw [f_charge_R]; exact r4
        refine hp_run C [65, 85] 60 _ _ _ _ ?_
        simp only [or_true, or_false, true_or, false_or, or_self, hp_wp0, hp_wpS, eq_self, true_and, and_true, false_and, and_false, if_true, if_false, Bool.false_eq_true, Bool.or_false, Bool.or_true, Bool.true_or, Bool.false_or, ite_true, ite_false, ↓reduceIte, reduceCtorEq, Nat.reduceBEq, Nat.reduceAdd, Nat.reduceEqDiff, Nat.reduceLT, Nat.reduceLeDiff, Int.reduceAdd, Int.reduceToNat, Int.reduceLE, Int.reduceNeg, Int.cast_ofNat_Int, Nat.zero_add, Option.some.injEq, exists_eq_left', exists_eq_left, not_true_eq_false, not_false_eq_true, false_implies, true_implies, forall_const, implies_true, List.cons_append, List.nil_append, Nat.le_refl, Nat.zero_le, hp_K_sI, hp_K_sJ, hp_K_sR, hp_N_sI, hp_N_sJ, hp_N_sR, hp_I_sI, hp_I_sJ, hp_I_sR, hp_J_sI, hp_J_sJ, hp_J_sR, hp_R_sI, hp_R_sJ, hp_R_sR, hr_iconst, hr_aload_n, hr_astore_n, hr_iadd, hr_isub, hr_dup, hr_ifnull, hr_ifnonnull, hr_goto, hr_getfield, hr_putfield, hr_ireturn, hr_invokevirtual, hz_i1, hz_i2, hz_l1, hz_l2, hz_r1, hz_r2, hz_ia, hz_via, hz_vr, hz_ld0, hz_ld1, hz_ld2, hz_s0, hz_s1, hz_s2, hz_g0, hz_g1, hz_d0, hz_d1, hz_d3, hz_d2, hz_t0, hz_t1, hz_t3, hz_t2, hz_c0, hz_c1, hz_rti, hz_rtl, hz_rta, hz_rtv, hz_br, hz_fh0, hz_fh1, hz_fh2, hz_fh3, hz_ft0, hz_ft1, hz_ft2, hz_ft3, hz_sF0, hz_sF1, hz_sF2, hz_lg0, hz_lg1, hz_lg2, hz_f0, hz_f1, hz_f2, hz_f3, hz_k0, hz_k1, hz_rm, hz_ok0, hz_ok1, hz_ok2, hz_ok3, hz_ok4, hz_l0, hz_l1c, hz_ar0, hz_ar1, ht_0_0, hn_0_0, ht_0_1, hn_0_1, ht_0_2, hn_0_2, ht_0_3, hn_0_3, hnf_0, ht_1_0, hn_1_0, ht_1_1, hn_1_1, ht_1_2, hn_1_2, ht_1_3, hn_1_3, ht_1_4, hn_1_4, ht_1_5, hn_1_5, ht_1_6, hn_1_6, ht_1_7, hn_1_7, ht_1_8, hn_1_8, ht_1_9, hn_1_9, ht_1_10, hn_1_10, ht_1_11, hn_1_11, ht_1_12, hn_1_12, ht_1_13, hn_1_13, hnf_1, ht_2_0, hn_2_0, ht_2_1, hn_2_1, ht_2_2, hn_2_2, hnf_2, ht_3_0, hn_3_0, ht_3_1, hn_3_1, ht_3_2, hn_3_2, ht_3_3, hn_3_3, ht_3_4, hn_3_4, ht_3_5, hn_3_5, ht_3_6, hn_3_6, ht_3_7, hn_3_7, ht_3_8, hn_3_8, ht_3_9, hn_3_9, ht_3_10, hn_3_10, hnf_3, ht_4_0, hn_4_0, ht_4_1, hn_4_1, ht_4_2, hn_4_2, ht_4_3, hn_4_3, ht_4_4, hn_4_4, ht_4_5, hn_4_5, ht_4_6, hn_4_6, ht_4_7, hn_4_7, ht_4_8, hn_4_8, ht_4_9, hn_4_9, ht_4_10, hn_4_10, ht_4_11, hn_4_11, ht_4_12, hn_4_12, ht_4_13, hn_4_13, ht_4_14, hn_4_14, ht_4_15, hn_4_15, ht_4_16, hn_4_16, ht_4_17, hn_4_17, ht_4_18, hn_4_18, ht_4_19, hn_4_19, hnf_4, hc_im1, hc_i0, hc_i1, hc_i2, hc_i3, hc_i4, hc_i5, hc_bm2, hc_b6, hc_b7, hc_b15, hc_b64, hc_s500, hc_s1000, hc_s2000, hw_10, hw_01, hp_F_3_113, hp_F_3_126, hp_F_3_133, hp_F_3_147, hp_F_3_172, hp_F_3_201, hp_F_3_209, hp_F_3_26, hp_F_3_29, hp_F_3_43, hp_F_3_66, hp_F_3_76, dX3_takeTurn_0, dX3_takeTurn_1, dX3_takeTurn_4, dX3_takeTurn_5, dX3_takeTurn_6, dX3_takeTurn_9, dX3_takeTurn_12, dX3_takeTurn_13, dX3_takeTurn_14, dX3_takeTurn_17, dX3_takeTurn_18, dX3_takeTurn_19, dX3_takeTurn_20, dX3_takeTurn_21, dX3_takeTurn_24, dX3_takeTurn_25, dX3_takeTurn_26, dX3_takeTurn_29, dX3_takeTurn_30, dX3_takeTurn_31, dX3_takeTurn_34, dX3_takeTurn_35, dX3_takeTurn_36, dX3_takeTurn_39, dX3_takeTurn_40, dX3_takeTurn_41, dX3_takeTurn_44, dX3_takeTurn_47, dX3_takeTurn_48, dX3_takeTurn_49, dX3_takeTurn_52, dX3_takeTurn_55, dX3_takeTurn_56, dX3_takeTurn_57, dX3_takeTurn_60, dX3_takeTurn_63, dX3_takeTurn_64, dX3_takeTurn_65, dX3_takeTurn_66, dX3_takeTurn_69, dX3_takeTurn_70, dX3_takeTurn_71, dX3_takeTurn_74, dX3_takeTurn_77, dX3_takeTurn_78, dX3_takeTurn_81, dX3_takeTurn_82, dX3_takeTurn_85, dX3_takeTurn_86, dX3_takeTurn_87, dX3_takeTurn_90, dX3_takeTurn_93, dX3_takeTurn_94, dX3_takeTurn_95, dX3_takeTurn_98, dX3_takeTurn_99, dX3_takeTurn_102, dX3_takeTurn_103, dX3_takeTurn_104, dX3_takeTurn_107, dX3_takeTurn_108, kc4, r44, rm_ttc, rm_tts, rm_0c, rm_0s, Option.toList_none, hw_20, hw_30, hw_40, hx_0, hx_1, hx_2, hx_3, hx_4, hy_00, hy_10]
        have enoc : noc (chg M2 len c) = noc M2 := by
          funext z
          unfold noc
          simp only [chg_pa, chg_op]
        refine ih (pa M2 c) (chg M2 len c) _ _ (by simp) (upl_pa (chg_pa M2 len c) vs _ hu2) ?_ (wok_chg a2 hc hin.2) (by rw [chg_wt]; exact a3) (by rw [f_charge_K]; exact a4) (by rw [f_charge_I hpc2]; exact a5) (a6.trans b2) a7
        rw [enoc]
        exact b1
    have e10 : (some (dna Z e) : Option Nat) = if e < 64 then some (dna Z e) else none := (if_pos he).symm
    have ewok : wok (hdN (mT (mP (mL (tim M 0 (k :: ks)) (nI e) id (nI len)) ((pks M).eraseIdx p0)) (trn M + 1)) 64) := by
      have := hr.2.2.1
      unfold wok rs wt pa at this ⊢
      show (∀ c, c < 64 → (tim M 0 (k :: ks)).1 3 c < 1000) ∧ ∀ c, c < 64 → 0 < c → ¬ (tim M 0 (k :: ks)).1 0 c = 65 → 1 ≤ (tim M 0 (k :: ks)).1 1 c ∧ (tim M 0 (k :: ks)).1 1 c ≤ 1000
      rw [hsam.1]
      exact this
    refine loop us e _ _ _ (by rw [← e10]; simp) (upl_pa (M := M) (fun c => by
      show (tim M 0 (k :: ks)).1 0 c = M.1 0 c
      rw [hsam.1]) us e hus) hL1 ewok (by
      show (tim M 0 (k :: ks)).1 1 0 = 0
      rw [hsam.1]
      exact hci.2.2.2) (by simp only [hp_K_sI]; exact kp2) (by
      simp only [hp_I_sI, hpx, false_and, if_false]
      exact xp1) (hfT.trans hL3) ?_
    rw [chgs_hdN, hX3]
    rfl
end M54
