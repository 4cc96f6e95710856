/-! THE REFERENCE: remove, move -/
section M26
theorem nch_0 {M : ab_T} {j : Nat} (h0 : pa M 0 = 64) (hj : j < 64) : nch M j = 0 ↔ ∀ k, k < 64 → ¬ pa M k = j := by
  unfold nch
  rw [List.countP_eq_zero]
  constructor
  · intro h k hk e
    by_cases h1 : k = 0
    · rw [h1, h0] at e; omega
    · exact h k (List.mem_range.mpr hk) (by simp [e]; omega)
  · intro h k hk
    have := h k (List.mem_range.mp hk)
    simp [this]
theorem own_nil {M : ab_T} {j : Nat} : own M j = [] ↔ ∀ p ∈ pks M, ¬ p.1 = j := by
  unfold own
  rw [List.filter_eq_nil_iff]
  simp
theorem upl_ex {M : ab_T} (hw : wfS M) : ∀ c, c < 64 → ¬ pa M c = 65 → ∃ us, upl M c us ∧ ∀ u ∈ us, u < 64 ∧ ¬ pa M u = 65 := by
  obtain ⟨⟨w1, w2⟩, w3, ⟨rk, w4⟩, -⟩ := hw
  have key : ∀ n c, c < 64 → ¬ pa M c = 65 → rk c ≤ n → ∃ us, upl M c us ∧ ∀ u ∈ us, u < 64 ∧ ¬ pa M u = 65 := by
    intro n
    induction n with
    | zero =>
      intro c hc h1 h2
      have h3 : pa M c = 64 := by
        by_cases h0 : c = 0
        · rw [h0]; exact w1
        · rcases w2 c hc (by omega) with h | h
          · have := w4 c hc h
            omega
          · exact absurd h h1
      exact ⟨[c], ⟨rfl, hc, h3⟩, fun u hu => by rw [List.mem_singleton.mp hu]; exact ⟨hc, h1⟩⟩
    | succ n ih =>
      intro c hc h1 h2
      by_cases h0 : c = 0
      · exact ⟨[c], ⟨rfl, hc, by rw [h0]; exact w1⟩, fun u hu => by rw [List.mem_singleton.mp hu]; exact ⟨hc, h1⟩⟩
      · rcases w2 c hc (by omega) with h | h
        · obtain ⟨us, g1, g2⟩ := ih (pa M c) h (w3 c hc h) (by have := w4 c hc h; omega)
          refine ⟨c :: us, ⟨rfl, hc, g1⟩, fun u hu => ?_⟩
          rcases List.mem_cons.mp hu with rfl | hu
          · exact ⟨hc, h1⟩
          · exact g2 u hu
        · exact absurd h h1
  exact fun c hc h => key _ c hc h (Nat.le_refl _)
theorem upl_un {M : ab_T} : ∀ (us vs : List Nat) (c : Nat), upl M c us → upl M c vs → us = vs := by
  intro us
  induction us with
  | nil =>
    intro vs c h1 h2
    cases vs with
    | nil => rfl
    | cons v vs =>
      have h1 : c = 64 := h1
      have h3 : c = v := h2.1
      have h4 : v < 64 := h2.2.1
      omega
  | cons u us ih =>
    intro vs c h1 h2
    cases vs with
    | nil =>
      have h2 : c = 64 := h2
      have h3 : c = u := h1.1
      have h4 : u < 64 := h1.2.1
      omega
    | cons v vs =>
      have h3 : u = v := h1.1.symm.trans h2.1
      subst h3
      rw [ih vs _ h1.2.2 h2.2.2]
/-- c is b or under it -/
def und (M : ab_T) (c b : Nat) : Prop := ∃ us, upl M c us ∧ b ∈ us
theorem und_self {M : ab_T} (hw : wfS M) {c : Nat} (hc : c < 64) (h : ¬ pa M c = 65) : und M c c := by
  obtain ⟨us, h1, -⟩ := upl_ex hw c hc h
  refine ⟨us, h1, ?_⟩
  cases us with
  | nil => have h1 : c = 64 := h1; omega
  | cons u us => rw [h1.1]; exact List.mem_cons_self
theorem und_pa {M : ab_T} {c b : Nat} (hc : c < 64) (hb : ¬ c = b) : und M c b ↔ und M (pa M c) b := by
  constructor
  · rintro ⟨us, h1, h2⟩
    cases us with
    | nil => cases h2
    | cons u us =>
      obtain ⟨rfl, h3, h4⟩ := h1
      rcases List.mem_cons.mp h2 with e | e
      · exact absurd e.symm hb
      · exact ⟨us, h4, e⟩
  · rintro ⟨us, h1, h2⟩
    exact ⟨c :: us, ⟨rfl, hc, h1⟩, List.mem_cons_of_mem _ h2⟩
/-- remove(c) -/
def sp_remove (M : ab_T) (c : Int32) (k : Nat) (M' : ab_T) : Prop := (k = 1 ∧ thB M c = false ∧ M' = M) ∨ (k = 2 ∧ (∃ j, j < 64 ∧ ¬ pa M j = 65 ∧ c = nI j ∧ ¬ (¬ j = 0 ∧ nch M j = 0 ∧ own M j = [])) ∧ M' = M) ∨ (k = 0 ∧ ∃ j, j < 64 ∧ ¬ pa M j = 65 ∧ c = nI j ∧ ¬ j = 0 ∧ nch M j = 0 ∧ own M j = [] ∧ stl (mn M 0 j 65) M')
theorem n0_at (M : ab_T) (j v k : Nat) : pa (mn M 0 j v) k = if k = j then v else pa M k := by
  show (if (0 = 0 ∧ k = j) then v else M.1 0 k) = _
  simp [pa]
theorem sok_remove {M : ab_T} (h : sok M) {j : Nat} (hj : j < 64) (h0 : ¬ j = 0) (h1 : nch M j = 0) (h2 : own M j = []) : sok (mn M 0 j 65) := by
  obtain ⟨⟨⟨w1, w2⟩, w3, ⟨rk, w4⟩, w5⟩, g2, g3⟩ := h
  have hno := (nch_0 w1 hj).mp h1
  have hnp := own_nil.mp h2
  refine ⟨⟨⟨?_, fun c hc hc0 => ?_⟩, fun c hc hpc => ?_, ⟨rk, fun c hc hpc => ?_⟩, fun p hp => ?_⟩, g2, g3⟩
  · rw [n0_at, if_neg (fun q => h0 q.symm)]; exact w1
  · rw [n0_at]
    split
    · exact Or.inr rfl
    · exact w2 c hc hc0
  · rw [n0_at] at hpc
    by_cases e : c = j
    · rw [if_pos e] at hpc; omega
    · rw [if_neg e] at hpc
      rw [n0_at M j 65 c, if_neg e, n0_at, if_neg (hno c hc)]
      exact w3 c hc hpc
  · rw [n0_at] at hpc
    by_cases e : c = j
    · rw [if_pos e] at hpc; omega
    · rw [if_neg e] at hpc
      rw [n0_at, if_neg e]
      exact w4 c hc hpc
  · obtain ⟨p1, p2, p3, p4, p5, p6⟩ := w5 p hp
    refine ⟨p1, p2, by rw [n0_at, if_neg (hnp p hp)]; exact p3, fun k hk => ?_, p5, p6⟩
    rw [n0_at]
    split
    · omega
    · exact p4 k hk
set_option maxRecDepth 20000 in
set_option maxHeartbeats 2000000 in
theorem rt_remove (l : Launch) (G : hp_G) (S : hp_T) (m0 : Nat) (ad : Nat → Nat) (M : ab_T) (c : Int32) (h : RepR S m0 ad M) (hw : sok M) : hp_Met l G yX4_remove cX4_remove 2 none rm_q [.inr (.inr (some m0)), .inl c] S (fun v S' => v = none ∧ rpo S m0 ad (sp_remove M c) S') := by
  have hR := h
  obtain ⟨hs, hdj, hc, hn, hp⟩ := h
  obtain ⟨sk0, sr1, sr2, sr3, sr4, sr5, sr6, sr7, sr8, sr9, sr10, sr11, sr12, sr13, sk1, sk2, sk3, sk4, sk5, sk6, sk7, sk8, sk9, sk10, sk11, sk12, sk13, sn1, sn2, sn3, sn4, sn5, sn6, sn7, sn8, sn9, sn10, sn11, sn12, sn13⟩ := hs
  refine hp_Met.of (o := 4) (by decide) rfl (Nat.le_refl _) (fun X C D => ?_)
  refine hp_run C [] 60 _ _ _ _ ?_
  simp only [or_true, or_false, true_or, false_or, or_self, hp_wp0, hp_wpS, eq_self, true_and, and_true, false_and, and_false, if_true, if_false, Bool.false_eq_true, Bool.or_false, Bool.or_true, Bool.true_or, Bool.false_or, ite_true, ite_false, ↓reduceIte, reduceCtorEq, Nat.reduceBEq, Nat.reduceAdd, Nat.reduceEqDiff, Nat.reduceLT, Nat.reduceLeDiff, Int.reduceAdd, Int.reduceToNat, Int.reduceLE, Int.reduceNeg, Int.cast_ofNat_Int, Nat.zero_add, Option.some.injEq, exists_eq_left', exists_eq_left, not_true_eq_false, not_false_eq_true, false_implies, true_implies, forall_const, implies_true, List.cons_append, List.nil_append, Nat.le_refl, Nat.zero_le, hp_K_sI, hp_K_sJ, hp_K_sR, hp_N_sI, hp_N_sJ, hp_N_sR, hp_I_sI, hp_I_sJ, hp_I_sR, hp_J_sI, hp_J_sJ, hp_J_sR, hp_R_sI, hp_R_sJ, hp_R_sR, hr_iconst, hr_bipush, hr_iload_n, hr_aload_n, hr_ifCond_eq, hr_ifCond_ne, hr_ifCond_le, hr_goto, hr_getfield, hr_putfield, hr_iastore, hr_return_, hr_invokevirtual, hz_i1, hz_i2, hz_l1, hz_l2, hz_r1, hz_r2, hz_ia, hz_via, hz_vr, hz_ld0, hz_ld1, hz_ld2, hz_s0, hz_s1, hz_s2, hz_g0, hz_g1, hz_d0, hz_d1, hz_d3, hz_d2, hz_t0, hz_t1, hz_t3, hz_t2, hz_c0, hz_c1, hz_rti, hz_rtl, hz_rta, hz_rtv, hz_br, hz_fh0, hz_fh1, hz_fh2, hz_fh3, hz_ft0, hz_ft1, hz_ft2, hz_ft3, hz_sF0, hz_sF1, hz_sF2, hz_lg0, hz_lg1, hz_lg2, hz_f0, hz_f1, hz_f2, hz_f3, hz_k0, hz_k1, hz_rm, hz_ok0, hz_ok1, hz_ok2, hz_ok3, hz_ok4, hz_l0, hz_l1c, hz_ar0, hz_ar1, ht_0_0, hn_0_0, ht_0_1, hn_0_1, ht_0_2, hn_0_2, ht_0_3, hn_0_3, hnf_0, ht_1_0, hn_1_0, ht_1_1, hn_1_1, ht_1_2, hn_1_2, ht_1_3, hn_1_3, ht_1_4, hn_1_4, ht_1_5, hn_1_5, ht_1_6, hn_1_6, ht_1_7, hn_1_7, ht_1_8, hn_1_8, ht_1_9, hn_1_9, ht_1_10, hn_1_10, ht_1_11, hn_1_11, ht_1_12, hn_1_12, ht_1_13, hn_1_13, hnf_1, ht_2_0, hn_2_0, ht_2_1, hn_2_1, ht_2_2, hn_2_2, hnf_2, ht_3_0, hn_3_0, ht_3_1, hn_3_1, ht_3_2, hn_3_2, ht_3_3, hn_3_3, ht_3_4, hn_3_4, ht_3_5, hn_3_5, ht_3_6, hn_3_6, ht_3_7, hn_3_7, ht_3_8, hn_3_8, ht_3_9, hn_3_9, ht_3_10, hn_3_10, hnf_3, ht_4_0, hn_4_0, ht_4_1, hn_4_1, ht_4_2, hn_4_2, ht_4_3, hn_4_3, ht_4_4, hn_4_4, ht_4_5, hn_4_5, ht_4_6, hn_4_6, ht_4_7, hn_4_7, ht_4_8, hn_4_8, ht_4_9, hn_4_9, ht_4_10, hn_4_10, ht_4_11, hn_4_11, ht_4_12, hn_4_12, ht_4_13, hn_4_13, ht_4_14, hn_4_14, ht_4_15, hn_4_15, ht_4_16, hn_4_16, ht_4_17, hn_4_17, ht_4_18, hn_4_18, ht_4_19, hn_4_19, hnf_4, hc_im1, hc_i0, hc_i1, hc_i2, hc_i3, hc_i4, hc_i5, hc_bm2, hc_b6, hc_b7, hc_b15, hc_b64, hc_s500, hc_s1000, hc_s2000, hw_10, hw_01, hp_F_4_58, hp_F_4_7, dX4_remove_0, dX4_remove_1, dX4_remove_2, dX4_remove_3, dX4_remove_6, dX4_remove_9, dX4_remove_10, dX4_remove_13, dX4_remove_14, dX4_remove_15, dX4_remove_18, dX4_remove_21, dX4_remove_22, dX4_remove_23, dX4_remove_26, dX4_remove_29, dX4_remove_30, dX4_remove_33, dX4_remove_34, dX4_remove_37, dX4_remove_38, dX4_remove_41, dX4_remove_44, dX4_remove_45, dX4_remove_48, dX4_remove_49, dX4_remove_51, dX4_remove_52, dX4_remove_53, dX4_remove_56, sk0, rm_qc, rm_qs, hw_20, hw_30, hw_40, hx_0, hx_1, hx_2, hx_3, hx_4, hy_00, hy_10]
  refine hp_callV (as := [.inl c]) (rest := [.inr (.inr (some m0))]) C D dX4_remove_3 kV_4_71 (rt_isThere l G S m0 ad M c hR) sk0 (by decide) rfl ⟨⟨by decide, by decide⟩, ⟨by decide, by decide⟩, Nat.le_of_ble_eq_true rfl⟩ (fun v S' hv => ?_)
  obtain ⟨rfl, rfl⟩ := hv
  refine hp_run C [] 80 _ _ _ _ ?_
  cases h1 : thB M c with
  | false =>
    simp only [or_true, or_false, true_or, false_or, or_self, hp_wp0, hp_wpS, eq_self, true_and, and_true, false_and, and_false, if_true, if_false, Bool.false_eq_true, Bool.or_false, Bool.or_true, Bool.true_or, Bool.false_or, ite_true, ite_false, ↓reduceIte, reduceCtorEq, Nat.reduceBEq, Nat.reduceAdd, Nat.reduceEqDiff, Nat.reduceLT, Nat.reduceLeDiff, Int.reduceAdd, Int.reduceToNat, Int.reduceLE, Int.reduceNeg, Int.cast_ofNat_Int, Nat.zero_add, Option.some.injEq, exists_eq_left', exists_eq_left, not_true_eq_false, not_false_eq_true, false_implies, true_implies, forall_const, implies_true, List.cons_append, List.nil_append, Nat.le_refl, Nat.zero_le, hp_K_sI, hp_K_sJ, hp_K_sR, hp_N_sI, hp_N_sJ, hp_N_sR, hp_I_sI, hp_I_sJ, hp_I_sR, hp_J_sI, hp_J_sJ, hp_J_sR, hp_R_sI, hp_R_sJ, hp_R_sR, hr_iconst, hr_bipush, hr_iload_n, hr_aload_n, hr_ifCond_eq, hr_ifCond_ne, hr_ifCond_le, hr_goto, hr_getfield, hr_putfield, hr_iastore, hr_return_, hr_invokevirtual, hz_i1, hz_i2, hz_l1, hz_l2, hz_r1, hz_r2, hz_ia, hz_via, hz_vr, hz_ld0, hz_ld1, hz_ld2, hz_s0, hz_s1, hz_s2, hz_g0, hz_g1, hz_d0, hz_d1, hz_d3, hz_d2, hz_t0, hz_t1, hz_t3, hz_t2, hz_c0, hz_c1, hz_rti, hz_rtl, hz_rta, hz_rtv, hz_br, hz_fh0, hz_fh1, hz_fh2, hz_fh3, hz_ft0, hz_ft1, hz_ft2, hz_ft3, hz_sF0, hz_sF1, hz_sF2, hz_lg0, hz_lg1, hz_lg2, hz_f0, hz_f1, hz_f2, hz_f3, hz_k0, hz_k1, hz_rm, hz_ok0, hz_ok1, hz_ok2, hz_ok3, hz_ok4, hz_l0, hz_l1c, hz_ar0, hz_ar1, ht_0_0, hn_0_0, ht_0_1, hn_0_1, ht_0_2, hn_0_2, ht_0_3, hn_0_3, hnf_0, ht_1_0, hn_1_0, ht_1_1, hn_1_1, ht_1_2, hn_1_2, ht_1_3, hn_1_3, ht_1_4, hn_1_4, ht_1_5, hn_1_5, ht_1_6, hn_1_6, ht_1_7, hn_1_7, ht_1_8, hn_1_8, ht_1_9, hn_1_9, ht_1_10, hn_1_10, ht_1_11, hn_1_11, ht_1_12, hn_1_12, ht_1_13, hn_1_13, hnf_1, ht_2_0, hn_2_0, ht_2_1, hn_2_1, ht_2_2, hn_2_2, hnf_2, ht_3_0, hn_3_0, ht_3_1, hn_3_1, ht_3_2, hn_3_2, ht_3_3, hn_3_3, ht_3_4, hn_3_4, ht_3_5, hn_3_5, ht_3_6, hn_3_6, ht_3_7, hn_3_7, ht_3_8, hn_3_8, ht_3_9, hn_3_9, ht_3_10, hn_3_10, hnf_3, ht_4_0, hn_4_0, ht_4_1, hn_4_1, ht_4_2, hn_4_2, ht_4_3, hn_4_3, ht_4_4, hn_4_4, ht_4_5, hn_4_5, ht_4_6, hn_4_6, ht_4_7, hn_4_7, ht_4_8, hn_4_8, ht_4_9, hn_4_9, ht_4_10, hn_4_10, ht_4_11, hn_4_11, ht_4_12, hn_4_12, ht_4_13, hn_4_13, ht_4_14, hn_4_14, ht_4_15, hn_4_15, ht_4_16, hn_4_16, ht_4_17, hn_4_17, ht_4_18, hn_4_18, ht_4_19, hn_4_19, hnf_4, hc_im1, hc_i0, hc_i1, hc_i2, hc_i3, hc_i4, hc_i5, hc_bm2, hc_b6, hc_b7, hc_b15, hc_b64, hc_s500, hc_s1000, hc_s2000, hw_10, hw_01, hp_F_4_58, hp_F_4_7, dX4_remove_0, dX4_remove_1, dX4_remove_2, dX4_remove_3, dX4_remove_6, dX4_remove_9, dX4_remove_10, dX4_remove_13, dX4_remove_14, dX4_remove_15, dX4_remove_18, dX4_remove_21, dX4_remove_22, dX4_remove_23, dX4_remove_26, dX4_remove_29, dX4_remove_30, dX4_remove_33, dX4_remove_34, dX4_remove_37, dX4_remove_38, dX4_remove_41, dX4_remove_44, dX4_remove_45, dX4_remove_48, dX4_remove_49, dX4_remove_51, dX4_remove_52, dX4_remove_53, dX4_remove_56, sk0, rm_qc, rm_qs, rm_0c, rm_0s, h1, Option.toList_some, List.singleton_append, hw_20, hw_30, hw_40, hx_0, hx_1, hx_2, hx_3, hx_4, hy_00, hy_10]
    exact ⟨1, M, ic_0 _ _ _, Or.inl ⟨rfl, h1, rfl⟩, rp_code hR 1, (frR.rf S m0 ad).s0 0 1⟩
  | true =>
    obtain ⟨j, hj, rfl, hpj⟩ := th_is h1
    have bad : ¬ (¬ j = 0 ∧ nch M j = 0 ∧ own M j = []) → rpo S m0 ad (sp_remove M (nI j)) (hp_sI S m0 0 2) := fun h3 => ⟨2, M, ic_0 _ _ _, Or.inr (Or.inl ⟨rfl, ⟨j, hj, hpj, rfl, h3⟩, rfl⟩), rp_code hR 2, (frR.rf S m0 ad).s0 0 2⟩
    simp only [or_true, or_false, true_or, false_or, or_self, hp_wp0, hp_wpS, eq_self, true_and, and_true, false_and, and_false, if_true, if_false, Bool.false_eq_true, Bool.or_false, Bool.or_true, Bool.true_or, Bool.false_or, ite_true, ite_false, ↓reduceIte, reduceCtorEq, Nat.reduceBEq, Nat.reduceAdd, Nat.reduceEqDiff, Nat.reduceLT, Nat.reduceLeDiff, Int.reduceAdd, Int.reduceToNat, Int.reduceLE, Int.reduceNeg, Int.cast_ofNat_Int, Nat.zero_add, Option.some.injEq, exists_eq_left', exists_eq_left, not_true_eq_false, not_false_eq_true, false_implies, true_implies, forall_const, implies_true, List.cons_append, List.nil_append, Nat.le_refl, Nat.zero_le, hp_K_sI, hp_K_sJ, hp_K_sR, hp_N_sI, hp_N_sJ, hp_N_sR, hp_I_sI, hp_I_sJ, hp_I_sR, hp_J_sI, hp_J_sJ, hp_J_sR, hp_R_sI, hp_R_sJ, hp_R_sR, hr_iconst, hr_bipush, hr_iload_n, hr_aload_n, hr_ifCond_eq, hr_ifCond_ne, hr_ifCond_le, hr_goto, hr_getfield, hr_putfield, hr_iastore, hr_return_, hr_invokevirtual, hz_i1, hz_i2, hz_l1, hz_l2, hz_r1, hz_r2, hz_ia, hz_via, hz_vr, hz_ld0, hz_ld1, hz_ld2, hz_s0, hz_s1, hz_s2, hz_g0, hz_g1, hz_d0, hz_d1, hz_d3, hz_d2, hz_t0, hz_t1, hz_t3, hz_t2, hz_c0, hz_c1, hz_rti, hz_rtl, hz_rta, hz_rtv, hz_br, hz_fh0, hz_fh1, hz_fh2, hz_fh3, hz_ft0, hz_ft1, hz_ft2, hz_ft3, hz_sF0, hz_sF1, hz_sF2, hz_lg0, hz_lg1, hz_lg2, hz_f0, hz_f1, hz_f2, hz_f3, hz_k0, hz_k1, hz_rm, hz_ok0, hz_ok1, hz_ok2, hz_ok3, hz_ok4, hz_l0, hz_l1c, hz_ar0, hz_ar1, ht_0_0, hn_0_0, ht_0_1, hn_0_1, ht_0_2, hn_0_2, ht_0_3, hn_0_3, hnf_0, ht_1_0, hn_1_0, ht_1_1, hn_1_1, ht_1_2, hn_1_2, ht_1_3, hn_1_3, ht_1_4, hn_1_4, ht_1_5, hn_1_5, ht_1_6, hn_1_6, ht_1_7, hn_1_7, ht_1_8, hn_1_8, ht_1_9, hn_1_9, ht_1_10, hn_1_10, ht_1_11, hn_1_11, ht_1_12, hn_1_12, ht_1_13, hn_1_13, hnf_1, ht_2_0, hn_2_0, ht_2_1, hn_2_1, ht_2_2, hn_2_2, hnf_2, ht_3_0, hn_3_0, ht_3_1, hn_3_1, ht_3_2, hn_3_2, ht_3_3, hn_3_3, ht_3_4, hn_3_4, ht_3_5, hn_3_5, ht_3_6, hn_3_6, ht_3_7, hn_3_7, ht_3_8, hn_3_8, ht_3_9, hn_3_9, ht_3_10, hn_3_10, hnf_3, ht_4_0, hn_4_0, ht_4_1, hn_4_1, ht_4_2, hn_4_2, ht_4_3, hn_4_3, ht_4_4, hn_4_4, ht_4_5, hn_4_5, ht_4_6, hn_4_6, ht_4_7, hn_4_7, ht_4_8, hn_4_8, ht_4_9, hn_4_9, ht_4_10, hn_4_10, ht_4_11, hn_4_11, ht_4_12, hn_4_12, ht_4_13, hn_4_13, ht_4_14, hn_4_14, ht_4_15, hn_4_15, ht_4_16, hn_4_16, ht_4_17, hn_4_17, ht_4_18, hn_4_18, ht_4_19, hn_4_19, hnf_4, hc_im1, hc_i0, hc_i1, hc_i2, hc_i3, hc_i4, hc_i5, hc_bm2, hc_b6, hc_b7, hc_b15, hc_b64, hc_s500, hc_s1000, hc_s2000, hw_10, hw_01, hp_F_4_58, hp_F_4_7, dX4_remove_0, dX4_remove_1, dX4_remove_2, dX4_remove_3, dX4_remove_6, dX4_remove_9, dX4_remove_10, dX4_remove_13, dX4_remove_14, dX4_remove_15, dX4_remove_18, dX4_remove_21, dX4_remove_22, dX4_remove_23, dX4_remove_26, dX4_remove_29, dX4_remove_30, dX4_remove_33, dX4_remove_34, dX4_remove_37, dX4_remove_38, dX4_remove_41, dX4_remove_44, dX4_remove_45, dX4_remove_48, dX4_remove_49, dX4_remove_51, dX4_remove_52, dX4_remove_53, dX4_remove_56, sk0, rm_qc, rm_qs, rm_0c, rm_0s, h1, Option.toList_some, List.singleton_append, hw_20, hw_30, hw_40, hx_0, hx_1, hx_2, hx_3, hx_4, hy_00, hy_10]
    refine hp_callV (as := [.inl (nI j)]) (rest := [.inr (.inr (some m0))]) C D dX4_remove_15 kV_4_81 (rt_isLeaf l G S m0 ad M j hj hR) sk0 (by decide) rfl ⟨⟨by decide, by decide⟩, ⟨by decide, by decide⟩, Nat.le_of_ble_eq_true rfl⟩ (fun v S' hv => ?_)
    obtain ⟨rfl, rfl⟩ := hv
    refine hp_run C [] 80 _ _ _ _ ?_
    by_cases h2 : ¬ j = 0 ∧ nch M j = 0
    · simp only [if_pos h2]
      simp only [or_true, or_false, true_or, false_or, or_self, hp_wp0, hp_wpS, eq_self, true_and, and_true, false_and, and_false, if_true, if_false, Bool.false_eq_true, Bool.or_false, Bool.or_true, Bool.true_or, Bool.false_or, ite_true, ite_false, ↓reduceIte, reduceCtorEq, Nat.reduceBEq, Nat.reduceAdd, Nat.reduceEqDiff, Nat.reduceLT, Nat.reduceLeDiff, Int.reduceAdd, Int.reduceToNat, Int.reduceLE, Int.reduceNeg, Int.cast_ofNat_Int, Nat.zero_add, Option.some.injEq, exists_eq_left', exists_eq_left, not_true_eq_false, not_false_eq_true, false_implies, true_implies, forall_const, implies_true, List.cons_append, List.nil_append, Nat.le_refl, Nat.zero_le, hp_K_sI, hp_K_sJ, hp_K_sR, hp_N_sI, hp_N_sJ, hp_N_sR, hp_I_sI, hp_I_sJ, hp_I_sR, hp_J_sI, hp_J_sJ, hp_J_sR, hp_R_sI, hp_R_sJ, hp_R_sR, hr_iconst, hr_bipush, hr_iload_n, hr_aload_n, hr_ifCond_eq, hr_ifCond_ne, hr_ifCond_le, hr_goto, hr_getfield, hr_putfield, hr_iastore, hr_return_, hr_invokevirtual, hz_i1, hz_i2, hz_l1, hz_l2, hz_r1, hz_r2, hz_ia, hz_via, hz_vr, hz_ld0, hz_ld1, hz_ld2, hz_s0, hz_s1, hz_s2, hz_g0, hz_g1, hz_d0, hz_d1, hz_d3, hz_d2, hz_t0, hz_t1, hz_t3, hz_t2, hz_c0, hz_c1, hz_rti, hz_rtl, hz_rta, hz_rtv, hz_br, hz_fh0, hz_fh1, hz_fh2, hz_fh3, hz_ft0, hz_ft1, hz_ft2, hz_ft3, hz_sF0, hz_sF1, hz_sF2, hz_lg0, hz_lg1, hz_lg2, hz_f0, hz_f1, hz_f2, hz_f3, hz_k0, hz_k1, hz_rm, hz_ok0, hz_ok1, hz_ok2, hz_ok3, hz_ok4, hz_l0, hz_l1c, hz_ar0, hz_ar1, ht_0_0, hn_0_0, ht_0_1, hn_0_1, ht_0_2, hn_0_2, ht_0_3, hn_0_3, hnf_0, ht_1_0, hn_1_0, ht_1_1, hn_1_1, ht_1_2, hn_1_2, ht_1_3, hn_1_3, ht_1_4, hn_1_4, ht_1_5, hn_1_5, ht_1_6, hn_1_6, ht_1_7, hn_1_7, ht_1_8, hn_1_8, ht_1_9, hn_1_9, ht_1_10, hn_1_10, ht_1_11, hn_1_11, ht_1_12, hn_1_12, ht_1_13, hn_1_13, hnf_1, ht_2_0, hn_2_0, ht_2_1, hn_2_1, ht_2_2, hn_2_2, hnf_2, ht_3_0, hn_3_0, ht_3_1, hn_3_1, ht_3_2, hn_3_2, ht_3_3, hn_3_3, ht_3_4, hn_3_4, ht_3_5, hn_3_5, ht_3_6, hn_3_6, ht_3_7, hn_3_7, ht_3_8, hn_3_8, ht_3_9, hn_3_9, ht_3_10, hn_3_10, hnf_3, ht_4_0, hn_4_0, ht_4_1, hn_4_1, ht_4_2, hn_4_2, ht_4_3, hn_4_3, ht_4_4, hn_4_4, ht_4_5, hn_4_5, ht_4_6, hn_4_6, ht_4_7, hn_4_7, ht_4_8, hn_4_8, ht_4_9, hn_4_9, ht_4_10, hn_4_10, ht_4_11, hn_4_11, ht_4_12, hn_4_12, ht_4_13, hn_4_13, ht_4_14, hn_4_14, ht_4_15, hn_4_15, ht_4_16, hn_4_16, ht_4_17, hn_4_17, ht_4_18, hn_4_18, ht_4_19, hn_4_19, hnf_4, hc_im1, hc_i0, hc_i1, hc_i2, hc_i3, hc_i4, hc_i5, hc_bm2, hc_b6, hc_b7, hc_b15, hc_b64, hc_s500, hc_s1000, hc_s2000, hw_10, hw_01, hp_F_4_58, hp_F_4_7, dX4_remove_0, dX4_remove_1, dX4_remove_2, dX4_remove_3, dX4_remove_6, dX4_remove_9, dX4_remove_10, dX4_remove_13, dX4_remove_14, dX4_remove_15, dX4_remove_18, dX4_remove_21, dX4_remove_22, dX4_remove_23, dX4_remove_26, dX4_remove_29, dX4_remove_30, dX4_remove_33, dX4_remove_34, dX4_remove_37, dX4_remove_38, dX4_remove_41, dX4_remove_44, dX4_remove_45, dX4_remove_48, dX4_remove_49, dX4_remove_51, dX4_remove_52, dX4_remove_53, dX4_remove_56, sk0, rm_qc, rm_qs, rm_1c, rm_1s, Option.toList_some, List.singleton_append, hw_20, hw_30, hw_40, hx_0, hx_1, hx_2, hx_3, hx_4, hy_00, hy_10]
      refine hp_callV (as := [.inl (nI j)]) (rest := [.inr (.inr (some m0))]) C D dX4_remove_23 kV_4_75 (rt_own l G S m0 ad M j hj hR) sk0 (by decide) rfl ⟨⟨by decide, by decide⟩, ⟨by decide, by decide⟩, Nat.le_of_ble_eq_true rfl⟩ (fun v S' hv => ?_)
      obtain ⟨rfl, rfl⟩ := hv
      refine hp_run C [] 80 _ _ _ _ ?_
      have hle : (own M j).length ≤ 2000 := Nat.le_trans (List.length_filter_le _ _) hn.1
      by_cases h3 : own M j = []
      · have h4 : nI (own M j).length ≤ 0 := by rw [h3]; decide
        have h5 : vp_in (nI j) 64 := vp_in_nI hj (by decide)
        have h6 : (nI j).toNatClampNeg = j := nI_clamp (by omega)
        simp only [or_true, or_false, true_or, false_or, or_self, hp_wp0, hp_wpS, eq_self, true_and, and_true, false_and, and_false, if_true, if_false, Bool.false_eq_true, Bool.or_false, Bool.or_true, Bool.true_or, Bool.false_or, ite_true, ite_false, ↓reduceIte, reduceCtorEq, Nat.reduceBEq, Nat.reduceAdd, Nat.reduceEqDiff, Nat.reduceLT, Nat.reduceLeDiff, Int.reduceAdd, Int.reduceToNat, Int.reduceLE, Int.reduceNeg, Int.cast_ofNat_Int, Nat.zero_add, Option.some.injEq, exists_eq_left', exists_eq_left, not_true_eq_false, not_false_eq_true, false_implies, true_implies, forall_const, implies_true, List.cons_append, List.nil_append, Nat.le_refl, Nat.zero_le, hp_K_sI, hp_K_sJ, hp_K_sR, hp_N_sI, hp_N_sJ, hp_N_sR, hp_I_sI, hp_I_sJ, hp_I_sR, hp_J_sI, hp_J_sJ, hp_J_sR, hp_R_sI, hp_R_sJ, hp_R_sR, hr_iconst, hr_bipush, hr_iload_n, hr_aload_n, hr_ifCond_eq, hr_ifCond_ne, hr_ifCond_le, hr_goto, hr_getfield, hr_putfield, hr_iastore, hr_return_, hr_invokevirtual, hz_i1, hz_i2, hz_l1, hz_l2, hz_r1, hz_r2, hz_ia, hz_via, hz_vr, hz_ld0, hz_ld1, hz_ld2, hz_s0, hz_s1, hz_s2, hz_g0, hz_g1, hz_d0, hz_d1, hz_d3, hz_d2, hz_t0, hz_t1, hz_t3, hz_t2, hz_c0, hz_c1, hz_rti, hz_rtl, hz_rta, hz_rtv, hz_br, hz_fh0, hz_fh1, hz_fh2, hz_fh3, hz_ft0, hz_ft1, hz_ft2, hz_ft3, hz_sF0, hz_sF1, hz_sF2, hz_lg0, hz_lg1, hz_lg2, hz_f0, hz_f1, hz_f2, hz_f3, hz_k0, hz_k1, hz_rm, hz_ok0, hz_ok1, hz_ok2, hz_ok3, hz_ok4, hz_l0, hz_l1c, hz_ar0, hz_ar1, ht_0_0, hn_0_0, ht_0_1, hn_0_1, ht_0_2, hn_0_2, ht_0_3, hn_0_3, hnf_0, ht_1_0, hn_1_0, ht_1_1, hn_1_1, ht_1_2, hn_1_2, ht_1_3, hn_1_3, ht_1_4, hn_1_4, ht_1_5, hn_1_5, ht_1_6, hn_1_6, ht_1_7, hn_1_7, ht_1_8, hn_1_8, ht_1_9, hn_1_9, ht_1_10, hn_1_10, ht_1_11, hn_1_11, ht_1_12, hn_1_12, ht_1_13, hn_1_13, hnf_1, ht_2_0, hn_2_0, ht_2_1, hn_2_1, ht_2_2, hn_2_2, hnf_2, ht_3_0, hn_3_0, ht_3_1, hn_3_1, ht_3_2, hn_3_2, ht_3_3, hn_3_3, ht_3_4, hn_3_4, ht_3_5, hn_3_5, ht_3_6, hn_3_6, ht_3_7, hn_3_7, ht_3_8, hn_3_8, ht_3_9, hn_3_9, ht_3_10, hn_3_10, hnf_3, ht_4_0, hn_4_0, ht_4_1, hn_4_1, ht_4_2, hn_4_2, ht_4_3, hn_4_3, ht_4_4, hn_4_4, ht_4_5, hn_4_5, ht_4_6, hn_4_6, ht_4_7, hn_4_7, ht_4_8, hn_4_8, ht_4_9, hn_4_9, ht_4_10, hn_4_10, ht_4_11, hn_4_11, ht_4_12, hn_4_12, ht_4_13, hn_4_13, ht_4_14, hn_4_14, ht_4_15, hn_4_15, ht_4_16, hn_4_16, ht_4_17, hn_4_17, ht_4_18, hn_4_18, ht_4_19, hn_4_19, hnf_4, hc_im1, hc_i0, hc_i1, hc_i2, hc_i3, hc_i4, hc_i5, hc_bm2, hc_b6, hc_b7, hc_b15, hc_b64, hc_s500, hc_s1000, hc_s2000, hw_10, hw_01, hp_F_4_58, hp_F_4_7, dX4_remove_0, dX4_remove_1, dX4_remove_2, dX4_remove_3, dX4_remove_6, dX4_remove_9, dX4_remove_10, dX4_remove_13, dX4_remove_14, dX4_remove_15, dX4_remove_18, dX4_remove_21, dX4_remove_22, dX4_remove_23, dX4_remove_26, dX4_remove_29, dX4_remove_30, dX4_remove_33, dX4_remove_34, dX4_remove_37, dX4_remove_38, dX4_remove_41, dX4_remove_44, dX4_remove_45, dX4_remove_48, dX4_remove_49, dX4_remove_51, dX4_remove_52, dX4_remove_53, dX4_remove_56, sk0, sr1, sk1, sn1, rm_qc, rm_qs, rm_0c, rm_0s, h4, h5, h6, Option.toList_some, List.singleton_append, hw_20, hw_30, hw_40, hx_0, hx_1, hx_2, hx_3, hx_4, hy_00, hy_10]
        have hR2 := rp_1 (rp_code hR 0) j 65 (Nat.le_refl _)
        obtain ⟨g1, g2, g3⟩ := sok_remove hw hj h2.1 h2.2 h3
        refine hp_callV (as := []) (rest := []) C D dX4_remove_53 kV_4_78 (rt_settle l G _ m0 ad _ hR2 g1 g2 g3) hR2.1.1 (by decide) rfl ⟨⟨by decide, by decide⟩, ⟨by decide, by decide⟩, by decide⟩ (fun v S' hv => ?_)
        obtain ⟨rfl, hfr, M', hst, hR3, hcd⟩ := hv
        refine hp_run C [] 80 _ _ _ _ ?_
        simp only [or_true, or_false, true_or, false_or, or_self, hp_wp0, hp_wpS, eq_self, true_and, and_true, false_and, and_false, if_true, if_false, Bool.false_eq_true, Bool.or_false, Bool.or_true, Bool.true_or, Bool.false_or, ite_true, ite_false, ↓reduceIte, reduceCtorEq, Nat.reduceBEq, Nat.reduceAdd, Nat.reduceEqDiff, Nat.reduceLT, Nat.reduceLeDiff, Int.reduceAdd, Int.reduceToNat, Int.reduceLE, Int.reduceNeg, Int.cast_ofNat_Int, Nat.zero_add, Option.some.injEq, exists_eq_left', exists_eq_left, not_true_eq_false, not_false_eq_true, false_implies, true_implies, forall_const, implies_true, List.cons_append, List.nil_append, Nat.le_refl, Nat.zero_le, hp_K_sI, hp_K_sJ, hp_K_sR, hp_N_sI, hp_N_sJ, hp_N_sR, hp_I_sI, hp_I_sJ, hp_I_sR, hp_J_sI, hp_J_sJ, hp_J_sR, hp_R_sI, hp_R_sJ, hp_R_sR, hr_iconst, hr_bipush, hr_iload_n, hr_aload_n, hr_ifCond_eq, hr_ifCond_ne, hr_ifCond_le, hr_goto, hr_getfield, hr_putfield, hr_iastore, hr_return_, hr_invokevirtual, hz_i1, hz_i2, hz_l1, hz_l2, hz_r1, hz_r2, hz_ia, hz_via, hz_vr, hz_ld0, hz_ld1, hz_ld2, hz_s0, hz_s1, hz_s2, hz_g0, hz_g1, hz_d0, hz_d1, hz_d3, hz_d2, hz_t0, hz_t1, hz_t3, hz_t2, hz_c0, hz_c1, hz_rti, hz_rtl, hz_rta, hz_rtv, hz_br, hz_fh0, hz_fh1, hz_fh2, hz_fh3, hz_ft0, hz_ft1, hz_ft2, hz_ft3, hz_sF0, hz_sF1, hz_sF2, hz_lg0, hz_lg1, hz_lg2, hz_f0, hz_f1, hz_f2, hz_f3, hz_k0, hz_k1, hz_rm, hz_ok0, hz_ok1, hz_ok2, hz_ok3, hz_ok4, hz_l0, hz_l1c, hz_ar0, hz_ar1, ht_0_0, hn_0_0, ht_0_1, hn_0_1, ht_0_2, hn_0_2, ht_0_3, hn_0_3, hnf_0, ht_1_0, hn_1_0, ht_1_1, hn_1_1, ht_1_2, hn_1_2, ht_1_3, hn_1_3, ht_1_4, hn_1_4, ht_1_5, hn_1_5, ht_1_6, hn_1_6, ht_1_7, hn_1_7, ht_1_8, hn_1_8, ht_1_9, hn_1_9, ht_1_10, hn_1_10, ht_1_11, hn_1_11, ht_1_12, hn_1_12, ht_1_13, hn_1_13, hnf_1, ht_2_0, hn_2_0, ht_2_1, hn_2_1, ht_2_2, hn_2_2, hnf_2, ht_3_0, hn_3_0, ht_3_1, hn_3_1, ht_3_2, hn_3_2, ht_3_3, hn_3_3, ht_3_4, hn_3_4, ht_3_5, hn_3_5, ht_3_6, hn_3_6, ht_3_7, hn_3_7, ht_3_8, hn_3_8, ht_3_9, hn_3_9, ht_3_10, hn_3_10, hnf_3, ht_4_0, hn_4_0, ht_4_1, hn_4_1, ht_4_2, hn_4_2, ht_4_3, hn_4_3, ht_4_4, hn_4_4, ht_4_5, hn_4_5, ht_4_6, hn_4_6, ht_4_7, hn_4_7, ht_4_8, hn_4_8, ht_4_9, hn_4_9, ht_4_10, hn_4_10, ht_4_11, hn_4_11, ht_4_12, hn_4_12, ht_4_13, hn_4_13, ht_4_14, hn_4_14, ht_4_15, hn_4_15, ht_4_16, hn_4_16, ht_4_17, hn_4_17, ht_4_18, hn_4_18, ht_4_19, hn_4_19, hnf_4, hc_im1, hc_i0, hc_i1, hc_i2, hc_i3, hc_i4, hc_i5, hc_bm2, hc_b6, hc_b7, hc_b15, hc_b64, hc_s500, hc_s1000, hc_s2000, hw_10, hw_01, hp_F_4_58, hp_F_4_7, dX4_remove_0, dX4_remove_1, dX4_remove_2, dX4_remove_3, dX4_remove_6, dX4_remove_9, dX4_remove_10, dX4_remove_13, dX4_remove_14, dX4_remove_15, dX4_remove_18, dX4_remove_21, dX4_remove_22, dX4_remove_23, dX4_remove_26, dX4_remove_29, dX4_remove_30, dX4_remove_33, dX4_remove_34, dX4_remove_37, dX4_remove_38, dX4_remove_41, dX4_remove_44, dX4_remove_45, dX4_remove_48, dX4_remove_49, dX4_remove_51, dX4_remove_52, dX4_remove_53, dX4_remove_56, rm_qc, rm_qs, rm_rc, rm_rs, Option.toList_none, hw_20, hw_30, hw_40, hx_0, hx_1, hx_2, hx_3, hx_4, hy_00, hy_10]
        refine ⟨0, M', ?_, Or.inr (Or.inr ⟨rfl, j, hj, hpj, rfl, h2.1, h2.2, h3, hst⟩), hR3, (((frR.rf S m0 ad).s0 0 0).sI 1 _ _ (by omega) (by omega)).trans hfr⟩
        rw [hcd, hp_I_sI, if_neg (fun q => by rw [← q.1, sk0] at sk1; omega)]
        exact ic_0 _ _ _
      · have h4 : ¬ nI (own M j).length ≤ 0 := nI_nle (by
          rcases Nat.eq_zero_or_pos (own M j).length with e | e
          · exact absurd (List.length_eq_zero_iff.mp e) h3
          · exact e) (by omega)
        simp only [or_true, or_false, true_or, false_or, or_self, hp_wp0, hp_wpS, eq_self, true_and, and_true, false_and, and_false, if_true, if_false, Bool.false_eq_true, Bool.or_false, Bool.or_true, Bool.true_or, Bool.false_or, ite_true, ite_false, ↓reduceIte, reduceCtorEq, Nat.reduceBEq, Nat.reduceAdd, Nat.reduceEqDiff, Nat.reduceLT, Nat.reduceLeDiff, Int.reduceAdd, Int.reduceToNat, Int.reduceLE, Int.reduceNeg, Int.cast_ofNat_Int, Nat.zero_add, Option.some.injEq, exists_eq_left', exists_eq_left, not_true_eq_false, not_false_eq_true, false_implies, true_implies, forall_const, implies_true, List.cons_append, List.nil_append, Nat.le_refl, Nat.zero_le, hp_K_sI, hp_K_sJ, hp_K_sR, hp_N_sI, hp_N_sJ, hp_N_sR, hp_I_sI, hp_I_sJ, hp_I_sR, hp_J_sI, hp_J_sJ, hp_J_sR, hp_R_sI, hp_R_sJ, hp_R_sR, hr_iconst, hr_bipush, hr_iload_n, hr_aload_n, hr_ifCond_eq, hr_ifCond_ne, hr_ifCond_le, hr_goto, hr_getfield, hr_putfield, hr_iastore, hr_return_, hr_invokevirtual, hz_i1, hz_i2, hz_l1, hz_l2, hz_r1, hz_r2, hz_ia, hz_via, hz_vr, hz_ld0, hz_ld1, hz_ld2, hz_s0, hz_s1, hz_s2, hz_g0, hz_g1, hz_d0, hz_d1, hz_d3, hz_d2, hz_t0, hz_t1, hz_t3, hz_t2, hz_c0, hz_c1, hz_rti, hz_rtl, hz_rta, hz_rtv, hz_br, hz_fh0, hz_fh1, hz_fh2, hz_fh3, hz_ft0, hz_ft1, hz_ft2, hz_ft3, hz_sF0, hz_sF1, hz_sF2, hz_lg0, hz_lg1, hz_lg2, hz_f0, hz_f1, hz_f2, hz_f3, hz_k0, hz_k1, hz_rm, hz_ok0, hz_ok1, hz_ok2, hz_ok3, hz_ok4, hz_l0, hz_l1c, hz_ar0, hz_ar1, ht_0_0, hn_0_0, ht_0_1, hn_0_1, ht_0_2, hn_0_2, ht_0_3, hn_0_3, hnf_0, ht_1_0, hn_1_0, ht_1_1, hn_1_1, ht_1_2, hn_1_2, ht_1_3, hn_1_3, ht_1_4, hn_1_4, ht_1_5, hn_1_5, ht_1_6, hn_1_6, ht_1_7, hn_1_7, ht_1_8, hn_1_8, ht_1_9, hn_1_9, ht_1_10, hn_1_10, ht_1_11, hn_1_11, ht_1_12, hn_1_12, ht_1_13, hn_1_13, hnf_1, ht_2_0, hn_2_0, ht_2_1, hn_2_1, ht_2_2, hn_2_2, hnf_2, ht_3_0, hn_3_0, ht_3_1, hn_3_1, ht_3_2, hn_3_2, ht_3_3, hn_3_3, ht_3_4, hn_3_4, ht_3_5, hn_3_5, ht_3_6, hn_3_6, ht_3_7, hn_3_7, ht_3_8, hn_3_8, ht_3_9, hn_3_9, ht_3_10, hn_3_10, hnf_3, ht_4_0, hn_4_0, ht_4_1, hn_4_1, ht_4_2, hn_4_2, ht_4_3, hn_4_3, ht_4_4, hn_4_4, ht_4_5, hn_4_5, ht_4_6, hn_4_6, ht_4_7, hn_4_7, ht_4_8, hn_4_8, ht_4_9, hn_4_9, ht_4_10, hn_4_10, ht_4_11, hn_4_11, ht_4_12, hn_4_12, ht_4_13, hn_4_13, ht_4_14, hn_4_14, ht_4_15, hn_4_15, ht_4_16, hn_4_16, ht_4_17, hn_4_17, ht_4_18, hn_4_18, ht_4_19, hn_4_19, hnf_4, hc_im1, hc_i0, hc_i1, hc_i2, hc_i3, hc_i4, hc_i5, hc_bm2, hc_b6, hc_b7, hc_b15, hc_b64, hc_s500, hc_s1000, hc_s2000, hw_10, hw_01, hp_F_4_58, hp_F_4_7, dX4_remove_0, dX4_remove_1, dX4_remove_2, dX4_remove_3, dX4_remove_6, dX4_remove_9, dX4_remove_10, dX4_remove_13, dX4_remove_14, dX4_remove_15, dX4_remove_18, dX4_remove_21, dX4_remove_22, dX4_remove_23, dX4_remove_26, dX4_remove_29, dX4_remove_30, dX4_remove_33, dX4_remove_34, dX4_remove_37, dX4_remove_38, dX4_remove_41, dX4_remove_44, dX4_remove_45, dX4_remove_48, dX4_remove_49, dX4_remove_51, dX4_remove_52, dX4_remove_53, dX4_remove_56, sk0, sr1, sk1, sn1, rm_qc, rm_qs, rm_0c, rm_0s, h4, Option.toList_some, List.singleton_append, hw_20, hw_30, hw_40, hx_0, hx_1, hx_2, hx_3, hx_4, hy_00, hy_10]
        exact bad (fun q => h3 q.2.2)
    · simp only [if_neg h2]
      simp only [or_true, or_false, true_or, false_or, or_self, hp_wp0, hp_wpS, eq_self, true_and, and_true, false_and, and_false, if_true, if_false, Bool.false_eq_true, Bool.or_false, Bool.or_true, Bool.true_or, Bool.false_or, ite_true, ite_false, ↓reduceIte, reduceCtorEq, Nat.reduceBEq, Nat.reduceAdd, Nat.reduceEqDiff, Nat.reduceLT, Nat.reduceLeDiff, Int.reduceAdd, Int.reduceToNat, Int.reduceLE, Int.reduceNeg, Int.cast_ofNat_Int, Nat.zero_add, Option.some.injEq, exists_eq_left', exists_eq_left, not_true_eq_false, not_false_eq_true, false_implies, true_implies, forall_const, implies_true, List.cons_append, List.nil_append, Nat.le_refl, Nat.zero_le, hp_K_sI, hp_K_sJ, hp_K_sR, hp_N_sI, hp_N_sJ, hp_N_sR, hp_I_sI, hp_I_sJ, hp_I_sR, hp_J_sI, hp_J_sJ, hp_J_sR, hp_R_sI, hp_R_sJ, hp_R_sR, hr_iconst, hr_bipush, hr_iload_n, hr_aload_n, hr_ifCond_eq, hr_ifCond_ne, hr_ifCond_le, hr_goto, hr_getfield, hr_putfield, hr_iastore, hr_return_, hr_invokevirtual, hz_i1, hz_i2, hz_l1, hz_l2, hz_r1, hz_r2, hz_ia, hz_via, hz_vr, hz_ld0, hz_ld1, hz_ld2, hz_s0, hz_s1, hz_s2, hz_g0, hz_g1, hz_d0, hz_d1, hz_d3, hz_d2, hz_t0, hz_t1, hz_t3, hz_t2, hz_c0, hz_c1, hz_rti, hz_rtl, hz_rta, hz_rtv, hz_br, hz_fh0, hz_fh1, hz_fh2, hz_fh3, hz_ft0, hz_ft1, hz_ft2, hz_ft3, hz_sF0, hz_sF1, hz_sF2, hz_lg0, hz_lg1, hz_lg2, hz_f0, hz_f1, hz_f2, hz_f3, hz_k0, hz_k1, hz_rm, hz_ok0, hz_ok1, hz_ok2, hz_ok3, hz_ok4, hz_l0, hz_l1c, hz_ar0, hz_ar1, ht_0_0, hn_0_0, ht_0_1, hn_0_1, ht_0_2, hn_0_2, ht_0_3, hn_0_3, hnf_0, ht_1_0, hn_1_0, ht_1_1, hn_1_1, ht_1_2, hn_1_2, ht_1_3, hn_1_3, ht_1_4, hn_1_4, ht_1_5, hn_1_5, ht_1_6, hn_1_6, ht_1_7, hn_1_7, ht_1_8, hn_1_8, ht_1_9, hn_1_9, ht_1_10, hn_1_10, ht_1_11, hn_1_11, ht_1_12, hn_1_12, ht_1_13, hn_1_13, hnf_1, ht_2_0, hn_2_0, ht_2_1, hn_2_1, ht_2_2, hn_2_2, hnf_2, ht_3_0, hn_3_0, ht_3_1, hn_3_1, ht_3_2, hn_3_2, ht_3_3, hn_3_3, ht_3_4, hn_3_4, ht_3_5, hn_3_5, ht_3_6, hn_3_6, ht_3_7, hn_3_7, ht_3_8, hn_3_8, ht_3_9, hn_3_9, ht_3_10, hn_3_10, hnf_3, ht_4_0, hn_4_0, ht_4_1, hn_4_1, ht_4_2, hn_4_2, ht_4_3, hn_4_3, ht_4_4, hn_4_4, ht_4_5, hn_4_5, ht_4_6, hn_4_6, ht_4_7, hn_4_7, ht_4_8, hn_4_8, ht_4_9, hn_4_9, ht_4_10, hn_4_10, ht_4_11, hn_4_11, ht_4_12, hn_4_12, ht_4_13, hn_4_13, ht_4_14, hn_4_14, ht_4_15, hn_4_15, ht_4_16, hn_4_16, ht_4_17, hn_4_17, ht_4_18, hn_4_18, ht_4_19, hn_4_19, hnf_4, hc_im1, hc_i0, hc_i1, hc_i2, hc_i3, hc_i4, hc_i5, hc_bm2, hc_b6, hc_b7, hc_b15, hc_b64, hc_s500, hc_s1000, hc_s2000, hw_10, hw_01, hp_F_4_58, hp_F_4_7, dX4_remove_0, dX4_remove_1, dX4_remove_2, dX4_remove_3, dX4_remove_6, dX4_remove_9, dX4_remove_10, dX4_remove_13, dX4_remove_14, dX4_remove_15, dX4_remove_18, dX4_remove_21, dX4_remove_22, dX4_remove_23, dX4_remove_26, dX4_remove_29, dX4_remove_30, dX4_remove_33, dX4_remove_34, dX4_remove_37, dX4_remove_38, dX4_remove_41, dX4_remove_44, dX4_remove_45, dX4_remove_48, dX4_remove_49, dX4_remove_51, dX4_remove_52, dX4_remove_53, dX4_remove_56, sk0, rm_qc, rm_qs, rm_1c, rm_1s, Option.toList_some, List.singleton_append, hw_20, hw_30, hw_40, hx_0, hx_1, hx_2, hx_3, hx_4, hy_00, hy_10]
      exact bad (fun q => h2 ⟨q.1, q.2.1⟩)
end M26
