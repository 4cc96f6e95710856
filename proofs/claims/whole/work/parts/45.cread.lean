/-! THE CLASS: what its reading methods count -/
section M45
/-- the sum of f over the first n numbers -/
def sm (f : Nat → Nat) : Nat → Nat
  | 0 => 0
  | n + 1 => sm f n + f n
theorem sm_congr {f g : Nat → Nat} : ∀ n, (∀ i, i < n → f i = g i) → sm f n = sm g n := by
  intro n
  induction n with
  | zero => exact fun _ => rfl
  | succ n ih =>
    intro h
    show sm f n + f n = sm g n + g n
    rw [ih (fun i hi => h i (by omega)), h n (by omega)]
theorem sm_add (f g : Nat → Nat) : ∀ n, sm (fun i => f i + g i) n = sm f n + sm g n := by
  intro n
  induction n with
  | zero => rfl
  | succ n ih =>
    show sm (fun i => f i + g i) n + (f n + g n) = (sm f n + f n) + (sm g n + g n)
    rw [ih]
    omega
theorem sm_zero : ∀ n, sm (fun _ => 0) n = 0 := by
  intro n
  induction n with
  | zero => rfl
  | succ n ih => exact ih
theorem sm_one (m v : Nat) : ∀ n, sm (fun i => if i = m then v else 0) n = if m < n then v else 0 := by
  intro n
  induction n with
  | zero => rfl
  | succ n ih =>
    show sm (fun i => if i = m then v else 0) n + (if n = m then v else 0) = _
    rw [ih]
    by_cases e : n = m
    · subst e
      simp
    · by_cases e2 : m < n
      · have e3 : m < n + 1 := by omega
        simp [e, e2, e3]
      · have e3 : ¬ m < n + 1 := by omega
        simp [e, e2, e3]
/-- packets counted class by class -/
theorem sm_pk (w : Nat × Int32 × Nat → Nat) (u : Nat → Bool) : ∀ (L : List (Nat × Int32 × Nat)), (∀ p ∈ L, p.1 < 64) → sm (fun i => if u i = true then ((L.filter (fun p => p.1 == i)).map w).sum else 0) 64 = ((L.filter (fun p => u p.1)).map w).sum := by
  intro L
  induction L with
  | nil =>
    intro _
    have e : ∀ i, (if u i = true then ((([] : List (Nat × Int32 × Nat)).filter (fun p => p.1 == i)).map w).sum else 0) = 0 := fun i => by split <;> rfl
    simp only [e]
    exact sm_zero 64
  | cons p L ih =>
    intro h
    have h1 := h p List.mem_cons_self
    have h2 := ih (fun q hq => h q (List.mem_cons_of_mem _ hq))
    have e : ∀ i, (if u i = true then (((p :: L).filter (fun p => p.1 == i)).map w).sum else 0) = (if u i = true then ((L.filter (fun p => p.1 == i)).map w).sum else 0) + (if i = p.1 then (if u p.1 = true then w p else 0) else 0) := by
      intro i
      rw [List.filter_cons]
      by_cases e1 : i = p.1
      · subst e1
        cases u p.1 with
        | false => simp
        | true => simp; omega
      · have e2 : (p.1 == i) = false := by simp; exact fun q => e1 q.symm
        rw [e2, if_neg e1]
        rfl
    simp only [e]
    rw [sm_add, h2, sm_one, if_pos h1, List.filter_cons]
    cases u p.1 with
    | false => rfl
    | true => simp; omega
theorem sum_1 {α : Type} : ∀ (l : List α), (l.map (fun _ => 1)).sum = l.length := by
  intro l
  induction l with
  | nil => rfl
  | cons a l ih => simp [ih]; omega
theorem sum_le {b : Nat} : ∀ (l : List Nat), (∀ x ∈ l, x ≤ b) → l.sum ≤ b * l.length := by
  intro l
  induction l with
  | nil => intro _; simp
  | cons a l ih =>
    intro h
    have h1 := h a List.mem_cons_self
    have h2 := ih (fun x hx => h x (List.mem_cons_of_mem _ hx))
    rw [List.sum_cons, List.length_cons, Nat.mul_succ]
    omega
/-- the packets, and the bytes, of a class -/
def ownC (M : ab_T) (i : Nat) : Nat := (own M i).length
def ownY (M : ab_T) (i : Nat) : Nat := ((own M i).map (fun p => p.2.2)).sum
theorem ownY_le {M : ab_T} (hw : wfS M) (hl : (pks M).length ≤ 2000) (i : Nat) : ownY M i ≤ 4000000 := by
  have h1 : ownY M i ≤ 2000 * ((own M i).map (fun p => p.2.2)).length := sum_le _ (fun x hx => by
    obtain ⟨p, hp, rfl⟩ := List.mem_map.mp hx
    exact (hw.2.2.2 p (List.mem_filter.mp hp).1).2.2.2.2.2)
  rw [List.length_map] at h1
  have := own_le hl i
  have : 2000 * (own M i).length ≤ 2000 * 2000 := Nat.mul_le_mul_left _ this
  omega
noncomputable def inC (M : ab_T) (j i : Nat) : Nat := if undB M i j = true then ownC M i else 0
noncomputable def inY (M : ab_T) (j i : Nat) : Nat := if undB M i j = true then ownY M i else 0
theorem inC_all {M : ab_T} (hw : wfS M) (j : Nat) : sm (inC M j) 64 = uc M j (pks M).length := by
  have h := sm_pk (fun _ => 1) (fun i => undB M i j) (pks M) (fun p hp => (hw.2.2.2 p hp).1)
  simp only [sum_1] at h
  unfold uc
  rw [List.take_length, List.countP_eq_length_filter]
  exact h
theorem inY_all {M : ab_T} (hw : wfS M) (j : Nat) : sm (inY M j) 64 = uy M j (pks M).length := by
  have h := sm_pk (fun p => p.2.2) (fun i => undB M i j) (pks M) (fun p hp => (hw.2.2.2 p hp).1)
  unfold uy
  rw [List.take_length]
  exact h
theorem ud_nI {M : ab_T} {i j : Nat} (h : undB M i j = true) : i < 64 ∧ ¬ pa M i = 65 := by
  obtain ⟨us, h1, h2⟩ := undB_iff.mp h
  cases us with
  | nil => cases h2
  | cons u us =>
    have := upl_in (u :: us) i h1 u List.mem_cons_self
    rw [h1.1]
    exact this
/-- classInside, over the state -/
theorem ct_inside (l : Launch) (G : hp_G) (S : hp_T) (x0 : Nat) (Z : cd_T) (M : ab_T) (nb : Nat → Nat) (i j : Nat) (h : RepN S x0 Z M nb) (hw : wfS M) (hi : i < 64) (hj : j < 64) (hpj : ¬ pa M j = 65) : hp_Met l G yX3_classInside cX3_classInside 4 (some (.object "TurnTree$Node")) rm_s [.inr (.inr (some x0)), .inl (nI i), .inr (.inr (some (dna Z j)))] S (fun v S' => S = S' ∧ v = some (.inr (.inr (if undB M i j = true then some (dna Z i) else none)))) := by
  by_cases g : pa M i = 65
  · have e1 : hp_R S (dca Z) i = none := by rw [tc_at h.1 hi, if_pos g]
    refine hp_Met.mono (mt_classInside l G S x0 (dca Z) (dna Z j) i [] (tk_ok h.1) hi (fun a q => by rw [e1] at q; cases q)) (fun v S' hv => ?_)
    obtain ⟨rfl, rfl⟩ := hv
    have e2 : ¬ undB M i j = true := fun q => (ud_nI q).2 g
    rw [e1, if_neg e2]
    exact ⟨rfl, rfl⟩
  · obtain ⟨us, hus, hin⟩ := upl_ex hw i hi g
    have e1 : hp_R S (dca Z) i = some (dna Z i) := by rw [tc_at h.1 hi, if_neg g]
    refine hp_Met.mono (mt_classInside l G S x0 (dca Z) (dna Z j) i (us.map (dna Z)) (tk_ok h.1) hi (fun a q => by
      rw [e1] at q
      cases q
      exact ⟨upl_lk h us i hus hi, fun x hx => (upl_nd h hus x hx).1⟩)) (fun v S' hv => ?_)
    obtain ⟨rfl, rfl⟩ := hv
    rw [e1]
    have e2 : dna Z j ∈ us.map (dna Z) ↔ undB M i j = true := by
      rw [undB_iff]
      constructor
      · intro q
        obtain ⟨u, u1, u2⟩ := List.mem_map.mp q
        have hu := hin u u1
        have e3 := na_inj (h.2.1 u hu.1 hu.2).1 (h.2.1 j hj hpj).1 hu.1 hj u2
        exact ⟨us, hus, by rw [← e3]; exact u1⟩
      · rintro ⟨vs, q1, q2⟩
        rw [← upl_un us vs i hus q1] at q2
        exact List.mem_map.mpr ⟨j, q2, rfl⟩
    simp only [e2]
    exact ⟨trivial, trivial⟩
def rm_v : Room := { frames := 2, cells := 0, slots := 0, locals := 48 }
theorem rm_vc : rm_v.cells = 0 := rfl
theorem rm_vs : rm_v.slots = 0 := rfl
set_option maxRecDepth 20000 in
set_option maxHeartbeats 4000000 in
theorem ct_packetsInside (l : Launch) (G : hp_G) (S : hp_T) (x0 : Nat) (Z : cd_T) (M : ab_T) (nb : Nat → Nat) (j : Nat) (h : RepN S x0 Z M nb) (hw : wfS M) (hj : j < 64) (hpj : ¬ pa M j = 65) : hp_Met l G yX3_packetsInside cX3_packetsInside 5 (some .int) rm_v [.inr (.inr (some x0)), .inr (.inr (some (dna Z j)))] S (fun v S' => S = S' ∧ v = some (.inl (nI (uc M j (pks M).length)))) := by
  have kx := h.1.1
  refine hp_Met.of (o := 3) (by decide) rfl (by show 2 ≤ 5; decide) (fun X C D => ?_)
  have loop : ∀ (d i : Nat) (L : hp_LL), i + d = 64 → (∀ q ∈ [(0, (.inr (.inr (some x0)) : hp_hv)), (1, .inr (.inr (some (dna Z j)))), (2, .inl (nI (sm (inC M j) i))), (3, .inl (nI i))], q ∈ L) → hp_V X 5 4 L [] S 0 0 := by
    intro d
    induction d with
    | zero =>
      intro i L hi hL
      refine hp_sub hL ?_
      have e : i = 64 := by omega
      subst e
      have g : (64 : Int32) ≤ nI 64 := by decide
      refine hp_run1 C [4] 60 dX3_packetsInside_4 ?_
      simp only [or_true, or_false, true_or, false_or, or_self, hp_wp0, hp_wpS, eq_self, true_and, and_true, false_and, and_false, if_true, if_false, Bool.false_eq_true, Bool.or_false, Bool.or_true, Bool.true_or, Bool.false_or, ite_true, ite_false, ↓reduceIte, reduceCtorEq, Nat.reduceBEq, Nat.reduceAdd, Nat.reduceEqDiff, Nat.reduceLT, Nat.reduceLeDiff, Int.reduceAdd, Int.reduceToNat, Int.reduceLE, Int.reduceNeg, Int.cast_ofNat_Int, Nat.zero_add, Option.some.injEq, exists_eq_left', exists_eq_left, not_true_eq_false, not_false_eq_true, false_implies, true_implies, forall_const, implies_true, List.cons_append, List.nil_append, Nat.le_refl, Nat.zero_le, hp_K_sI, hp_K_sJ, hp_K_sR, hp_N_sI, hp_N_sJ, hp_N_sR, hp_I_sI, hp_I_sJ, hp_I_sR, hp_J_sI, hp_J_sJ, hp_J_sR, hp_R_sI, hp_R_sJ, hp_R_sR, hr_iconst, hr_bipush, hr_iload_n, hr_istore_n, hr_aload_n, hr_aload, hr_astore, hr_iinc, hr_iadd, hr_if_icmp_ge, hr_ifnonnull, hr_goto, hr_getfield, hr_ireturn, hr_invokevirtual, hz_i1, hz_i2, hz_l1, hz_l2, hz_r1, hz_r2, hz_ia, hz_via, hz_vr, hz_ld0, hz_ld1, hz_ld2, hz_s0, hz_s1, hz_s2, hz_g0, hz_g1, hz_d0, hz_d1, hz_d3, hz_d2, hz_t0, hz_t1, hz_t3, hz_t2, hz_c0, hz_c1, hz_rti, hz_rtl, hz_rta, hz_rtv, hz_br, hz_fh0, hz_fh1, hz_fh2, hz_fh3, hz_ft0, hz_ft1, hz_ft2, hz_ft3, hz_sF0, hz_sF1, hz_sF2, hz_lg0, hz_lg1, hz_lg2, hz_f0, hz_f1, hz_f2, hz_f3, hz_k0, hz_k1, hz_rm, hz_ok0, hz_ok1, hz_ok2, hz_ok3, hz_ok4, hz_l0, hz_l1c, hz_ar0, hz_ar1, ht_0_0, hn_0_0, ht_0_1, hn_0_1, ht_0_2, hn_0_2, ht_0_3, hn_0_3, hnf_0, ht_1_0, hn_1_0, ht_1_1, hn_1_1, ht_1_2, hn_1_2, ht_1_3, hn_1_3, ht_1_4, hn_1_4, ht_1_5, hn_1_5, ht_1_6, hn_1_6, ht_1_7, hn_1_7, ht_1_8, hn_1_8, ht_1_9, hn_1_9, ht_1_10, hn_1_10, ht_1_11, hn_1_11, ht_1_12, hn_1_12, ht_1_13, hn_1_13, hnf_1, ht_2_0, hn_2_0, ht_2_1, hn_2_1, ht_2_2, hn_2_2, hnf_2, ht_3_0, hn_3_0, ht_3_1, hn_3_1, ht_3_2, hn_3_2, ht_3_3, hn_3_3, ht_3_4, hn_3_4, ht_3_5, hn_3_5, ht_3_6, hn_3_6, ht_3_7, hn_3_7, ht_3_8, hn_3_8, ht_3_9, hn_3_9, ht_3_10, hn_3_10, hnf_3, ht_4_0, hn_4_0, ht_4_1, hn_4_1, ht_4_2, hn_4_2, ht_4_3, hn_4_3, ht_4_4, hn_4_4, ht_4_5, hn_4_5, ht_4_6, hn_4_6, ht_4_7, hn_4_7, ht_4_8, hn_4_8, ht_4_9, hn_4_9, ht_4_10, hn_4_10, ht_4_11, hn_4_11, ht_4_12, hn_4_12, ht_4_13, hn_4_13, ht_4_14, hn_4_14, ht_4_15, hn_4_15, ht_4_16, hn_4_16, ht_4_17, hn_4_17, ht_4_18, hn_4_18, ht_4_19, hn_4_19, hnf_4, hc_im1, hc_i0, hc_i1, hc_i2, hc_i3, hc_i4, hc_i5, hc_bm2, hc_b6, hc_b7, hc_b15, hc_b64, hc_s500, hc_s1000, hc_s2000, hw_10, hw_01, hp_F_3_43, hp_F_3_47, dX3_packetsInside_0, dX3_packetsInside_1, dX3_packetsInside_2, dX3_packetsInside_3, dX3_packetsInside_4, dX3_packetsInside_5, dX3_packetsInside_7, dX3_packetsInside_10, dX3_packetsInside_11, dX3_packetsInside_12, dX3_packetsInside_13, dX3_packetsInside_16, dX3_packetsInside_18, dX3_packetsInside_19, dX3_packetsInside_21, dX3_packetsInside_24, dX3_packetsInside_25, dX3_packetsInside_28, dX3_packetsInside_30, dX3_packetsInside_33, dX3_packetsInside_36, dX3_packetsInside_37, dX3_packetsInside_38, dX3_packetsInside_41, dX3_packetsInside_44, dX3_packetsInside_45, rm_vc, rm_vs, g, hw_20, hw_30, hw_40, hx_0, hx_1, hx_2, hx_3, hx_4, hy_00, hy_10]
      rw [inC_all hw]
    | succ d ih =>
      intro i L hi hL
      refine hp_sub hL ?_
      have hil : i < 64 := by omega
      have g : ¬ (64 : Int32) ≤ nI i := nI_ge (b := 64) hil (by decide)
      refine hp_run1 C [4] 60 dX3_packetsInside_4 ?_
      simp only [or_true, or_false, true_or, false_or, or_self, hp_wp0, hp_wpS, eq_self, true_and, and_true, false_and, and_false, if_true, if_false, Bool.false_eq_true, Bool.or_false, Bool.or_true, Bool.true_or, Bool.false_or, ite_true, ite_false, ↓reduceIte, reduceCtorEq, Nat.reduceBEq, Nat.reduceAdd, Nat.reduceEqDiff, Nat.reduceLT, Nat.reduceLeDiff, Int.reduceAdd, Int.reduceToNat, Int.reduceLE, Int.reduceNeg, Int.cast_ofNat_Int, Nat.zero_add, Option.some.injEq, exists_eq_left', exists_eq_left, not_true_eq_false, not_false_eq_true, false_implies, true_implies, forall_const, implies_true, List.cons_append, List.nil_append, Nat.le_refl, Nat.zero_le, hp_K_sI, hp_K_sJ, hp_K_sR, hp_N_sI, hp_N_sJ, hp_N_sR, hp_I_sI, hp_I_sJ, hp_I_sR, hp_J_sI, hp_J_sJ, hp_J_sR, hp_R_sI, hp_R_sJ, hp_R_sR, hr_iconst, hr_bipush, hr_iload_n, hr_istore_n, hr_aload_n, hr_aload, hr_astore, hr_iinc, hr_iadd, hr_if_icmp_ge, hr_ifnonnull, hr_goto, hr_getfield, hr_ireturn, hr_invokevirtual, hz_i1, hz_i2, hz_l1, hz_l2, hz_r1, hz_r2, hz_ia, hz_via, hz_vr, hz_ld0, hz_ld1, hz_ld2, hz_s0, hz_s1, hz_s2, hz_g0, hz_g1, hz_d0, hz_d1, hz_d3, hz_d2, hz_t0, hz_t1, hz_t3, hz_t2, hz_c0, hz_c1, hz_rti, hz_rtl, hz_rta, hz_rtv, hz_br, hz_fh0, hz_fh1, hz_fh2, hz_fh3, hz_ft0, hz_ft1, hz_ft2, hz_ft3, hz_sF0, hz_sF1, hz_sF2, hz_lg0, hz_lg1, hz_lg2, hz_f0, hz_f1, hz_f2, hz_f3, hz_k0, hz_k1, hz_rm, hz_ok0, hz_ok1, hz_ok2, hz_ok3, hz_ok4, hz_l0, hz_l1c, hz_ar0, hz_ar1, ht_0_0, hn_0_0, ht_0_1, hn_0_1, ht_0_2, hn_0_2, ht_0_3, hn_0_3, hnf_0, ht_1_0, hn_1_0, ht_1_1, hn_1_1, ht_1_2, hn_1_2, ht_1_3, hn_1_3, ht_1_4, hn_1_4, ht_1_5, hn_1_5, ht_1_6, hn_1_6, ht_1_7, hn_1_7, ht_1_8, hn_1_8, ht_1_9, hn_1_9, ht_1_10, hn_1_10, ht_1_11, hn_1_11, ht_1_12, hn_1_12, ht_1_13, hn_1_13, hnf_1, ht_2_0, hn_2_0, ht_2_1, hn_2_1, ht_2_2, hn_2_2, hnf_2, ht_3_0, hn_3_0, ht_3_1, hn_3_1, ht_3_2, hn_3_2, ht_3_3, hn_3_3, ht_3_4, hn_3_4, ht_3_5, hn_3_5, ht_3_6, hn_3_6, ht_3_7, hn_3_7, ht_3_8, hn_3_8, ht_3_9, hn_3_9, ht_3_10, hn_3_10, hnf_3, ht_4_0, hn_4_0, ht_4_1, hn_4_1, ht_4_2, hn_4_2, ht_4_3, hn_4_3, ht_4_4, hn_4_4, ht_4_5, hn_4_5, ht_4_6, hn_4_6, ht_4_7, hn_4_7, ht_4_8, hn_4_8, ht_4_9, hn_4_9, ht_4_10, hn_4_10, ht_4_11, hn_4_11, ht_4_12, hn_4_12, ht_4_13, hn_4_13, ht_4_14, hn_4_14, ht_4_15, hn_4_15, ht_4_16, hn_4_16, ht_4_17, hn_4_17, ht_4_18, hn_4_18, ht_4_19, hn_4_19, hnf_4, hc_im1, hc_i0, hc_i1, hc_i2, hc_i3, hc_i4, hc_i5, hc_bm2, hc_b6, hc_b7, hc_b15, hc_b64, hc_s500, hc_s1000, hc_s2000, hw_10, hw_01, hp_F_3_43, hp_F_3_47, dX3_packetsInside_0, dX3_packetsInside_1, dX3_packetsInside_2, dX3_packetsInside_3, dX3_packetsInside_4, dX3_packetsInside_5, dX3_packetsInside_7, dX3_packetsInside_10, dX3_packetsInside_11, dX3_packetsInside_12, dX3_packetsInside_13, dX3_packetsInside_16, dX3_packetsInside_18, dX3_packetsInside_19, dX3_packetsInside_21, dX3_packetsInside_24, dX3_packetsInside_25, dX3_packetsInside_28, dX3_packetsInside_30, dX3_packetsInside_33, dX3_packetsInside_36, dX3_packetsInside_37, dX3_packetsInside_38, dX3_packetsInside_41, dX3_packetsInside_44, dX3_packetsInside_45, rm_vc, rm_vs, g, hw_20, hw_30, hw_40, hx_0, hx_1, hx_2, hx_3, hx_4, hy_00, hy_10]
      refine hp_callV (as := [.inl (nI i), .inr (.inr (some (dna Z j)))]) (rest := []) C D dX3_packetsInside_13 kV_3_129 (ct_inside l G S x0 Z M nb i j h hw hil hj hpj) kx (by decide) rfl ⟨⟨by decide, by decide⟩, ⟨by decide, by decide⟩, by decide⟩ (fun v S' hv => ?_)
      obtain ⟨rfl, rfl⟩ := hv
      refine hp_run C [4] 60 _ _ _ _ ?_
      have eS : sm (inC M j) (i + 1) = sm (inC M j) i + inC M j i := rfl
      have ih2 := fun L => ih (i + 1) L (by omega)
      rw [eS] at ih2
      by_cases g2 : undB M i j = true
      · obtain ⟨-, hpi⟩ := ud_nI g2
        obtain ⟨a1, a2⟩ := h.2.1 i hil hpi
        have k1 := a1.1
        have r2 := a1.2.2.2.1
        have kl := a2.1
        have l2 := a2.2.2.2.1
        have e2 : inC M j i = (own M i).length := by unfold inC; rw [if_pos g2]; rfl
        rw [e2] at ih2
        simp only [or_true, or_false, true_or, false_or, or_self, hp_wp0, hp_wpS, eq_self, true_and, and_true, false_and, and_false, if_true, if_false, Bool.false_eq_true, Bool.or_false, Bool.or_true, Bool.true_or, Bool.false_or, ite_true, ite_false, ↓reduceIte, reduceCtorEq, Nat.reduceBEq, Nat.reduceAdd, Nat.reduceEqDiff, Nat.reduceLT, Nat.reduceLeDiff, Int.reduceAdd, Int.reduceToNat, Int.reduceLE, Int.reduceNeg, Int.cast_ofNat_Int, Nat.zero_add, Option.some.injEq, exists_eq_left', exists_eq_left, not_true_eq_false, not_false_eq_true, false_implies, true_implies, forall_const, implies_true, List.cons_append, List.nil_append, Nat.le_refl, Nat.zero_le, hp_K_sI, hp_K_sJ, hp_K_sR, hp_N_sI, hp_N_sJ, hp_N_sR, hp_I_sI, hp_I_sJ, hp_I_sR, hp_J_sI, hp_J_sJ, hp_J_sR, hp_R_sI, hp_R_sJ, hp_R_sR, hr_iconst, hr_bipush, hr_iload_n, hr_istore_n, hr_aload_n, hr_aload, hr_astore, hr_iinc, hr_iadd, hr_if_icmp_ge, hr_ifnonnull, hr_goto, hr_getfield, hr_ireturn, hr_invokevirtual, hz_i1, hz_i2, hz_l1, hz_l2, hz_r1, hz_r2, hz_ia, hz_via, hz_vr, hz_ld0, hz_ld1, hz_ld2, hz_s0, hz_s1, hz_s2, hz_g0, hz_g1, hz_d0, hz_d1, hz_d3, hz_d2, hz_t0, hz_t1, hz_t3, hz_t2, hz_c0, hz_c1, hz_rti, hz_rtl, hz_rta, hz_rtv, hz_br, hz_fh0, hz_fh1, hz_fh2, hz_fh3, hz_ft0, hz_ft1, hz_ft2, hz_ft3, hz_sF0, hz_sF1, hz_sF2, hz_lg0, hz_lg1, hz_lg2, hz_f0, hz_f1, hz_f2, hz_f3, hz_k0, hz_k1, hz_rm, hz_ok0, hz_ok1, hz_ok2, hz_ok3, hz_ok4, hz_l0, hz_l1c, hz_ar0, hz_ar1, ht_0_0, hn_0_0, ht_0_1, hn_0_1, ht_0_2, hn_0_2, ht_0_3, hn_0_3, hnf_0, ht_1_0, hn_1_0, ht_1_1, hn_1_1, ht_1_2, hn_1_2, ht_1_3, hn_1_3, ht_1_4, hn_1_4, ht_1_5, hn_1_5, ht_1_6, hn_1_6, ht_1_7, hn_1_7, ht_1_8, hn_1_8, ht_1_9, hn_1_9, ht_1_10, hn_1_10, ht_1_11, hn_1_11, ht_1_12, hn_1_12, ht_1_13, hn_1_13, hnf_1, ht_2_0, hn_2_0, ht_2_1, hn_2_1, ht_2_2, hn_2_2, hnf_2, ht_3_0, hn_3_0, ht_3_1, hn_3_1, ht_3_2, hn_3_2, ht_3_3, hn_3_3, ht_3_4, hn_3_4, ht_3_5, hn_3_5, ht_3_6, hn_3_6, ht_3_7, hn_3_7, ht_3_8, hn_3_8, ht_3_9, hn_3_9, ht_3_10, hn_3_10, hnf_3, ht_4_0, hn_4_0, ht_4_1, hn_4_1, ht_4_2, hn_4_2, ht_4_3, hn_4_3, ht_4_4, hn_4_4, ht_4_5, hn_4_5, ht_4_6, hn_4_6, ht_4_7, hn_4_7, ht_4_8, hn_4_8, ht_4_9, hn_4_9, ht_4_10, hn_4_10, ht_4_11, hn_4_11, ht_4_12, hn_4_12, ht_4_13, hn_4_13, ht_4_14, hn_4_14, ht_4_15, hn_4_15, ht_4_16, hn_4_16, ht_4_17, hn_4_17, ht_4_18, hn_4_18, ht_4_19, hn_4_19, hnf_4, hc_im1, hc_i0, hc_i1, hc_i2, hc_i3, hc_i4, hc_i5, hc_bm2, hc_b6, hc_b7, hc_b15, hc_b64, hc_s500, hc_s1000, hc_s2000, hw_10, hw_01, hp_F_3_43, hp_F_3_47, dX3_packetsInside_0, dX3_packetsInside_1, dX3_packetsInside_2, dX3_packetsInside_3, dX3_packetsInside_4, dX3_packetsInside_5, dX3_packetsInside_7, dX3_packetsInside_10, dX3_packetsInside_11, dX3_packetsInside_12, dX3_packetsInside_13, dX3_packetsInside_16, dX3_packetsInside_18, dX3_packetsInside_19, dX3_packetsInside_21, dX3_packetsInside_24, dX3_packetsInside_25, dX3_packetsInside_28, dX3_packetsInside_30, dX3_packetsInside_33, dX3_packetsInside_36, dX3_packetsInside_37, dX3_packetsInside_38, dX3_packetsInside_41, dX3_packetsInside_44, dX3_packetsInside_45, rm_vc, rm_vs, rm_sc, rm_ss, g2, k1, r2, kl, l2, nI_add, nI_1, Option.toList_some, List.singleton_append, hw_20, hw_30, hw_40, hx_0, hx_1, hx_2, hx_3, hx_4, hy_00, hy_10]
        exact ih2 _ (by simp)
      · have e2 : inC M j i = 0 := by unfold inC; rw [if_neg g2]
        rw [e2, Nat.add_zero] at ih2
        simp only [or_true, or_false, true_or, false_or, or_self, hp_wp0, hp_wpS, eq_self, true_and, and_true, false_and, and_false, if_true, if_false, Bool.false_eq_true, Bool.or_false, Bool.or_true, Bool.true_or, Bool.false_or, ite_true, ite_false, ↓reduceIte, reduceCtorEq, Nat.reduceBEq, Nat.reduceAdd, Nat.reduceEqDiff, Nat.reduceLT, Nat.reduceLeDiff, Int.reduceAdd, Int.reduceToNat, Int.reduceLE, Int.reduceNeg, Int.cast_ofNat_Int, Nat.zero_add, Option.some.injEq, exists_eq_left', exists_eq_left, not_true_eq_false, not_false_eq_true, false_implies, true_implies, forall_const, implies_true, List.cons_append, List.nil_append, Nat.le_refl, Nat.zero_le, hp_K_sI, hp_K_sJ, hp_K_sR, hp_N_sI, hp_N_sJ, hp_N_sR, hp_I_sI, hp_I_sJ, hp_I_sR, hp_J_sI, hp_J_sJ, hp_J_sR, hp_R_sI, hp_R_sJ, hp_R_sR, hr_iconst, hr_bipush, hr_iload_n, hr_istore_n, hr_aload_n, hr_aload, hr_astore, hr_iinc, hr_iadd, hr_if_icmp_ge, hr_ifnonnull, hr_goto, hr_getfield, hr_ireturn, hr_invokevirtual, hz_i1, hz_i2, hz_l1, hz_l2, hz_r1, hz_r2, hz_ia, hz_via, hz_vr, hz_ld0, hz_ld1, hz_ld2, hz_s0, hz_s1, hz_s2, hz_g0, hz_g1, hz_d0, hz_d1, hz_d3, hz_d2, hz_t0, hz_t1, hz_t3, hz_t2, hz_c0, hz_c1, hz_rti, hz_rtl, hz_rta, hz_rtv, hz_br, hz_fh0, hz_fh1, hz_fh2, hz_fh3, hz_ft0, hz_ft1, hz_ft2, hz_ft3, hz_sF0, hz_sF1, hz_sF2, hz_lg0, hz_lg1, hz_lg2, hz_f0, hz_f1, hz_f2, hz_f3, hz_k0, hz_k1, hz_rm, hz_ok0, hz_ok1, hz_ok2, hz_ok3, hz_ok4, hz_l0, hz_l1c, hz_ar0, hz_ar1, ht_0_0, hn_0_0, ht_0_1, hn_0_1, ht_0_2, hn_0_2, ht_0_3, hn_0_3, hnf_0, ht_1_0, hn_1_0, ht_1_1, hn_1_1, ht_1_2, hn_1_2, ht_1_3, hn_1_3, ht_1_4, hn_1_4, ht_1_5, hn_1_5, ht_1_6, hn_1_6, ht_1_7, hn_1_7, ht_1_8, hn_1_8, ht_1_9, hn_1_9, ht_1_10, hn_1_10, ht_1_11, hn_1_11, ht_1_12, hn_1_12, ht_1_13, hn_1_13, hnf_1, ht_2_0, hn_2_0, ht_2_1, hn_2_1, ht_2_2, hn_2_2, hnf_2, ht_3_0, hn_3_0, ht_3_1, hn_3_1, ht_3_2, hn_3_2, ht_3_3, hn_3_3, ht_3_4, hn_3_4, ht_3_5, hn_3_5, ht_3_6, hn_3_6, ht_3_7, hn_3_7, ht_3_8, hn_3_8, ht_3_9, hn_3_9, ht_3_10, hn_3_10, hnf_3, ht_4_0, hn_4_0, ht_4_1, hn_4_1, ht_4_2, hn_4_2, ht_4_3, hn_4_3, ht_4_4, hn_4_4, ht_4_5, hn_4_5, ht_4_6, hn_4_6, ht_4_7, hn_4_7, ht_4_8, hn_4_8, ht_4_9, hn_4_9, ht_4_10, hn_4_10, ht_4_11, hn_4_11, ht_4_12, hn_4_12, ht_4_13, hn_4_13, ht_4_14, hn_4_14, ht_4_15, hn_4_15, ht_4_16, hn_4_16, ht_4_17, hn_4_17, ht_4_18, hn_4_18, ht_4_19, hn_4_19, hnf_4, hc_im1, hc_i0, hc_i1, hc_i2, hc_i3, hc_i4, hc_i5, hc_bm2, hc_b6, hc_b7, hc_b15, hc_b64, hc_s500, hc_s1000, hc_s2000, hw_10, hw_01, hp_F_3_43, hp_F_3_47, dX3_packetsInside_0, dX3_packetsInside_1, dX3_packetsInside_2, dX3_packetsInside_3, dX3_packetsInside_4, dX3_packetsInside_5, dX3_packetsInside_7, dX3_packetsInside_10, dX3_packetsInside_11, dX3_packetsInside_12, dX3_packetsInside_13, dX3_packetsInside_16, dX3_packetsInside_18, dX3_packetsInside_19, dX3_packetsInside_21, dX3_packetsInside_24, dX3_packetsInside_25, dX3_packetsInside_28, dX3_packetsInside_30, dX3_packetsInside_33, dX3_packetsInside_36, dX3_packetsInside_37, dX3_packetsInside_38, dX3_packetsInside_41, dX3_packetsInside_44, dX3_packetsInside_45, rm_vc, rm_vs, rm_sc, rm_ss, g2, nI_1, Int32.add_zero, Option.toList_some, List.singleton_append, hw_20, hw_30, hw_40, hx_0, hx_1, hx_2, hx_3, hx_4, hy_00, hy_10]
        exact ih2 _ (by simp)
  refine hp_run C [4] 60 _ _ _ _ ?_
  simp only [or_true, or_false, true_or, false_or, or_self, hp_wp0, hp_wpS, eq_self, true_and, and_true, false_and, and_false, if_true, if_false, Bool.false_eq_true, Bool.or_false, Bool.or_true, Bool.true_or, Bool.false_or, ite_true, ite_false, ↓reduceIte, reduceCtorEq, Nat.reduceBEq, Nat.reduceAdd, Nat.reduceEqDiff, Nat.reduceLT, Nat.reduceLeDiff, Int.reduceAdd, Int.reduceToNat, Int.reduceLE, Int.reduceNeg, Int.cast_ofNat_Int, Nat.zero_add, Option.some.injEq, exists_eq_left', exists_eq_left, not_true_eq_false, not_false_eq_true, false_implies, true_implies, forall_const, implies_true, List.cons_append, List.nil_append, Nat.le_refl, Nat.zero_le, hp_K_sI, hp_K_sJ, hp_K_sR, hp_N_sI, hp_N_sJ, hp_N_sR, hp_I_sI, hp_I_sJ, hp_I_sR, hp_J_sI, hp_J_sJ, hp_J_sR, hp_R_sI, hp_R_sJ, hp_R_sR, hr_iconst, hr_bipush, hr_iload_n, hr_istore_n, hr_aload_n, hr_aload, hr_astore, hr_iinc, hr_iadd, hr_if_icmp_ge, hr_ifnonnull, hr_goto, hr_getfield, hr_ireturn, hr_invokevirtual, hz_i1, hz_i2, hz_l1, hz_l2, hz_r1, hz_r2, hz_ia, hz_via, hz_vr, hz_ld0, hz_ld1, hz_ld2, hz_s0, hz_s1, hz_s2, hz_g0, hz_g1, hz_d0, hz_d1, hz_d3, hz_d2, hz_t0, hz_t1, hz_t3, hz_t2, hz_c0, hz_c1, hz_rti, hz_rtl, hz_rta, hz_rtv, hz_br, hz_fh0, hz_fh1, hz_fh2, hz_fh3, hz_ft0, hz_ft1, hz_ft2, hz_ft3, hz_sF0, hz_sF1, hz_sF2, hz_lg0, hz_lg1, hz_lg2, hz_f0, hz_f1, hz_f2, hz_f3, hz_k0, hz_k1, hz_rm, hz_ok0, hz_ok1, hz_ok2, hz_ok3, hz_ok4, hz_l0, hz_l1c, hz_ar0, hz_ar1, ht_0_0, hn_0_0, ht_0_1, hn_0_1, ht_0_2, hn_0_2, ht_0_3, hn_0_3, hnf_0, ht_1_0, hn_1_0, ht_1_1, hn_1_1, ht_1_2, hn_1_2, ht_1_3, hn_1_3, ht_1_4, hn_1_4, ht_1_5, hn_1_5, ht_1_6, hn_1_6, ht_1_7, hn_1_7, ht_1_8, hn_1_8, ht_1_9, hn_1_9, ht_1_10, hn_1_10, ht_1_11, hn_1_11, ht_1_12, hn_1_12, ht_1_13, hn_1_13, hnf_1, ht_2_0, hn_2_0, ht_2_1, hn_2_1, ht_2_2, hn_2_2, hnf_2, ht_3_0, hn_3_0, ht_3_1, hn_3_1, ht_3_2, hn_3_2, ht_3_3, hn_3_3, ht_3_4, hn_3_4, ht_3_5, hn_3_5, ht_3_6, hn_3_6, ht_3_7, hn_3_7, ht_3_8, hn_3_8, ht_3_9, hn_3_9, ht_3_10, hn_3_10, hnf_3, ht_4_0, hn_4_0, ht_4_1, hn_4_1, ht_4_2, hn_4_2, ht_4_3, hn_4_3, ht_4_4, hn_4_4, ht_4_5, hn_4_5, ht_4_6, hn_4_6, ht_4_7, hn_4_7, ht_4_8, hn_4_8, ht_4_9, hn_4_9, ht_4_10, hn_4_10, ht_4_11, hn_4_11, ht_4_12, hn_4_12, ht_4_13, hn_4_13, ht_4_14, hn_4_14, ht_4_15, hn_4_15, ht_4_16, hn_4_16, ht_4_17, hn_4_17, ht_4_18, hn_4_18, ht_4_19, hn_4_19, hnf_4, hc_im1, hc_i0, hc_i1, hc_i2, hc_i3, hc_i4, hc_i5, hc_bm2, hc_b6, hc_b7, hc_b15, hc_b64, hc_s500, hc_s1000, hc_s2000, hw_10, hw_01, hp_F_3_43, hp_F_3_47, dX3_packetsInside_0, dX3_packetsInside_1, dX3_packetsInside_2, dX3_packetsInside_3, dX3_packetsInside_4, dX3_packetsInside_5, dX3_packetsInside_7, dX3_packetsInside_10, dX3_packetsInside_11, dX3_packetsInside_12, dX3_packetsInside_13, dX3_packetsInside_16, dX3_packetsInside_18, dX3_packetsInside_19, dX3_packetsInside_21, dX3_packetsInside_24, dX3_packetsInside_25, dX3_packetsInside_28, dX3_packetsInside_30, dX3_packetsInside_33, dX3_packetsInside_36, dX3_packetsInside_37, dX3_packetsInside_38, dX3_packetsInside_41, dX3_packetsInside_44, dX3_packetsInside_45, rm_vc, rm_vs, hw_20, hw_30, hw_40, hx_0, hx_1, hx_2, hx_3, hx_4, hy_00, hy_10]
  exact loop 64 0 _ rfl (by simp [sm, nI_0])
set_option maxRecDepth 20000 in
set_option maxHeartbeats 4000000 in
theorem ct_bytesInside (l : Launch) (G : hp_G) (S : hp_T) (x0 : Nat) (Z : cd_T) (M : ab_T) (nb : Nat → Nat) (j : Nat) (h : RepN S x0 Z M nb) (hw : wfS M) (hj : j < 64) (hpj : ¬ pa M j = 65) : hp_Met l G yX3_bytesInside cX3_bytesInside 6 (some .long) rm_v [.inr (.inr (some x0)), .inr (.inr (some (dna Z j)))] S (fun v S' => S = S' ∧ v = some (.inr (.inl (lN (uy M j (pks M).length))))) := by
  have kx := h.1.1
  refine hp_Met.of (o := 3) (by decide) rfl (by show 2 ≤ 6; decide) (fun X C D => ?_)
  have loop : ∀ (d i : Nat) (L : hp_LL), i + d = 64 → (∀ q ∈ [(0, (.inr (.inr (some x0)) : hp_hv)), (1, .inr (.inr (some (dna Z j)))), (2, .inr (.inl (lN (sm (inY M j) i)))), (4, .inl (nI i))], q ∈ L) → hp_V X 6 5 L [] S 0 0 := by
    intro d
    induction d with
    | zero =>
      intro i L hi hL
      refine hp_sub hL ?_
      have e : i = 64 := by omega
      subst e
      have g : (64 : Int32) ≤ nI 64 := by decide
      refine hp_run1 C [5] 60 dX3_bytesInside_5 ?_
      simp only [or_true, or_false, true_or, false_or, or_self, hp_wp0, hp_wpS, eq_self, true_and, and_true, false_and, and_false, if_true, if_false, Bool.false_eq_true, Bool.or_false, Bool.or_true, Bool.true_or, Bool.false_or, ite_true, ite_false, ↓reduceIte, reduceCtorEq, Nat.reduceBEq, Nat.reduceAdd, Nat.reduceEqDiff, Nat.reduceLT, Nat.reduceLeDiff, Int.reduceAdd, Int.reduceToNat, Int.reduceLE, Int.reduceNeg, Int.cast_ofNat_Int, Nat.zero_add, Option.some.injEq, exists_eq_left', exists_eq_left, not_true_eq_false, not_false_eq_true, false_implies, true_implies, forall_const, implies_true, List.cons_append, List.nil_append, Nat.le_refl, Nat.zero_le, hp_K_sI, hp_K_sJ, hp_K_sR, hp_N_sI, hp_N_sJ, hp_N_sR, hp_I_sI, hp_I_sJ, hp_I_sR, hp_J_sI, hp_J_sJ, hp_J_sR, hp_R_sI, hp_R_sJ, hp_R_sR, hr_iconst, hr_bipush, hr_lconst, hr_iload, hr_istore, hr_lload_n, hr_lstore_n, hr_aload_n, hr_aload, hr_astore, hr_iinc, hr_ladd, hr_i2l, hr_if_icmp_ge, hr_ifnonnull, hr_goto, hr_getfield, hr_lreturn, hr_invokevirtual, hz_i1, hz_i2, hz_l1, hz_l2, hz_r1, hz_r2, hz_ia, hz_via, hz_vr, hz_ld0, hz_ld1, hz_ld2, hz_s0, hz_s1, hz_s2, hz_g0, hz_g1, hz_d0, hz_d1, hz_d3, hz_d2, hz_t0, hz_t1, hz_t3, hz_t2, hz_c0, hz_c1, hz_rti, hz_rtl, hz_rta, hz_rtv, hz_br, hz_fh0, hz_fh1, hz_fh2, hz_fh3, hz_ft0, hz_ft1, hz_ft2, hz_ft3, hz_sF0, hz_sF1, hz_sF2, hz_lg0, hz_lg1, hz_lg2, hz_f0, hz_f1, hz_f2, hz_f3, hz_k0, hz_k1, hz_rm, hz_ok0, hz_ok1, hz_ok2, hz_ok3, hz_ok4, hz_l0, hz_l1c, hz_ar0, hz_ar1, ht_0_0, hn_0_0, ht_0_1, hn_0_1, ht_0_2, hn_0_2, ht_0_3, hn_0_3, hnf_0, ht_1_0, hn_1_0, ht_1_1, hn_1_1, ht_1_2, hn_1_2, ht_1_3, hn_1_3, ht_1_4, hn_1_4, ht_1_5, hn_1_5, ht_1_6, hn_1_6, ht_1_7, hn_1_7, ht_1_8, hn_1_8, ht_1_9, hn_1_9, ht_1_10, hn_1_10, ht_1_11, hn_1_11, ht_1_12, hn_1_12, ht_1_13, hn_1_13, hnf_1, ht_2_0, hn_2_0, ht_2_1, hn_2_1, ht_2_2, hn_2_2, hnf_2, ht_3_0, hn_3_0, ht_3_1, hn_3_1, ht_3_2, hn_3_2, ht_3_3, hn_3_3, ht_3_4, hn_3_4, ht_3_5, hn_3_5, ht_3_6, hn_3_6, ht_3_7, hn_3_7, ht_3_8, hn_3_8, ht_3_9, hn_3_9, ht_3_10, hn_3_10, hnf_3, ht_4_0, hn_4_0, ht_4_1, hn_4_1, ht_4_2, hn_4_2, ht_4_3, hn_4_3, ht_4_4, hn_4_4, ht_4_5, hn_4_5, ht_4_6, hn_4_6, ht_4_7, hn_4_7, ht_4_8, hn_4_8, ht_4_9, hn_4_9, ht_4_10, hn_4_10, ht_4_11, hn_4_11, ht_4_12, hn_4_12, ht_4_13, hn_4_13, ht_4_14, hn_4_14, ht_4_15, hn_4_15, ht_4_16, hn_4_16, ht_4_17, hn_4_17, ht_4_18, hn_4_18, ht_4_19, hn_4_19, hnf_4, hc_im1, hc_i0, hc_i1, hc_i2, hc_i3, hc_i4, hc_i5, hc_bm2, hc_b6, hc_b7, hc_b15, hc_b64, hc_s500, hc_s1000, hc_s2000, hw_10, hw_01, hp_F_3_238, hp_F_3_43, dX3_bytesInside_0, dX3_bytesInside_1, dX3_bytesInside_2, dX3_bytesInside_3, dX3_bytesInside_5, dX3_bytesInside_7, dX3_bytesInside_9, dX3_bytesInside_12, dX3_bytesInside_13, dX3_bytesInside_15, dX3_bytesInside_16, dX3_bytesInside_19, dX3_bytesInside_21, dX3_bytesInside_22, dX3_bytesInside_24, dX3_bytesInside_27, dX3_bytesInside_28, dX3_bytesInside_31, dX3_bytesInside_33, dX3_bytesInside_36, dX3_bytesInside_39, dX3_bytesInside_40, dX3_bytesInside_41, dX3_bytesInside_42, dX3_bytesInside_45, dX3_bytesInside_48, dX3_bytesInside_49, rm_vc, rm_vs, g, hw_20, hw_30, hw_40, hx_0, hx_1, hx_2, hx_3, hx_4, hy_00, hy_10]
      rw [inY_all hw]
    | succ d ih =>
      intro i L hi hL
      refine hp_sub hL ?_
      have hil : i < 64 := by omega
      have g : ¬ (64 : Int32) ≤ nI i := nI_ge (b := 64) hil (by decide)
      refine hp_run1 C [5] 60 dX3_bytesInside_5 ?_
      simp only [or_true, or_false, true_or, false_or, or_self, hp_wp0, hp_wpS, eq_self, true_and, and_true, false_and, and_false, if_true, if_false, Bool.false_eq_true, Bool.or_false, Bool.or_true, Bool.true_or, Bool.false_or, ite_true, ite_false, ↓reduceIte, reduceCtorEq, Nat.reduceBEq, Nat.reduceAdd, Nat.reduceEqDiff, Nat.reduceLT, Nat.reduceLeDiff, Int.reduceAdd, Int.reduceToNat, Int.reduceLE, Int.reduceNeg, Int.cast_ofNat_Int, Nat.zero_add, Option.some.injEq, exists_eq_left', exists_eq_left, not_true_eq_false, not_false_eq_true, false_implies, true_implies, forall_const, implies_true, List.cons_append, List.nil_append, Nat.le_refl, Nat.zero_le, hp_K_sI, hp_K_sJ, hp_K_sR, hp_N_sI, hp_N_sJ, hp_N_sR, hp_I_sI, hp_I_sJ, hp_I_sR, hp_J_sI, hp_J_sJ, hp_J_sR, hp_R_sI, hp_R_sJ, hp_R_sR, hr_iconst, hr_bipush, hr_lconst, hr_iload, hr_istore, hr_lload_n, hr_lstore_n, hr_aload_n, hr_aload, hr_astore, hr_iinc, hr_ladd, hr_i2l, hr_if_icmp_ge, hr_ifnonnull, hr_goto, hr_getfield, hr_lreturn, hr_invokevirtual, hz_i1, hz_i2, hz_l1, hz_l2, hz_r1, hz_r2, hz_ia, hz_via, hz_vr, hz_ld0, hz_ld1, hz_ld2, hz_s0, hz_s1, hz_s2, hz_g0, hz_g1, hz_d0, hz_d1, hz_d3, hz_d2, hz_t0, hz_t1, hz_t3, hz_t2, hz_c0, hz_c1, hz_rti, hz_rtl, hz_rta, hz_rtv, hz_br, hz_fh0, hz_fh1, hz_fh2, hz_fh3, hz_ft0, hz_ft1, hz_ft2, hz_ft3, hz_sF0, hz_sF1, hz_sF2, hz_lg0, hz_lg1, hz_lg2, hz_f0, hz_f1, hz_f2, hz_f3, hz_k0, hz_k1, hz_rm, hz_ok0, hz_ok1, hz_ok2, hz_ok3, hz_ok4, hz_l0, hz_l1c, hz_ar0, hz_ar1, ht_0_0, hn_0_0, ht_0_1, hn_0_1, ht_0_2, hn_0_2, ht_0_3, hn_0_3, hnf_0, ht_1_0, hn_1_0, ht_1_1, hn_1_1, ht_1_2, hn_1_2, ht_1_3, hn_1_3, ht_1_4, hn_1_4, ht_1_5, hn_1_5, ht_1_6, hn_1_6, ht_1_7, hn_1_7, ht_1_8, hn_1_8, ht_1_9, hn_1_9, ht_1_10, hn_1_10, ht_1_11, hn_1_11, ht_1_12, hn_1_12, ht_1_13, hn_1_13, hnf_1, ht_2_0, hn_2_0, ht_2_1, hn_2_1, ht_2_2, hn_2_2, hnf_2, ht_3_0, hn_3_0, ht_3_1, hn_3_1, ht_3_2, hn_3_2, ht_3_3, hn_3_3, ht_3_4, hn_3_4, ht_3_5, hn_3_5, ht_3_6, hn_3_6, ht_3_7, hn_3_7, ht_3_8, hn_3_8, ht_3_9, hn_3_9, ht_3_10, hn_3_10, hnf_3, ht_4_0, hn_4_0, ht_4_1, hn_4_1, ht_4_2, hn_4_2, ht_4_3, hn_4_3, ht_4_4, hn_4_4, ht_4_5, hn_4_5, ht_4_6, hn_4_6, ht_4_7, hn_4_7, ht_4_8, hn_4_8, ht_4_9, hn_4_9, ht_4_10, hn_4_10, ht_4_11, hn_4_11, ht_4_12, hn_4_12, ht_4_13, hn_4_13, ht_4_14, hn_4_14, ht_4_15, hn_4_15, ht_4_16, hn_4_16, ht_4_17, hn_4_17, ht_4_18, hn_4_18, ht_4_19, hn_4_19, hnf_4, hc_im1, hc_i0, hc_i1, hc_i2, hc_i3, hc_i4, hc_i5, hc_bm2, hc_b6, hc_b7, hc_b15, hc_b64, hc_s500, hc_s1000, hc_s2000, hw_10, hw_01, hp_F_3_238, hp_F_3_43, dX3_bytesInside_0, dX3_bytesInside_1, dX3_bytesInside_2, dX3_bytesInside_3, dX3_bytesInside_5, dX3_bytesInside_7, dX3_bytesInside_9, dX3_bytesInside_12, dX3_bytesInside_13, dX3_bytesInside_15, dX3_bytesInside_16, dX3_bytesInside_19, dX3_bytesInside_21, dX3_bytesInside_22, dX3_bytesInside_24, dX3_bytesInside_27, dX3_bytesInside_28, dX3_bytesInside_31, dX3_bytesInside_33, dX3_bytesInside_36, dX3_bytesInside_39, dX3_bytesInside_40, dX3_bytesInside_41, dX3_bytesInside_42, dX3_bytesInside_45, dX3_bytesInside_48, dX3_bytesInside_49, rm_vc, rm_vs, g, hw_20, hw_30, hw_40, hx_0, hx_1, hx_2, hx_3, hx_4, hy_00, hy_10]
      refine hp_callV (as := [.inl (nI i), .inr (.inr (some (dna Z j)))]) (rest := []) C D dX3_bytesInside_16 kV_3_129 (ct_inside l G S x0 Z M nb i j h hw hil hj hpj) kx (by decide) rfl ⟨⟨by decide, by decide⟩, ⟨by decide, by decide⟩, by decide⟩ (fun v S' hv => ?_)
      obtain ⟨rfl, rfl⟩ := hv
      refine hp_run C [5] 60 _ _ _ _ ?_
      have eS : sm (inY M j) (i + 1) = sm (inY M j) i + inY M j i := rfl
      have ih2 := fun L => ih (i + 1) L (by omega)
      rw [eS] at ih2
      by_cases g2 : undB M i j = true
      · obtain ⟨-, hpi⟩ := ud_nI g2
        obtain ⟨a1, a2⟩ := h.2.1 i hil hpi
        have k1 := a1.1
        have r2 := a1.2.2.2.1
        have kl := a2.1
        have l3 := a2.2.2.2.2.1
        have e2 : inY M j i = ((own M i).map (fun p => p.2.2)).sum := by unfold inY; rw [if_pos g2]; rfl
        have e3 : (nI ((own M i).map (fun p => p.2.2)).sum).toInt64 = lN ((own M i).map (fun p => p.2.2)).sum := nI_l (by have := ownY_le hw h.2.2.2.2.2.2.2 i; unfold ownY at this; omega)
        rw [e2] at ih2
        simp only [or_true, or_false, true_or, false_or, or_self, hp_wp0, hp_wpS, eq_self, true_and, and_true, false_and, and_false, if_true, if_false, Bool.false_eq_true, Bool.or_false, Bool.or_true, Bool.true_or, Bool.false_or, ite_true, ite_false, ↓reduceIte, reduceCtorEq, Nat.reduceBEq, Nat.reduceAdd, Nat.reduceEqDiff, Nat.reduceLT, Nat.reduceLeDiff, Int.reduceAdd, Int.reduceToNat, Int.reduceLE, Int.reduceNeg, Int.cast_ofNat_Int, Nat.zero_add, Option.some.injEq, exists_eq_left', exists_eq_left, not_true_eq_false, not_false_eq_true, false_implies, true_implies, forall_const, implies_true, List.cons_append, List.nil_append, Nat.le_refl, Nat.zero_le, hp_K_sI, hp_K_sJ, hp_K_sR, hp_N_sI, hp_N_sJ, hp_N_sR, hp_I_sI, hp_I_sJ, hp_I_sR, hp_J_sI, hp_J_sJ, hp_J_sR, hp_R_sI, hp_R_sJ, hp_R_sR, hr_iconst, hr_bipush, hr_lconst, hr_iload, hr_istore, hr_lload_n, hr_lstore_n, hr_aload_n, hr_aload, hr_astore, hr_iinc, hr_ladd, hr_i2l, hr_if_icmp_ge, hr_ifnonnull, hr_goto, hr_getfield, hr_lreturn, hr_invokevirtual, hz_i1, hz_i2, hz_l1, hz_l2, hz_r1, hz_r2, hz_ia, hz_via, hz_vr, hz_ld0, hz_ld1, hz_ld2, hz_s0, hz_s1, hz_s2, hz_g0, hz_g1, hz_d0, hz_d1, hz_d3, hz_d2, hz_t0, hz_t1, hz_t3, hz_t2, hz_c0, hz_c1, hz_rti, hz_rtl, hz_rta, hz_rtv, hz_br, hz_fh0, hz_fh1, hz_fh2, hz_fh3, hz_ft0, hz_ft1, hz_ft2, hz_ft3, hz_sF0, hz_sF1, hz_sF2, hz_lg0, hz_lg1, hz_lg2, hz_f0, hz_f1, hz_f2, hz_f3, hz_k0, hz_k1, hz_rm, hz_ok0, hz_ok1, hz_ok2, hz_ok3, hz_ok4, hz_l0, hz_l1c, hz_ar0, hz_ar1, ht_0_0, hn_0_0, ht_0_1, hn_0_1, ht_0_2, hn_0_2, ht_0_3, hn_0_3, hnf_0, ht_1_0, hn_1_0, ht_1_1, hn_1_1, ht_1_2, hn_1_2, ht_1_3, hn_1_3, ht_1_4, hn_1_4, ht_1_5, hn_1_5, ht_1_6, hn_1_6, ht_1_7, hn_1_7, ht_1_8, hn_1_8, ht_1_9, hn_1_9, ht_1_10, hn_1_10, ht_1_11, hn_1_11, ht_1_12, hn_1_12, ht_1_13, hn_1_13, hnf_1, ht_2_0, hn_2_0, ht_2_1, hn_2_1, ht_2_2, hn_2_2, hnf_2, ht_3_0, hn_3_0, ht_3_1, hn_3_1, ht_3_2, hn_3_2, ht_3_3, hn_3_3, ht_3_4, hn_3_4, ht_3_5, hn_3_5, ht_3_6, hn_3_6, ht_3_7, hn_3_7, ht_3_8, hn_3_8, ht_3_9, hn_3_9, ht_3_10, hn_3_10, hnf_3, ht_4_0, hn_4_0, ht_4_1, hn_4_1, ht_4_2, hn_4_2, ht_4_3, hn_4_3, ht_4_4, hn_4_4, ht_4_5, hn_4_5, ht_4_6, hn_4_6, ht_4_7, hn_4_7, ht_4_8, hn_4_8, ht_4_9, hn_4_9, ht_4_10, hn_4_10, ht_4_11, hn_4_11, ht_4_12, hn_4_12, ht_4_13, hn_4_13, ht_4_14, hn_4_14, ht_4_15, hn_4_15, ht_4_16, hn_4_16, ht_4_17, hn_4_17, ht_4_18, hn_4_18, ht_4_19, hn_4_19, hnf_4, hc_im1, hc_i0, hc_i1, hc_i2, hc_i3, hc_i4, hc_i5, hc_bm2, hc_b6, hc_b7, hc_b15, hc_b64, hc_s500, hc_s1000, hc_s2000, hw_10, hw_01, hp_F_3_238, hp_F_3_43, dX3_bytesInside_0, dX3_bytesInside_1, dX3_bytesInside_2, dX3_bytesInside_3, dX3_bytesInside_5, dX3_bytesInside_7, dX3_bytesInside_9, dX3_bytesInside_12, dX3_bytesInside_13, dX3_bytesInside_15, dX3_bytesInside_16, dX3_bytesInside_19, dX3_bytesInside_21, dX3_bytesInside_22, dX3_bytesInside_24, dX3_bytesInside_27, dX3_bytesInside_28, dX3_bytesInside_31, dX3_bytesInside_33, dX3_bytesInside_36, dX3_bytesInside_39, dX3_bytesInside_40, dX3_bytesInside_41, dX3_bytesInside_42, dX3_bytesInside_45, dX3_bytesInside_48, dX3_bytesInside_49, rm_vc, rm_vs, rm_sc, rm_ss, g2, k1, r2, kl, l3, e3, lN_add, nI_1, Option.toList_some, List.singleton_append, hw_20, hw_30, hw_40, hx_0, hx_1, hx_2, hx_3, hx_4, hy_00, hy_10]
        exact ih2 _ (by simp)
      · have e2 : inY M j i = 0 := by unfold inY; rw [if_neg g2]
        rw [e2, Nat.add_zero] at ih2
        simp only [or_true, or_false, true_or, false_or, or_self, hp_wp0, hp_wpS, eq_self, true_and, and_true, false_and, and_false, if_true, if_false, Bool.false_eq_true, Bool.or_false, Bool.or_true, Bool.true_or, Bool.false_or, ite_true, ite_false, ↓reduceIte, reduceCtorEq, Nat.reduceBEq, Nat.reduceAdd, Nat.reduceEqDiff, Nat.reduceLT, Nat.reduceLeDiff, Int.reduceAdd, Int.reduceToNat, Int.reduceLE, Int.reduceNeg, Int.cast_ofNat_Int, Nat.zero_add, Option.some.injEq, exists_eq_left', exists_eq_left, not_true_eq_false, not_false_eq_true, false_implies, true_implies, forall_const, implies_true, List.cons_append, List.nil_append, Nat.le_refl, Nat.zero_le, hp_K_sI, hp_K_sJ, hp_K_sR, hp_N_sI, hp_N_sJ, hp_N_sR, hp_I_sI, hp_I_sJ, hp_I_sR, hp_J_sI, hp_J_sJ, hp_J_sR, hp_R_sI, hp_R_sJ, hp_R_sR, hr_iconst, hr_bipush, hr_lconst, hr_iload, hr_istore, hr_lload_n, hr_lstore_n, hr_aload_n, hr_aload, hr_astore, hr_iinc, hr_ladd, hr_i2l, hr_if_icmp_ge, hr_ifnonnull, hr_goto, hr_getfield, hr_lreturn, hr_invokevirtual, hz_i1, hz_i2, hz_l1, hz_l2, hz_r1, hz_r2, hz_ia, hz_via, hz_vr, hz_ld0, hz_ld1, hz_ld2, hz_s0, hz_s1, hz_s2, hz_g0, hz_g1, hz_d0, hz_d1, hz_d3, hz_d2, hz_t0, hz_t1, hz_t3, hz_t2, hz_c0, hz_c1, hz_rti, hz_rtl, hz_rta, hz_rtv, hz_br, hz_fh0, hz_fh1, hz_fh2, hz_fh3, hz_ft0, hz_ft1, hz_ft2, hz_ft3, hz_sF0, hz_sF1, hz_sF2, hz_lg0, hz_lg1, hz_lg2, hz_f0, hz_f1, hz_f2, hz_f3, hz_k0, hz_k1, hz_rm, hz_ok0, hz_ok1, hz_ok2, hz_ok3, hz_ok4, hz_l0, hz_l1c, hz_ar0, hz_ar1, ht_0_0, hn_0_0, ht_0_1, hn_0_1, ht_0_2, hn_0_2, ht_0_3, hn_0_3, hnf_0, ht_1_0, hn_1_0, ht_1_1, hn_1_1, ht_1_2, hn_1_2, ht_1_3, hn_1_3, ht_1_4, hn_1_4, ht_1_5, hn_1_5, ht_1_6, hn_1_6, ht_1_7, hn_1_7, ht_1_8, hn_1_8, ht_1_9, hn_1_9, ht_1_10, hn_1_10, ht_1_11, hn_1_11, ht_1_12, hn_1_12, ht_1_13, hn_1_13, hnf_1, ht_2_0, hn_2_0, ht_2_1, hn_2_1, ht_2_2, hn_2_2, hnf_2, ht_3_0, hn_3_0, ht_3_1, hn_3_1, ht_3_2, hn_3_2, ht_3_3, hn_3_3, ht_3_4, hn_3_4, ht_3_5, hn_3_5, ht_3_6, hn_3_6, ht_3_7, hn_3_7, ht_3_8, hn_3_8, ht_3_9, hn_3_9, ht_3_10, hn_3_10, hnf_3, ht_4_0, hn_4_0, ht_4_1, hn_4_1, ht_4_2, hn_4_2, ht_4_3, hn_4_3, ht_4_4, hn_4_4, ht_4_5, hn_4_5, ht_4_6, hn_4_6, ht_4_7, hn_4_7, ht_4_8, hn_4_8, ht_4_9, hn_4_9, ht_4_10, hn_4_10, ht_4_11, hn_4_11, ht_4_12, hn_4_12, ht_4_13, hn_4_13, ht_4_14, hn_4_14, ht_4_15, hn_4_15, ht_4_16, hn_4_16, ht_4_17, hn_4_17, ht_4_18, hn_4_18, ht_4_19, hn_4_19, hnf_4, hc_im1, hc_i0, hc_i1, hc_i2, hc_i3, hc_i4, hc_i5, hc_bm2, hc_b6, hc_b7, hc_b15, hc_b64, hc_s500, hc_s1000, hc_s2000, hw_10, hw_01, hp_F_3_238, hp_F_3_43, dX3_bytesInside_0, dX3_bytesInside_1, dX3_bytesInside_2, dX3_bytesInside_3, dX3_bytesInside_5, dX3_bytesInside_7, dX3_bytesInside_9, dX3_bytesInside_12, dX3_bytesInside_13, dX3_bytesInside_15, dX3_bytesInside_16, dX3_bytesInside_19, dX3_bytesInside_21, dX3_bytesInside_22, dX3_bytesInside_24, dX3_bytesInside_27, dX3_bytesInside_28, dX3_bytesInside_31, dX3_bytesInside_33, dX3_bytesInside_36, dX3_bytesInside_39, dX3_bytesInside_40, dX3_bytesInside_41, dX3_bytesInside_42, dX3_bytesInside_45, dX3_bytesInside_48, dX3_bytesInside_49, rm_vc, rm_vs, rm_sc, rm_ss, g2, nI_1, Int64.add_zero, Option.toList_some, List.singleton_append, hw_20, hw_30, hw_40, hx_0, hx_1, hx_2, hx_3, hx_4, hy_00, hy_10]
        exact ih2 _ (by simp)
  refine hp_run C [5] 60 _ _ _ _ ?_
  simp only [or_true, or_false, true_or, false_or, or_self, hp_wp0, hp_wpS, eq_self, true_and, and_true, false_and, and_false, if_true, if_false, Bool.false_eq_true, Bool.or_false, Bool.or_true, Bool.true_or, Bool.false_or, ite_true, ite_false, ↓reduceIte, reduceCtorEq, Nat.reduceBEq, Nat.reduceAdd, Nat.reduceEqDiff, Nat.reduceLT, Nat.reduceLeDiff, Int.reduceAdd, Int.reduceToNat, Int.reduceLE, Int.reduceNeg, Int.cast_ofNat_Int, Nat.zero_add, Option.some.injEq, exists_eq_left', exists_eq_left, not_true_eq_false, not_false_eq_true, false_implies, true_implies, forall_const, implies_true, List.cons_append, List.nil_append, Nat.le_refl, Nat.zero_le, hp_K_sI, hp_K_sJ, hp_K_sR, hp_N_sI, hp_N_sJ, hp_N_sR, hp_I_sI, hp_I_sJ, hp_I_sR, hp_J_sI, hp_J_sJ, hp_J_sR, hp_R_sI, hp_R_sJ, hp_R_sR, hr_iconst, hr_bipush, hr_lconst, hr_iload, hr_istore, hr_lload_n, hr_lstore_n, hr_aload_n, hr_aload, hr_astore, hr_iinc, hr_ladd, hr_i2l, hr_if_icmp_ge, hr_ifnonnull, hr_goto, hr_getfield, hr_lreturn, hr_invokevirtual, hz_i1, hz_i2, hz_l1, hz_l2, hz_r1, hz_r2, hz_ia, hz_via, hz_vr, hz_ld0, hz_ld1, hz_ld2, hz_s0, hz_s1, hz_s2, hz_g0, hz_g1, hz_d0, hz_d1, hz_d3, hz_d2, hz_t0, hz_t1, hz_t3, hz_t2, hz_c0, hz_c1, hz_rti, hz_rtl, hz_rta, hz_rtv, hz_br, hz_fh0, hz_fh1, hz_fh2, hz_fh3, hz_ft0, hz_ft1, hz_ft2, hz_ft3, hz_sF0, hz_sF1, hz_sF2, hz_lg0, hz_lg1, hz_lg2, hz_f0, hz_f1, hz_f2, hz_f3, hz_k0, hz_k1, hz_rm, hz_ok0, hz_ok1, hz_ok2, hz_ok3, hz_ok4, hz_l0, hz_l1c, hz_ar0, hz_ar1, ht_0_0, hn_0_0, ht_0_1, hn_0_1, ht_0_2, hn_0_2, ht_0_3, hn_0_3, hnf_0, ht_1_0, hn_1_0, ht_1_1, hn_1_1, ht_1_2, hn_1_2, ht_1_3, hn_1_3, ht_1_4, hn_1_4, ht_1_5, hn_1_5, ht_1_6, hn_1_6, ht_1_7, hn_1_7, ht_1_8, hn_1_8, ht_1_9, hn_1_9, ht_1_10, hn_1_10, ht_1_11, hn_1_11, ht_1_12, hn_1_12, ht_1_13, hn_1_13, hnf_1, ht_2_0, hn_2_0, ht_2_1, hn_2_1, ht_2_2, hn_2_2, hnf_2, ht_3_0, hn_3_0, ht_3_1, hn_3_1, ht_3_2, hn_3_2, ht_3_3, hn_3_3, ht_3_4, hn_3_4, ht_3_5, hn_3_5, ht_3_6, hn_3_6, ht_3_7, hn_3_7, ht_3_8, hn_3_8, ht_3_9, hn_3_9, ht_3_10, hn_3_10, hnf_3, ht_4_0, hn_4_0, ht_4_1, hn_4_1, ht_4_2, hn_4_2, ht_4_3, hn_4_3, ht_4_4, hn_4_4, ht_4_5, hn_4_5, ht_4_6, hn_4_6, ht_4_7, hn_4_7, ht_4_8, hn_4_8, ht_4_9, hn_4_9, ht_4_10, hn_4_10, ht_4_11, hn_4_11, ht_4_12, hn_4_12, ht_4_13, hn_4_13, ht_4_14, hn_4_14, ht_4_15, hn_4_15, ht_4_16, hn_4_16, ht_4_17, hn_4_17, ht_4_18, hn_4_18, ht_4_19, hn_4_19, hnf_4, hc_im1, hc_i0, hc_i1, hc_i2, hc_i3, hc_i4, hc_i5, hc_bm2, hc_b6, hc_b7, hc_b15, hc_b64, hc_s500, hc_s1000, hc_s2000, hw_10, hw_01, hp_F_3_238, hp_F_3_43, dX3_bytesInside_0, dX3_bytesInside_1, dX3_bytesInside_2, dX3_bytesInside_3, dX3_bytesInside_5, dX3_bytesInside_7, dX3_bytesInside_9, dX3_bytesInside_12, dX3_bytesInside_13, dX3_bytesInside_15, dX3_bytesInside_16, dX3_bytesInside_19, dX3_bytesInside_21, dX3_bytesInside_22, dX3_bytesInside_24, dX3_bytesInside_27, dX3_bytesInside_28, dX3_bytesInside_31, dX3_bytesInside_33, dX3_bytesInside_36, dX3_bytesInside_39, dX3_bytesInside_40, dX3_bytesInside_41, dX3_bytesInside_42, dX3_bytesInside_45, dX3_bytesInside_48, dX3_bytesInside_49, rm_vc, rm_vs, hw_20, hw_30, hw_40, hx_0, hx_1, hx_2, hx_3, hx_4, hy_00, hy_10]
  exact loop 64 0 _ rfl (by simp [sm, nI_0, lN])
/-- a leaf, over the state -/
theorem leaf_iff {S : hp_T} {x0 : Nat} {Z : cd_T} {M : ab_T} {nb : Nat → Nat} (h : RepN S x0 Z M nb) (hw : wfS M) {c : Nat} (hc : c < 64) (hpc : ¬ pa M c = 65) : (hp_R S (dna Z c) 5 = none ∧ ¬ hp_R S (dna Z c) 4 = none) ↔ (¬ c = 0 ∧ nch M c = 0) := by
  have hcn := (h.2.1 c hc hpc).1
  have r4 := hcn.2.2.2.2.2.1
  have r5 := hcn.2.2.2.2.2.2.1
  have hch := (h.2.2.2.1 c hc hpc).2.1
  have e5 : hp_R S (dna Z c) 5 = none ↔ nch M c = 0 := by
    rw [lk_none r5, nch_0 hw.1.1 hc, List.map_eq_nil_iff]
    constructor
    · intro q k hk hp
      have := (hch k).mpr ⟨hk, hp⟩
      rw [q] at this
      cases this
    · intro q
      cases e : dch Z c with
      | nil => rfl
      | cons k ks =>
        have := (hch k).mp (by rw [e]; exact List.mem_cons_self)
        exact absurd this.2 (q k this.1)
  have e4 : hp_R S (dna Z c) 4 = none ↔ c = 0 := by
    rw [r4]
    constructor
    · intro q
      by_cases g : pa M c < 64
      · rw [if_pos g] at q; cases q
      · rcases Nat.eq_zero_or_pos c with z | z
        · exact z
        · rcases hw.1.2 c hc z with y | y
          · exact absurd y g
          · exact absurd y hpc
    · intro q
      rw [q, hw.1.1]
      rfl
  rw [e5, e4]
  exact And.comm
set_option maxRecDepth 20000 in
set_option maxHeartbeats 4000000 in
theorem ct_openLeaves (l : Launch) (G : hp_G) (S : hp_T) (x0 : Nat) (Z : cd_T) (M : ab_T) (nb : Nat → Nat) (h : RepN S x0 Z M nb) (hw : wfS M) (hop : ∀ c, c < 64 → op M c ≤ 1) : hp_Met l G yX3_openLeaves cX3_openLeaves 4 (some .int) rm_v [.inr (.inr (some x0))] S (fun v S' => S = S' ∧ v = some (.inl (nI (clv M 64)))) := by
  obtain ⟨kx, -, r1, kc, nc, -⟩ := id h.1
  refine hp_Met.of (o := 3) (by decide) rfl (by show 1 ≤ 4; decide) (fun X C D => ?_)
  have loop : ∀ (d i : Nat) (L : hp_LL), i + d = 64 → (∀ q ∈ [(0, (.inr (.inr (some x0)) : hp_hv)), (1, .inl (nI (clv M i))), (2, .inl (nI i))], q ∈ L) → hp_V X 4 4 L [] S 0 0 := by
    intro d
    induction d with
    | zero =>
      intro i L hi hL
      refine hp_sub hL ?_
      have e : i = 64 := by omega
      subst e
      have g : (64 : Int32) ≤ nI 64 := by decide
      refine hp_run1 C [4] 60 dX3_openLeaves_4 ?_
      simp only [or_true, or_false, true_or, false_or, or_self, hp_wp0, hp_wpS, eq_self, true_and, and_true, false_and, and_false, if_true, if_false, Bool.false_eq_true, Bool.or_false, Bool.or_true, Bool.true_or, Bool.false_or, ite_true, ite_false, ↓reduceIte, reduceCtorEq, Nat.reduceBEq, Nat.reduceAdd, Nat.reduceEqDiff, Nat.reduceLT, Nat.reduceLeDiff, Int.reduceAdd, Int.reduceToNat, Int.reduceLE, Int.reduceNeg, Int.cast_ofNat_Int, Nat.zero_add, Option.some.injEq, exists_eq_left', exists_eq_left, not_true_eq_false, not_false_eq_true, false_implies, true_implies, forall_const, implies_true, List.cons_append, List.nil_append, Nat.le_refl, Nat.zero_le, hp_K_sI, hp_K_sJ, hp_K_sR, hp_N_sI, hp_N_sJ, hp_N_sR, hp_I_sI, hp_I_sJ, hp_I_sR, hp_J_sI, hp_J_sJ, hp_J_sR, hp_R_sI, hp_R_sJ, hp_R_sR, hr_iconst, hr_bipush, hr_iload_n, hr_istore_n, hr_aload_n, hr_astore_n, hr_iinc, hr_ifCond_eq, hr_if_icmp_ge, hr_ifnull, hr_goto, hr_getfield, hr_aaload, hr_ireturn, hr_invokevirtual, hz_i1, hz_i2, hz_l1, hz_l2, hz_r1, hz_r2, hz_ia, hz_via, hz_vr, hz_ld0, hz_ld1, hz_ld2, hz_s0, hz_s1, hz_s2, hz_g0, hz_g1, hz_d0, hz_d1, hz_d3, hz_d2, hz_t0, hz_t1, hz_t3, hz_t2, hz_c0, hz_c1, hz_rti, hz_rtl, hz_rta, hz_rtv, hz_br, hz_fh0, hz_fh1, hz_fh2, hz_fh3, hz_ft0, hz_ft1, hz_ft2, hz_ft3, hz_sF0, hz_sF1, hz_sF2, hz_lg0, hz_lg1, hz_lg2, hz_f0, hz_f1, hz_f2, hz_f3, hz_k0, hz_k1, hz_rm, hz_ok0, hz_ok1, hz_ok2, hz_ok3, hz_ok4, hz_l0, hz_l1c, hz_ar0, hz_ar1, ht_0_0, hn_0_0, ht_0_1, hn_0_1, ht_0_2, hn_0_2, ht_0_3, hn_0_3, hnf_0, ht_1_0, hn_1_0, ht_1_1, hn_1_1, ht_1_2, hn_1_2, ht_1_3, hn_1_3, ht_1_4, hn_1_4, ht_1_5, hn_1_5, ht_1_6, hn_1_6, ht_1_7, hn_1_7, ht_1_8, hn_1_8, ht_1_9, hn_1_9, ht_1_10, hn_1_10, ht_1_11, hn_1_11, ht_1_12, hn_1_12, ht_1_13, hn_1_13, hnf_1, ht_2_0, hn_2_0, ht_2_1, hn_2_1, ht_2_2, hn_2_2, hnf_2, ht_3_0, hn_3_0, ht_3_1, hn_3_1, ht_3_2, hn_3_2, ht_3_3, hn_3_3, ht_3_4, hn_3_4, ht_3_5, hn_3_5, ht_3_6, hn_3_6, ht_3_7, hn_3_7, ht_3_8, hn_3_8, ht_3_9, hn_3_9, ht_3_10, hn_3_10, hnf_3, ht_4_0, hn_4_0, ht_4_1, hn_4_1, ht_4_2, hn_4_2, ht_4_3, hn_4_3, ht_4_4, hn_4_4, ht_4_5, hn_4_5, ht_4_6, hn_4_6, ht_4_7, hn_4_7, ht_4_8, hn_4_8, ht_4_9, hn_4_9, ht_4_10, hn_4_10, ht_4_11, hn_4_11, ht_4_12, hn_4_12, ht_4_13, hn_4_13, ht_4_14, hn_4_14, ht_4_15, hn_4_15, ht_4_16, hn_4_16, ht_4_17, hn_4_17, ht_4_18, hn_4_18, ht_4_19, hn_4_19, hnf_4, hc_im1, hc_i0, hc_i1, hc_i2, hc_i3, hc_i4, hc_i5, hc_bm2, hc_b6, hc_b7, hc_b15, hc_b64, hc_s500, hc_s1000, hc_s2000, hw_10, hw_01, hp_F_3_18, hp_F_3_99, dX3_openLeaves_0, dX3_openLeaves_1, dX3_openLeaves_2, dX3_openLeaves_3, dX3_openLeaves_4, dX3_openLeaves_5, dX3_openLeaves_7, dX3_openLeaves_10, dX3_openLeaves_11, dX3_openLeaves_14, dX3_openLeaves_15, dX3_openLeaves_16, dX3_openLeaves_17, dX3_openLeaves_18, dX3_openLeaves_21, dX3_openLeaves_22, dX3_openLeaves_25, dX3_openLeaves_28, dX3_openLeaves_29, dX3_openLeaves_32, dX3_openLeaves_35, dX3_openLeaves_38, dX3_openLeaves_41, dX3_openLeaves_44, dX3_openLeaves_45, rm_vc, rm_vs, g, hw_20, hw_30, hw_40, hx_0, hx_1, hx_2, hx_3, hx_4, hy_00, hy_10]
    | succ d ih =>
      intro i L hi hL
      refine hp_sub hL ?_
      have hil : i < 64 := by omega
      have g : ¬ (64 : Int32) ≤ nI i := nI_ge (b := 64) hil (by decide)
      have h5 : vp_in (nI i) 64 := vp_in_nI hil (by decide)
      have h6 : (nI i).toNatClampNeg = i := nI_clamp (by omega)
      have el : clv M (i + 1) = clv M i + (if (decide (¬ pa M i = 65) && decide (¬ i = 0 ∧ nch M i = 0) && decide (op M i = 1)) = true then 1 else 0) := rng_S i
      have ih2 := fun L => ih (i + 1) L (by omega)
      rw [el] at ih2
      have eR := tc_at h.1 hil
      refine hp_run1 C [4] 60 dX3_openLeaves_4 ?_
      by_cases g1 : pa M i = 65
      · rw [if_pos g1] at eR
        simp only [g1, not_true_eq_false, decide_false, Bool.false_and, Bool.false_eq_true, if_false, Nat.add_zero] at ih2
        simp only [or_true, or_false, true_or, false_or, or_self, hp_wp0, hp_wpS, eq_self, true_and, and_true, false_and, and_false, if_true, if_false, Bool.false_eq_true, Bool.or_false, Bool.or_true, Bool.true_or, Bool.false_or, ite_true, ite_false, ↓reduceIte, reduceCtorEq, Nat.reduceBEq, Nat.reduceAdd, Nat.reduceEqDiff, Nat.reduceLT, Nat.reduceLeDiff, Int.reduceAdd, Int.reduceToNat, Int.reduceLE, Int.reduceNeg, Int.cast_ofNat_Int, Nat.zero_add, Option.some.injEq, exists_eq_left', exists_eq_left, not_true_eq_false, not_false_eq_true, false_implies, true_implies, forall_const, implies_true, List.cons_append, List.nil_append, Nat.le_refl, Nat.zero_le, hp_K_sI, hp_K_sJ, hp_K_sR, hp_N_sI, hp_N_sJ, hp_N_sR, hp_I_sI, hp_I_sJ, hp_I_sR, hp_J_sI, hp_J_sJ, hp_J_sR, hp_R_sI, hp_R_sJ, hp_R_sR, hr_iconst, hr_bipush, hr_iload_n, hr_istore_n, hr_aload_n, hr_astore_n, hr_iinc, hr_ifCond_eq, hr_if_icmp_ge, hr_ifnull, hr_goto, hr_getfield, hr_aaload, hr_ireturn, hr_invokevirtual, hz_i1, hz_i2, hz_l1, hz_l2, hz_r1, hz_r2, hz_ia, hz_via, hz_vr, hz_ld0, hz_ld1, hz_ld2, hz_s0, hz_s1, hz_s2, hz_g0, hz_g1, hz_d0, hz_d1, hz_d3, hz_d2, hz_t0, hz_t1, hz_t3, hz_t2, hz_c0, hz_c1, hz_rti, hz_rtl, hz_rta, hz_rtv, hz_br, hz_fh0, hz_fh1, hz_fh2, hz_fh3, hz_ft0, hz_ft1, hz_ft2, hz_ft3, hz_sF0, hz_sF1, hz_sF2, hz_lg0, hz_lg1, hz_lg2, hz_f0, hz_f1, hz_f2, hz_f3, hz_k0, hz_k1, hz_rm, hz_ok0, hz_ok1, hz_ok2, hz_ok3, hz_ok4, hz_l0, hz_l1c, hz_ar0, hz_ar1, ht_0_0, hn_0_0, ht_0_1, hn_0_1, ht_0_2, hn_0_2, ht_0_3, hn_0_3, hnf_0, ht_1_0, hn_1_0, ht_1_1, hn_1_1, ht_1_2, hn_1_2, ht_1_3, hn_1_3, ht_1_4, hn_1_4, ht_1_5, hn_1_5, ht_1_6, hn_1_6, ht_1_7, hn_1_7, ht_1_8, hn_1_8, ht_1_9, hn_1_9, ht_1_10, hn_1_10, ht_1_11, hn_1_11, ht_1_12, hn_1_12, ht_1_13, hn_1_13, hnf_1, ht_2_0, hn_2_0, ht_2_1, hn_2_1, ht_2_2, hn_2_2, hnf_2, ht_3_0, hn_3_0, ht_3_1, hn_3_1, ht_3_2, hn_3_2, ht_3_3, hn_3_3, ht_3_4, hn_3_4, ht_3_5, hn_3_5, ht_3_6, hn_3_6, ht_3_7, hn_3_7, ht_3_8, hn_3_8, ht_3_9, hn_3_9, ht_3_10, hn_3_10, hnf_3, ht_4_0, hn_4_0, ht_4_1, hn_4_1, ht_4_2, hn_4_2, ht_4_3, hn_4_3, ht_4_4, hn_4_4, ht_4_5, hn_4_5, ht_4_6, hn_4_6, ht_4_7, hn_4_7, ht_4_8, hn_4_8, ht_4_9, hn_4_9, ht_4_10, hn_4_10, ht_4_11, hn_4_11, ht_4_12, hn_4_12, ht_4_13, hn_4_13, ht_4_14, hn_4_14, ht_4_15, hn_4_15, ht_4_16, hn_4_16, ht_4_17, hn_4_17, ht_4_18, hn_4_18, ht_4_19, hn_4_19, hnf_4, hc_im1, hc_i0, hc_i1, hc_i2, hc_i3, hc_i4, hc_i5, hc_bm2, hc_b6, hc_b7, hc_b15, hc_b64, hc_s500, hc_s1000, hc_s2000, hw_10, hw_01, hp_F_3_18, hp_F_3_99, dX3_openLeaves_0, dX3_openLeaves_1, dX3_openLeaves_2, dX3_openLeaves_3, dX3_openLeaves_4, dX3_openLeaves_5, dX3_openLeaves_7, dX3_openLeaves_10, dX3_openLeaves_11, dX3_openLeaves_14, dX3_openLeaves_15, dX3_openLeaves_16, dX3_openLeaves_17, dX3_openLeaves_18, dX3_openLeaves_21, dX3_openLeaves_22, dX3_openLeaves_25, dX3_openLeaves_28, dX3_openLeaves_29, dX3_openLeaves_32, dX3_openLeaves_35, dX3_openLeaves_38, dX3_openLeaves_41, dX3_openLeaves_44, dX3_openLeaves_45, kx, r1, kc, nc, rm_vc, rm_vs, g, h5, h6, eR, nI_1, hw_20, hw_30, hw_40, hx_0, hx_1, hx_2, hx_3, hx_4, hy_00, hy_10]
        exact ih2 _ (by simp)
      · rw [if_neg g1] at eR
        obtain ⟨a1, a2⟩ := h.2.1 i hil g1
        have k1 := a1.1
        have i8 := a1.2.2.2.2.2.2.2.2.1
        have qo := hop i hil
        simp only [g1, not_false_eq_true, decide_true, Bool.true_and] at ih2
        by_cases g2 : op M i = 0
        · have g3 : nI (op M i) = 0 := by rw [g2]; rfl
          simp only [g2, show ((0 : Nat) = 1) = False from by simp, decide_false, Bool.and_false, Bool.false_eq_true, if_false, Nat.add_zero] at ih2
          simp only [or_true, or_false, true_or, false_or, or_self, hp_wp0, hp_wpS, eq_self, true_and, and_true, false_and, and_false, if_true, if_false, Bool.false_eq_true, Bool.or_false, Bool.or_true, Bool.true_or, Bool.false_or, ite_true, ite_false, ↓reduceIte, reduceCtorEq, Nat.reduceBEq, Nat.reduceAdd, Nat.reduceEqDiff, Nat.reduceLT, Nat.reduceLeDiff, Int.reduceAdd, Int.reduceToNat, Int.reduceLE, Int.reduceNeg, Int.cast_ofNat_Int, Nat.zero_add, Option.some.injEq, exists_eq_left', exists_eq_left, not_true_eq_false, not_false_eq_true, false_implies, true_implies, forall_const, implies_true, List.cons_append, List.nil_append, Nat.le_refl, Nat.zero_le, hp_K_sI, hp_K_sJ, hp_K_sR, hp_N_sI, hp_N_sJ, hp_N_sR, hp_I_sI, hp_I_sJ, hp_I_sR, hp_J_sI, hp_J_sJ, hp_J_sR, hp_R_sI, hp_R_sJ, hp_R_sR, hr_iconst, hr_bipush, hr_iload_n, hr_istore_n, hr_aload_n, hr_astore_n, hr_iinc, hr_ifCond_eq, hr_if_icmp_ge, hr_ifnull, hr_goto, hr_getfield, hr_aaload, hr_ireturn, hr_invokevirtual, hz_i1, hz_i2, hz_l1, hz_l2, hz_r1, hz_r2, hz_ia, hz_via, hz_vr, hz_ld0, hz_ld1, hz_ld2, hz_s0, hz_s1, hz_s2, hz_g0, hz_g1, hz_d0, hz_d1, hz_d3, hz_d2, hz_t0, hz_t1, hz_t3, hz_t2, hz_c0, hz_c1, hz_rti, hz_rtl, hz_rta, hz_rtv, hz_br, hz_fh0, hz_fh1, hz_fh2, hz_fh3, hz_ft0, hz_ft1, hz_ft2, hz_ft3, hz_sF0, hz_sF1, hz_sF2, hz_lg0, hz_lg1, hz_lg2, hz_f0, hz_f1, hz_f2, hz_f3, hz_k0, hz_k1, hz_rm, hz_ok0, hz_ok1, hz_ok2, hz_ok3, hz_ok4, hz_l0, hz_l1c, hz_ar0, hz_ar1, ht_0_0, hn_0_0, ht_0_1, hn_0_1, ht_0_2, hn_0_2, ht_0_3, hn_0_3, hnf_0, ht_1_0, hn_1_0, ht_1_1, hn_1_1, ht_1_2, hn_1_2, ht_1_3, hn_1_3, ht_1_4, hn_1_4, ht_1_5, hn_1_5, ht_1_6, hn_1_6, ht_1_7, hn_1_7, ht_1_8, hn_1_8, ht_1_9, hn_1_9, ht_1_10, hn_1_10, ht_1_11, hn_1_11, ht_1_12, hn_1_12, ht_1_13, hn_1_13, hnf_1, ht_2_0, hn_2_0, ht_2_1, hn_2_1, ht_2_2, hn_2_2, hnf_2, ht_3_0, hn_3_0, ht_3_1, hn_3_1, ht_3_2, hn_3_2, ht_3_3, hn_3_3, ht_3_4, hn_3_4, ht_3_5, hn_3_5, ht_3_6, hn_3_6, ht_3_7, hn_3_7, ht_3_8, hn_3_8, ht_3_9, hn_3_9, ht_3_10, hn_3_10, hnf_3, ht_4_0, hn_4_0, ht_4_1, hn_4_1, ht_4_2, hn_4_2, ht_4_3, hn_4_3, ht_4_4, hn_4_4, ht_4_5, hn_4_5, ht_4_6, hn_4_6, ht_4_7, hn_4_7, ht_4_8, hn_4_8, ht_4_9, hn_4_9, ht_4_10, hn_4_10, ht_4_11, hn_4_11, ht_4_12, hn_4_12, ht_4_13, hn_4_13, ht_4_14, hn_4_14, ht_4_15, hn_4_15, ht_4_16, hn_4_16, ht_4_17, hn_4_17, ht_4_18, hn_4_18, ht_4_19, hn_4_19, hnf_4, hc_im1, hc_i0, hc_i1, hc_i2, hc_i3, hc_i4, hc_i5, hc_bm2, hc_b6, hc_b7, hc_b15, hc_b64, hc_s500, hc_s1000, hc_s2000, hw_10, hw_01, hp_F_3_18, hp_F_3_99, dX3_openLeaves_0, dX3_openLeaves_1, dX3_openLeaves_2, dX3_openLeaves_3, dX3_openLeaves_4, dX3_openLeaves_5, dX3_openLeaves_7, dX3_openLeaves_10, dX3_openLeaves_11, dX3_openLeaves_14, dX3_openLeaves_15, dX3_openLeaves_16, dX3_openLeaves_17, dX3_openLeaves_18, dX3_openLeaves_21, dX3_openLeaves_22, dX3_openLeaves_25, dX3_openLeaves_28, dX3_openLeaves_29, dX3_openLeaves_32, dX3_openLeaves_35, dX3_openLeaves_38, dX3_openLeaves_41, dX3_openLeaves_44, dX3_openLeaves_45, kx, r1, kc, nc, k1, i8, g3, rm_vc, rm_vs, g, h5, h6, eR, nI_1, hw_20, hw_30, hw_40, hx_0, hx_1, hx_2, hx_3, hx_4, hy_00, hy_10]
          exact ih2 _ (by simp)
        · have g4 : op M i = 1 := by omega
          have g3 : ¬ nI (op M i) = 0 := by rw [g4]; decide
          simp only [g4, decide_true, Bool.and_true, decide_eq_true_eq] at ih2
          simp only [or_true, or_false, true_or, false_or, or_self, hp_wp0, hp_wpS, eq_self, true_and, and_true, false_and, and_false, if_true, if_false, Bool.false_eq_true, Bool.or_false, Bool.or_true, Bool.true_or, Bool.false_or, ite_true, ite_false, ↓reduceIte, reduceCtorEq, Nat.reduceBEq, Nat.reduceAdd, Nat.reduceEqDiff, Nat.reduceLT, Nat.reduceLeDiff, Int.reduceAdd, Int.reduceToNat, Int.reduceLE, Int.reduceNeg, Int.cast_ofNat_Int, Nat.zero_add, Option.some.injEq, exists_eq_left', exists_eq_left, not_true_eq_false, not_false_eq_true, false_implies, true_implies, forall_const, implies_true, List.cons_append, List.nil_append, Nat.le_refl, Nat.zero_le, hp_K_sI, hp_K_sJ, hp_K_sR, hp_N_sI, hp_N_sJ, hp_N_sR, hp_I_sI, hp_I_sJ, hp_I_sR, hp_J_sI, hp_J_sJ, hp_J_sR, hp_R_sI, hp_R_sJ, hp_R_sR, hr_iconst, hr_bipush, hr_iload_n, hr_istore_n, hr_aload_n, hr_astore_n, hr_iinc, hr_ifCond_eq, hr_if_icmp_ge, hr_ifnull, hr_goto, hr_getfield, hr_aaload, hr_ireturn, hr_invokevirtual, hz_i1, hz_i2, hz_l1, hz_l2, hz_r1, hz_r2, hz_ia, hz_via, hz_vr, hz_ld0, hz_ld1, hz_ld2, hz_s0, hz_s1, hz_s2, hz_g0, hz_g1, hz_d0, hz_d1, hz_d3, hz_d2, hz_t0, hz_t1, hz_t3, hz_t2, hz_c0, hz_c1, hz_rti, hz_rtl, hz_rta, hz_rtv, hz_br, hz_fh0, hz_fh1, hz_fh2, hz_fh3, hz_ft0, hz_ft1, hz_ft2, hz_ft3, hz_sF0, hz_sF1, hz_sF2, hz_lg0, hz_lg1, hz_lg2, hz_f0, hz_f1, hz_f2, hz_f3, hz_k0, hz_k1, hz_rm, hz_ok0, hz_ok1, hz_ok2, hz_ok3, hz_ok4, hz_l0, hz_l1c, hz_ar0, hz_ar1, ht_0_0, hn_0_0, ht_0_1, hn_0_1, ht_0_2, hn_0_2, ht_0_3, hn_0_3, hnf_0, ht_1_0, hn_1_0, ht_1_1, hn_1_1, ht_1_2, hn_1_2, ht_1_3, hn_1_3, ht_1_4, hn_1_4, ht_1_5, hn_1_5, ht_1_6, hn_1_6, ht_1_7, hn_1_7, ht_1_8, hn_1_8, ht_1_9, hn_1_9, ht_1_10, hn_1_10, ht_1_11, hn_1_11, ht_1_12, hn_1_12, ht_1_13, hn_1_13, hnf_1, ht_2_0, hn_2_0, ht_2_1, hn_2_1, ht_2_2, hn_2_2, hnf_2, ht_3_0, hn_3_0, ht_3_1, hn_3_1, ht_3_2, hn_3_2, ht_3_3, hn_3_3, ht_3_4, hn_3_4, ht_3_5, hn_3_5, ht_3_6, hn_3_6, ht_3_7, hn_3_7, ht_3_8, hn_3_8, ht_3_9, hn_3_9, ht_3_10, hn_3_10, hnf_3, ht_4_0, hn_4_0, ht_4_1, hn_4_1, ht_4_2, hn_4_2, ht_4_3, hn_4_3, ht_4_4, hn_4_4, ht_4_5, hn_4_5, ht_4_6, hn_4_6, ht_4_7, hn_4_7, ht_4_8, hn_4_8, ht_4_9, hn_4_9, ht_4_10, hn_4_10, ht_4_11, hn_4_11, ht_4_12, hn_4_12, ht_4_13, hn_4_13, ht_4_14, hn_4_14, ht_4_15, hn_4_15, ht_4_16, hn_4_16, ht_4_17, hn_4_17, ht_4_18, hn_4_18, ht_4_19, hn_4_19, hnf_4, hc_im1, hc_i0, hc_i1, hc_i2, hc_i3, hc_i4, hc_i5, hc_bm2, hc_b6, hc_b7, hc_b15, hc_b64, hc_s500, hc_s1000, hc_s2000, hw_10, hw_01, hp_F_3_18, hp_F_3_99, dX3_openLeaves_0, dX3_openLeaves_1, dX3_openLeaves_2, dX3_openLeaves_3, dX3_openLeaves_4, dX3_openLeaves_5, dX3_openLeaves_7, dX3_openLeaves_10, dX3_openLeaves_11, dX3_openLeaves_14, dX3_openLeaves_15, dX3_openLeaves_16, dX3_openLeaves_17, dX3_openLeaves_18, dX3_openLeaves_21, dX3_openLeaves_22, dX3_openLeaves_25, dX3_openLeaves_28, dX3_openLeaves_29, dX3_openLeaves_32, dX3_openLeaves_35, dX3_openLeaves_38, dX3_openLeaves_41, dX3_openLeaves_44, dX3_openLeaves_45, kx, r1, kc, nc, k1, i8, g3, rm_vc, rm_vs, g, h5, h6, eR, hw_20, hw_30, hw_40, hx_0, hx_1, hx_2, hx_3, hx_4, hy_00, hy_10]
          refine hp_callV (as := []) (rest := []) C D dX3_openLeaves_29 kV_3_69 (mt_isLeaf l G S (dna Z i) k1) k1 (by decide) rfl ⟨⟨by decide, by decide⟩, ⟨by decide, by decide⟩, by decide⟩ (fun v S' hv => ?_)
          obtain ⟨rfl, rfl⟩ := hv
          simp only [leaf_iff h hw hil g1]
          refine hp_run C [4] 60 _ _ _ _ ?_
          by_cases g5 : ¬ i = 0 ∧ nch M i = 0
          · simp only [if_pos g5] at ih2 ⊢
            simp only [or_true, or_false, true_or, false_or, or_self, hp_wp0, hp_wpS, eq_self, true_and, and_true, false_and, and_false, if_true, if_false, Bool.false_eq_true, Bool.or_false, Bool.or_true, Bool.true_or, Bool.false_or, ite_true, ite_false, ↓reduceIte, reduceCtorEq, Nat.reduceBEq, Nat.reduceAdd, Nat.reduceEqDiff, Nat.reduceLT, Nat.reduceLeDiff, Int.reduceAdd, Int.reduceToNat, Int.reduceLE, Int.reduceNeg, Int.cast_ofNat_Int, Nat.zero_add, Option.some.injEq, exists_eq_left', exists_eq_left, not_true_eq_false, not_false_eq_true, false_implies, true_implies, forall_const, implies_true, List.cons_append, List.nil_append, Nat.le_refl, Nat.zero_le, hp_K_sI, hp_K_sJ, hp_K_sR, hp_N_sI, hp_N_sJ, hp_N_sR, hp_I_sI, hp_I_sJ, hp_I_sR, hp_J_sI, hp_J_sJ, hp_J_sR, hp_R_sI, hp_R_sJ, hp_R_sR, hr_iconst, hr_bipush, hr_iload_n, hr_istore_n, hr_aload_n, hr_astore_n, hr_iinc, hr_ifCond_eq, hr_if_icmp_ge, hr_ifnull, hr_goto, hr_getfield, hr_aaload, hr_ireturn, hr_invokevirtual, hz_i1, hz_i2, hz_l1, hz_l2, hz_r1, hz_r2, hz_ia, hz_via, hz_vr, hz_ld0, hz_ld1, hz_ld2, hz_s0, hz_s1, hz_s2, hz_g0, hz_g1, hz_d0, hz_d1, hz_d3, hz_d2, hz_t0, hz_t1, hz_t3, hz_t2, hz_c0, hz_c1, hz_rti, hz_rtl, hz_rta, hz_rtv, hz_br, hz_fh0, hz_fh1, hz_fh2, hz_fh3, hz_ft0, hz_ft1, hz_ft2, hz_ft3, hz_sF0, hz_sF1, hz_sF2, hz_lg0, hz_lg1, hz_lg2, hz_f0, hz_f1, hz_f2, hz_f3, hz_k0, hz_k1, hz_rm, hz_ok0, hz_ok1, hz_ok2, hz_ok3, hz_ok4, hz_l0, hz_l1c, hz_ar0, hz_ar1, ht_0_0, hn_0_0, ht_0_1, hn_0_1, ht_0_2, hn_0_2, ht_0_3, hn_0_3, hnf_0, ht_1_0, hn_1_0, ht_1_1, hn_1_1, ht_1_2, hn_1_2, ht_1_3, hn_1_3, ht_1_4, hn_1_4, ht_1_5, hn_1_5, ht_1_6, hn_1_6, ht_1_7, hn_1_7, ht_1_8, hn_1_8, ht_1_9, hn_1_9, ht_1_10, hn_1_10, ht_1_11, hn_1_11, ht_1_12, hn_1_12, ht_1_13, hn_1_13, hnf_1, ht_2_0, hn_2_0, ht_2_1, hn_2_1, ht_2_2, hn_2_2, hnf_2, ht_3_0, hn_3_0, ht_3_1, hn_3_1, ht_3_2, hn_3_2, ht_3_3, hn_3_3, ht_3_4, hn_3_4, ht_3_5, hn_3_5, ht_3_6, hn_3_6, ht_3_7, hn_3_7, ht_3_8, hn_3_8, ht_3_9, hn_3_9, ht_3_10, hn_3_10, hnf_3, ht_4_0, hn_4_0, ht_4_1, hn_4_1, ht_4_2, hn_4_2, ht_4_3, hn_4_3, ht_4_4, hn_4_4, ht_4_5, hn_4_5, ht_4_6, hn_4_6, ht_4_7, hn_4_7, ht_4_8, hn_4_8, ht_4_9, hn_4_9, ht_4_10, hn_4_10, ht_4_11, hn_4_11, ht_4_12, hn_4_12, ht_4_13, hn_4_13, ht_4_14, hn_4_14, ht_4_15, hn_4_15, ht_4_16, hn_4_16, ht_4_17, hn_4_17, ht_4_18, hn_4_18, ht_4_19, hn_4_19, hnf_4, hc_im1, hc_i0, hc_i1, hc_i2, hc_i3, hc_i4, hc_i5, hc_bm2, hc_b6, hc_b7, hc_b15, hc_b64, hc_s500, hc_s1000, hc_s2000, hw_10, hw_01, hp_F_3_18, hp_F_3_99, dX3_openLeaves_0, dX3_openLeaves_1, dX3_openLeaves_2, dX3_openLeaves_3, dX3_openLeaves_4, dX3_openLeaves_5, dX3_openLeaves_7, dX3_openLeaves_10, dX3_openLeaves_11, dX3_openLeaves_14, dX3_openLeaves_15, dX3_openLeaves_16, dX3_openLeaves_17, dX3_openLeaves_18, dX3_openLeaves_21, dX3_openLeaves_22, dX3_openLeaves_25, dX3_openLeaves_28, dX3_openLeaves_29, dX3_openLeaves_32, dX3_openLeaves_35, dX3_openLeaves_38, dX3_openLeaves_41, dX3_openLeaves_44, dX3_openLeaves_45, rm_vc, rm_vs, rm_0c, rm_0s, nI_1, Option.toList_some, List.singleton_append, hw_20, hw_30, hw_40, hx_0, hx_1, hx_2, hx_3, hx_4, hy_00, hy_10]
            exact ih2 _ (by simp)
          · simp only [if_neg g5, Nat.add_zero] at ih2 ⊢
            simp only [or_true, or_false, true_or, false_or, or_self, hp_wp0, hp_wpS, eq_self, true_and, and_true, false_and, and_false, if_true, if_false, Bool.false_eq_true, Bool.or_false, Bool.or_true, Bool.true_or, Bool.false_or, ite_true, ite_false, ↓reduceIte, reduceCtorEq, Nat.reduceBEq, Nat.reduceAdd, Nat.reduceEqDiff, Nat.reduceLT, Nat.reduceLeDiff, Int.reduceAdd, Int.reduceToNat, Int.reduceLE, Int.reduceNeg, Int.cast_ofNat_Int, Nat.zero_add, Option.some.injEq, exists_eq_left', exists_eq_left, not_true_eq_false, not_false_eq_true, false_implies, true_implies, forall_const, implies_true, List.cons_append, List.nil_append, Nat.le_refl, Nat.zero_le, hp_K_sI, hp_K_sJ, hp_K_sR, hp_N_sI, hp_N_sJ, hp_N_sR, hp_I_sI, hp_I_sJ, hp_I_sR, hp_J_sI, hp_J_sJ, hp_J_sR, hp_R_sI, hp_R_sJ, hp_R_sR, hr_iconst, hr_bipush, hr_iload_n, hr_istore_n, hr_aload_n, hr_astore_n, hr_iinc, hr_ifCond_eq, hr_if_icmp_ge, hr_ifnull, hr_goto, hr_getfield, hr_aaload, hr_ireturn, hr_invokevirtual, hz_i1, hz_i2, hz_l1, hz_l2, hz_r1, hz_r2, hz_ia, hz_via, hz_vr, hz_ld0, hz_ld1, hz_ld2, hz_s0, hz_s1, hz_s2, hz_g0, hz_g1, hz_d0, hz_d1, hz_d3, hz_d2, hz_t0, hz_t1, hz_t3, hz_t2, hz_c0, hz_c1, hz_rti, hz_rtl, hz_rta, hz_rtv, hz_br, hz_fh0, hz_fh1, hz_fh2, hz_fh3, hz_ft0, hz_ft1, hz_ft2, hz_ft3, hz_sF0, hz_sF1, hz_sF2, hz_lg0, hz_lg1, hz_lg2, hz_f0, hz_f1, hz_f2, hz_f3, hz_k0, hz_k1, hz_rm, hz_ok0, hz_ok1, hz_ok2, hz_ok3, hz_ok4, hz_l0, hz_l1c, hz_ar0, hz_ar1, ht_0_0, hn_0_0, ht_0_1, hn_0_1, ht_0_2, hn_0_2, ht_0_3, hn_0_3, hnf_0, ht_1_0, hn_1_0, ht_1_1, hn_1_1, ht_1_2, hn_1_2, ht_1_3, hn_1_3, ht_1_4, hn_1_4, ht_1_5, hn_1_5, ht_1_6, hn_1_6, ht_1_7, hn_1_7, ht_1_8, hn_1_8, ht_1_9, hn_1_9, ht_1_10, hn_1_10, ht_1_11, hn_1_11, ht_1_12, hn_1_12, ht_1_13, hn_1_13, hnf_1, ht_2_0, hn_2_0, ht_2_1, hn_2_1, ht_2_2, hn_2_2, hnf_2, ht_3_0, hn_3_0, ht_3_1, hn_3_1, ht_3_2, hn_3_2, ht_3_3, hn_3_3, ht_3_4, hn_3_4, ht_3_5, hn_3_5, ht_3_6, hn_3_6, ht_3_7, hn_3_7, ht_3_8, hn_3_8, ht_3_9, hn_3_9, ht_3_10, hn_3_10, hnf_3, ht_4_0, hn_4_0, ht_4_1, hn_4_1, ht_4_2, hn_4_2, ht_4_3, hn_4_3, ht_4_4, hn_4_4, ht_4_5, hn_4_5, ht_4_6, hn_4_6, ht_4_7, hn_4_7, ht_4_8, hn_4_8, ht_4_9, hn_4_9, ht_4_10, hn_4_10, ht_4_11, hn_4_11, ht_4_12, hn_4_12, ht_4_13, hn_4_13, ht_4_14, hn_4_14, ht_4_15, hn_4_15, ht_4_16, hn_4_16, ht_4_17, hn_4_17, ht_4_18, hn_4_18, ht_4_19, hn_4_19, hnf_4, hc_im1, hc_i0, hc_i1, hc_i2, hc_i3, hc_i4, hc_i5, hc_bm2, hc_b6, hc_b7, hc_b15, hc_b64, hc_s500, hc_s1000, hc_s2000, hw_10, hw_01, hp_F_3_18, hp_F_3_99, dX3_openLeaves_0, dX3_openLeaves_1, dX3_openLeaves_2, dX3_openLeaves_3, dX3_openLeaves_4, dX3_openLeaves_5, dX3_openLeaves_7, dX3_openLeaves_10, dX3_openLeaves_11, dX3_openLeaves_14, dX3_openLeaves_15, dX3_openLeaves_16, dX3_openLeaves_17, dX3_openLeaves_18, dX3_openLeaves_21, dX3_openLeaves_22, dX3_openLeaves_25, dX3_openLeaves_28, dX3_openLeaves_29, dX3_openLeaves_32, dX3_openLeaves_35, dX3_openLeaves_38, dX3_openLeaves_41, dX3_openLeaves_44, dX3_openLeaves_45, rm_vc, rm_vs, rm_0c, rm_0s, nI_1, Option.toList_some, List.singleton_append, hw_20, hw_30, hw_40, hx_0, hx_1, hx_2, hx_3, hx_4, hy_00, hy_10]
            exact ih2 _ (by simp)
  refine hp_run C [4] 60 _ _ _ _ ?_
  simp only [or_true, or_false, true_or, false_or, or_self, hp_wp0, hp_wpS, eq_self, true_and, and_true, false_and, and_false, if_true, if_false, Bool.false_eq_true, Bool.or_false, Bool.or_true, Bool.true_or, Bool.false_or, ite_true, ite_false, ↓reduceIte, reduceCtorEq, Nat.reduceBEq, Nat.reduceAdd, Nat.reduceEqDiff, Nat.reduceLT, Nat.reduceLeDiff, Int.reduceAdd, Int.reduceToNat, Int.reduceLE, Int.reduceNeg, Int.cast_ofNat_Int, Nat.zero_add, Option.some.injEq, exists_eq_left', exists_eq_left, not_true_eq_false, not_false_eq_true, false_implies, true_implies, forall_const, implies_true, List.cons_append, List.nil_append, Nat.le_refl, Nat.zero_le, hp_K_sI, hp_K_sJ, hp_K_sR, hp_N_sI, hp_N_sJ, hp_N_sR, hp_I_sI, hp_I_sJ, hp_I_sR, hp_J_sI, hp_J_sJ, hp_J_sR, hp_R_sI, hp_R_sJ, hp_R_sR, hr_iconst, hr_bipush, hr_iload_n, hr_istore_n, hr_aload_n, hr_astore_n, hr_iinc, hr_ifCond_eq, hr_if_icmp_ge, hr_ifnull, hr_goto, hr_getfield, hr_aaload, hr_ireturn, hr_invokevirtual, hz_i1, hz_i2, hz_l1, hz_l2, hz_r1, hz_r2, hz_ia, hz_via, hz_vr, hz_ld0, hz_ld1, hz_ld2, hz_s0, hz_s1, hz_s2, hz_g0, hz_g1, hz_d0, hz_d1, hz_d3, hz_d2, hz_t0, hz_t1, hz_t3, hz_t2, hz_c0, hz_c1, hz_rti, hz_rtl, hz_rta, hz_rtv, hz_br, hz_fh0, hz_fh1, hz_fh2, hz_fh3, hz_ft0, hz_ft1, hz_ft2, hz_ft3, hz_sF0, hz_sF1, hz_sF2, hz_lg0, hz_lg1, hz_lg2, hz_f0, hz_f1, hz_f2, hz_f3, hz_k0, hz_k1, hz_rm, hz_ok0, hz_ok1, hz_ok2, hz_ok3, hz_ok4, hz_l0, hz_l1c, hz_ar0, hz_ar1, ht_0_0, hn_0_0, ht_0_1, hn_0_1, ht_0_2, hn_0_2, ht_0_3, hn_0_3, hnf_0, ht_1_0, hn_1_0, ht_1_1, hn_1_1, ht_1_2, hn_1_2, ht_1_3, hn_1_3, ht_1_4, hn_1_4, ht_1_5, hn_1_5, ht_1_6, hn_1_6, ht_1_7, hn_1_7, ht_1_8, hn_1_8, ht_1_9, hn_1_9, ht_1_10, hn_1_10, ht_1_11, hn_1_11, ht_1_12, hn_1_12, ht_1_13, hn_1_13, hnf_1, ht_2_0, hn_2_0, ht_2_1, hn_2_1, ht_2_2, hn_2_2, hnf_2, ht_3_0, hn_3_0, ht_3_1, hn_3_1, ht_3_2, hn_3_2, ht_3_3, hn_3_3, ht_3_4, hn_3_4, ht_3_5, hn_3_5, ht_3_6, hn_3_6, ht_3_7, hn_3_7, ht_3_8, hn_3_8, ht_3_9, hn_3_9, ht_3_10, hn_3_10, hnf_3, ht_4_0, hn_4_0, ht_4_1, hn_4_1, ht_4_2, hn_4_2, ht_4_3, hn_4_3, ht_4_4, hn_4_4, ht_4_5, hn_4_5, ht_4_6, hn_4_6, ht_4_7, hn_4_7, ht_4_8, hn_4_8, ht_4_9, hn_4_9, ht_4_10, hn_4_10, ht_4_11, hn_4_11, ht_4_12, hn_4_12, ht_4_13, hn_4_13, ht_4_14, hn_4_14, ht_4_15, hn_4_15, ht_4_16, hn_4_16, ht_4_17, hn_4_17, ht_4_18, hn_4_18, ht_4_19, hn_4_19, hnf_4, hc_im1, hc_i0, hc_i1, hc_i2, hc_i3, hc_i4, hc_i5, hc_bm2, hc_b6, hc_b7, hc_b15, hc_b64, hc_s500, hc_s1000, hc_s2000, hw_10, hw_01, hp_F_3_18, hp_F_3_99, dX3_openLeaves_0, dX3_openLeaves_1, dX3_openLeaves_2, dX3_openLeaves_3, dX3_openLeaves_4, dX3_openLeaves_5, dX3_openLeaves_7, dX3_openLeaves_10, dX3_openLeaves_11, dX3_openLeaves_14, dX3_openLeaves_15, dX3_openLeaves_16, dX3_openLeaves_17, dX3_openLeaves_18, dX3_openLeaves_21, dX3_openLeaves_22, dX3_openLeaves_25, dX3_openLeaves_28, dX3_openLeaves_29, dX3_openLeaves_32, dX3_openLeaves_35, dX3_openLeaves_38, dX3_openLeaves_41, dX3_openLeaves_44, dX3_openLeaves_45, rm_vc, rm_vs, hw_20, hw_30, hw_40, hx_0, hx_1, hx_2, hx_3, hx_4, hy_00, hy_10]
  exact loop 64 0 _ rfl (by simp [clv, nI_0])
end M45
