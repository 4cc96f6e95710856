/-! THE CLASS: clear -/
section M51
theorem sI_cm (S : hp_T) (a b f g : Nat) (v w : Int32) (h : ¬ f = g) : hp_sI (hp_sI S a f v) b g w = hp_sI (hp_sI S b g w) a f v := by
  refine Prod.ext rfl (Prod.ext ?_ rfl)
  funext x j
  show (if x = b ∧ j = g then w else if x = a ∧ j = f then v else S.2.1 x j) = (if x = a ∧ j = f then v else if x = b ∧ j = g then w else S.2.1 x j)
  by_cases e : j = g
  · have e2 : ¬ j = f := fun q => h (by rw [← q, e])
    simp [e2]
  · simp [e]
theorem sJ_cm (S : hp_T) (a b f g : Nat) (v : Int32) (w : Int64) : hp_sJ (hp_sI S a f v) b g w = hp_sI (hp_sJ S b g w) a f v := rfl
theorem lk_w {S : hp_T} {a f g : Nat} {v : Int32} {r : Option Nat} {as : List Nat} (h : lk (hp_sI S a f v) g r as) : lk S g r as := lk_eq (S := hp_sI S a f v) (S' := S) rfl g as r h
theorem f_catch_w (S : hp_T) (x0 a : Nat) (v : Int32) : f_catch (hp_sI S x0 3 v) a = hp_sI (f_catch S a) x0 3 v := by
  unfold f_catch
  rw [hp_R_sI]
  cases hp_R S a 4 with
  | none => rfl
  | some p =>
    show (if hp_J S a 10 < hp_J S p 12 then hp_sI (hp_sJ (hp_sI S x0 3 v) a 10 (hp_J S p 12)) a 11 0 else hp_sI S x0 3 v) = hp_sI (if hp_J S a 10 < hp_J S p 12 then hp_sI (hp_sJ S a 10 (hp_J S p 12)) a 11 0 else S) x0 3 v
    by_cases g : hp_J S a 10 < hp_J S p 12
    · rw [if_pos g, if_pos g, sJ_cm, sI_cm _ _ _ _ _ _ _ (by omega)]
    · rw [if_neg g, if_neg g]
theorem s_flip_w (S : hp_T) (x0 u : Nat) (v o : Int32) : s_flip (hp_sI S x0 3 v) u o = hp_sI (s_flip S u o) x0 3 v := by
  unfold s_flip
  rw [hp_R_sI]
  have e : ∀ p, hp_I (hp_sI S x0 3 v) p 7 = hp_I S p 7 := fun p => by rw [hp_I_sI, if_neg (fun q => by omega)]
  cases hp_R S u 4 with
  | none =>
    simp only
    by_cases g : o = 0
    · rw [if_pos g, if_pos g, sI_cm _ _ _ _ _ _ _ (by omega)]
    · rw [if_neg g, if_neg g, sI_cm _ _ _ _ _ _ _ (by omega), f_catch_w]
  | some p =>
    simp only [e]
    by_cases g : o = 0
    · subst g
      simp only [if_true]
      rw [sI_cm S x0 u 3 8 v 0 (by omega), sI_cm _ x0 p 3 7 v _ (by omega)]
    · simp only [if_neg g]
      rw [sI_cm S x0 u 3 8 v o (by omega), sI_cm _ x0 p 3 7 v _ (by omega), f_catch_w]
theorem s_opn_w (S : hp_T) (x0 u : Nat) (v : Int32) : s_opn (hp_sI S x0 3 v) x0 u = s_opn S x0 u := by
  have e : ∀ a j, ¬ j = 3 → hp_I (hp_sI S x0 3 v) a j = hp_I S a j := fun a j hj => by rw [hp_I_sI, if_neg (fun q => hj q.2)]
  have e1 : s_hoc (hp_sI S x0 3 v) u ↔ s_hoc S u := by
    unfold s_hoc
    rw [hp_R_sI, e _ 2 (by omega), e _ 7 (by omega)]
  have e2 : (hp_I (hp_sI S x0 3 v) u 9 ≤ hp_I (hp_sI S x0 3 v) x0 5) ↔ hp_I S u 9 ≤ hp_I S x0 5 := by rw [e _ 9 (by omega), e _ 5 (by omega)]
  by_cases g : hp_I S u 9 ≤ hp_I S x0 5 ∧ s_hoc S u
  · rw [s_opn_1 g.1 g.2, s_opn_1 (e2.mpr g.1) (e1.mpr g.2)]
  · rw [s_opn_0 g, s_opn_0 (fun q => g ⟨e2.mp q.1, e1.mp q.2⟩)]
theorem f_settle_w (x0 : Nat) (v : Int32) : ∀ (us : List Nat) (S : hp_T), f_settle x0 us (hp_sI S x0 3 v) = hp_sI (f_settle x0 us S) x0 3 v := by
  intro us
  induction us with
  | nil => exact fun _ => rfl
  | cons u us ih =>
    intro S
    show (if s_opn (hp_sI S x0 3 v) x0 u = hp_I (hp_sI S x0 3 v) u 8 then hp_sI S x0 3 v else f_settle x0 us (s_flip (hp_sI S x0 3 v) u (s_opn (hp_sI S x0 3 v) x0 u))) = hp_sI (if s_opn S x0 u = hp_I S u 8 then S else f_settle x0 us (s_flip S u (s_opn S x0 u))) x0 3 v
    have e8 : hp_I (hp_sI S x0 3 v) u 8 = hp_I S u 8 := by rw [hp_I_sI, if_neg (fun q => by omega)]
    rw [s_opn_w, e8]
    by_cases g : s_opn S x0 u = hp_I S u 8
    · rw [if_pos g, if_pos g]
    · rw [if_neg g, if_neg g, s_flip_w, ih]
theorem f_settle_3 {S : hp_T} {x0 : Nat} {us : List Nat} {v : Int32} (h : hp_I S x0 3 = v) : hp_I (f_settle x0 us S) x0 3 = v := by
  have e : hp_sI S x0 3 v = S := by
    refine Prod.ext rfl (Prod.ext ?_ rfl)
    funext x j
    show (if x = x0 ∧ j = 3 then v else S.2.1 x j) = S.2.1 x j
    by_cases g : x = x0 ∧ j = 3
    · rw [if_pos g, g.1, g.2, ← h]
      rfl
    · rw [if_neg g]
  have e2 := f_settle_w x0 v us S
  rw [e] at e2
  rw [e2, hp_I_sI, if_pos ⟨rfl, rfl⟩]
theorem frC_w {S T : hp_T} {x0 : Nat} {v w : Int32} (kx : hp_K S x0 = 4) (h : frC (hp_sI S x0 3 v) (hp_sI T x0 3 w)) : frC S T := by
  intro a q1 q2
  have hx : ¬ a = x0 := fun q => by rw [q, kx] at q1; omega
  obtain ⟨b1, b2, b3, b4, b5⟩ := h a q1 q2
  refine ⟨b1, b2, fun j => ?_, b4, b5⟩
  have := b3 j
  rw [hp_I_sI, if_neg (fun q => hx q.1), hp_I_sI, if_neg (fun q => hx q.1)] at this
  exact this
/-- the last packet's link leads to the spare ones -/
theorem lk_join {S S' : hp_T} {f q : Nat} {r' : Option Nat} {bs : List Nat} : ∀ (as : List Nat) (r : Option Nat), as.Nodup → as.getLast? = some q → lk S f r as → (∀ a ∈ as, ¬ a = q → hp_R S' a f = hp_R S a f) → hp_R S' q f = r' → lk S' f r' bs → lk S' f r (as ++ bs) := by
  intro as
  induction as with
  | nil => intro r _ h; cases h
  | cons a as ih =>
    intro r hn hl h hs hq hp
    obtain ⟨n1, n2⟩ := List.nodup_cons.mp hn
    cases as with
    | nil =>
      have e : a = q := by simpa using hl
      subst e
      refine ⟨h.1, ?_⟩
      show lk S' f (hp_R S' a f) bs
      rw [hq]
      exact hp
    | cons b as =>
      have hl2 : (b :: as).getLast? = some q := by rw [List.getLast?_cons_cons] at hl; exact hl
      have hq2 : q ∈ b :: as := List.mem_of_getLast? hl2
      have hne : ¬ a = q := fun e => n1 (by rw [e]; exact hq2)
      refine ⟨h.1, ?_⟩
      show lk S' f (hp_R S' a f) ((b :: as) ++ bs)
      rw [hs a List.mem_cons_self hne]
      exact ih _ n2 hl2 h.2 (fun x hx => hs x (List.mem_cons_of_mem _ hx)) hq hp
/-- a line is emptied onto the spare packets -/
theorem rn_empty {S S' : hp_T} {x0 : Nat} {Z : cd_T} {M : ab_T} {nb : Nat → Nat} (h : RepN S x0 Z M nb) {c q : Nat} (hc : c < 64) (hpc : ¬ pa M c = 65) (hq : hp_R S (dln Z c) 1 = some q) {P : List (Nat × Int32 × Nat)} (hP : ∀ e, P.filter (fun p => p.1 == e) = if e = c then [] else own M e) (hPl : P.length ≤ 2000) (eK : hp_K S' = hp_K S) (eN : hp_N S' = hp_N S) (eJ : hp_J S' = hp_J S) (eI : ∀ a j, hp_I S' a j = if a = x0 ∧ j = 3 then nI P.length else if a = dln Z c ∧ (j = 2 ∨ j = 3) then 0 else hp_I S a j) (eR : ∀ a j, hp_R S' a j = if a = x0 ∧ j = 10 then hp_R S (dln Z c) 0 else if a = dln Z c ∧ (j = 0 ∨ j = 1) then none else if a = q ∧ j = 2 then hp_R S x0 10 else hp_R S a j) : RepN S' x0 (zpk Z (fun e => if e = c then [] else dpk Z e) (dpk Z c ++ dsp Z) (fun a => if dow Z a = c then 64 else dow Z a)) (mP M P) nb ∧ frC S S' := by
  have h0 := h
  obtain ⟨h1, h2, h3, h4⟩ := h
  have kx := h1.1
  obtain ⟨-, hcl⟩ := h2 c hc hpc
  have kl := hcl.1
  have hlast : (dpk Z c).getLast? = some q := by rw [← hcl.2.2.1]; exact hq
  have hqk : ∀ z, z ∈ dpk Z c → hp_K S z = 3 ∧ dow Z z = c := fun z e => by
    obtain ⟨i, hi⟩ := List.getElem?_of_mem e
    exact ⟨(hcl.2.2.2.2.2.2.1 i z hi).1, (hcl.2.2.2.2.2.2.1 i z hi).2.1⟩
  have hqm : q ∈ dpk Z c := List.mem_of_getLast? hlast
  have kq := (hqk q hqm).1
  have hxl : ¬ x0 = dln Z c := fun z => by rw [z, kl] at kx; omega
  have hxq : ¬ x0 = q := fun z => by rw [z, kq] at kx; omega
  have nI1 : ∀ a, ¬ hp_K S a = 4 → ¬ hp_K S a = 1 → ∀ j, hp_I S' a j = hp_I S a j := fun a n1 n2 j => by
    rw [eI, if_neg (fun z => n1 (by rw [z.1]; exact kx)), if_neg (fun z => n2 (by rw [z.1]; exact kl))]
  have nR : ∀ a, ¬ hp_K S a = 4 → ¬ hp_K S a = 1 → ¬ a = q → ∀ j, hp_R S' a j = hp_R S a j := fun a n1 n2 n3 j => by
    rw [eR, if_neg (fun z => n1 (by rw [z.1]; exact kx)), if_neg (fun z => n2 (by rw [z.1]; exact kl)), if_neg (fun z => n3 z.1)]
  refine ⟨?_, ?_⟩
  · refine rn_pk h0 rfl rfl rfl hPl eK (fun a ha => ⟨fun j => nI1 a (by omega) (by omega) j, fun j => by rw [eJ], fun j => nR a (by omega) (by omega) (fun z => by rw [z, kq] at ha; omega) j⟩) ?_ (fun e he hpe => ?_) ?_
    · obtain ⟨a1, a2, a3, a4, a5, a6, a7, a8, a9, a10, a11, a12, a13, a14⟩ := h1
      have rc : ∀ j, hp_R S' (dca Z) j = hp_R S (dca Z) j := nR (dca Z) (by omega) (by omega) (fun z => by rw [z, kq] at a4; omega)
      unfold ct
      simp only [rc]
      simp only [eI, eR, hxl, hxq, false_and, if_false, true_and, Nat.reduceEqDiff, if_true]
      rw [eK, eN]
      exact ⟨a1, a2, a3, a4, a5, a6, rfl, a8, a9, a10, a11, a12, a13, a14⟩
    · obtain ⟨-, b⟩ := h2 e he hpe
      have ho : own (mP M P) e = if e = c then [] else own M e := hP e
      by_cases g : e = c
      · subst g
        rw [if_pos rfl] at ho
        have hlx : ¬ dln Z e = x0 := fun z => hxl z.symm
        show hp_K S' (dln Z e) = 1 ∧ lk S' 2 (hp_R S' (dln Z e) 0) (if e = e then [] else dpk Z e) ∧ hp_R S' (dln Z e) 1 = (if e = e then [] else dpk Z e).getLast? ∧ hp_I S' (dln Z e) 2 = nI (own (mP M P) e).length ∧ hp_I S' (dln Z e) 3 = nI ((own (mP M P) e).map (fun p => p.2.2)).sum ∧ (if e = e then [] else dpk Z e).length = (own (mP M P) e).length ∧ (∀ i a : Nat, (if e = e then [] else dpk Z e)[i]? = some a → hp_K S' a = 3 ∧ (if dow Z a = e then 64 else dow Z a) = e ∧ ∀ z : Nat × Int32 × Nat, (own (mP M P) e)[i]? = some z → hp_I S' a 0 = z.2.1 ∧ hp_I S' a 1 = nI z.2.2) ∧ (if e = e then [] else dpk Z e).Nodup
        rw [if_pos rfl, ho, eK]
        refine ⟨b.1, ?_, ?_, ?_, ?_, rfl, fun i a hi => by simp at hi, List.nodup_nil⟩
        · rw [eR, if_neg (fun z => hlx z.1), if_pos ⟨rfl, Or.inl rfl⟩]
          rfl
        · rw [eR, if_neg (fun z => hlx z.1), if_pos ⟨rfl, Or.inr rfl⟩]
          rfl
        · rw [eI, if_neg (fun z => hlx z.1), if_pos ⟨rfl, Or.inl rfl⟩]
          rfl
        · rw [eI, if_neg (fun z => hlx z.1), if_pos ⟨rfl, Or.inr rfl⟩]
          rfl
      · rw [if_neg g] at ho
        have hle : ¬ dln Z e = dln Z c := fun z => g (h4.2.1 e c he hpe hc hpc z)
        have kle := b.1
        have hlx : ¬ dln Z e = x0 := fun z => by rw [z, kx] at kle; omega
        have hlq : ¬ dln Z e = q := fun z => by rw [z, kq] at kle; omega
        refine cl_fr2 b (by rw [eK]) (fun j => ?_) (fun j => ?_) (fun a ha => ?_) ho ?_
        · rw [eI, if_neg (fun z => hlx z.1), if_neg (fun z => hle z.1)]
        · rw [eR, if_neg (fun z => hlx z.1), if_neg (fun z => hle z.1), if_neg (fun z => hlq z.1)]
        · obtain ⟨i, hi⟩ := List.getElem?_of_mem ha
          obtain ⟨d1, d2, -⟩ := b.2.2.2.2.2.2.1 i a hi
          have hnq : ¬ a = q := fun z => by
            have := (hqk q hqm).2
            rw [← z, d2] at this
            exact g this
          refine ⟨by rw [eK], nI1 a (by omega) (by omega), nR a (by omega) (by omega) hnq, ?_⟩
          show (if dow Z a = c then 64 else dow Z a) = dow Z a
          rw [if_neg (fun z => g (by rw [← d2]; exact z))]
        · show (if e = c then [] else dpk Z e) = dpk Z e
          rw [if_neg g]
    · obtain ⟨s1, s2, s3⟩ := h3
      refine ⟨?_, fun a ha => ?_, ?_⟩
      · show lk S' 2 (hp_R S' x0 10) (dpk Z c ++ dsp Z)
        rw [eR x0 10, if_pos ⟨rfl, rfl⟩]
        refine lk_join (S := S) (q := q) (r' := hp_R S x0 10) (dpk Z c) _ hcl.2.2.2.2.2.2.2 hlast hcl.2.1 (fun a ha hne => nR a (by have := (hqk a ha).1; omega) (by have := (hqk a ha).1; omega) hne 2) ?_ ?_
        · rw [eR, if_neg (fun z => hxq z.1.symm), if_neg (fun z => by rw [z.1, kl] at kq; omega), if_pos ⟨rfl, rfl⟩]
        · refine lk_cg _ _ (fun a ha => ?_) s1
          have ka := s2 a ha
          refine nR a (by omega) (by omega) (fun z => ?_) 2
          have := (hqk q hqm).2
          rw [← z, ka.2] at this
          omega
      · rcases List.mem_append.mp ha with y | y
        · have := hqk a y
          refine ⟨by rw [eK]; exact this.1, ?_⟩
          show (if dow Z a = c then 64 else dow Z a) = 64
          rw [if_pos this.2]
        · have := s2 a y
          refine ⟨by rw [eK]; exact this.1, ?_⟩
          show (if dow Z a = c then 64 else dow Z a) = 64
          rw [if_neg (fun z => by omega)]
          exact this.2
      · show (dpk Z c ++ dsp Z).Nodup
        rw [List.nodup_append]
        refine ⟨hcl.2.2.2.2.2.2.2, s3, fun a ha b hb => ?_⟩
        intro z
        have := (hqk a ha).2
        have := (s2 b hb).2
        rw [← z] at this
        omega
  · intro a q1 q2
    exact ⟨by rw [eK], by rw [eN], nI1 a (by omega) (by omega), fun j => by rw [eJ], nR a (by omega) (by omega) (fun z => by rw [z, kq] at q1; omega)⟩
/-- what is left when the classes below n have been cleared -/
noncomputable def clN (M : ab_T) (j n : Nat) : List (Nat × Int32 × Nat) := (pks M).filter (fun p => !(undB M p.1 j && decide (p.1 < n)))
theorem clN_0 (M : ab_T) (j : Nat) : clN M j 0 = pks M := by
  unfold clN
  simp
theorem clN_own (M : ab_T) (j n e : Nat) : (clN M j n).filter (fun p => p.1 == e) = if undB M e j = true ∧ e < n then [] else own M e := by
  unfold clN own
  rw [List.filter_filter]
  by_cases g : undB M e j = true ∧ e < n
  · rw [if_pos g, List.filter_eq_nil_iff]
    intro p hp
    simp only [Bool.and_eq_true, Bool.not_eq_true', Bool.and_eq_false_iff, decide_eq_false_iff_not, beq_iff_eq]
    rintro ⟨a, b | b⟩
    · rw [a, g.1] at b; cases b
    · exact b (by rw [a]; exact g.2)
  · rw [if_neg g]
    apply List.filter_congr
    intro p hp
    by_cases e2 : p.1 = e
    · have : (undB M p.1 j && decide (p.1 < n)) = false := by
        rw [e2]
        cases q : undB M e j with
        | false => rfl
        | true =>
          have : ¬ e < n := fun z => g ⟨q, z⟩
          simp [this]
      simp [this]
    · simp [e2]
theorem clN_keep {M : ab_T} {j n : Nat} (h : undB M n j = true → own M n = []) : clN M j (n + 1) = clN M j n := by
  unfold clN
  apply List.filter_congr
  intro p hp
  by_cases e : p.1 = n
  · cases q : undB M p.1 j with
    | false => rfl
    | true =>
      rw [e] at q
      have := own_nil.mp (h q) p hp
      exact absurd e this
  · have : (p.1 < n + 1) = (p.1 < n) := by apply propext; omega
    simp [this]
theorem clN_64 {M : ab_T} (hw : wfS M) (j : Nat) : clN M j 64 = (pks M).filter (fun p => !ub M j p) := by
  unfold clN ub
  apply List.filter_congr
  intro p hp
  have := (hw.2.2.2 p hp).1
  simp [this]
set_option maxRecDepth 20000 in
set_option maxHeartbeats 8000000 in
theorem ct_clear (l : Launch) (hlt : l.stackTraces = false) (G : hp_G) (S : hp_T) (x0 : Nat) (Z : cd_T) (M : ab_T) (c : Int32) (h : RepC S x0 Z M) (hr : rin M) : hp_MetX l G yX3_clear cX3_clear 6 (some .int) rm_w [.inr (.inr (some x0)), .inl c] S (fun v S' => ∃ r, v = some (.inl r) ∧ cps S x0 (sp_clear M c 0 r) S') (fun E => x_IOE E ∧ ∀ r, sp_clear M c 1 r M) := by
  have h1 := h.1
  have kx := h1.1
  have t3 := h1.2.2.2.2.2.2.1
  have hl20 := h.2.2.2.2.2.2.2
  refine hp_MetX.of (by decide) rfl hlt (by show 2 ≤ 6; decide) (fun X C D CX => ?_)
  refine hp_run C [11] 60 _ _ _ _ ?_
  simp only [or_true, or_false, true_or, false_or, or_self, hp_wp0, hp_wpS, eq_self, true_and, and_true, false_and, and_false, if_true, if_false, Bool.false_eq_true, Bool.or_false, Bool.or_true, Bool.true_or, Bool.false_or, ite_true, ite_false, ↓reduceIte, reduceCtorEq, Nat.reduceBEq, Nat.reduceAdd, Nat.reduceEqDiff, Nat.reduceLT, Nat.reduceLeDiff, Int.reduceAdd, Int.reduceToNat, Int.reduceLE, Int.reduceNeg, Int.cast_ofNat_Int, Nat.zero_add, Option.some.injEq, exists_eq_left', exists_eq_left, not_true_eq_false, not_false_eq_true, false_implies, true_implies, forall_const, implies_true, List.cons_append, List.nil_append, Nat.le_refl, Nat.zero_le, hp_K_sI, hp_K_sJ, hp_K_sR, hp_N_sI, hp_N_sJ, hp_N_sR, hp_I_sI, hp_I_sJ, hp_I_sR, hp_J_sI, hp_J_sJ, hp_J_sR, hp_R_sI, hp_R_sJ, hp_R_sR, hr_iconst, hr_bipush, hr_iload_n, hr_iload, hr_istore_n, hr_istore, hr_aload_n, hr_aload, hr_astore_n, hr_astore, hr_iinc, hr_iadd, hr_isub, hr_dup, hr_if_icmp_ge, hr_ifCond_le, hr_ifnull, hr_goto, hr_getfield, hr_putfield, hr_ireturn, hr_invokevirtual, hz_i1, hz_i2, hz_l1, hz_l2, hz_r1, hz_r2, hz_ia, hz_via, hz_vr, hz_ld0, hz_ld1, hz_ld2, hz_s0, hz_s1, hz_s2, hz_g0, hz_g1, hz_d0, hz_d1, hz_d3, hz_d2, hz_t0, hz_t1, hz_t3, hz_t2, hz_c0, hz_c1, hz_rti, hz_rtl, hz_rta, hz_rtv, hz_br, hz_fh0, hz_fh1, hz_fh2, hz_fh3, hz_ft0, hz_ft1, hz_ft2, hz_ft3, hz_sF0, hz_sF1, hz_sF2, hz_lg0, hz_lg1, hz_lg2, hz_f0, hz_f1, hz_f2, hz_f3, hz_k0, hz_k1, hz_rm, hz_ok0, hz_ok1, hz_ok2, hz_ok3, hz_ok4, hz_l0, hz_l1c, hz_ar0, hz_ar1, ht_0_0, hn_0_0, ht_0_1, hn_0_1, ht_0_2, hn_0_2, ht_0_3, hn_0_3, hnf_0, ht_1_0, hn_1_0, ht_1_1, hn_1_1, ht_1_2, hn_1_2, ht_1_3, hn_1_3, ht_1_4, hn_1_4, ht_1_5, hn_1_5, ht_1_6, hn_1_6, ht_1_7, hn_1_7, ht_1_8, hn_1_8, ht_1_9, hn_1_9, ht_1_10, hn_1_10, ht_1_11, hn_1_11, ht_1_12, hn_1_12, ht_1_13, hn_1_13, hnf_1, ht_2_0, hn_2_0, ht_2_1, hn_2_1, ht_2_2, hn_2_2, hnf_2, ht_3_0, hn_3_0, ht_3_1, hn_3_1, ht_3_2, hn_3_2, ht_3_3, hn_3_3, ht_3_4, hn_3_4, ht_3_5, hn_3_5, ht_3_6, hn_3_6, ht_3_7, hn_3_7, ht_3_8, hn_3_8, ht_3_9, hn_3_9, ht_3_10, hn_3_10, hnf_3, ht_4_0, hn_4_0, ht_4_1, hn_4_1, ht_4_2, hn_4_2, ht_4_3, hn_4_3, ht_4_4, hn_4_4, ht_4_5, hn_4_5, ht_4_6, hn_4_6, ht_4_7, hn_4_7, ht_4_8, hn_4_8, ht_4_9, hn_4_9, ht_4_10, hn_4_10, ht_4_11, hn_4_11, ht_4_12, hn_4_12, ht_4_13, hn_4_13, ht_4_14, hn_4_14, ht_4_15, hn_4_15, ht_4_16, hn_4_16, ht_4_17, hn_4_17, ht_4_18, hn_4_18, ht_4_19, hn_4_19, hnf_4, hc_im1, hc_i0, hc_i1, hc_i2, hc_i3, hc_i4, hc_i5, hc_bm2, hc_b6, hc_b7, hc_b15, hc_b64, hc_s500, hc_s1000, hc_s2000, hw_10, hw_01, hp_F_3_113, hp_F_3_133, hp_F_3_144, hp_F_3_43, hp_F_3_47, dX3_clear_0, dX3_clear_1, dX3_clear_2, dX3_clear_5, dX3_clear_6, dX3_clear_7, dX3_clear_8, dX3_clear_9, dX3_clear_11, dX3_clear_13, dX3_clear_15, dX3_clear_18, dX3_clear_19, dX3_clear_21, dX3_clear_22, dX3_clear_25, dX3_clear_27, dX3_clear_29, dX3_clear_32, dX3_clear_34, dX3_clear_37, dX3_clear_40, dX3_clear_43, dX3_clear_44, dX3_clear_46, dX3_clear_49, dX3_clear_52, dX3_clear_53, dX3_clear_54, dX3_clear_55, dX3_clear_57, dX3_clear_60, dX3_clear_61, dX3_clear_64, dX3_clear_67, dX3_clear_70, dX3_clear_71, dX3_clear_73, dX3_clear_76, dX3_clear_79, dX3_clear_82, dX3_clear_83, dX3_clear_84, dX3_clear_87, dX3_clear_88, dX3_clear_89, dX3_clear_92, dX3_clear_93, dX3_clear_94, dX3_clear_97, dX3_clear_98, dX3_clear_99, dX3_clear_102, dX3_clear_103, rm_wc, rm_ws, hw_20, hw_30, hw_40, hx_0, hx_1, hx_2, hx_3, hx_4, hy_00, hy_10]
  refine hp_callX (as := [.inl c]) (rest := []) C D CX dX3_clear_2 kV_3_32 (mt_existing l hlt G S x0 _ c (tk_ok h1)) h1.1 (by decide) rfl ⟨⟨by decide, by decide⟩, ⟨by decide, by decide⟩, by decide⟩ (by decide) (fun E q => ⟨q.1, fun r => Or.inl ⟨rfl, tc_none h1 q.2, rfl⟩⟩) (fun v S' hv => ?_)
  obtain ⟨rfl, a, ha, rfl⟩ := hv
  obtain ⟨j, hj, hpj, rfl, rfl⟩ := tc_some h1 ha
  refine hp_run C [11] 60 _ _ _ _ ?_
  have loop : ∀ (d i : Nat) (T : hp_T) (Zi : cd_T) (o : Nat → Nat) (L : hp_LL), i + d = 64 → (∀ q ∈ [(0, (.inr (.inr (some x0)) : hp_hv)), (1, .inl (nI j)), (2, .inr (.inr (some (dna Z j)))), (3, .inl (nI (sm (inC M j) i))), (4, .inl (nI i))], q ∈ L) → RepC (hp_sI T x0 3 (nI (clN M j i).length)) x0 Zi (a_set (mP M (clN M j i)) o) → fix (mP M (clN M j i)) o → hp_I T x0 3 = nI (pks M).length → frC S T → (∀ e, dna Zi e = dna Z e) → hp_V X 6 11 L [] T 1 6 := by
    intro d
    induction d with
    | zero =>
      intro i T Zi o L hi hL a1 a2 a3 a4 a5
      refine hp_sub hL ?_
      have e : i = 64 := by omega
      subst e
      have g : (64 : Int32) ≤ nI 64 := by decide
      have kt : hp_K T x0 = 4 := a1.1.1
      have t4 : hp_I T x0 4 = drp M := by
        have := a1.1.2.2.2.2.2.2.2.1
        rw [hp_I_sI, if_neg (fun q => by omega)] at this
        exact this
      refine hp_run1 C [11] 80 dX3_clear_11 ?_
      simp only [or_true, or_false, true_or, false_or, or_self, hp_wp0, hp_wpS, eq_self, true_and, and_true, false_and, and_false, if_true, if_false, Bool.false_eq_true, Bool.or_false, Bool.or_true, Bool.true_or, Bool.false_or, ite_true, ite_false, ↓reduceIte, reduceCtorEq, Nat.reduceBEq, Nat.reduceAdd, Nat.reduceEqDiff, Nat.reduceLT, Nat.reduceLeDiff, Int.reduceAdd, Int.reduceToNat, Int.reduceLE, Int.reduceNeg, Int.cast_ofNat_Int, Nat.zero_add, Option.some.injEq, exists_eq_left', exists_eq_left, not_true_eq_false, not_false_eq_true, false_implies, true_implies, forall_const, implies_true, List.cons_append, List.nil_append, Nat.le_refl, Nat.zero_le, hp_K_sI, hp_K_sJ, hp_K_sR, hp_N_sI, hp_N_sJ, hp_N_sR, hp_I_sI, hp_I_sJ, hp_I_sR, hp_J_sI, hp_J_sJ, hp_J_sR, hp_R_sI, hp_R_sJ, hp_R_sR, hr_iconst, hr_bipush, hr_iload_n, hr_iload, hr_istore_n, hr_istore, hr_aload_n, hr_aload, hr_astore_n, hr_astore, hr_iinc, hr_iadd, hr_isub, hr_dup, hr_if_icmp_ge, hr_ifCond_le, hr_ifnull, hr_goto, hr_getfield, hr_putfield, hr_ireturn, hr_invokevirtual, hz_i1, hz_i2, hz_l1, hz_l2, hz_r1, hz_r2, hz_ia, hz_via, hz_vr, hz_ld0, hz_ld1, hz_ld2, hz_s0, hz_s1, hz_s2, hz_g0, hz_g1, hz_d0, hz_d1, hz_d3, hz_d2, hz_t0, hz_t1, hz_t3, hz_t2, hz_c0, hz_c1, hz_rti, hz_rtl, hz_rta, hz_rtv, hz_br, hz_fh0, hz_fh1, hz_fh2, hz_fh3, hz_ft0, hz_ft1, hz_ft2, hz_ft3, hz_sF0, hz_sF1, hz_sF2, hz_lg0, hz_lg1, hz_lg2, hz_f0, hz_f1, hz_f2, hz_f3, hz_k0, hz_k1, hz_rm, hz_ok0, hz_ok1, hz_ok2, hz_ok3, hz_ok4, hz_l0, hz_l1c, hz_ar0, hz_ar1, ht_0_0, hn_0_0, ht_0_1, hn_0_1, ht_0_2, hn_0_2, ht_0_3, hn_0_3, hnf_0, ht_1_0, hn_1_0, ht_1_1, hn_1_1, ht_1_2, hn_1_2, ht_1_3, hn_1_3, ht_1_4, hn_1_4, ht_1_5, hn_1_5, ht_1_6, hn_1_6, ht_1_7, hn_1_7, ht_1_8, hn_1_8, ht_1_9, hn_1_9, ht_1_10, hn_1_10, ht_1_11, hn_1_11, ht_1_12, hn_1_12, ht_1_13, hn_1_13, hnf_1, ht_2_0, hn_2_0, ht_2_1, hn_2_1, ht_2_2, hn_2_2, hnf_2, ht_3_0, hn_3_0, ht_3_1, hn_3_1, ht_3_2, hn_3_2, ht_3_3, hn_3_3, ht_3_4, hn_3_4, ht_3_5, hn_3_5, ht_3_6, hn_3_6, ht_3_7, hn_3_7, ht_3_8, hn_3_8, ht_3_9, hn_3_9, ht_3_10, hn_3_10, hnf_3, ht_4_0, hn_4_0, ht_4_1, hn_4_1, ht_4_2, hn_4_2, ht_4_3, hn_4_3, ht_4_4, hn_4_4, ht_4_5, hn_4_5, ht_4_6, hn_4_6, ht_4_7, hn_4_7, ht_4_8, hn_4_8, ht_4_9, hn_4_9, ht_4_10, hn_4_10, ht_4_11, hn_4_11, ht_4_12, hn_4_12, ht_4_13, hn_4_13, ht_4_14, hn_4_14, ht_4_15, hn_4_15, ht_4_16, hn_4_16, ht_4_17, hn_4_17, ht_4_18, hn_4_18, ht_4_19, hn_4_19, hnf_4, hc_im1, hc_i0, hc_i1, hc_i2, hc_i3, hc_i4, hc_i5, hc_bm2, hc_b6, hc_b7, hc_b15, hc_b64, hc_s500, hc_s1000, hc_s2000, hw_10, hw_01, hp_F_3_113, hp_F_3_133, hp_F_3_144, hp_F_3_43, hp_F_3_47, dX3_clear_0, dX3_clear_1, dX3_clear_2, dX3_clear_5, dX3_clear_6, dX3_clear_7, dX3_clear_8, dX3_clear_9, dX3_clear_11, dX3_clear_13, dX3_clear_15, dX3_clear_18, dX3_clear_19, dX3_clear_21, dX3_clear_22, dX3_clear_25, dX3_clear_27, dX3_clear_29, dX3_clear_32, dX3_clear_34, dX3_clear_37, dX3_clear_40, dX3_clear_43, dX3_clear_44, dX3_clear_46, dX3_clear_49, dX3_clear_52, dX3_clear_53, dX3_clear_54, dX3_clear_55, dX3_clear_57, dX3_clear_60, dX3_clear_61, dX3_clear_64, dX3_clear_67, dX3_clear_70, dX3_clear_71, dX3_clear_73, dX3_clear_76, dX3_clear_79, dX3_clear_82, dX3_clear_83, dX3_clear_84, dX3_clear_87, dX3_clear_88, dX3_clear_89, dX3_clear_92, dX3_clear_93, dX3_clear_94, dX3_clear_97, dX3_clear_98, dX3_clear_99, dX3_clear_102, dX3_clear_103, kt, a3, t4, g, rm_wc, rm_ws, hw_20, hw_30, hw_40, hx_0, hx_1, hx_2, hx_3, hx_4, hy_00, hy_10]
      rw [inC_all hr.1.1]
      have e1 : uc M j (pks M).length = (pks M).countP (ub M j) := by unfold uc; rw [List.take_length]
      rw [e1]
      have e2 : nI (pks M).length - nI ((pks M).countP (ub M j)) = nI (clN M j 64).length := by
        rw [pk_sub List.countP_le_length, clN_64 hr.1.1]
        congr 1
        have := List.length_eq_countP_add_countP (ub M j) (l := pks M)
        rw [← List.countP_eq_length_filter]
        have e3 : (pks M).countP (fun p => !ub M j p) = (pks M).countP (fun p => decide ¬ ub M j p = true) := List.countP_congr (fun p _ => by simp)
        rw [e3]
        omega
      rw [e2]
      rw [clN_64 hr.1.1] at a1 a2 ⊢
      refine ⟨_, rfl, Zi, _, Or.inr ⟨rfl, j, hj, hpj, rfl, rfl, o, a2, rfl⟩, rn_drp a1 _, ?_⟩
      refine a4.trans (frC.trans (frC.sI _ _ _ _ ?_) (frC.sI _ _ _ _ ?_))
      · rw [kt]; exact Or.inl (by omega)
      · rw [hp_K_sI, kt]; exact Or.inl (by omega)
    | succ d ih =>
      intro i T Zi o L hi hL a1 a2 a3 a4 a5
      refine hp_sub hL ?_
      have hil : i < 64 := by omega
      have g : ¬ (64 : Int32) ≤ nI i := nI_ge (b := 64) hil (by decide)
      have kt : hp_K T x0 = 4 := a1.1.1
      have hsub : ∀ p ∈ clN M j i, p ∈ pks M := fun p hp => (List.mem_filter.mp hp).1
      have hwi : sok (mP M (clN M j i)) := sok_sub hr.1 hsub
      have hws : wfS (a_set (mP M (clN M j i)) o) := hwi.1
      refine hp_run1 C [11] 80 dX3_clear_11 ?_
      simp only [or_true, or_false, true_or, false_or, or_self, hp_wp0, hp_wpS, eq_self, true_and, and_true, false_and, and_false, if_true, if_false, Bool.false_eq_true, Bool.or_false, Bool.or_true, Bool.true_or, Bool.false_or, ite_true, ite_false, ↓reduceIte, reduceCtorEq, Nat.reduceBEq, Nat.reduceAdd, Nat.reduceEqDiff, Nat.reduceLT, Nat.reduceLeDiff, Int.reduceAdd, Int.reduceToNat, Int.reduceLE, Int.reduceNeg, Int.cast_ofNat_Int, Nat.zero_add, Option.some.injEq, exists_eq_left', exists_eq_left, not_true_eq_false, not_false_eq_true, false_implies, true_implies, forall_const, implies_true, List.cons_append, List.nil_append, Nat.le_refl, Nat.zero_le, hp_K_sI, hp_K_sJ, hp_K_sR, hp_N_sI, hp_N_sJ, hp_N_sR, hp_I_sI, hp_I_sJ, hp_I_sR, hp_J_sI, hp_J_sJ, hp_J_sR, hp_R_sI, hp_R_sJ, hp_R_sR, hr_iconst, hr_bipush, hr_iload_n, hr_iload, hr_istore_n, hr_istore, hr_aload_n, hr_aload, hr_astore_n, hr_astore, hr_iinc, hr_iadd, hr_isub, hr_dup, hr_if_icmp_ge, hr_ifCond_le, hr_ifnull, hr_goto, hr_getfield, hr_putfield, hr_ireturn, hr_invokevirtual, hz_i1, hz_i2, hz_l1, hz_l2, hz_r1, hz_r2, hz_ia, hz_via, hz_vr, hz_ld0, hz_ld1, hz_ld2, hz_s0, hz_s1, hz_s2, hz_g0, hz_g1, hz_d0, hz_d1, hz_d3, hz_d2, hz_t0, hz_t1, hz_t3, hz_t2, hz_c0, hz_c1, hz_rti, hz_rtl, hz_rta, hz_rtv, hz_br, hz_fh0, hz_fh1, hz_fh2, hz_fh3, hz_ft0, hz_ft1, hz_ft2, hz_ft3, hz_sF0, hz_sF1, hz_sF2, hz_lg0, hz_lg1, hz_lg2, hz_f0, hz_f1, hz_f2, hz_f3, hz_k0, hz_k1, hz_rm, hz_ok0, hz_ok1, hz_ok2, hz_ok3, hz_ok4, hz_l0, hz_l1c, hz_ar0, hz_ar1, ht_0_0, hn_0_0, ht_0_1, hn_0_1, ht_0_2, hn_0_2, ht_0_3, hn_0_3, hnf_0, ht_1_0, hn_1_0, ht_1_1, hn_1_1, ht_1_2, hn_1_2, ht_1_3, hn_1_3, ht_1_4, hn_1_4, ht_1_5, hn_1_5, ht_1_6, hn_1_6, ht_1_7, hn_1_7, ht_1_8, hn_1_8, ht_1_9, hn_1_9, ht_1_10, hn_1_10, ht_1_11, hn_1_11, ht_1_12, hn_1_12, ht_1_13, hn_1_13, hnf_1, ht_2_0, hn_2_0, ht_2_1, hn_2_1, ht_2_2, hn_2_2, hnf_2, ht_3_0, hn_3_0, ht_3_1, hn_3_1, ht_3_2, hn_3_2, ht_3_3, hn_3_3, ht_3_4, hn_3_4, ht_3_5, hn_3_5, ht_3_6, hn_3_6, ht_3_7, hn_3_7, ht_3_8, hn_3_8, ht_3_9, hn_3_9, ht_3_10, hn_3_10, hnf_3, ht_4_0, hn_4_0, ht_4_1, hn_4_1, ht_4_2, hn_4_2, ht_4_3, hn_4_3, ht_4_4, hn_4_4, ht_4_5, hn_4_5, ht_4_6, hn_4_6, ht_4_7, hn_4_7, ht_4_8, hn_4_8, ht_4_9, hn_4_9, ht_4_10, hn_4_10, ht_4_11, hn_4_11, ht_4_12, hn_4_12, ht_4_13, hn_4_13, ht_4_14, hn_4_14, ht_4_15, hn_4_15, ht_4_16, hn_4_16, ht_4_17, hn_4_17, ht_4_18, hn_4_18, ht_4_19, hn_4_19, hnf_4, hc_im1, hc_i0, hc_i1, hc_i2, hc_i3, hc_i4, hc_i5, hc_bm2, hc_b6, hc_b7, hc_b15, hc_b64, hc_s500, hc_s1000, hc_s2000, hw_10, hw_01, hp_F_3_113, hp_F_3_133, hp_F_3_144, hp_F_3_43, hp_F_3_47, dX3_clear_0, dX3_clear_1, dX3_clear_2, dX3_clear_5, dX3_clear_6, dX3_clear_7, dX3_clear_8, dX3_clear_9, dX3_clear_11, dX3_clear_13, dX3_clear_15, dX3_clear_18, dX3_clear_19, dX3_clear_21, dX3_clear_22, dX3_clear_25, dX3_clear_27, dX3_clear_29, dX3_clear_32, dX3_clear_34, dX3_clear_37, dX3_clear_40, dX3_clear_43, dX3_clear_44, dX3_clear_46, dX3_clear_49, dX3_clear_52, dX3_clear_53, dX3_clear_54, dX3_clear_55, dX3_clear_57, dX3_clear_60, dX3_clear_61, dX3_clear_64, dX3_clear_67, dX3_clear_70, dX3_clear_71, dX3_clear_73, dX3_clear_76, dX3_clear_79, dX3_clear_82, dX3_clear_83, dX3_clear_84, dX3_clear_87, dX3_clear_88, dX3_clear_89, dX3_clear_92, dX3_clear_93, dX3_clear_94, dX3_clear_97, dX3_clear_98, dX3_clear_99, dX3_clear_102, dX3_clear_103, g, rm_wc, rm_ws, hw_20, hw_30, hw_40, hx_0, hx_1, hx_2, hx_3, hx_4, hy_00, hy_10]
      have hins := ct_inside l G (hp_sI T x0 3 (nI (clN M j i).length)) x0 Zi _ _ i j a1 hws hil hj hpj
      -- the same call, from the pool as it is
      have hins2 : hp_Met l G yX3_classInside cX3_classInside 4 (some (.object "TurnTree$Node")) rm_s [.inr (.inr (some x0)), .inl (nI i), .inr (.inr (some (dna Z j)))] T (fun v S' => T = S' ∧ v = some (.inr (.inr (if undB M i j = true then some (dna Zi i) else none)))) := by
        rw [← a5 j]
        have eu : undB (a_set (mP M (clN M j i)) o) i j = undB M i j := by
          apply undB_pa
          intro e
          rfl
        have tkT : t_ok T x0 (dca Zi) := by
          have q := tk_ok a1.1
          exact q
        by_cases g1 : pa M i = 65
        · have e1 : hp_R T (dca Zi) i = none := (tc_at a1.1 hil).trans (if_pos g1)
          refine hp_Met.mono (mt_classInside l G T x0 (dca Zi) (dna Zi j) i [] tkT hil (fun a q => by rw [e1] at q; cases q)) (fun v S' hv => ?_)
          obtain ⟨rfl, rfl⟩ := hv
          have e2 : ¬ undB M i j = true := fun q => (ud_nI q).2 g1
          rw [e1, if_neg e2]
          exact ⟨rfl, rfl⟩
        · obtain ⟨us, hus, hin⟩ := upl_ex hws i hil g1
          have e1 : hp_R T (dca Zi) i = some (dna Zi i) := (tc_at a1.1 hil).trans (if_neg g1)
          refine hp_Met.mono (mt_classInside l G T x0 (dca Zi) (dna Zi j) i (us.map (dna Zi)) tkT hil (fun a q => by
            rw [e1] at q
            cases q
            exact ⟨lk_w (upl_lk a1 us i hus hil), fun x hx => (upl_nd a1 hus x hx).1⟩)) (fun v S' hv => ?_)
          obtain ⟨rfl, rfl⟩ := hv
          rw [e1]
          have e2 : dna Zi j ∈ us.map (dna Zi) ↔ undB M i j = true := by
            rw [← eu, undB_iff]
            constructor
            · intro q
              obtain ⟨u, u1, u2⟩ := List.mem_map.mp q
              have hu := hin u u1
              have e3 := na_inj (a1.2.1 u hu.1 hu.2).1 (a1.2.1 j hj hpj).1 hu.1 hj u2
              exact ⟨us, hus, by rw [← e3]; exact u1⟩
            · rintro ⟨vs, q1, q2⟩
              rw [← upl_un us vs i hus q1] at q2
              exact List.mem_map.mpr ⟨j, q2, rfl⟩
          simp only [e2]
          exact ⟨trivial, trivial⟩
      refine hp_callV (as := [.inl (nI i), .inr (.inr (some (dna Z j)))]) (rest := []) C D dX3_clear_22 kV_3_129 hins2 kt (by decide) rfl ⟨⟨by decide, by decide⟩, ⟨by decide, by decide⟩, by decide⟩ (fun v S' hv => ?_)
      obtain ⟨rfl, rfl⟩ := hv
      refine hp_run C [11] 80 _ _ _ _ ?_
      have eS : sm (inC M j) (i + 1) = sm (inC M j) i + inC M j i := rfl
      have ih2 := fun T Zi o L => ih (i + 1) T Zi o L (by omega)
      rw [eS] at ih2
      by_cases g2 : undB M i j = true
      · obtain ⟨-, hpi⟩ := ud_nI g2
        obtain ⟨c1, c2⟩ := a1.2.1 i hil hpi
        have k1 : hp_K T (dna Zi i) = 2 := c1.1
        have r2 : hp_R T (dna Zi i) 2 = some (dln Zi i) := c1.2.2.2.1
        have kl : hp_K T (dln Zi i) = 1 := c2.1
        have hxl : ¬ dln Zi i = x0 := fun z => by rw [z, kt] at kl; omega
        have eo : own (a_set (mP M (clN M j i)) o) i = own M i := by
          show (clN M j i).filter (fun p => p.1 == i) = _
          rw [clN_own, if_neg (fun z => Nat.lt_irrefl i z.2)]
        have l2 : hp_I T (dln Zi i) 2 = nI (own M i).length := by
          have := c2.2.2.2.1
          rw [hp_I_sI, if_neg (fun z => hxl z.1), eo] at this
          exact this
        have e2 : inC M j i = (own M i).length := by unfold inC; rw [if_pos g2]; rfl
        rw [e2] at ih2
        have hol := own_le hl20 i
        by_cases g3 : own M i = []
        · have g4 : nI (own M i).length ≤ 0 := by rw [g3]; decide
          rw [clN_keep (fun _ => g3), g3] at ih2
          simp only [or_true, or_false, true_or, false_or, or_self, hp_wp0, hp_wpS, eq_self, true_and, and_true, false_and, and_false, if_true, if_false, Bool.false_eq_true, Bool.or_false, Bool.or_true, Bool.true_or, Bool.false_or, ite_true, ite_false, ↓reduceIte, reduceCtorEq, Nat.reduceBEq, Nat.reduceAdd, Nat.reduceEqDiff, Nat.reduceLT, Nat.reduceLeDiff, Int.reduceAdd, Int.reduceToNat, Int.reduceLE, Int.reduceNeg, Int.cast_ofNat_Int, Nat.zero_add, Option.some.injEq, exists_eq_left', exists_eq_left, not_true_eq_false, not_false_eq_true, false_implies, true_implies, forall_const, implies_true, List.cons_append, List.nil_append, Nat.le_refl, Nat.zero_le, hp_K_sI, hp_K_sJ, hp_K_sR, hp_N_sI, hp_N_sJ, hp_N_sR, hp_I_sI, hp_I_sJ, hp_I_sR, hp_J_sI, hp_J_sJ, hp_J_sR, hp_R_sI, hp_R_sJ, hp_R_sR, hr_iconst, hr_bipush, hr_iload_n, hr_iload, hr_istore_n, hr_istore, hr_aload_n, hr_aload, hr_astore_n, hr_astore, hr_iinc, hr_iadd, hr_isub, hr_dup, hr_if_icmp_ge, hr_ifCond_le, hr_ifnull, hr_goto, hr_getfield, hr_putfield, hr_ireturn, hr_invokevirtual, hz_i1, hz_i2, hz_l1, hz_l2, hz_r1, hz_r2, hz_ia, hz_via, hz_vr, hz_ld0, hz_ld1, hz_ld2, hz_s0, hz_s1, hz_s2, hz_g0, hz_g1, hz_d0, hz_d1, hz_d3, hz_d2, hz_t0, hz_t1, hz_t3, hz_t2, hz_c0, hz_c1, hz_rti, hz_rtl, hz_rta, hz_rtv, hz_br, hz_fh0, hz_fh1, hz_fh2, hz_fh3, hz_ft0, hz_ft1, hz_ft2, hz_ft3, hz_sF0, hz_sF1, hz_sF2, hz_lg0, hz_lg1, hz_lg2, hz_f0, hz_f1, hz_f2, hz_f3, hz_k0, hz_k1, hz_rm, hz_ok0, hz_ok1, hz_ok2, hz_ok3, hz_ok4, hz_l0, hz_l1c, hz_ar0, hz_ar1, ht_0_0, hn_0_0, ht_0_1, hn_0_1, ht_0_2, hn_0_2, ht_0_3, hn_0_3, hnf_0, ht_1_0, hn_1_0, ht_1_1, hn_1_1, ht_1_2, hn_1_2, ht_1_3, hn_1_3, ht_1_4, hn_1_4, ht_1_5, hn_1_5, ht_1_6, hn_1_6, ht_1_7, hn_1_7, ht_1_8, hn_1_8, ht_1_9, hn_1_9, ht_1_10, hn_1_10, ht_1_11, hn_1_11, ht_1_12, hn_1_12, ht_1_13, hn_1_13, hnf_1, ht_2_0, hn_2_0, ht_2_1, hn_2_1, ht_2_2, hn_2_2, hnf_2, ht_3_0, hn_3_0, ht_3_1, hn_3_1, ht_3_2, hn_3_2, ht_3_3, hn_3_3, ht_3_4, hn_3_4, ht_3_5, hn_3_5, ht_3_6, hn_3_6, ht_3_7, hn_3_7, ht_3_8, hn_3_8, ht_3_9, hn_3_9, ht_3_10, hn_3_10, hnf_3, ht_4_0, hn_4_0, ht_4_1, hn_4_1, ht_4_2, hn_4_2, ht_4_3, hn_4_3, ht_4_4, hn_4_4, ht_4_5, hn_4_5, ht_4_6, hn_4_6, ht_4_7, hn_4_7, ht_4_8, hn_4_8, ht_4_9, hn_4_9, ht_4_10, hn_4_10, ht_4_11, hn_4_11, ht_4_12, hn_4_12, ht_4_13, hn_4_13, ht_4_14, hn_4_14, ht_4_15, hn_4_15, ht_4_16, hn_4_16, ht_4_17, hn_4_17, ht_4_18, hn_4_18, ht_4_19, hn_4_19, hnf_4, hc_im1, hc_i0, hc_i1, hc_i2, hc_i3, hc_i4, hc_i5, hc_bm2, hc_b6, hc_b7, hc_b15, hc_b64, hc_s500, hc_s1000, hc_s2000, hw_10, hw_01, hp_F_3_113, hp_F_3_133, hp_F_3_144, hp_F_3_43, hp_F_3_47, dX3_clear_0, dX3_clear_1, dX3_clear_2, dX3_clear_5, dX3_clear_6, dX3_clear_7, dX3_clear_8, dX3_clear_9, dX3_clear_11, dX3_clear_13, dX3_clear_15, dX3_clear_18, dX3_clear_19, dX3_clear_21, dX3_clear_22, dX3_clear_25, dX3_clear_27, dX3_clear_29, dX3_clear_32, dX3_clear_34, dX3_clear_37, dX3_clear_40, dX3_clear_43, dX3_clear_44, dX3_clear_46, dX3_clear_49, dX3_clear_52, dX3_clear_53, dX3_clear_54, dX3_clear_55, dX3_clear_57, dX3_clear_60, dX3_clear_61, dX3_clear_64, dX3_clear_67, dX3_clear_70, dX3_clear_71, dX3_clear_73, dX3_clear_76, dX3_clear_79, dX3_clear_82, dX3_clear_83, dX3_clear_84, dX3_clear_87, dX3_clear_88, dX3_clear_89, dX3_clear_92, dX3_clear_93, dX3_clear_94, dX3_clear_97, dX3_clear_98, dX3_clear_99, dX3_clear_102, dX3_clear_103, g2, k1, r2, kl, l2, g4, rm_wc, rm_ws, rm_sc, rm_ss, nI_1, Option.toList_some, List.singleton_append, hw_20, hw_30, hw_40, hx_0, hx_1, hx_2, hx_3, hx_4, hy_00, hy_10]
          exact ih2 T Zi o _ (by simp) a1 a2 a3 a4 a5
        · have hpos : 0 < (own M i).length := by
            rcases Nat.eq_zero_or_pos (own M i).length with e | e
            · exact absurd (List.length_eq_zero_iff.mp e) g3
            · exact e
          have g4 : ¬ nI (own M i).length ≤ 0 := nI_nle hpos (by omega)
          have hlast := c2.2.2.1
          have hlen := c2.2.2.2.2.2.1
          rw [eo] at hlen
          obtain ⟨q, hq⟩ : ∃ q, (dpk Zi i).getLast? = some q := by
            cases hh : (dpk Zi i).getLast? with
            | none =>
              rw [List.getLast?_eq_none_iff] at hh
              rw [hh] at hlen
              simp at hlen
              omega
            | some q => exact ⟨q, rfl⟩
          have hR1 : hp_R T (dln Zi i) 1 = some q := hlast.trans hq
          have hqm : q ∈ dpk Zi i := List.mem_of_getLast? hq
          have kq : hp_K T q = 3 := by
            obtain ⟨i2, hi2⟩ := List.getElem?_of_mem hqm
            exact (c2.2.2.2.2.2.2.1 i2 q hi2).1
          simp only [or_true, or_false, true_or, false_or, or_self, hp_wp0, hp_wpS, eq_self, true_and, and_true, false_and, and_false, if_true, if_false, Bool.false_eq_true, Bool.or_false, Bool.or_true, Bool.true_or, Bool.false_or, ite_true, ite_false, ↓reduceIte, reduceCtorEq, Nat.reduceBEq, Nat.reduceAdd, Nat.reduceEqDiff, Nat.reduceLT, Nat.reduceLeDiff, Int.reduceAdd, Int.reduceToNat, Int.reduceLE, Int.reduceNeg, Int.cast_ofNat_Int, Nat.zero_add, Option.some.injEq, exists_eq_left', exists_eq_left, not_true_eq_false, not_false_eq_true, false_implies, true_implies, forall_const, implies_true, List.cons_append, List.nil_append, Nat.le_refl, Nat.zero_le, hp_K_sI, hp_K_sJ, hp_K_sR, hp_N_sI, hp_N_sJ, hp_N_sR, hp_I_sI, hp_I_sJ, hp_I_sR, hp_J_sI, hp_J_sJ, hp_J_sR, hp_R_sI, hp_R_sJ, hp_R_sR, hr_iconst, hr_bipush, hr_iload_n, hr_iload, hr_istore_n, hr_istore, hr_aload_n, hr_aload, hr_astore_n, hr_astore, hr_iinc, hr_iadd, hr_isub, hr_dup, hr_if_icmp_ge, hr_ifCond_le, hr_ifnull, hr_goto, hr_getfield, hr_putfield, hr_ireturn, hr_invokevirtual, hz_i1, hz_i2, hz_l1, hz_l2, hz_r1, hz_r2, hz_ia, hz_via, hz_vr, hz_ld0, hz_ld1, hz_ld2, hz_s0, hz_s1, hz_s2, hz_g0, hz_g1, hz_d0, hz_d1, hz_d3, hz_d2, hz_t0, hz_t1, hz_t3, hz_t2, hz_c0, hz_c1, hz_rti, hz_rtl, hz_rta, hz_rtv, hz_br, hz_fh0, hz_fh1, hz_fh2, hz_fh3, hz_ft0, hz_ft1, hz_ft2, hz_ft3, hz_sF0, hz_sF1, hz_sF2, hz_lg0, hz_lg1, hz_lg2, hz_f0, hz_f1, hz_f2, hz_f3, hz_k0, hz_k1, hz_rm, hz_ok0, hz_ok1, hz_ok2, hz_ok3, hz_ok4, hz_l0, hz_l1c, hz_ar0, hz_ar1, ht_0_0, hn_0_0, ht_0_1, hn_0_1, ht_0_2, hn_0_2, ht_0_3, hn_0_3, hnf_0, ht_1_0, hn_1_0, ht_1_1, hn_1_1, ht_1_2, hn_1_2, ht_1_3, hn_1_3, ht_1_4, hn_1_4, ht_1_5, hn_1_5, ht_1_6, hn_1_6, ht_1_7, hn_1_7, ht_1_8, hn_1_8, ht_1_9, hn_1_9, ht_1_10, hn_1_10, ht_1_11, hn_1_11, ht_1_12, hn_1_12, ht_1_13, hn_1_13, hnf_1, ht_2_0, hn_2_0, ht_2_1, hn_2_1, ht_2_2, hn_2_2, hnf_2, ht_3_0, hn_3_0, ht_3_1, hn_3_1, ht_3_2, hn_3_2, ht_3_3, hn_3_3, ht_3_4, hn_3_4, ht_3_5, hn_3_5, ht_3_6, hn_3_6, ht_3_7, hn_3_7, ht_3_8, hn_3_8, ht_3_9, hn_3_9, ht_3_10, hn_3_10, hnf_3, ht_4_0, hn_4_0, ht_4_1, hn_4_1, ht_4_2, hn_4_2, ht_4_3, hn_4_3, ht_4_4, hn_4_4, ht_4_5, hn_4_5, ht_4_6, hn_4_6, ht_4_7, hn_4_7, ht_4_8, hn_4_8, ht_4_9, hn_4_9, ht_4_10, hn_4_10, ht_4_11, hn_4_11, ht_4_12, hn_4_12, ht_4_13, hn_4_13, ht_4_14, hn_4_14, ht_4_15, hn_4_15, ht_4_16, hn_4_16, ht_4_17, hn_4_17, ht_4_18, hn_4_18, ht_4_19, hn_4_19, hnf_4, hc_im1, hc_i0, hc_i1, hc_i2, hc_i3, hc_i4, hc_i5, hc_bm2, hc_b6, hc_b7, hc_b15, hc_b64, hc_s500, hc_s1000, hc_s2000, hw_10, hw_01, hp_F_3_113, hp_F_3_133, hp_F_3_144, hp_F_3_43, hp_F_3_47, dX3_clear_0, dX3_clear_1, dX3_clear_2, dX3_clear_5, dX3_clear_6, dX3_clear_7, dX3_clear_8, dX3_clear_9, dX3_clear_11, dX3_clear_13, dX3_clear_15, dX3_clear_18, dX3_clear_19, dX3_clear_21, dX3_clear_22, dX3_clear_25, dX3_clear_27, dX3_clear_29, dX3_clear_32, dX3_clear_34, dX3_clear_37, dX3_clear_40, dX3_clear_43, dX3_clear_44, dX3_clear_46, dX3_clear_49, dX3_clear_52, dX3_clear_53, dX3_clear_54, dX3_clear_55, dX3_clear_57, dX3_clear_60, dX3_clear_61, dX3_clear_64, dX3_clear_67, dX3_clear_70, dX3_clear_71, dX3_clear_73, dX3_clear_76, dX3_clear_79, dX3_clear_82, dX3_clear_83, dX3_clear_84, dX3_clear_87, dX3_clear_88, dX3_clear_89, dX3_clear_92, dX3_clear_93, dX3_clear_94, dX3_clear_97, dX3_clear_98, dX3_clear_99, dX3_clear_102, dX3_clear_103, g2, k1, r2, kl, l2, g4, kt, rm_wc, rm_ws, rm_sc, rm_ss, nI_add, Option.toList_some, List.singleton_append, hw_20, hw_30, hw_40, hx_0, hx_1, hx_2, hx_3, hx_4, hy_00, hy_10]
          refine hp_callV (as := [.inr (.inr (hp_R T x0 10))]) (rest := [.inr (.inr (some x0))]) C D dX3_clear_64 kV_3_137 (mt_emptyOnto l G T (dln Zi i) (hp_R T x0 10) kl (fun z hz => by
            rw [hR1] at hz
            cases hz
            exact kq)) kl (by decide) rfl ⟨⟨by decide, by decide⟩, ⟨by decide, by decide⟩, Nat.le_of_ble_eq_true rfl⟩ (fun v S1 hv => ?_)
          obtain ⟨rfl, rfl⟩ := hv
          have eE : f_empty T (dln Zi i) (hp_R T x0 10) = hp_sI (hp_sI (hp_sR (hp_sR (hp_sR T q 2 (hp_R T x0 10)) (dln Zi i) 0 none) (dln Zi i) 1 none) (dln Zi i) 2 0) (dln Zi i) 3 0 := by
            unfold f_empty
            rw [hR1]
          have eV : (if hp_R T (dln Zi i) 1 = none then hp_R T x0 10 else hp_R T (dln Zi i) 0) = hp_R T (dln Zi i) 0 := if_neg (fun z => by rw [hR1] at z; cases z)
          rw [eE, eV]
          have kt2 : hp_K (hp_sI (hp_sI (hp_sR (hp_sR (hp_sR T q 2 (hp_R T x0 10)) (dln Zi i) 0 none) (dln Zi i) 1 none) (dln Zi i) 2 0) (dln Zi i) 3 0) x0 = 4 := kt
          refine hp_run C [11] 80 _ _ _ _ ?_
          simp only [or_true, or_false, true_or, false_or, or_self, hp_wp0, hp_wpS, eq_self, true_and, and_true, false_and, and_false, if_true, if_false, Bool.false_eq_true, Bool.or_false, Bool.or_true, Bool.true_or, Bool.false_or, ite_true, ite_false, ↓reduceIte, reduceCtorEq, Nat.reduceBEq, Nat.reduceAdd, Nat.reduceEqDiff, Nat.reduceLT, Nat.reduceLeDiff, Int.reduceAdd, Int.reduceToNat, Int.reduceLE, Int.reduceNeg, Int.cast_ofNat_Int, Nat.zero_add, Option.some.injEq, exists_eq_left', exists_eq_left, not_true_eq_false, not_false_eq_true, false_implies, true_implies, forall_const, implies_true, List.cons_append, List.nil_append, Nat.le_refl, Nat.zero_le, hp_K_sI, hp_K_sJ, hp_K_sR, hp_N_sI, hp_N_sJ, hp_N_sR, hp_I_sI, hp_I_sJ, hp_I_sR, hp_J_sI, hp_J_sJ, hp_J_sR, hp_R_sI, hp_R_sJ, hp_R_sR, hr_iconst, hr_bipush, hr_iload_n, hr_iload, hr_istore_n, hr_istore, hr_aload_n, hr_aload, hr_astore_n, hr_astore, hr_iinc, hr_iadd, hr_isub, hr_dup, hr_if_icmp_ge, hr_ifCond_le, hr_ifnull, hr_goto, hr_getfield, hr_putfield, hr_ireturn, hr_invokevirtual, hz_i1, hz_i2, hz_l1, hz_l2, hz_r1, hz_r2, hz_ia, hz_via, hz_vr, hz_ld0, hz_ld1, hz_ld2, hz_s0, hz_s1, hz_s2, hz_g0, hz_g1, hz_d0, hz_d1, hz_d3, hz_d2, hz_t0, hz_t1, hz_t3, hz_t2, hz_c0, hz_c1, hz_rti, hz_rtl, hz_rta, hz_rtv, hz_br, hz_fh0, hz_fh1, hz_fh2, hz_fh3, hz_ft0, hz_ft1, hz_ft2, hz_ft3, hz_sF0, hz_sF1, hz_sF2, hz_lg0, hz_lg1, hz_lg2, hz_f0, hz_f1, hz_f2, hz_f3, hz_k0, hz_k1, hz_rm, hz_ok0, hz_ok1, hz_ok2, hz_ok3, hz_ok4, hz_l0, hz_l1c, hz_ar0, hz_ar1, ht_0_0, hn_0_0, ht_0_1, hn_0_1, ht_0_2, hn_0_2, ht_0_3, hn_0_3, hnf_0, ht_1_0, hn_1_0, ht_1_1, hn_1_1, ht_1_2, hn_1_2, ht_1_3, hn_1_3, ht_1_4, hn_1_4, ht_1_5, hn_1_5, ht_1_6, hn_1_6, ht_1_7, hn_1_7, ht_1_8, hn_1_8, ht_1_9, hn_1_9, ht_1_10, hn_1_10, ht_1_11, hn_1_11, ht_1_12, hn_1_12, ht_1_13, hn_1_13, hnf_1, ht_2_0, hn_2_0, ht_2_1, hn_2_1, ht_2_2, hn_2_2, hnf_2, ht_3_0, hn_3_0, ht_3_1, hn_3_1, ht_3_2, hn_3_2, ht_3_3, hn_3_3, ht_3_4, hn_3_4, ht_3_5, hn_3_5, ht_3_6, hn_3_6, ht_3_7, hn_3_7, ht_3_8, hn_3_8, ht_3_9, hn_3_9, ht_3_10, hn_3_10, hnf_3, ht_4_0, hn_4_0, ht_4_1, hn_4_1, ht_4_2, hn_4_2, ht_4_3, hn_4_3, ht_4_4, hn_4_4, ht_4_5, hn_4_5, ht_4_6, hn_4_6, ht_4_7, hn_4_7, ht_4_8, hn_4_8, ht_4_9, hn_4_9, ht_4_10, hn_4_10, ht_4_11, hn_4_11, ht_4_12, hn_4_12, ht_4_13, hn_4_13, ht_4_14, hn_4_14, ht_4_15, hn_4_15, ht_4_16, hn_4_16, ht_4_17, hn_4_17, ht_4_18, hn_4_18, ht_4_19, hn_4_19, hnf_4, hc_im1, hc_i0, hc_i1, hc_i2, hc_i3, hc_i4, hc_i5, hc_bm2, hc_b6, hc_b7, hc_b15, hc_b64, hc_s500, hc_s1000, hc_s2000, hw_10, hw_01, hp_F_3_113, hp_F_3_133, hp_F_3_144, hp_F_3_43, hp_F_3_47, dX3_clear_0, dX3_clear_1, dX3_clear_2, dX3_clear_5, dX3_clear_6, dX3_clear_7, dX3_clear_8, dX3_clear_9, dX3_clear_11, dX3_clear_13, dX3_clear_15, dX3_clear_18, dX3_clear_19, dX3_clear_21, dX3_clear_22, dX3_clear_25, dX3_clear_27, dX3_clear_29, dX3_clear_32, dX3_clear_34, dX3_clear_37, dX3_clear_40, dX3_clear_43, dX3_clear_44, dX3_clear_46, dX3_clear_49, dX3_clear_52, dX3_clear_53, dX3_clear_54, dX3_clear_55, dX3_clear_57, dX3_clear_60, dX3_clear_61, dX3_clear_64, dX3_clear_67, dX3_clear_70, dX3_clear_71, dX3_clear_73, dX3_clear_76, dX3_clear_79, dX3_clear_82, dX3_clear_83, dX3_clear_84, dX3_clear_87, dX3_clear_88, dX3_clear_89, dX3_clear_92, dX3_clear_93, dX3_clear_94, dX3_clear_97, dX3_clear_98, dX3_clear_99, dX3_clear_102, dX3_clear_103, kt, rm_wc, rm_ws, rm_sc, rm_ss, rm_0c, rm_0s, Option.toList_some, List.singleton_append, hw_20, hw_30, hw_40, hx_0, hx_1, hx_2, hx_3, hx_4, hy_00, hy_10]
          have hxq : ¬ x0 = q := fun z => by rw [← z, kt] at kq; omega
          have hql : ¬ q = dln Zi i := fun z => by rw [z, kl] at kq; omega
          -- the state without the packets of i
          have hsub1 : ∀ p ∈ clN M j (i + 1), p ∈ pks M := fun p hp => (List.mem_filter.mp hp).1
          have hw1 : sok (mP M (clN M j (i + 1))) := sok_sub hr.1 hsub1
          obtain ⟨hE1, hE2⟩ := rn_empty (S' := hp_sI (hp_sR (hp_sI (hp_sI (hp_sR (hp_sR (hp_sR T q 2 (hp_R T x0 10)) (dln Zi i) 0 none) (dln Zi i) 1 none) (dln Zi i) 2 0) (dln Zi i) 3 0) x0 10 (hp_R T (dln Zi i) 0)) x0 3 (nI (clN M j (i + 1)).length)) (q := q) (P := clN M j (i + 1)) a1 hil hpi hR1 (fun e => by
              rw [clN_own]
              by_cases z : e = i
              · subst z
                rw [if_pos ⟨g2, Nat.lt_succ_self _⟩, if_pos rfl]
              · rw [if_neg z]
                show _ = (clN M j i).filter (fun p => p.1 == e)
                rw [clN_own]
                have : (e < i + 1) = (e < i) := by apply propext; omega
                simp only [this]) (Nat.le_trans (List.length_filter_le _ _) hl20) rfl rfl rfl (fun a f => by
              simp only [hp_I_sI, hp_I_sR]
              by_cases z1 : a = x0 ∧ f = 3
              · rw [if_pos z1, if_pos z1]
              · rw [if_neg z1, if_neg z1]
                by_cases z2 : a = dln Zi i
                · by_cases z3 : f = 3
                  · simp [z2, z3]
                  · by_cases z4 : f = 2
                    · simp [z2, z4]
                    · simp [z3, z4]
                · simp [z2, z1]) (fun a f => by
              simp only [hp_R_sI, hp_R_sR]
              by_cases z1 : a = x0 ∧ f = 10
              · rw [if_pos z1, if_pos z1]
              · rw [if_neg z1, if_neg z1]
                by_cases z2 : a = dln Zi i
                · by_cases z3 : f = 1
                  · simp [z2, z3]
                  · by_cases z4 : f = 0
                    · simp [z2, z4]
                    · simp [z3, z4]
                · simp [z2])
          -- settling it
          have hMp : mP (a_set (mP M (clN M j i)) o) (clN M j (i + 1)) = a_set (mP M (clN M j (i + 1))) o := rfl
          rw [hMp] at hE1
          have hopi : ∀ e, e < 64 → op (a_set (mP M (clN M j (i + 1))) o) e ≤ 1 := fun e he => by
            rw [as_op _ o he]; exact (a2 e he).1
          obtain ⟨us, hus, -⟩ := upl_ex (M := a_set (mP M (clN M j (i + 1))) o) hw1.1 i hil hpi
          have hRx := rc_x.mp (show RepC _ x0 _ (a_set (mP M (clN M j (i + 1))) o) from hE1)
          have hsets := rx_settle us i _ _ hRx hw1.1 hopi hus (vis_64 us _ i hus)
          rw [f_settle_w] at hsets
          have hset := mt_settle l G (hp_sR (hp_sI (hp_sI (hp_sR (hp_sR (hp_sR T q 2 (hp_R T x0 10)) (dln Zi i) 0 none) (dln Zi i) 1 none) (dln Zi i) 2 0) (dln Zi i) 3 0) x0 10 (hp_R T (dln Zi i) 0)) x0 (dna Zi i) (us.map (dna Zi)) kt (lk_w (upl_lk hRx us i hus hil)) (upl_nd hRx hus)
          refine hp_callV (as := [.inr (.inr (some (dna Zi i)))]) (rest := []) C D dX3_clear_73 kV_3_141 hset kt (by decide) rfl ⟨⟨by decide, by decide⟩, ⟨by decide, by decide⟩, by decide⟩ (fun v S2 hv => ?_)
          obtain ⟨rfl, rfl⟩ := hv
          refine hp_run C [11] 80 _ _ _ _ ?_
          simp only [or_true, or_false, true_or, false_or, or_self, hp_wp0, hp_wpS, eq_self, true_and, and_true, false_and, and_false, if_true, if_false, Bool.false_eq_true, Bool.or_false, Bool.or_true, Bool.true_or, Bool.false_or, ite_true, ite_false, ↓reduceIte, reduceCtorEq, Nat.reduceBEq, Nat.reduceAdd, Nat.reduceEqDiff, Nat.reduceLT, Nat.reduceLeDiff, Int.reduceAdd, Int.reduceToNat, Int.reduceLE, Int.reduceNeg, Int.cast_ofNat_Int, Nat.zero_add, Option.some.injEq, exists_eq_left', exists_eq_left, not_true_eq_false, not_false_eq_true, false_implies, true_implies, forall_const, implies_true, List.cons_append, List.nil_append, Nat.le_refl, Nat.zero_le, hp_K_sI, hp_K_sJ, hp_K_sR, hp_N_sI, hp_N_sJ, hp_N_sR, hp_I_sI, hp_I_sJ, hp_I_sR, hp_J_sI, hp_J_sJ, hp_J_sR, hp_R_sI, hp_R_sJ, hp_R_sR, hr_iconst, hr_bipush, hr_iload_n, hr_iload, hr_istore_n, hr_istore, hr_aload_n, hr_aload, hr_astore_n, hr_astore, hr_iinc, hr_iadd, hr_isub, hr_dup, hr_if_icmp_ge, hr_ifCond_le, hr_ifnull, hr_goto, hr_getfield, hr_putfield, hr_ireturn, hr_invokevirtual, hz_i1, hz_i2, hz_l1, hz_l2, hz_r1, hz_r2, hz_ia, hz_via, hz_vr, hz_ld0, hz_ld1, hz_ld2, hz_s0, hz_s1, hz_s2, hz_g0, hz_g1, hz_d0, hz_d1, hz_d3, hz_d2, hz_t0, hz_t1, hz_t3, hz_t2, hz_c0, hz_c1, hz_rti, hz_rtl, hz_rta, hz_rtv, hz_br, hz_fh0, hz_fh1, hz_fh2, hz_fh3, hz_ft0, hz_ft1, hz_ft2, hz_ft3, hz_sF0, hz_sF1, hz_sF2, hz_lg0, hz_lg1, hz_lg2, hz_f0, hz_f1, hz_f2, hz_f3, hz_k0, hz_k1, hz_rm, hz_ok0, hz_ok1, hz_ok2, hz_ok3, hz_ok4, hz_l0, hz_l1c, hz_ar0, hz_ar1, ht_0_0, hn_0_0, ht_0_1, hn_0_1, ht_0_2, hn_0_2, ht_0_3, hn_0_3, hnf_0, ht_1_0, hn_1_0, ht_1_1, hn_1_1, ht_1_2, hn_1_2, ht_1_3, hn_1_3, ht_1_4, hn_1_4, ht_1_5, hn_1_5, ht_1_6, hn_1_6, ht_1_7, hn_1_7, ht_1_8, hn_1_8, ht_1_9, hn_1_9, ht_1_10, hn_1_10, ht_1_11, hn_1_11, ht_1_12, hn_1_12, ht_1_13, hn_1_13, hnf_1, ht_2_0, hn_2_0, ht_2_1, hn_2_1, ht_2_2, hn_2_2, hnf_2, ht_3_0, hn_3_0, ht_3_1, hn_3_1, ht_3_2, hn_3_2, ht_3_3, hn_3_3, ht_3_4, hn_3_4, ht_3_5, hn_3_5, ht_3_6, hn_3_6, ht_3_7, hn_3_7, ht_3_8, hn_3_8, ht_3_9, hn_3_9, ht_3_10, hn_3_10, hnf_3, ht_4_0, hn_4_0, ht_4_1, hn_4_1, ht_4_2, hn_4_2, ht_4_3, hn_4_3, ht_4_4, hn_4_4, ht_4_5, hn_4_5, ht_4_6, hn_4_6, ht_4_7, hn_4_7, ht_4_8, hn_4_8, ht_4_9, hn_4_9, ht_4_10, hn_4_10, ht_4_11, hn_4_11, ht_4_12, hn_4_12, ht_4_13, hn_4_13, ht_4_14, hn_4_14, ht_4_15, hn_4_15, ht_4_16, hn_4_16, ht_4_17, hn_4_17, ht_4_18, hn_4_18, ht_4_19, hn_4_19, hnf_4, hc_im1, hc_i0, hc_i1, hc_i2, hc_i3, hc_i4, hc_i5, hc_bm2, hc_b6, hc_b7, hc_b15, hc_b64, hc_s500, hc_s1000, hc_s2000, hw_10, hw_01, hp_F_3_113, hp_F_3_133, hp_F_3_144, hp_F_3_43, hp_F_3_47, dX3_clear_0, dX3_clear_1, dX3_clear_2, dX3_clear_5, dX3_clear_6, dX3_clear_7, dX3_clear_8, dX3_clear_9, dX3_clear_11, dX3_clear_13, dX3_clear_15, dX3_clear_18, dX3_clear_19, dX3_clear_21, dX3_clear_22, dX3_clear_25, dX3_clear_27, dX3_clear_29, dX3_clear_32, dX3_clear_34, dX3_clear_37, dX3_clear_40, dX3_clear_43, dX3_clear_44, dX3_clear_46, dX3_clear_49, dX3_clear_52, dX3_clear_53, dX3_clear_54, dX3_clear_55, dX3_clear_57, dX3_clear_60, dX3_clear_61, dX3_clear_64, dX3_clear_67, dX3_clear_70, dX3_clear_71, dX3_clear_73, dX3_clear_76, dX3_clear_79, dX3_clear_82, dX3_clear_83, dX3_clear_84, dX3_clear_87, dX3_clear_88, dX3_clear_89, dX3_clear_92, dX3_clear_93, dX3_clear_94, dX3_clear_97, dX3_clear_98, dX3_clear_99, dX3_clear_102, dX3_clear_103, rm_wc, rm_ws, rm_sc, rm_ss, rm_0c, rm_0s, nI_1, Option.toList_none, hw_20, hw_30, hw_40, hx_0, hx_1, hx_2, hx_3, hx_4, hy_00, hy_10]
          have hone := stl_one (M := a_set (mP M (clN M j (i + 1))) o) hw1.1 hopi hus (fun e he hne => by
            rw [cpo_as, as_op _ o he]
            refine (a2 e he).2.trans ?_
            have ho : own (mP M (clN M j (i + 1))) e = own (mP M (clN M j i)) e := by
              show (clN M j (i + 1)).filter (fun p => p.1 == e) = (clN M j i).filter (fun p => p.1 == e)
              rw [clN_own, clN_own]
              have : (e < i + 1) = (e < i) := by apply propext; omega
              simp only [this]
            have hiff : (∃ p ∈ pks (mP M (clN M j i)), p.1 = e) ↔ (∃ p ∈ pks (mP M (clN M j (i + 1))), p.1 = e) := by
              rw [← own_ne, ← own_ne, ho]
            unfold cpo
            rw [hiff]
            exact Iff.rfl)
          obtain ⟨o2, f2, eo2⟩ := hone
          have f3 : fix (mP M (clN M j (i + 1))) o2 := f2
          have hfin : sgo (a_set (mP M (clN M j (i + 1))) o) us = a_set (mP M (clN M j (i + 1))) o2 := by
            rw [eo2]
            refine as_comp (fun e he => ?_)
            have m1 := fix_mono (M := mP M (clN M j (i + 1))) (M' := mP M (clN M j i)) hw1.1.2.2.1 (fun _ => rfl) (fun _ _ z => z) (fun p hp => ⟨p, by
              have hp2 := List.mem_filter.mp hp
              refine List.mem_filter.mpr ⟨hp2.1, ?_⟩
              have h9 := hp2.2
              cases z : undB M p.1 j with
              | false => rfl
              | true =>
                rw [z] at h9
                simp at h9
                have : ¬ p.1 < i := by omega
                simp [this], rfl⟩) f3 a2 e he
            have m2 := fix_mono (M := mP M (clN M j i)) (M' := M) hwi.1.2.2.1 (fun _ => rfl) (fun _ _ z => z) (fun p hp => ⟨p, hsub p hp, rfl⟩) a2 hr.2.1 e he
            have b1 := (a2 e he).1
            have b2 := (f3 e he).1
            by_cases z : o e = 1
            · left
              show o e = op M e
              rw [z, m2 z]
            · right
              by_cases z2 : o2 e = 1
              · exact absurd (m1 z2) z
              · omega
          rw [hfin] at hsets
          refine ih2 _ _ o2 _ (by simp) (rc_x.mpr hsets.1) f3 ?_ ?_ ?_
          · refine f_settle_3 ?_
            simp only [hp_I_sR, hp_I_sI, show ¬ x0 = dln Zi i from fun z => hxl z.symm, false_and, if_false]
            exact a3
          · have q9 := frC.trans hE2 hsets.2
            exact a4.trans (frC_w kt q9)
          · exact fun e => a5 e
      · have e2 : inC M j i = 0 := by unfold inC; rw [if_neg g2]
        rw [e2, Nat.add_zero, clN_keep (fun z => absurd z g2)] at ih2
        simp only [or_true, or_false, true_or, false_or, or_self, hp_wp0, hp_wpS, eq_self, true_and, and_true, false_and, and_false, if_true, if_false, Bool.false_eq_true, Bool.or_false, Bool.or_true, Bool.true_or, Bool.false_or, ite_true, ite_false, ↓reduceIte, reduceCtorEq, Nat.reduceBEq, Nat.reduceAdd, Nat.reduceEqDiff, Nat.reduceLT, Nat.reduceLeDiff, Int.reduceAdd, Int.reduceToNat, Int.reduceLE, Int.reduceNeg, Int.cast_ofNat_Int, Nat.zero_add, Option.some.injEq, exists_eq_left', exists_eq_left, not_true_eq_false, not_false_eq_true, false_implies, true_implies, forall_const, implies_true, List.cons_append, List.nil_append, Nat.le_refl, Nat.zero_le, hp_K_sI, hp_K_sJ, hp_K_sR, hp_N_sI, hp_N_sJ, hp_N_sR, hp_I_sI, hp_I_sJ, hp_I_sR, hp_J_sI, hp_J_sJ, hp_J_sR, hp_R_sI, hp_R_sJ, hp_R_sR, hr_iconst, hr_bipush, hr_iload_n, hr_iload, hr_istore_n, hr_istore, hr_aload_n, hr_aload, hr_astore_n, hr_astore, hr_iinc, hr_iadd, hr_isub, hr_dup, hr_if_icmp_ge, hr_ifCond_le, hr_ifnull, hr_goto, hr_getfield, hr_putfield, hr_ireturn, hr_invokevirtual, hz_i1, hz_i2, hz_l1, hz_l2, hz_r1, hz_r2, hz_ia, hz_via, hz_vr, hz_ld0, hz_ld1, hz_ld2, hz_s0, hz_s1, hz_s2, hz_g0, hz_g1, hz_d0, hz_d1, hz_d3, hz_d2, hz_t0, hz_t1, hz_t3, hz_t2, hz_c0, hz_c1, hz_rti, hz_rtl, hz_rta, hz_rtv, hz_br, hz_fh0, hz_fh1, hz_fh2, hz_fh3, hz_ft0, hz_ft1, hz_ft2, hz_ft3, hz_sF0, hz_sF1, hz_sF2, hz_lg0, hz_lg1, hz_lg2, hz_f0, hz_f1, hz_f2, hz_f3, hz_k0, hz_k1, hz_rm, hz_ok0, hz_ok1, hz_ok2, hz_ok3, hz_ok4, hz_l0, hz_l1c, hz_ar0, hz_ar1, ht_0_0, hn_0_0, ht_0_1, hn_0_1, ht_0_2, hn_0_2, ht_0_3, hn_0_3, hnf_0, ht_1_0, hn_1_0, ht_1_1, hn_1_1, ht_1_2, hn_1_2, ht_1_3, hn_1_3, ht_1_4, hn_1_4, ht_1_5, hn_1_5, ht_1_6, hn_1_6, ht_1_7, hn_1_7, ht_1_8, hn_1_8, ht_1_9, hn_1_9, ht_1_10, hn_1_10, ht_1_11, hn_1_11, ht_1_12, hn_1_12, ht_1_13, hn_1_13, hnf_1, ht_2_0, hn_2_0, ht_2_1, hn_2_1, ht_2_2, hn_2_2, hnf_2, ht_3_0, hn_3_0, ht_3_1, hn_3_1, ht_3_2, hn_3_2, ht_3_3, hn_3_3, ht_3_4, hn_3_4, ht_3_5, hn_3_5, ht_3_6, hn_3_6, ht_3_7, hn_3_7, ht_3_8, hn_3_8, ht_3_9, hn_3_9, ht_3_10, hn_3_10, hnf_3, ht_4_0, hn_4_0, ht_4_1, hn_4_1, ht_4_2, hn_4_2, ht_4_3, hn_4_3, ht_4_4, hn_4_4, ht_4_5, hn_4_5, ht_4_6, hn_4_6, ht_4_7, hn_4_7, ht_4_8, hn_4_8, ht_4_9, hn_4_9, ht_4_10, hn_4_10, ht_4_11, hn_4_11, ht_4_12, hn_4_12, ht_4_13, hn_4_13, ht_4_14, hn_4_14, ht_4_15, hn_4_15, ht_4_16, hn_4_16, ht_4_17, hn_4_17, ht_4_18, hn_4_18, ht_4_19, hn_4_19, hnf_4, hc_im1, hc_i0, hc_i1, hc_i2, hc_i3, hc_i4, hc_i5, hc_bm2, hc_b6, hc_b7, hc_b15, hc_b64, hc_s500, hc_s1000, hc_s2000, hw_10, hw_01, hp_F_3_113, hp_F_3_133, hp_F_3_144, hp_F_3_43, hp_F_3_47, dX3_clear_0, dX3_clear_1, dX3_clear_2, dX3_clear_5, dX3_clear_6, dX3_clear_7, dX3_clear_8, dX3_clear_9, dX3_clear_11, dX3_clear_13, dX3_clear_15, dX3_clear_18, dX3_clear_19, dX3_clear_21, dX3_clear_22, dX3_clear_25, dX3_clear_27, dX3_clear_29, dX3_clear_32, dX3_clear_34, dX3_clear_37, dX3_clear_40, dX3_clear_43, dX3_clear_44, dX3_clear_46, dX3_clear_49, dX3_clear_52, dX3_clear_53, dX3_clear_54, dX3_clear_55, dX3_clear_57, dX3_clear_60, dX3_clear_61, dX3_clear_64, dX3_clear_67, dX3_clear_70, dX3_clear_71, dX3_clear_73, dX3_clear_76, dX3_clear_79, dX3_clear_82, dX3_clear_83, dX3_clear_84, dX3_clear_87, dX3_clear_88, dX3_clear_89, dX3_clear_92, dX3_clear_93, dX3_clear_94, dX3_clear_97, dX3_clear_98, dX3_clear_99, dX3_clear_102, dX3_clear_103, g2, rm_wc, rm_ws, rm_sc, rm_ss, nI_1, Option.toList_some, List.singleton_append, hw_20, hw_30, hw_40, hx_0, hx_1, hx_2, hx_3, hx_4, hy_00, hy_10]
        exact ih2 T Zi o _ (by simp) a1 a2 a3 a4 a5
  simp only [or_true, or_false, true_or, false_or, or_self, hp_wp0, hp_wpS, eq_self, true_and, and_true, false_and, and_false, if_true, if_false, Bool.false_eq_true, Bool.or_false, Bool.or_true, Bool.true_or, Bool.false_or, ite_true, ite_false, ↓reduceIte, reduceCtorEq, Nat.reduceBEq, Nat.reduceAdd, Nat.reduceEqDiff, Nat.reduceLT, Nat.reduceLeDiff, Int.reduceAdd, Int.reduceToNat, Int.reduceLE, Int.reduceNeg, Int.cast_ofNat_Int, Nat.zero_add, Option.some.injEq, exists_eq_left', exists_eq_left, not_true_eq_false, not_false_eq_true, false_implies, true_implies, forall_const, implies_true, List.cons_append, List.nil_append, Nat.le_refl, Nat.zero_le, hp_K_sI, hp_K_sJ, hp_K_sR, hp_N_sI, hp_N_sJ, hp_N_sR, hp_I_sI, hp_I_sJ, hp_I_sR, hp_J_sI, hp_J_sJ, hp_J_sR, hp_R_sI, hp_R_sJ, hp_R_sR, hr_iconst, hr_bipush, hr_iload_n, hr_iload, hr_istore_n, hr_istore, hr_aload_n, hr_aload, hr_astore_n, hr_astore, hr_iinc, hr_iadd, hr_isub, hr_dup, hr_if_icmp_ge, hr_ifCond_le, hr_ifnull, hr_goto, hr_getfield, hr_putfield, hr_ireturn, hr_invokevirtual, hz_i1, hz_i2, hz_l1, hz_l2, hz_r1, hz_r2, hz_ia, hz_via, hz_vr, hz_ld0, hz_ld1, hz_ld2, hz_s0, hz_s1, hz_s2, hz_g0, hz_g1, hz_d0, hz_d1, hz_d3, hz_d2, hz_t0, hz_t1, hz_t3, hz_t2, hz_c0, hz_c1, hz_rti, hz_rtl, hz_rta, hz_rtv, hz_br, hz_fh0, hz_fh1, hz_fh2, hz_fh3, hz_ft0, hz_ft1, hz_ft2, hz_ft3, hz_sF0, hz_sF1, hz_sF2, hz_lg0, hz_lg1, hz_lg2, hz_f0, hz_f1, hz_f2, hz_f3, hz_k0, hz_k1, hz_rm, hz_ok0, hz_ok1, hz_ok2, hz_ok3, hz_ok4, hz_l0, hz_l1c, hz_ar0, hz_ar1, ht_0_0, hn_0_0, ht_0_1, hn_0_1, ht_0_2, hn_0_2, ht_0_3, hn_0_3, hnf_0, ht_1_0, hn_1_0, ht_1_1, hn_1_1, ht_1_2, hn_1_2, ht_1_3, hn_1_3, ht_1_4, hn_1_4, ht_1_5, hn_1_5, ht_1_6, hn_1_6, ht_1_7, hn_1_7, ht_1_8, hn_1_8, ht_1_9, hn_1_9, ht_1_10, hn_1_10, ht_1_11, hn_1_11, ht_1_12, hn_1_12, ht_1_13, hn_1_13, hnf_1, ht_2_0, hn_2_0, ht_2_1, hn_2_1, ht_2_2, hn_2_2, hnf_2, ht_3_0, hn_3_0, ht_3_1, hn_3_1, ht_3_2, hn_3_2, ht_3_3, hn_3_3, ht_3_4, hn_3_4, ht_3_5, hn_3_5, ht_3_6, hn_3_6, ht_3_7, hn_3_7, ht_3_8, hn_3_8, ht_3_9, hn_3_9, ht_3_10, hn_3_10, hnf_3, ht_4_0, hn_4_0, ht_4_1, hn_4_1, ht_4_2, hn_4_2, ht_4_3, hn_4_3, ht_4_4, hn_4_4, ht_4_5, hn_4_5, ht_4_6, hn_4_6, ht_4_7, hn_4_7, ht_4_8, hn_4_8, ht_4_9, hn_4_9, ht_4_10, hn_4_10, ht_4_11, hn_4_11, ht_4_12, hn_4_12, ht_4_13, hn_4_13, ht_4_14, hn_4_14, ht_4_15, hn_4_15, ht_4_16, hn_4_16, ht_4_17, hn_4_17, ht_4_18, hn_4_18, ht_4_19, hn_4_19, hnf_4, hc_im1, hc_i0, hc_i1, hc_i2, hc_i3, hc_i4, hc_i5, hc_bm2, hc_b6, hc_b7, hc_b15, hc_b64, hc_s500, hc_s1000, hc_s2000, hw_10, hw_01, hp_F_3_113, hp_F_3_133, hp_F_3_144, hp_F_3_43, hp_F_3_47, dX3_clear_0, dX3_clear_1, dX3_clear_2, dX3_clear_5, dX3_clear_6, dX3_clear_7, dX3_clear_8, dX3_clear_9, dX3_clear_11, dX3_clear_13, dX3_clear_15, dX3_clear_18, dX3_clear_19, dX3_clear_21, dX3_clear_22, dX3_clear_25, dX3_clear_27, dX3_clear_29, dX3_clear_32, dX3_clear_34, dX3_clear_37, dX3_clear_40, dX3_clear_43, dX3_clear_44, dX3_clear_46, dX3_clear_49, dX3_clear_52, dX3_clear_53, dX3_clear_54, dX3_clear_55, dX3_clear_57, dX3_clear_60, dX3_clear_61, dX3_clear_64, dX3_clear_67, dX3_clear_70, dX3_clear_71, dX3_clear_73, dX3_clear_76, dX3_clear_79, dX3_clear_82, dX3_clear_83, dX3_clear_84, dX3_clear_87, dX3_clear_88, dX3_clear_89, dX3_clear_92, dX3_clear_93, dX3_clear_94, dX3_clear_97, dX3_clear_98, dX3_clear_99, dX3_clear_102, dX3_clear_103, rm_wc, rm_ws, rm_xc, rm_xs, Option.toList_some, List.singleton_append, hw_20, hw_30, hw_40, hx_0, hx_1, hx_2, hx_3, hx_4, hy_00, hy_10]
  refine loop 64 0 S Z (op M) _ rfl (by simp [sm, nI_0]) ?_ ?_ t3 (frC.rf S) (fun _ => rfl)
  · rw [clN_0]
    have e1 : mP M (pks M) = M := rfl
    rw [e1, as_self]
    have e2 : hp_sI S x0 3 (nI (pks M).length) = S := by
      refine Prod.ext rfl (Prod.ext ?_ rfl)
      funext x f
      show (if x = x0 ∧ f = 3 then nI (pks M).length else S.2.1 x f) = S.2.1 x f
      by_cases z : x = x0 ∧ f = 3
      · rw [if_pos z, z.1, z.2, ← t3]
        rfl
      · rw [if_neg z]
    rw [e2]
    exact h
  · rw [clN_0]
    exact hr.2.1
end M51
