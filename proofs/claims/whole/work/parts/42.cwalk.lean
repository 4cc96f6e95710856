/-! THE CLASS: settling is the settling of the state -/
section M42
/-- a class is one to send from, by what it holds -/
def cpo (M : ab_T) (o : Nat → Nat) (c : Nat) : Prop := hd M c = 0 ∧ ((∃ p ∈ pks M, p.1 = c) ∨ ∃ k, k < 64 ∧ pa M k = c ∧ o k = 1)
noncomputable def cmo (M : ab_T) (c : Nat) : Nat := @ite _ (cpo M (op M) c) (Classical.propDecidable _) 1 0
theorem cmo_1 {M : ab_T} {c : Nat} (h : cpo M (op M) c) : cmo M c = 1 := by
  unfold cmo
  rw [if_pos h]
theorem cmo_0 {M : ab_T} {c : Nat} (h : ¬ cpo M (op M) c) : cmo M c = 0 := by
  unfold cmo
  rw [if_neg h]
theorem cmo_le (M : ab_T) (c : Nat) : cmo M c ≤ 1 := by
  by_cases h : cpo M (op M) c
  · rw [cmo_1 h]; omega
  · rw [cmo_0 h]; omega
noncomputable def sgo (M : ab_T) : List Nat → ab_T
  | [] => M
  | c :: cs => if op M c = cmo M c then M else sgo (flp1 M c (cmo M c)) cs
/-- the walk may be made while the class F still counts one child too many -/
def vis (F : Nat) (M : ab_T) : List Nat → Prop
  | [] => True
  | c :: cs => (c = F → 0 < noc M c) ∧ (op M c = cmo M c ∨ vis F (flp1 M c (cmo M c)) cs)
def xnb (F : Nat) (M : ab_T) (c : Nat) : Nat := noc M c + (if c = F then 1 else 0)
theorem noc_pos {M : ab_T} {c : Nat} : 0 < noc M c ↔ ∃ k, k < 64 ∧ pa M k = c ∧ op M k = 1 := by
  unfold noc cnt
  rw [List.countP_pos_iff]
  constructor
  · rintro ⟨k, h1, h2⟩
    simp only [Bool.and_eq_true, decide_eq_true_eq] at h2
    exact ⟨k, List.mem_range.mp h1, h2.1, h2.2⟩
  · rintro ⟨k, h1, h2, h3⟩
    exact ⟨k, List.mem_range.mpr h1, by simp [h2, h3]⟩
theorem noc_le (M : ab_T) (c : Nat) : noc M c ≤ 64 := Nat.le_trans List.countP_le_length (by simp)
theorem lk_none {S : hp_T} {f : Nat} {r : Option Nat} {as : List Nat} (h : lk S f r as) : r = none ↔ as = [] := by
  cases as with
  | nil => exact ⟨fun _ => rfl, fun _ => h⟩
  | cons a as =>
    constructor
    · intro q; rw [h.1] at q; cases q
    · intro q; cases q
theorem own_ne {M : ab_T} {c : Nat} : ¬ own M c = [] ↔ ∃ p ∈ pks M, p.1 = c := by
  rw [own_nil]
  constructor
  · intro h
    by_cases q : ∃ p ∈ pks M, p.1 = c
    · exact q
    · exact absurd (fun p hp e => q ⟨p, hp, e⟩) h
  · rintro ⟨p, hp, e⟩ h
    exact h p hp e
theorem own_le {M : ab_T} (h : (pks M).length ≤ 2000) (c : Nat) : (own M c).length ≤ 2000 := Nat.le_trans (List.length_filter_le _ _) h
/-- the class tells rightly whether one is to be sent from -/
theorem s_opn_eq {S : hp_T} {x0 : Nat} {D : cd_T} {M : ab_T} {F c : Nat} (h : RepN S x0 D M (xnb F M)) (hw : wfS M) (hc : c < 64) (hpc : ¬ pa M c = 65) (hF : c = F → 0 < noc M c) : s_opn S x0 (dna D c) = nI (cmo M c) := by
  obtain ⟨h1, h2, h3, h4⟩ := h
  obtain ⟨a1, a2⟩ := h2 c hc hpc
  obtain ⟨p1, p2, p3, p4, p5⟩ := h4
  obtain ⟨c1, c2, c3, c4⟩ := p1 c hc hpc
  have i9 := a1.2.2.2.2.2.2.2.2.2.1
  have i7 := a1.2.2.2.2.2.2.2.1
  have r5 := a1.2.2.2.2.2.2.1
  have r2 := a1.2.2.2.1
  have t5 := h1.2.2.2.2.2.2.2.2.1
  have l2 := a2.2.2.2.1
  have ol := own_le p5 c
  have nl := noc_le M c
  have e1 : (hp_I S (dna D c) 9 ≤ hp_I S x0 5) ↔ hd M c = 0 := by
    rw [i9, t5, nI_leI (by omega) (by omega)]
    omega
  have e2 : s_hoc S (dna D c) ↔ ((∃ p ∈ pks M, p.1 = c) ∨ ∃ k, k < 64 ∧ pa M k = c ∧ op M k = 1) := by
    unfold s_hoc
    rw [r2]
    simp only [Option.getD_some]
    by_cases g : dch D c = []
    · rw [if_pos ((lk_none r5).mpr (by rw [g]; rfl)), l2]
      have nok : ¬ ∃ k, k < 64 ∧ pa M k = c ∧ op M k = 1 := fun ⟨k, k1, k2, _⟩ => by
        have := (c2 k).mpr ⟨k1, k2⟩
        rw [g] at this
        cases this
      rw [← own_ne]
      constructor
      · intro q
        refine Or.inl (fun e => ?_)
        rw [e] at q
        exact absurd q (by decide)
      · rintro (q | q)
        · have : 0 < (own M c).length := by
            rcases Nat.eq_zero_or_pos (own M c).length with e | e
            · exact absurd (List.length_eq_zero_iff.mp e) q
            · exact e
          exact nI_lt (a := 0) this (by omega)
        · exact absurd q nok
    · rw [if_neg (fun q => g (by simpa using (lk_none r5).mp q)), i7]
      have nop : ¬ ∃ p ∈ pks M, p.1 = c := fun ⟨p, q1, q2⟩ => by
        cases hh : dch D c with
        | nil => exact g hh
        | cons k ks =>
          have := (c2 k).mp (by rw [hh]; exact List.mem_cons_self)
          exact (hw.2.2.2 p q1).2.2.2.1 k this.1 (by rw [this.2, q2])
      have e3 : (0 : Int32) < nI (xnb F M c) ↔ 0 < noc M c := by
        unfold xnb
        by_cases e : c = F
        · rw [if_pos e]
          exact ⟨fun _ => hF e, fun _ => nI_lt (a := 0) (by omega) (by omega)⟩
        · rw [if_neg e, Nat.add_zero]
          exact nI_ltI (a := 0) (by omega) (by omega)
      rw [e3, noc_pos]
      exact ⟨Or.inr, fun q => q.elim (fun q => absurd q nop) id⟩
  by_cases g : cpo M (op M) c
  · rw [cmo_1 g]
    exact s_opn_1 (e1.mpr g.1) (e2.mpr g.2)
  · rw [cmo_0 g]
    exact s_opn_0 (fun q => g ⟨e1.mp q.1, e2.mp q.2⟩)
theorem flp1_pa (M : ab_T) (c v e : Nat) : pa (flp1 M c v) e = pa M e := by
  unfold flp1
  split
  · rfl
  · split <;> rfl
theorem flp1_hd (M : ab_T) (c v e : Nat) : hd (flp1 M c v) e = hd M e := by
  unfold flp1
  split
  · rfl
  · split <;> rfl
theorem flp1_tl (M : ab_T) (c v : Nat) : (flp1 M c v).2.2 = M.2.2 := by
  unfold flp1
  split
  · rfl
  · split <;> rfl
theorem flp1_op {M : ab_T} {c v : Nat} (hv : v ≤ 1) (e : Nat) : op (flp1 M c v) e = if e = c then v else op M e := by
  have e1 : ∀ w, op (mn M 5 c w) e = if e = c then w else op M e := fun w => by
    show (if 5 = 5 ∧ e = c then w else M.1 5 e) = _
    simp [op]
  unfold flp1
  by_cases h : v = 0
  · rw [if_pos h, e1, h]
  · rw [if_neg h]
    have h1 : v = 1 := by omega
    subst h1
    split
    · exact e1 1
    · exact e1 1
theorem wfS_flp1 {M : ab_T} (h : wfS M) (c v : Nat) : wfS (flp1 M c v) := by
  unfold wfS rkd pks at h ⊢
  rw [flp1_tl]
  simp only [flp1_pa]
  exact h
/-- the flip, with one child too many counted at F -/
theorem rx_flip {S : hp_T} {x0 : Nat} {D : cd_T} {M : ab_T} {F : Nat} (h : RepN S x0 D M (xnb F M)) (hw : wfS M) {c v : Nat} (hc : c < 64) (hpc : ¬ pa M c = 65) (hv : v ≤ 1) (ho : op M c ≤ 1) (hne : ¬ v = op M c) : RepN (s_flip S (dna D c) (nI v)) x0 D (flp1 M c v) (xnb F (flp1 M c v)) ∧ frC S (s_flip S (dna D c) (nI v)) := by
  obtain ⟨⟨w1, w2⟩, w3, w4, w5⟩ := hw
  have hcn := (h.2.1 c hc hpc).1
  have r4 := hcn.2.2.2.2.2.1
  have kc := hcn.1
  have n2 : nrk (hp_K S (dna D c)) := by rw [kc]; exact Or.inl (by omega)
  have s1 := rn_op h hc hpc v
  unfold s_flip f_catch
  by_cases hp : pa M c < 64
  · have hpp := w3 c hc hp
    rw [if_pos hp] at r4
    have hcn2 := (h.2.1 _ hp hpp).1
    have hcp : ¬ c = pa M c := fun q => by
      obtain ⟨rk, hrk⟩ := w4
      have := hrk c hc hp
      rw [← q] at this
      omega
    have hna : ¬ dna D c = dna D (pa M c) := fun q => hcp (na_inj hcn hcn2 hc hp q)
    have n2p : nrk (hp_K S (dna D (pa M c))) := by rw [hcn2.1]; exact Or.inl (by omega)
    have i7 := hcn2.2.2.2.2.2.2.2.1
    have j12 := hcn2.2.2.2.2.2.2.2.2.2.2.2.2.1
    have j10 := hcn.2.2.2.2.2.2.2.2.2.2.1
    simp only [r4]
    have s2 : ∀ w : Int32, w = nI (xnb F (mn M 5 c v) (pa M c)) → RepN (hp_sI (hp_sI S (dna D c) 8 (nI v)) (dna D (pa M c)) 7 w) x0 D (mn M 5 c v) (xnb F (mn M 5 c v)) := fun w hw2 => by
      refine rn_nbw (nb' := xnb F (mn M 5 c v)) s1 hp hpp hw2 (fun e he => ?_)
      unfold xnb
      rw [noc_ne (fun q => he q.symm)]
    by_cases hv0 : v = 0
    · subst hv0
      have h1 : op M c = 1 := by omega
      have e0 : nI 0 = 0 := rfl
      rw [e0] at s2 s1 ⊢
      simp only [if_true]
      refine ⟨?_, ?_⟩
      · have e1 : flp1 M c 0 = mn M 5 c 0 := rfl
        rw [e1]
        refine s2 _ ?_
        rw [i7]
        unfold xnb
        rw [noc_dn hc h1, Nat.add_right_comm]
        exact pk_m1 _
      · exact (frC.sI S _ _ _ n2).trans (frC.sI _ _ _ _ n2p)
    · have hv1 : v = 1 := by omega
      subst hv1
      have h1 : op M c = 0 := by omega
      have e0 : nI 1 = 1 := rfl
      rw [e0] at s2 s1 ⊢
      have e2 : ¬ (1 : Int32) = 0 := by decide
      simp only [if_neg e2, hp_R_sI, r4, hp_J_sI, j10, j12]
      have s3 := s2 (hp_I S (dna D (pa M c)) 7 + 1) (by
        rw [i7]
        unfold xnb
        rw [noc_up hc h1, nI_1, Nat.add_right_comm])
      have f2 : frC S (hp_sI (hp_sI S (dna D c) 8 1) (dna D (pa M c)) 7 (hp_I S (dna D (pa M c)) 7 + 1)) := (frC.sI S _ _ _ n2).trans (frC.sI _ _ _ _ n2p)
      have e3 : flp1 M c 1 = if pa M c < 64 ∧ tg M c < tm M (pa M c) then mn (mj (mn M 5 c 1) 0 c (tm M (pa M c))) 3 c 0 else mn M 5 c 1 := rfl
      by_cases ht : tg M c < tm M (pa M c)
      · rw [if_pos ht, e3, if_pos ⟨hp, ht⟩]
        refine ⟨rn_rs (rn_tg s3 hc hpc _) hc hpc 0, f2.trans ?_⟩
        refine frC.trans (frC.sJ _ _ _ _ ?_) (frC.sI _ _ _ _ ?_)
        · exact n2
        · exact n2
      · rw [if_neg ht, e3, if_neg (fun q => ht q.2)]
        exact ⟨s3, f2⟩
  · rw [if_neg hp] at r4
    simp only [r4]
    have hnoc : ∀ e, e < 64 → xnb F (mn M 5 c v) e = xnb F M e := fun e he => by
      unfold xnb
      rw [noc_ne (fun q => hp (by rw [q]; exact he))]
    by_cases hv0 : v = 0
    · subst hv0
      simp only [show nI 0 = 0 from rfl, if_true]
      exact ⟨rn_nb s1 hnoc, frC.sI S _ _ _ n2⟩
    · have hv1 : v = 1 := by omega
      subst hv1
      have e2 : ¬ nI 1 = 0 := by decide
      simp only [if_neg e2, hp_R_sI, r4]
      have e3 : flp1 M c 1 = mn M 5 c 1 := by
        show (if pa M c < 64 ∧ tg M c < tm M (pa M c) then mn (mj (mn M 5 c 1) 0 c (tm M (pa M c))) 3 c 0 else mn M 5 c 1) = _
        rw [if_neg (fun q => hp q.1)]
      rw [e3]
      exact ⟨rn_nb s1 hnoc, frC.sI S _ _ _ n2⟩
theorem rx_settle {x0 : Nat} {D : cd_T} {F : Nat} : ∀ (us : List Nat) (c : Nat) (M : ab_T) (S : hp_T), RepN S x0 D M (xnb F M) → wfS M → (∀ e, e < 64 → op M e ≤ 1) → upl M c us → vis F M us → RepN (f_settle x0 (us.map (dna D)) S) x0 D (sgo M us) (xnb F (sgo M us)) ∧ frC S (f_settle x0 (us.map (dna D)) S) := by
  intro us
  induction us with
  | nil => intro c M S h _ _ _ _; exact ⟨h, frC.rf S⟩
  | cons u us ih =>
    intro c M S h hw hop hu hv
    have hin := upl_in (u :: us) c hu u List.mem_cons_self
    obtain ⟨rfl, hc, hu2⟩ := hu
    obtain ⟨v1, v2⟩ := hv
    have e1 := s_opn_eq h hw hc hin.2 v1
    have i8 := (h.2.1 c hc hin.2).1.2.2.2.2.2.2.2.2.1
    have hle := cmo_le M c
    have hol := hop c hc
    show RepN (if s_opn S x0 (dna D c) = hp_I S (dna D c) 8 then S else f_settle x0 (us.map (dna D)) (s_flip S (dna D c) (s_opn S x0 (dna D c)))) x0 D (if op M c = cmo M c then M else sgo (flp1 M c (cmo M c)) us) (xnb F (if op M c = cmo M c then M else sgo (flp1 M c (cmo M c)) us)) ∧ frC S (if s_opn S x0 (dna D c) = hp_I S (dna D c) 8 then S else f_settle x0 (us.map (dna D)) (s_flip S (dna D c) (s_opn S x0 (dna D c))))
    rw [e1, i8]
    by_cases g : op M c = cmo M c
    · rw [if_pos g, if_pos (by rw [g])]
      exact ⟨h, frC.rf S⟩
    · rw [if_neg g, if_neg (fun q => g ((nI_eq (by omega) (by omega)).mp q).symm)]
      obtain ⟨q1, q2⟩ := rx_flip h hw hc hin.2 hle hol (fun q => g q.symm)
      obtain ⟨q3, q4⟩ := ih (pa M c) (flp1 M c (cmo M c)) _ q1 (wfS_flp1 hw _ _) (fun e he => by
        rw [flp1_op hle]
        split
        · exact hle
        · exact hop e he) (upl_pa (flp1_pa M c _) us _ hu2) (v2.resolve_left g)
      exact ⟨q3, q2.trans q4⟩
theorem cpo_as {M : ab_T} {o : Nat → Nat} {c : Nat} : cpo (a_set M o) (op (a_set M o)) c ↔ cpo M o c := by
  unfold cpo
  constructor
  · rintro ⟨a, b | ⟨k, k1, k2, k3⟩⟩
    · exact ⟨a, Or.inl b⟩
    · exact ⟨a, Or.inr ⟨k, k1, k2, by rw [as_op M o k1] at k3; exact k3⟩⟩
  · rintro ⟨a, b | ⟨k, k1, k2, k3⟩⟩
    · exact ⟨a, Or.inl b⟩
    · exact ⟨a, Or.inr ⟨k, k1, k2, by rw [as_op M o k1]; exact k3⟩⟩
theorem as_self (M : ab_T) : a_set M (op M) = M := by
  have e : ∀ c, flp M (op M) c = false := fun c => by
    unfold flp
    by_cases h : op M c = 1
    · simp [h]
    · simp [h]
  unfold a_set
  simp only [e, Bool.false_eq_true, and_false, if_false]
  refine Prod.ext ?_ (Prod.ext rfl rfl)
  funext f c
  by_cases h : f = 5
  · subst h
    simp [op]
  · simp [h]
theorem flp_upo {M : ab_T} {o : Nat → Nat} {c v e : Nat} (h : ¬ e = c) : flp M (upo o c v) e = flp M o e := by
  unfold flp upo
  rw [if_neg h]
theorem flp1_open {M : ab_T} {o : Nat → Nat} {c : Nat} (hw : wfS M) (hc : c < 64) (hpc : ¬ pa M c = 65) (h0 : o c = 0) (h1 : op M c = 0) : flp1 (a_set M o) c 1 = a_set M (upo o c 1) := by
  have hpa : (pa M c < 64) ↔ 0 < c := by
    constructor
    · intro q
      rcases Nat.eq_zero_or_pos c with e | e
      · rw [e, hw.1.1] at q; omega
      · exact e
    · intro q
      rcases hw.1.2 c hc q with e | e
      · exact e
      · exact absurd e hpc
  have f0 : flp M o c = false := by unfold flp; simp [h0]
  have t0 : tg (a_set M o) c = tg M c := by rw [as_tg, f0]; rfl
  have u1 : upo o c 1 c = 1 := by unfold upo; rw [if_pos rfl]
  have f1 : flp M (upo o c 1) c = decide (pa M c < 64 ∧ tg M c < tm M (pa M c)) := by
    unfold flp
    rw [u1]
    by_cases q : 0 < c
    · have := hpa.mpr q
      simp [hc, q, h1, this]
    · have : ¬ pa M c < 64 := fun z => q (hpa.mp z)
      simp [q, this]
  show (if pa M c < 64 ∧ tg (a_set M o) c < tm M (pa M c) then mn (mj (mn (a_set M o) 5 c 1) 0 c (tm M (pa M c))) 3 c 0 else mn (a_set M o) 5 c 1) = _
  rw [t0]
  by_cases g : pa M c < 64 ∧ tg M c < tm M (pa M c)
  · rw [if_pos g]
    simp only [g, and_self, decide_true] at f1
    refine Prod.ext ?_ (Prod.ext ?_ rfl)
    · funext f e
      show (if f = 3 ∧ e = c then 0 else if f = 5 ∧ e = c then 1 else (a_set M o).1 f e) = (a_set M (upo o c 1)).1 f e
      unfold a_set
      by_cases he : e = c
      · subst he
        by_cases hf : f = 5
        · subst hf; simp [hc, u1]
        · by_cases hf3 : f = 3
          · subst hf3; simp [f1]
          · simp [hf, hf3]
      · simp only [he, and_false, if_false, flp_upo he]
        by_cases hf : f = 5
        · subst hf; simp [upo, he]
        · simp [hf]
    · funext f e
      show (if f = 0 ∧ e = c then tm M (pa M c) else (a_set M o).2.1 f e) = (a_set M (upo o c 1)).2.1 f e
      unfold a_set
      by_cases he : e = c
      · subst he
        by_cases hf : f = 0
        · subst hf; simp [f1, tm]
        · simp [hf]
      · simp only [he, and_false, if_false, flp_upo he]
  · rw [if_neg g]
    simp only [g, decide_false] at f1
    refine Prod.ext ?_ (Prod.ext ?_ rfl)
    · funext f e
      show (if f = 5 ∧ e = c then 1 else (a_set M o).1 f e) = (a_set M (upo o c 1)).1 f e
      unfold a_set
      by_cases he : e = c
      · subst he
        by_cases hf : f = 5
        · subst hf; simp [hc, u1]
        · simp [hf, f0, f1]
      · simp only [he, and_false, if_false, flp_upo he]
        by_cases hf : f = 5
        · subst hf; simp [upo, he]
        · simp [hf]
    · funext f e
      show (a_set M o).2.1 f e = (a_set M (upo o c 1)).2.1 f e
      unfold a_set
      by_cases he : e = c
      · subst he
        simp [f0, f1]
      · simp only [flp_upo he]
theorem flp1_close {M : ab_T} {o : Nat → Nat} {c : Nat} (hc : c < 64) (h1 : op M c = 1) : flp1 (a_set M o) c 0 = a_set M (upo o c 0) := by
  have f : ∀ o, flp M o c = false := fun o => by unfold flp; simp [h1]
  show mn (a_set M o) 5 c 0 = _
  refine Prod.ext ?_ (Prod.ext ?_ rfl)
  · funext g e
    show (if g = 5 ∧ e = c then 0 else (a_set M o).1 g e) = (a_set M (upo o c 0)).1 g e
    unfold a_set
    by_cases he : e = c
    · subst he
      by_cases hg : g = 5
      · subst hg; simp [hc, upo]
      · simp [hg, f]
    · simp only [he, and_false, if_false, flp_upo he]
      by_cases hg : g = 5
      · subst hg; simp [upo, he]
      · simp [hg]
  · funext g e
    show (a_set M o).2.1 g e = (a_set M (upo o c 0)).2.1 g e
    unfold a_set
    by_cases he : e = c
    · subst he
      simp [f]
    · simp only [flp_upo he]
end M42
