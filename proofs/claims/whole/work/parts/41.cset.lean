/-! THE CLASS: settling, over the state as a value -/
section M41
/-- two states that differ at one class alone, and not in its place or its hold -/
def atc (M M' : ab_T) (c : Nat) : Prop := (∀ e, pa M' e = pa M e) ∧ (∀ e, hd M' e = hd M e) ∧ (∀ f e, ¬ e = c → M'.1 f e = M.1 f e) ∧ (∀ f e, ¬ e = c → M'.2.1 f e = M.2.1 f e) ∧ M'.2.2 = M.2.2
theorem ct_M {S : hp_T} {x0 : Nat} {D : cd_T} {M M' : ab_T} (h : ct S x0 D M) (h1 : ∀ e, pa M' e = pa M e) (h2 : M'.2.2 = M.2.2) : ct S x0 D M' := by
  have e1 : ccl M' 64 = ccl M 64 := by unfold ccl; simp only [h1]
  unfold ct pks drp trn la0 la1 la2 at h ⊢
  rw [e1, h2]
  simp only [h1]
  exact h
theorem cp_M {D : cd_T} {M M' : ab_T} (h : cp D M) (h1 : ∀ e, pa M' e = pa M e) (h2 : ∀ e, hd M' e = hd M e) (h3 : M'.2.2 = M.2.2) : cp D M' := by
  unfold cp trn pks at h ⊢
  rw [h3]
  simp only [h1, h2]
  exact h
theorem own_M {M M' : ab_T} (h : M'.2.2 = M.2.2) (c : Nat) : own M' c = own M c := by
  unfold own pks
  rw [h]
theorem na_inj {S : hp_T} {D : cd_T} {M : ab_T} {nb : Nat → Nat} {c e : Nat} (h1 : cn S D M nb c) (h2 : cn S D M nb e) (hc : c < 64) (he : e < 64) (h : dna D c = dna D e) : c = e := by
  have q1 := h1.2.1
  have q2 := h2.2.1
  rw [h, q2] at q1
  exact ((nI_eq (by omega) (by omega)).mp q1).symm
/-- a write into one node -/
theorem rn_at {S S' : hp_T} {x0 : Nat} {D : cd_T} {M M' : ab_T} {nb nb' : Nat → Nat} {c : Nat} (h : RepN S x0 D M nb) (hc : c < 64) (hpc : ¬ pa M c = 65) (eK : hp_K S' = hp_K S) (eR : hp_R S' = hp_R S) (eN : hp_N S' = hp_N S) (eI : ∀ a j, ¬ a = dna D c → hp_I S' a j = hp_I S a j) (eJ : ∀ a j, ¬ a = dna D c → hp_J S' a j = hp_J S a j) (hM : atc M M' c) (hnb : ∀ e, ¬ e = c → nb' e = nb e) (hcn : cn S' D M' nb' c) : RepN S' x0 D M' nb' := by
  obtain ⟨h1, h2, h3, h4⟩ := h
  obtain ⟨m1, m2, m3, m4, m5⟩ := hM
  have kc := (h2 c hc hpc).1.1
  refine ⟨?_, fun e he hpe => ?_, ?_, cp_M h4 m1 m2 m5⟩
  · refine ct_M ?_ m1 m5
    have hx : ¬ x0 = dna D c := fun q => by have := h1.1; rw [q, kc] at this; omega
    unfold ct at h1 ⊢
    rw [eK, eR, eN]
    simp only [eI x0 _ hx]
    exact h1
  · rw [m1] at hpe
    obtain ⟨q1, q2⟩ := h2 e he hpe
    refine ⟨?_, ?_⟩
    · by_cases g : e = c
      · subst g; exact hcn
      · have hne : ¬ dna D e = dna D c := fun q => g (na_inj q1 (h2 c hc hpc).1 he hc q)
        exact cn_fr q1 (by rw [eK]) (fun j => eI _ j hne) (fun j => eJ _ j hne) (fun j _ => by rw [eR]) (fun k _ => by rw [eR]) (fun f => m3 f e g) (fun f => m4 f e g) (hnb e g)
    · have hne : ¬ dln D e = dna D c := fun q => by have := q2.1; rw [q, kc] at this; omega
      refine cl_fr q2 (by rw [eK]) (fun j => eI _ j hne) (fun j => by rw [eR]) (fun a ha => ⟨by rw [eK], fun j => eI _ j (fun q => ?_), fun j => by rw [eR]⟩) (own_M m5 e)
      obtain ⟨i, hi⟩ := List.getElem?_of_mem ha
      have := (q2.2.2.2.2.2.2.1 i a hi).1
      rw [q, kc] at this
      omega
  · unfold csp at h3 ⊢
    rw [eK]
    exact ⟨by rw [eR]; exact lk_eq eR 2 _ _ h3.1, h3.2⟩
theorem rn_nb {S : hp_T} {x0 : Nat} {D : cd_T} {M : ab_T} {nb nb' : Nat → Nat} (h : RepN S x0 D M nb) (h2 : ∀ c, c < 64 → nb' c = nb c) : RepN S x0 D M nb' := by
  obtain ⟨h1, h3, h4, h5⟩ := h
  refine ⟨h1, fun c hc hpc => ⟨?_, (h3 c hc hpc).2⟩, h4, h5⟩
  have q := (h3 c hc hpc).1
  unfold cn at q ⊢
  rw [h2 c hc]
  exact q
theorem atc_n {M : ab_T} {f c v : Nat} (h0 : ¬ f = 0) (h4 : ¬ f = 4) : atc M (mn M f c v) c := by
  refine ⟨fun e => ?_, fun e => ?_, fun g e he => ?_, fun _ _ _ => rfl, rfl⟩
  · show (if 0 = f ∧ e = c then v else M.1 0 e) = M.1 0 e
    rw [if_neg (fun q => h0 q.1.symm)]
  · show (if 4 = f ∧ e = c then v else M.1 4 e) = M.1 4 e
    rw [if_neg (fun q => h4 q.1.symm)]
  · show (if g = f ∧ e = c then v else M.1 g e) = M.1 g e
    rw [if_neg (fun q => he q.2)]
theorem atc_j {M : ab_T} {f c : Nat} {v : Int64} : atc M (mj M f c v) c := by
  refine ⟨fun e => rfl, fun e => rfl, fun g e he => rfl, fun g e he => ?_, rfl⟩
  show (if g = f ∧ e = c then v else M.2.1 g e) = M.2.1 g e
  rw [if_neg (fun q => he q.2)]
theorem sI_ne {S : hp_T} {b k : Nat} {v : Int32} : ∀ a j, ¬ a = b → hp_I (hp_sI S b k v) a j = hp_I S a j := fun a j h => by rw [hp_I_sI, if_neg (fun q => h q.1)]
theorem sJ_ne {S : hp_T} {b k : Nat} {v : Int64} : ∀ a j, ¬ a = b → hp_J (hp_sJ S b k v) a j = hp_J S a j := fun a j h => by rw [hp_J_sJ, if_neg (fun q => h q.1)]
theorem lk_sI {S : hp_T} {b k f : Nat} {v : Int32} {r : Option Nat} {as : List Nat} (h : lk S f r as) : lk (hp_sI S b k v) f r as := lk_eq (S := S) (hp_R_sI S b k v) f as r h
theorem lk_sJ {S : hp_T} {b k f : Nat} {v : Int64} {r : Option Nat} {as : List Nat} (h : lk S f r as) : lk (hp_sJ S b k v) f r as := lk_eq (S := S) (hp_R_sJ S b k v) f as r h
theorem mn_at (M : ab_T) (f c v : Nat) : (mn M f c v).1 f c = v := by simp [mn]
theorem mn_ne (M : ab_T) {f g : Nat} (c v : Nat) (h : ¬ g = f) (e : Nat) : (mn M f c v).1 g e = M.1 g e := by simp [mn, h]
theorem mj_at (M : ab_T) (f c : Nat) (v : Int64) : (mj M f c v).2.1 f c = v := by simp [mj]
theorem mj_ne (M : ab_T) {f g : Nat} (c : Nat) (v : Int64) (h : ¬ g = f) (e : Nat) : (mj M f c v).2.1 g e = M.2.1 g e := by simp [mj, h]
theorem rn_op {S : hp_T} {x0 : Nat} {D : cd_T} {M : ab_T} {nb : Nat → Nat} (h : RepN S x0 D M nb) {c : Nat} (hc : c < 64) (hpc : ¬ pa M c = 65) (v : Nat) : RepN (hp_sI S (dna D c) 8 (nI v)) x0 D (mn M 5 c v) nb := by
  refine rn_at h hc hpc rfl rfl rfl sI_ne (fun _ _ _ => rfl) (atc_n (by omega) (by omega)) (fun _ _ => rfl) ?_
  obtain ⟨a1, a2, a3, a4, a5, a6, a7, a8, a9, a10, a11, a12, a13, a14⟩ := (h.2.1 c hc hpc).1
  unfold cn
  simp only [hp_I_sI, hp_R_sI, hp_K_sI, hp_J_sI, true_and, Nat.reduceEqDiff, if_true, if_false]
  exact ⟨a1, a2, a3, a4, a5, a6, lk_sI a7, a8, by show nI v = nI ((mn M 5 c v).1 5 c); rw [mn_at], a10, a11, a12, a13, a14⟩
theorem rn_nbw {S : hp_T} {x0 : Nat} {D : cd_T} {M : ab_T} {nb nb' : Nat → Nat} (h : RepN S x0 D M nb) {c : Nat} (hc : c < 64) (hpc : ¬ pa M c = 65) {v : Int32} (hv : v = nI (nb' c)) (hnb : ∀ e, ¬ e = c → nb' e = nb e) : RepN (hp_sI S (dna D c) 7 v) x0 D M nb' := by
  refine rn_at h hc hpc rfl rfl rfl sI_ne (fun _ _ _ => rfl) ⟨fun _ => rfl, fun _ => rfl, fun _ _ _ => rfl, fun _ _ _ => rfl, rfl⟩ hnb ?_
  obtain ⟨a1, a2, a3, a4, a5, a6, a7, a8, a9, a10, a11, a12, a13, a14⟩ := (h.2.1 c hc hpc).1
  unfold cn
  simp only [hp_I_sI, hp_R_sI, hp_K_sI, hp_J_sI, true_and, Nat.reduceEqDiff, if_true, if_false]
  exact ⟨a1, a2, a3, a4, a5, a6, lk_sI a7, hv, a9, a10, a11, a12, a13, a14⟩
theorem rn_tg {S : hp_T} {x0 : Nat} {D : cd_T} {M : ab_T} {nb : Nat → Nat} (h : RepN S x0 D M nb) {c : Nat} (hc : c < 64) (hpc : ¬ pa M c = 65) (v : Int64) : RepN (hp_sJ S (dna D c) 10 v) x0 D (mj M 0 c v) nb := by
  refine rn_at h hc hpc rfl rfl rfl (fun _ _ _ => rfl) sJ_ne atc_j (fun _ _ => rfl) ?_
  obtain ⟨a1, a2, a3, a4, a5, a6, a7, a8, a9, a10, a11, a12, a13, a14⟩ := (h.2.1 c hc hpc).1
  unfold cn
  simp only [hp_I_sJ, hp_R_sJ, hp_K_sJ, hp_J_sJ, true_and, Nat.reduceEqDiff, if_true, if_false]
  exact ⟨a1, a2, a3, a4, a5, a6, lk_sJ a7, a8, a9, a10, by show v = (mj M 0 c v).2.1 0 c; rw [mj_at], a12, a13, a14⟩
theorem rn_tm {S : hp_T} {x0 : Nat} {D : cd_T} {M : ab_T} {nb : Nat → Nat} (h : RepN S x0 D M nb) {c : Nat} (hc : c < 64) (hpc : ¬ pa M c = 65) (v : Int64) : RepN (hp_sJ S (dna D c) 12 v) x0 D (mj M 1 c v) nb := by
  refine rn_at h hc hpc rfl rfl rfl (fun _ _ _ => rfl) sJ_ne atc_j (fun _ _ => rfl) ?_
  obtain ⟨a1, a2, a3, a4, a5, a6, a7, a8, a9, a10, a11, a12, a13, a14⟩ := (h.2.1 c hc hpc).1
  unfold cn
  simp only [hp_I_sJ, hp_R_sJ, hp_K_sJ, hp_J_sJ, true_and, Nat.reduceEqDiff, if_true, if_false]
  exact ⟨a1, a2, a3, a4, a5, a6, lk_sJ a7, a8, a9, a10, a11, a12, by show v = (mj M 1 c v).2.1 1 c; rw [mj_at], a14⟩
theorem rn_sh {S : hp_T} {x0 : Nat} {D : cd_T} {M : ab_T} {nb : Nat → Nat} (h : RepN S x0 D M nb) {c : Nat} (hc : c < 64) (hpc : ¬ pa M c = 65) (v : Int64) : RepN (hp_sJ S (dna D c) 13 v) x0 D (mj M 2 c v) nb := by
  refine rn_at h hc hpc rfl rfl rfl (fun _ _ _ => rfl) sJ_ne atc_j (fun _ _ => rfl) ?_
  obtain ⟨a1, a2, a3, a4, a5, a6, a7, a8, a9, a10, a11, a12, a13, a14⟩ := (h.2.1 c hc hpc).1
  unfold cn
  simp only [hp_I_sJ, hp_R_sJ, hp_K_sJ, hp_J_sJ, true_and, Nat.reduceEqDiff, if_true, if_false]
  exact ⟨a1, a2, a3, a4, a5, a6, lk_sJ a7, a8, a9, a10, a11, a12, a13, by show v = (mj M 2 c v).2.1 2 c; rw [mj_at]⟩
theorem rn_rs {S : hp_T} {x0 : Nat} {D : cd_T} {M : ab_T} {nb : Nat → Nat} (h : RepN S x0 D M nb) {c : Nat} (hc : c < 64) (hpc : ¬ pa M c = 65) (v : Nat) : RepN (hp_sI S (dna D c) 11 (nI v)) x0 D (mn M 3 c v) nb := by
  refine rn_at h hc hpc rfl rfl rfl sI_ne (fun _ _ _ => rfl) (atc_n (by omega) (by omega)) (fun _ _ => rfl) ?_
  obtain ⟨a1, a2, a3, a4, a5, a6, a7, a8, a9, a10, a11, a12, a13, a14⟩ := (h.2.1 c hc hpc).1
  unfold cn
  simp only [hp_I_sI, hp_R_sI, hp_K_sI, hp_J_sI, true_and, Nat.reduceEqDiff, if_true, if_false]
  exact ⟨a1, a2, a3, a4, a5, a6, lk_sI a7, a8, a9, a10, a11, by show nI v = nI ((mn M 3 c v).1 3 c); rw [mn_at], a13, a14⟩
theorem rn_wt {S : hp_T} {x0 : Nat} {D : cd_T} {M : ab_T} {nb : Nat → Nat} (h : RepN S x0 D M nb) {c : Nat} (hc : c < 64) (hpc : ¬ pa M c = 65) (v : Nat) : RepN (hp_sI S (dna D c) 3 (nI v)) x0 D (mn M 1 c v) nb := by
  refine rn_at h hc hpc rfl rfl rfl sI_ne (fun _ _ _ => rfl) (atc_n (by omega) (by omega)) (fun _ _ => rfl) ?_
  obtain ⟨a1, a2, a3, a4, a5, a6, a7, a8, a9, a10, a11, a12, a13, a14⟩ := (h.2.1 c hc hpc).1
  unfold cn
  simp only [hp_I_sI, hp_R_sI, hp_K_sI, hp_J_sI, true_and, Nat.reduceEqDiff, if_true, if_false]
  exact ⟨a1, a2, a3, a4, by show nI v = nI ((mn M 1 c v).1 1 c); rw [mn_at], a6, lk_sI a7, a8, a9, a10, a11, a12, a13, a14⟩
/-- a class is told that it is one to send from, or not -/
def flp1 (M : ab_T) (c v : Nat) : ab_T := if v = 0 then mn M 5 c 0 else if pa M c < 64 ∧ tg M c < tm M (pa M c) then mn (mj (mn M 5 c 1) 0 c (tm M (pa M c))) 3 c 0 else mn M 5 c 1
theorem noc_ne {M : ab_T} {c v e : Nat} (h : ¬ pa M c = e) : noc (mn M 5 c v) e = noc M e := by
  unfold noc
  refine cnt_congr (fun i hi => ?_)
  by_cases g : i = c
  · subst g
    have : ¬ pa (mn M 5 i v) i = e := h
    simp [h, this]
  · have e1 : op (mn M 5 c v) i = op M i := by
      show (if 5 = 5 ∧ i = c then v else M.1 5 i) = M.1 5 i
      rw [if_neg (fun q => g q.2)]
    rw [e1]
    rfl
theorem noc_up {M : ab_T} {c : Nat} (hc : c < 64) (h : op M c = 0) : noc (mn M 5 c 1) (pa M c) = noc M (pa M c) + 1 := by
  unfold noc
  have e1 : op (mn M 5 c 1) c = 1 := mn_at M 5 c 1
  rw [cnt_del (m := c) hc (by rw [e1]; simp; rfl)]
  congr 1
  refine cnt_congr (fun i hi => ?_)
  by_cases g : i = c
  · subst g
    simp [h]
  · have e1 : op (mn M 5 c 1) i = op M i := by
      show (if 5 = 5 ∧ i = c then 1 else M.1 5 i) = M.1 5 i
      rw [if_neg (fun q => g q.2)]
    rw [e1]
    simp [g]
    rfl
theorem noc_dn {M : ab_T} {c : Nat} (hc : c < 64) (h : op M c = 1) : noc M (pa M c) = noc (mn M 5 c 0) (pa M c) + 1 := by
  unfold noc
  rw [cnt_del (m := c) hc (by simp [h])]
  congr 1
  refine cnt_congr (fun i hi => ?_)
  by_cases g : i = c
  · subst g
    have e1 : op (mn M 5 i 0) i = 0 := mn_at M 5 i 0
    simp [e1]
  · have e1 : op (mn M 5 c 0) i = op M i := by
      show (if 5 = 5 ∧ i = c then 0 else M.1 5 i) = M.1 5 i
      rw [if_neg (fun q => g q.2)]
    rw [e1]
    simp [g]
    rfl
/-- the flip in the pool is the flip of the state -/
theorem rc_flip {S : hp_T} {x0 : Nat} {D : cd_T} {M : ab_T} (h : RepC S x0 D M) (hw : wfS M) {c v : Nat} (hc : c < 64) (hpc : ¬ pa M c = 65) (hv : v ≤ 1) (ho : op M c ≤ 1) (hne : ¬ v = op M c) : RepC (s_flip S (dna D c) (nI v)) x0 D (flp1 M c v) ∧ frC S (s_flip S (dna D c) (nI v)) := by
  obtain ⟨⟨w1, w2⟩, w3, w4, w5⟩ := hw
  have hcn := (h.2.1 c hc hpc).1
  have r4 := hcn.2.2.2.2.2.1
  have kc := hcn.1
  have n2 : nrk (hp_K S (dna D c)) := by rw [kc]; exact Or.inl (by omega)
  have s1 := rn_op h hc hpc v
  unfold s_flip f_catch
  by_cases hp : pa M c < 64
  · -- it has a parent
    have hpp := w3 c hc hp
    rw [if_pos hp] at r4
    have hcn2 := (h.2.1 _ hp hpp).1
    have hcp : ¬ c = pa M c := fun q => by
      obtain ⟨rk, hrk⟩ := w4
      have := hrk c hc hp
      rw [← q] at this
      omega
    have hna : ¬ dna D c = dna D (pa M c) := fun q => hcp (na_inj hcn hcn2 hc hp q)
    have n2p : nrk (hp_K S (dna D (pa M c))) := by rw [hcn2.1]; exact Or.inl (by omega)
    have i7 := hcn2.2.2.2.2.2.2.2.1
    have j12 := hcn2.2.2.2.2.2.2.2.2.2.2.2.2.1
    have j10 := hcn.2.2.2.2.2.2.2.2.2.2.1
    simp only [r4]
    have s2 : ∀ w : Int32, w = nI (noc (mn M 5 c v) (pa M c)) → RepN (hp_sI (hp_sI S (dna D c) 8 (nI v)) (dna D (pa M c)) 7 w) x0 D (mn M 5 c v) (noc (mn M 5 c v)) := fun w hw2 => by
      refine rn_nbw (nb' := noc (mn M 5 c v)) s1 hp hpp hw2 (fun e he => noc_ne (fun q => he q.symm))
    by_cases hv0 : v = 0
    · subst hv0
      have h1 : op M c = 1 := by omega
      have e0 : nI 0 = 0 := rfl
      rw [e0] at s2 s1 ⊢
      simp only [if_true]
      refine ⟨?_, ?_⟩
      · have e1 : flp1 M c 0 = mn M 5 c 0 := rfl
        unfold RepC
        rw [e1]
        refine s2 _ ?_
        rw [i7, noc_dn hc h1]
        exact pk_m1 _
      · exact (frC.sI S _ _ _ n2).trans (frC.sI _ _ _ _ n2p)
    · have hv1 : v = 1 := by omega
      subst hv1
      have h1 : op M c = 0 := by omega
      have e0 : nI 1 = 1 := rfl
      rw [e0] at s2 s1 ⊢
      have e2 : ¬ (1 : Int32) = 0 := by decide
      simp only [if_neg e2, hp_R_sI, r4, hp_J_sI, j10, j12]
      have s3 := s2 (hp_I S (dna D (pa M c)) 7 + 1) (by rw [i7, noc_up hc h1, nI_1])
      have f2 : frC S (hp_sI (hp_sI S (dna D c) 8 1) (dna D (pa M c)) 7 (hp_I S (dna D (pa M c)) 7 + 1)) := (frC.sI S _ _ _ n2).trans (frC.sI _ _ _ _ n2p)
      have e3 : flp1 M c 1 = if pa M c < 64 ∧ tg M c < tm M (pa M c) then mn (mj (mn M 5 c 1) 0 c (tm M (pa M c))) 3 c 0 else mn M 5 c 1 := rfl
      by_cases ht : tg M c < tm M (pa M c)
      · rw [if_pos ht, e3, if_pos ⟨hp, ht⟩]
        refine ⟨rn_rs (rn_tg s3 hc hpc _) hc hpc 0, f2.trans ?_⟩
        refine frC.trans (frC.sJ _ _ _ _ ?_) (frC.sI _ _ _ _ ?_)
        · exact n2
        · exact n2
      · rw [if_neg ht, e3, if_neg (fun q => ht q.2)]
        exact ⟨s3, f2⟩
  · rw [if_neg hp] at r4
    simp only [r4]
    have hnoc : ∀ e, e < 64 → noc (mn M 5 c v) e = noc M e := fun e he => noc_ne (fun q => hp (by rw [q]; exact he))
    by_cases hv0 : v = 0
    · subst hv0
      simp only [show nI 0 = 0 from rfl, if_true]
      exact ⟨rn_nb s1 hnoc, frC.sI S _ _ _ n2⟩
    · have hv1 : v = 1 := by omega
      subst hv1
      have e2 : ¬ nI 1 = 0 := by decide
      simp only [if_neg e2, hp_R_sI, r4]
      have e3 : flp1 M c 1 = mn M 5 c 1 := by
        show (if pa M c < 64 ∧ tg M c < tm M (pa M c) then mn (mj (mn M 5 c 1) 0 c (tm M (pa M c))) 3 c 0 else mn M 5 c 1) = _
        rw [if_neg (fun q => hp q.1)]
      rw [e3]
      exact ⟨rn_nb s1 hnoc, frC.sI S _ _ _ n2⟩
end M41
