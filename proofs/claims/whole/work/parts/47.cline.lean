/-! THE CLASS: packets come and go -/
section M47
/-- what is new changes nothing of what was -/
theorem rn_ext {S S' : hp_T} {x0 : Nat} {Z : cd_T} {M : ab_T} {nb : Nat → Nat} (h : RepN S x0 Z M nb) (hS : ∀ a, ¬ hp_K S a = 0 → hp_K S' a = hp_K S a ∧ hp_N S' a = hp_N S a ∧ (∀ j, hp_I S' a j = hp_I S a j) ∧ (∀ j, hp_J S' a j = hp_J S a j) ∧ ∀ j, hp_R S' a j = hp_R S a j) : RepN S' x0 Z M nb := by
  obtain ⟨h1, h2, h3, h4⟩ := h
  refine ⟨?_, fun e he hpe => ⟨?_, ?_⟩, ?_, h4⟩
  · obtain ⟨k0, -, i0, -, r0⟩ := hS x0 (by rw [h1.1]; omega)
    obtain ⟨k1, n1, -, -, r1⟩ := hS (dca Z) (by rw [h1.2.2.2.1]; omega)
    unfold ct at h1 ⊢
    rw [k0, k1, n1]
    simp only [i0, r0, r1]
    exact h1
  · obtain ⟨q, -⟩ := h2 e he hpe
    obtain ⟨k0, -, i0, j0, r0⟩ := hS (dna Z e) (by rw [q.1]; omega)
    refine cn_fr q k0 i0 j0 (fun j _ => r0 j) (fun k hk => ?_) (fun _ => rfl) (fun _ => rfl) rfl
    have := ((h4.1 e he hpe).2.1 k).mp hk
    exact (hS (dna Z k) (by rw [(h2 k this.1 (by omega)).1.1]; omega)).2.2.2.2 6
  · obtain ⟨-, q⟩ := h2 e he hpe
    obtain ⟨k0, -, i0, -, r0⟩ := hS (dln Z e) (by rw [q.1]; omega)
    refine cl_fr q k0 i0 r0 (fun a ha => ?_) rfl
    obtain ⟨i, hi⟩ := List.getElem?_of_mem ha
    obtain ⟨k1, -, i1, -, r1⟩ := hS a (by rw [(q.2.2.2.2.2.2.1 i a hi).1]; omega)
    exact ⟨k1, i1, r1⟩
  · obtain ⟨-, -, -, -, r0⟩ := hS x0 (by rw [h1.1]; omega)
    obtain ⟨a1, a2, a3⟩ := h3
    refine ⟨?_, fun a ha => ?_, a3⟩
    · rw [r0]
      refine lk_cg _ _ (fun a ha => ?_) a1
      exact (hS a (by rw [(a2 a ha).1]; omega)).2.2.2.2 2
    · rw [(hS a (by rw [(a2 a ha).1]; omega)).1]
      exact a2 a ha
/-- new places of packets -/
def zpk (Z : cd_T) (pk : Nat → List Nat) (sp : List Nat) (ow : Nat → Nat) : cd_T := (Z.1, Z.2.1, Z.2.2.1, Z.2.2.2.1, pk, sp, Z.2.2.2.2.2.2.1, Z.2.2.2.2.2.2.2.1, ow)
theorem cl_fr2 {S S' : hp_T} {Z : cd_T} {pk : Nat → List Nat} {sp : List Nat} {ow : Nat → Nat} {M M' : ab_T} {c : Nat} (h : cl S Z M c) (hK : hp_K S' (dln Z c) = hp_K S (dln Z c)) (hI : ∀ j, hp_I S' (dln Z c) j = hp_I S (dln Z c) j) (hR : ∀ j, hp_R S' (dln Z c) j = hp_R S (dln Z c) j) (hP : ∀ a ∈ dpk Z c, hp_K S' a = hp_K S a ∧ (∀ j, hp_I S' a j = hp_I S a j) ∧ (∀ j, hp_R S' a j = hp_R S a j) ∧ ow a = dow Z a) (ho : own M' c = own M c) (hpk : pk c = dpk Z c) : cl S' (zpk Z pk sp ow) M' c := by
  obtain ⟨a1, a2, a3, a4, a5, a6, a7, a8⟩ := h
  show hp_K S' (dln Z c) = 1 ∧ lk S' 2 (hp_R S' (dln Z c) 0) (pk c) ∧ hp_R S' (dln Z c) 1 = (pk c).getLast? ∧ hp_I S' (dln Z c) 2 = nI (own M' c).length ∧ hp_I S' (dln Z c) 3 = nI ((own M' c).map (fun p => p.2.2)).sum ∧ (pk c).length = (own M' c).length ∧ (∀ i a : Nat, (pk c)[i]? = some a → hp_K S' a = 3 ∧ ow a = c ∧ ∀ p : Nat × Int32 × Nat, (own M' c)[i]? = some p → hp_I S' a 0 = p.2.1 ∧ hp_I S' a 1 = nI p.2.2) ∧ (pk c).Nodup
  rw [hK, ho, hpk]
  simp only [hI, hR]
  refine ⟨a1, lk_cg _ _ (fun a ha => (hP a ha).2.2.1 2) a2, a3, a4, a5, a6, fun i a hi => ?_, a8⟩
  obtain ⟨q1, q2, q3, q4⟩ := hP a (List.mem_of_getElem? hi)
  obtain ⟨b1, b2, b3⟩ := a7 i a hi
  refine ⟨by rw [q1]; exact b1, by rw [q4]; exact b2, fun p hp => ?_⟩
  rw [q2, q2]
  exact b3 p hp
/-- only lines, packets and the object's numbers have changed -/
theorem rn_pk {S S' : hp_T} {x0 : Nat} {Z : cd_T} {pk : Nat → List Nat} {sp : List Nat} {ow : Nat → Nat} {M M' : ab_T} {nb : Nat → Nat} (h : RepN S x0 Z M nb) (hM1 : M'.1 = M.1) (hM2 : M'.2.1 = M.2.1) (hT : trn M' = trn M) (hl : (pks M').length ≤ 2000) (hK : hp_K S' = hp_K S) (hnd : ∀ a, hp_K S a = 2 → (∀ j, hp_I S' a j = hp_I S a j) ∧ (∀ j, hp_J S' a j = hp_J S a j) ∧ ∀ j, hp_R S' a j = hp_R S a j) (hct : ct S' x0 Z M') (hcl : ∀ e, e < 64 → ¬ pa M e = 65 → cl S' (zpk Z pk sp ow) M' e) (hcs : csp S' x0 (zpk Z pk sp ow)) : RepN S' x0 (zpk Z pk sp ow) M' nb := by
  obtain ⟨h1, h2, h3, h4⟩ := h
  have epa : ∀ e, pa M' e = pa M e := fun e => by unfold pa; rw [hM1]
  have ehd : ∀ e, hd M' e = hd M e := fun e => by unfold hd; rw [hM1]
  refine ⟨hct, fun e he hpe => ?_, hcs, ?_⟩
  · rw [epa] at hpe
    refine ⟨?_, hcl e he hpe⟩
    obtain ⟨q, -⟩ := h2 e he hpe
    obtain ⟨i0, j0, r0⟩ := hnd (dna Z e) q.1
    have := cn_fr (M' := M') (nb' := nb) q (by rw [hK]) i0 j0 (fun j _ => r0 j) (fun k hk => by
      have := ((h4.1 e he hpe).2.1 k).mp hk
      exact (hnd (dna Z k) (h2 k this.1 (by omega)).1.1).2.2 6) (fun f => by rw [hM1]) (fun f => by rw [hM2]) rfl
    exact this
  · obtain ⟨p1, p2, p3, p4, p5⟩ := h4
    unfold cp
    simp only [epa, ehd]
    rw [hT]
    exact ⟨p1, p2, p3, p4, hl⟩
theorem lk_snoc {S S' : hp_T} {f p q : Nat} : ∀ (as : List Nat) (r : Option Nat), as.Nodup → as.getLast? = some q → lk S f r as → (∀ a ∈ as, ¬ a = q → hp_R S' a f = hp_R S a f) → hp_R S' q f = some p → hp_R S' p f = none → lk S' f r (as ++ [p]) := by
  intro as
  induction as with
  | nil => intro r _ h; cases h
  | cons a as ih =>
    intro r hn hl h hs hq hp
    obtain ⟨n1, n2⟩ := List.nodup_cons.mp hn
    cases as with
    | nil =>
      have e : a = q := by simpa using hl
      subst e
      exact ⟨h.1, hq, hp⟩
    | cons b as =>
      have hl2 : (b :: as).getLast? = some q := by rw [List.getLast?_cons_cons] at hl; exact hl
      have hq2 : q ∈ b :: as := List.mem_of_getLast? hl2
      have hne : ¬ a = q := fun e => n1 (by rw [e]; exact hq2)
      refine ⟨h.1, ?_⟩
      show lk S' f (hp_R S' a f) ((b :: as) ++ [p])
      rw [hs a List.mem_cons_self hne]
      exact ih _ n2 hl2 h.2 (fun x hx => hs x (List.mem_cons_of_mem _ hx)) hq hp
/-- a packet is taken out of the spare ones -/
theorem rn_pop {S : hp_T} {x0 : Nat} {Z : cd_T} {M : ab_T} {nb : Nat → Nat} (h : RepN S x0 Z M nb) {p : Nat} {sp : List Nat} (hsp : dsp Z = p :: sp) : RepN (hp_sR S x0 10 (hp_R S p 2)) x0 (zpk Z (dpk Z) sp (fun a => if a = p then 65 else dow Z a)) M nb := by
  have h0 := h
  obtain ⟨h1, h2, h3, h4⟩ := h
  obtain ⟨s1, s2, s3⟩ := h3
  rw [hsp] at s1 s2 s3
  obtain ⟨n1, n2⟩ := List.nodup_cons.mp s3
  have hp := s2 p List.mem_cons_self
  have kx := h1.1
  refine rn_pk h0 rfl rfl rfl h4.2.2.2.2 rfl (fun a ha => ⟨fun _ => rfl, fun _ => rfl, fun j => ?_⟩) ?_ (fun e he hpe => ?_) ?_
  · rw [hp_R_sR, if_neg (fun q => by rw [q.1, kx] at ha; omega)]
  · unfold ct at h1 ⊢
    have hne : ¬ dca Z = x0 := fun q => by rw [q, kx] at h1; omega
    simp only [hp_R_sR, hp_K_sR, hp_N_sR, hp_I_sR, hne, false_and, if_false, Nat.reduceEqDiff, and_false]
    exact h1
  · obtain ⟨-, q⟩ := h2 e he hpe
    refine cl_fr2 q rfl (fun _ => rfl) (fun j => ?_) (fun a ha => ⟨rfl, fun _ => rfl, fun j => ?_, ?_⟩) rfl rfl
    · rw [hp_R_sR, if_neg (fun z => by have := q.1; rw [z.1, kx] at this; omega)]
    · obtain ⟨i, hi⟩ := List.getElem?_of_mem ha
      rw [hp_R_sR, if_neg (fun z => by have := (q.2.2.2.2.2.2.1 i a hi).1; rw [z.1, kx] at this; omega)]
    · obtain ⟨i, hi⟩ := List.getElem?_of_mem ha
      have o1 := (q.2.2.2.2.2.2.1 i a hi).2.1
      show (if a = p then 65 else dow Z a) = dow Z a
      rw [if_neg (fun z => by rw [z, hp.2] at o1; omega)]
  · refine ⟨?_, fun a ha => ?_, n2⟩
    · rw [hp_R_sR, if_pos ⟨rfl, rfl⟩]
      refine lk_cg _ _ (fun a ha => ?_) s1.2
      rw [hp_R_sR, if_neg (fun z => by have := (s2 a (List.mem_cons_of_mem _ ha)).1; rw [z.1, kx] at this; omega)]
    · have := s2 a (List.mem_cons_of_mem _ ha)
      refine ⟨this.1, ?_⟩
      show (if a = p then 65 else dow Z a) = 64
      rw [if_neg (fun z => n1 (by rw [← z]; exact ha))]
      exact this.2
/-- the owner of a packet that nobody has -/
theorem rn_ow {S : hp_T} {x0 : Nat} {Z : cd_T} {M : ab_T} {nb : Nat → Nat} (h : RepN S x0 Z M nb) {p v : Nat} (hc : ∀ e, e < 64 → ¬ pa M e = 65 → p ∉ dpk Z e) (hs : p ∉ dsp Z) : RepN S x0 (zpk Z (dpk Z) (dsp Z) (fun a => if a = p then v else dow Z a)) M nb := by
  have h0 := h
  obtain ⟨h1, h2, h3, h4⟩ := h
  refine rn_pk h0 rfl rfl rfl h4.2.2.2.2 rfl (fun a ha => ⟨fun _ => rfl, fun _ => rfl, fun j => rfl⟩) h1 (fun e he hpe => ?_) ?_
  · obtain ⟨-, q⟩ := h2 e he hpe
    refine cl_fr2 q rfl (fun _ => rfl) (fun j => rfl) (fun a ha => ⟨rfl, fun _ => rfl, fun j => rfl, ?_⟩) rfl rfl
    show (if a = p then v else dow Z a) = dow Z a
    rw [if_neg (fun z => hc e he hpe (by rw [← z]; exact ha))]
  · refine ⟨h3.1, fun a ha => ?_, h3.2.2⟩
    have := h3.2.1 a ha
    refine ⟨this.1, ?_⟩
    show (if a = p then v else dow Z a) = 64
    rw [if_neg (fun z => hs (by rw [← z]; exact ha))]
    exact this.2
/-- a packet in nobody's hands -/
def fre (S : hp_T) (Z : cd_T) (p : Nat) : Prop := hp_K S p = 3 ∧ dow Z p = 65
theorem fre_no {S : hp_T} {x0 : Nat} {Z : cd_T} {M : ab_T} {nb : Nat → Nat} (h : RepN S x0 Z M nb) {p : Nat} (hp : fre S Z p) : (∀ e, e < 64 → ¬ pa M e = 65 → p ∉ dpk Z e) ∧ p ∉ dsp Z := by
  refine ⟨fun e he hpe q => ?_, fun q => ?_⟩
  · obtain ⟨i, hi⟩ := List.getElem?_of_mem q
    have := ((h.2.1 e he hpe).2.2.2.2.2.2.2.1 i p hi).2.1
    rw [hp.2] at this
    omega
  · have := (h.2.2.1.2.1 p q).2
    rw [hp.2] at this
    omega
/-- a number of such a packet is written -/
theorem rn_fI {S : hp_T} {x0 : Nat} {Z : cd_T} {M : ab_T} {nb : Nat → Nat} (h : RepN S x0 Z M nb) {p : Nat} (hp : fre S Z p) (f : Nat) (v : Int32) : RepN (hp_sI S p f v) x0 Z M nb := by
  obtain ⟨g1, g2⟩ := fre_no h hp
  have kp := hp.1
  obtain ⟨h1, h2, h3, h4⟩ := h
  have ne : ∀ a, ¬ hp_K S a = 3 → ∀ j, hp_I (hp_sI S p f v) a j = hp_I S a j := fun a ha j => by
    rw [hp_I_sI, if_neg (fun q => ha (by rw [q.1]; exact kp))]
  refine ⟨?_, fun e he hpe => ⟨?_, ?_⟩, ?_, h4⟩
  · have i0 := ne x0 (by rw [h1.1]; omega)
    unfold ct at h1 ⊢
    simp only [i0, hp_K_sI, hp_R_sI, hp_N_sI]
    exact h1
  · obtain ⟨q, -⟩ := h2 e he hpe
    exact cn_fr q rfl (ne (dna Z e) (by rw [q.1]; omega)) (fun _ => rfl) (fun _ _ => rfl) (fun _ _ => rfl) (fun _ => rfl) (fun _ => rfl) rfl
  · obtain ⟨-, q⟩ := h2 e he hpe
    refine cl_fr q rfl (ne (dln Z e) (by rw [q.1]; omega)) (fun _ => rfl) (fun a ha => ⟨rfl, fun j => ?_, fun _ => rfl⟩) rfl
    rw [hp_I_sI, if_neg (fun z => g1 e he hpe (by rw [← z.1]; exact ha))]
  · exact ⟨lk_sI h3.1, h3.2⟩
theorem own_app {M : ab_T} {c e : Nat} {id : Int32} {x : Nat} : own (mP M (pks M ++ [(c, id, x)])) e = if e = c then own M e ++ [(c, id, x)] else own M e := by
  show (pks M ++ [(c, id, x)]).filter (fun p => p.1 == e) = _
  rw [List.filter_append]
  by_cases g : e = c
  · subst g
    rw [if_pos rfl]
    simp [own]
  · rw [if_neg g]
    have : (c == e) = false := by simp; exact fun q => g q.symm
    simp [own, this]
/-- a packet joins a line -/
theorem rn_join {S : hp_T} {x0 : Nat} {Z : cd_T} {M : ab_T} {nb : Nat → Nat} (h : RepN S x0 Z M nb) {p c x : Nat} {id : Int32} (hc : c < 64) (hpc : ¬ pa M c = 65) (hp : fre S Z p) (i0 : hp_I S p 0 = id) (i1 : hp_I S p 1 = nI x) (hl : (pks M).length < 2000) : RepN (hp_sI (f_join S (dln Z c) p) x0 3 (nI (pks M).length + 1)) x0 (zpk Z (fun e => if e = c then dpk Z c ++ [p] else dpk Z e) (dsp Z) (fun a => if a = p then c else dow Z a)) (mP M (pks M ++ [(c, id, x)])) nb ∧ frC S (hp_sI (f_join S (dln Z c) p) x0 3 (nI (pks M).length + 1)) := by
  obtain ⟨g1, g2⟩ := fre_no h hp
  have h0 := h
  have kp := hp.1
  obtain ⟨h1, h2, h3, h4⟩ := h
  have kx := h1.1
  obtain ⟨-, hcl⟩ := h2 c hc hpc
  have kl := hcl.1
  have hpl : ¬ p = dln Z c := fun q => by rw [q, kl] at kp; omega
  have hxl : ¬ x0 = dln Z c := fun q => by rw [q, kl] at kx; omega
  have hxp : ¬ x0 = p := fun q => by rw [q, kp] at kx; omega
  -- the last of the line, if there is one
  have hq : ∀ q, hp_R S (dln Z c) 1 = some q → q ∈ dpk Z c := fun q e => by
    rw [hcl.2.2.1] at e
    exact List.mem_of_getLast? e
  have hqk : ∀ q, q ∈ dpk Z c → hp_K S q = 3 ∧ dow Z q = c := fun q e => by
    obtain ⟨i, hi⟩ := List.getElem?_of_mem e
    exact ⟨(hcl.2.2.2.2.2.2.1 i q hi).1, (hcl.2.2.2.2.2.2.1 i q hi).2.1⟩
  -- the pool behind it
  have eK : hp_K (hp_sI (f_join S (dln Z c) p) x0 3 (nI (pks M).length + 1)) = hp_K S := by
    unfold f_join
    cases hp_R S (dln Z c) 1 <;> rfl
  have eN : hp_N (hp_sI (f_join S (dln Z c) p) x0 3 (nI (pks M).length + 1)) = hp_N S := by
    unfold f_join
    cases hp_R S (dln Z c) 1 <;> rfl
  have eJ : hp_J (hp_sI (f_join S (dln Z c) p) x0 3 (nI (pks M).length + 1)) = hp_J S := by
    unfold f_join
    cases hp_R S (dln Z c) 1 <;> rfl
  have eI : ∀ a j, hp_I (hp_sI (f_join S (dln Z c) p) x0 3 (nI (pks M).length + 1)) a j = if a = x0 ∧ j = 3 then nI (pks M).length + 1 else if a = dln Z c ∧ j = 3 then hp_I S (dln Z c) 3 + nI x else if a = dln Z c ∧ j = 2 then hp_I S (dln Z c) 2 + 1 else hp_I S a j := by
    intro a j
    unfold f_join
    rw [i1]
    cases hp_R S (dln Z c) 1 <;> rfl
  have eR : ∀ a j, ¬ a = p → ¬ a = dln Z c → ¬ hp_R S (dln Z c) 1 = some a → hp_R (hp_sI (f_join S (dln Z c) p) x0 3 (nI (pks M).length + 1)) a j = hp_R S a j := by
    intro a j n1 n2 n3
    unfold f_join
    cases hh : hp_R S (dln Z c) 1 with
    | none =>
      simp only [hp_R_sI, hp_R_sR, n1, n2, false_and, if_false]
    | some q =>
      have n4 : ¬ a = q := fun z => n3 (by rw [hh, z])
      simp only [hp_R_sI, hp_R_sR, n1, n2, n4, false_and, if_false]
  have nl : ∀ a, ¬ hp_K S a = 1 → ¬ a = dln Z c := fun a ha q => ha (by rw [q]; exact kl)
  have np : ∀ a, ¬ hp_K S a = 3 → ¬ a = p ∧ ¬ hp_R S (dln Z c) 1 = some a := fun a ha => ⟨fun q => ha (by rw [q]; exact kp), fun q => ha (hqk a (hq a q)).1⟩
  refine ⟨?_, ?_⟩
  · refine rn_pk h0 rfl rfl rfl ?_ eK (fun a ha => ⟨fun j => ?_, fun j => by rw [eJ], fun j => ?_⟩) ?_ (fun e he hpe => ?_) ?_
    · show (pks M ++ [(c, id, x)]).length ≤ 2000
      rw [List.length_append]
      show (pks M).length + 1 ≤ 2000
      omega
    · rw [eI, if_neg (fun q => by rw [q.1, kx] at ha; omega), if_neg (fun q => nl a (by omega) q.1), if_neg (fun q => nl a (by omega) q.1)]
    · exact eR a j (np a (by omega)).1 (nl a (by omega)) (np a (by omega)).2
    · obtain ⟨a1, a2, a3, a4, a5, a6, a7, a8, a9, a10, a11, a12, a13, a14⟩ := h1
      have rx : ∀ j, hp_R (hp_sI (f_join S (dln Z c) p) x0 3 (nI (pks M).length + 1)) x0 j = hp_R S x0 j := fun j => eR x0 j hxp hxl (np x0 (by omega)).2
      have rc : ∀ j, hp_R (hp_sI (f_join S (dln Z c) p) x0 3 (nI (pks M).length + 1)) (dca Z) j = hp_R S (dca Z) j := fun j => eR _ j (np _ (by omega)).1 (nl _ (by omega)) (np _ (by omega)).2
      unfold ct
      simp only [rx, rc, eI, hxl, false_and, if_false, true_and, Nat.reduceEqDiff, if_true]
      rw [eK, eN]
      refine ⟨a1, a2, a3, a4, a5, a6, ?_, a8, a9, a10, a11, a12, a13, a14⟩
      show nI (pks M).length + 1 = nI (pks M ++ [(c, id, x)]).length
      rw [List.length_append, nI_1]
      rfl
    · obtain ⟨-, q⟩ := h2 e he hpe
      by_cases g : e = c
      · subst g
        obtain ⟨b1, b2, b3, b4, b5, b6, b7, b8⟩ := q
        have eo : own (mP M (pks M ++ [(e, id, x)])) e = own M e ++ [(e, id, x)] := by rw [own_app, if_pos rfl]
        show hp_K _ (dln Z e) = 1 ∧ lk _ 2 (hp_R _ (dln Z e) 0) (if e = e then dpk Z e ++ [p] else dpk Z e) ∧ hp_R _ (dln Z e) 1 = (if e = e then dpk Z e ++ [p] else dpk Z e).getLast? ∧ hp_I _ (dln Z e) 2 = nI (own _ e).length ∧ hp_I _ (dln Z e) 3 = nI ((own _ e).map (fun p => p.2.2)).sum ∧ (if e = e then dpk Z e ++ [p] else dpk Z e).length = (own _ e).length ∧ (∀ i a : Nat, (if e = e then dpk Z e ++ [p] else dpk Z e)[i]? = some a → hp_K _ a = 3 ∧ (if a = p then e else dow Z a) = e ∧ ∀ z : Nat × Int32 × Nat, (own _ e)[i]? = some z → hp_I _ a 0 = z.2.1 ∧ hp_I _ a 1 = nI z.2.2) ∧ (if e = e then dpk Z e ++ [p] else dpk Z e).Nodup
        rw [if_pos rfl, eo, eK]
        have hxl2 : ¬ dln Z e = x0 := fun z => hxl z.symm
        have pn : p ∉ dpk Z e := g1 e he hpe
        refine ⟨b1, ?_, ?_, ?_, ?_, ?_, fun i a hi => ?_, ?_⟩
        · unfold f_join
          cases hh : hp_R S (dln Z e) 1 with
          | none =>
            have e1 : dpk Z e = [] := by
              rw [b3] at hh
              exact List.getLast?_eq_none_iff.mp hh
            rw [e1]
            simp only [hp_R_sI, hp_R_sR, true_and, Nat.reduceEqDiff, if_false, if_true]
            refine ⟨rfl, ?_⟩
            simp only [hp_R_sI, hp_R_sR, hpl, false_and, if_false, true_and, if_true]
            rfl
          | some q =>
            have hq2 := hq q hh
            have kq := (hqk q hq2).1
            have hql : ¬ q = dln Z e := fun z => by rw [z, b1] at kq; omega
            have hqp : ¬ q = p := fun z => pn (by rw [← z]; exact hq2)
            have hlq : ¬ dln Z e = q := fun z => hql z.symm
            simp only [hp_R_sI, hp_R_sR, hlq, show ¬ dln Z e = p from fun z => hpl z.symm, true_and, Nat.reduceEqDiff, false_and, if_false]
            refine lk_snoc (q := q) (dpk Z e) _ b8 (by rw [← b3]; exact hh) b2 (fun a ha hne => ?_) ?_ ?_
            · have ka := (hqk a ha).1
              have a1 : ¬ a = dln Z e := fun z => by rw [z, b1] at ka; omega
              have a2 : ¬ a = p := fun z => pn (by rw [← z]; exact ha)
              simp only [hp_R_sI, hp_R_sR, a1, a2, hne, false_and, if_false]
            · simp only [hp_R_sI, hp_R_sR, hql, false_and, if_false, true_and, if_true]
            · have hpq : ¬ p = q := fun z => hqp z.symm
              simp only [hp_R_sI, hp_R_sR, hpl, hpq, false_and, if_false, true_and, if_true]
        · unfold f_join
          rw [List.getLast?_append]
          cases hh : hp_R S (dln Z e) 1 <;> simp [hp_R_sI, hp_R_sR]
        · rw [eI, if_neg (fun z => hxl2 z.1), if_neg (fun z => by omega), if_pos ⟨rfl, rfl⟩, b4, nI_1, List.length_append]
          rfl
        · rw [eI, if_neg (fun z => hxl2 z.1), if_pos ⟨rfl, rfl⟩, b5, nI_add, List.map_append, List.sum_append]
          rfl
        · rw [List.length_append, List.length_append, b6]
          rfl
        · have ia : ∀ a, hp_K S a = 3 → ∀ j, hp_I (hp_sI (f_join S (dln Z e) p) x0 3 (nI (pks M).length + 1)) a j = hp_I S a j := fun a ka j => by
            rw [eI, if_neg (fun z => by rw [z.1, kx] at ka; omega), if_neg (fun z => by rw [z.1, b1] at ka; omega), if_neg (fun z => by rw [z.1, b1] at ka; omega)]
          by_cases hi2 : i < (dpk Z e).length
          · rw [List.getElem?_append_left hi2] at hi
            obtain ⟨d1, d2, d3⟩ := b7 i a hi
            refine ⟨d1, ?_, fun z hz => ?_⟩
            · split
              · rfl
              · exact d2
            · rw [List.getElem?_append_left (by omega)] at hz
              rw [ia a d1, ia a d1]
              exact d3 z hz
          · rw [List.getElem?_append_right (by omega)] at hi
            have e1 : i - (dpk Z e).length = 0 := by
              have := (List.getElem?_eq_some_iff.mp hi).1
              simp at this
              omega
            rw [e1] at hi
            have e2 : p = a := by simpa using hi
            subst e2
            refine ⟨kp, by rw [if_pos rfl], fun z hz => ?_⟩
            rw [List.getElem?_append_right (by omega), show i - (own M e).length = 0 by omega] at hz
            have e3 : (e, id, x) = z := by simpa using hz
            subst e3
            rw [ia p kp, ia p kp]
            exact ⟨i0, i1⟩
        · rw [List.nodup_append]
          refine ⟨b8, by simp, fun a ha b hb => ?_⟩
          rw [List.mem_singleton.mp hb]
          exact fun z => pn (by rw [← z]; exact ha)
      · have hle : ¬ dln Z e = dln Z c := fun z => g (h4.2.1 e c he hpe hc hpc z)
        have kle := q.1
        refine cl_fr2 q (by rw [eK]) (fun j => ?_) (fun j => ?_) (fun a ha => ?_) ?_ ?_
        · rw [eI, if_neg (fun z => by rw [z.1, kx] at kle; omega), if_neg (fun z => hle z.1), if_neg (fun z => hle z.1)]
        · exact eR _ j (np _ (by omega)).1 hle (np _ (by omega)).2
        · obtain ⟨i, hi⟩ := List.getElem?_of_mem ha
          obtain ⟨d1, d2, -⟩ := q.2.2.2.2.2.2.1 i a hi
          have a1 : ¬ a = p := fun z => g1 e he hpe (by rw [← z]; exact ha)
          refine ⟨by rw [eK], fun j => ?_, fun j => ?_, ?_⟩
          · rw [eI, if_neg (fun z => by rw [z.1, kx] at d1; omega), if_neg (fun z => by rw [z.1, kl] at d1; omega), if_neg (fun z => by rw [z.1, kl] at d1; omega)]
          · refine eR a j a1 (nl a (by omega)) (fun z => ?_)
            have := (hqk a (hq a z)).2
            omega
          · show (if a = p then c else dow Z a) = dow Z a
            rw [if_neg a1]
        · rw [own_app, if_neg g]
        · show (if e = c then dpk Z c ++ [p] else dpk Z e) = dpk Z e
          rw [if_neg g]
    · obtain ⟨s1, s2, s3⟩ := h3
      refine ⟨?_, fun a ha => ?_, s3⟩
      · rw [eR x0 10 hxp hxl (np x0 (by omega)).2]
        refine lk_cg _ _ (fun a ha => ?_) s1
        have ka := s2 a ha
        refine eR a 2 (fun z => g2 (by rw [← z]; exact ha)) (nl a (by omega)) (fun z => ?_)
        have := (hqk a (hq a z)).2
        omega
      · have ka := s2 a ha
        refine ⟨by rw [eK]; exact ka.1, ?_⟩
        show (if a = p then c else dow Z a) = 64
        rw [if_neg (fun z => g2 (by rw [← z]; exact ha))]
        exact ka.2
  · intro a q1 q2
    refine ⟨by rw [eK], by rw [eN], fun j => ?_, fun j => by rw [eJ], fun j => ?_⟩
    · rw [eI, if_neg (fun z => by rw [z.1, kx] at q1; omega), if_neg (fun z => nl a (by omega) z.1), if_neg (fun z => nl a (by omega) z.1)]
    · exact eR a j (np a (by omega)).1 (nl a (by omega)) (np a (by omega)).2
end M47
