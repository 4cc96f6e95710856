/-! THE CLASS: children come and go -/
section M57
def zch (Z : cd_T) (ch : Nat → List Nat) : cd_T := (Z.1, Z.2.1, Z.2.2.1, ch, Z.2.2.2.2)
theorem ccl_cg {M M' : ab_T} (h : ∀ e, e < 64 → (pa M' e = 65 ↔ pa M e = 65)) : ccl M' 64 = ccl M 64 := by
  unfold ccl
  refine cnt_congr (fun i hi => ?_)
  rw [decide_eq_decide]
  exact not_congr (h i hi)
/-- only parents, children and siblings have changed -/
theorem rn_tr {S S' : hp_T} {x0 : Nat} {Z : cd_T} {M M' : ab_T} {nb : Nat → Nat} (h : RepN S x0 Z M nb) (ch : Nat → List Nat) (hM1 : ∀ f e, ¬ f = 0 → M'.1 f e = M.1 f e) (hM2 : M'.2 = M.2) (hal : ∀ e, e < 64 → (pa M' e = 65 ↔ pa M e = 65)) (hK : hp_K S' = hp_K S) (hI : hp_I S' = hp_I S) (hJ : hp_J S' = hp_J S) (hN : hp_N S' = hp_N S) (hR : ∀ a f, ¬ (hp_K S a = 2 ∧ (f = 4 ∨ f = 5 ∨ f = 6)) → hp_R S' a f = hp_R S a f)
    (h4 : ∀ e, e < 64 → ¬ pa M e = 65 → hp_R S' (dna Z e) 4 = (if pa M' e < 64 then some (dna Z (pa M' e)) else none)) (h5 : ∀ e, e < 64 → ¬ pa M e = 65 → lk S' 6 (hp_R S' (dna Z e) 5) ((ch e).map (dna Z))) (hch : ∀ e, e < 64 → ¬ pa M e = 65 → (ch e).Nodup ∧ ∀ k, k ∈ ch e ↔ k < 64 ∧ pa M' k = e) : RepN S' x0 (zch Z ch) M' nb := by
  obtain ⟨h1, h2, h3, h6⟩ := h
  have kx := h1.1
  have kc := h1.2.2.2.1
  have ew : ∀ f e, M'.2.1 f e = M.2.1 f e := fun f e => by rw [hM2]
  have et : M'.2.2 = M.2.2 := by rw [hM2]
  refine ⟨?_, fun e he hpe => ?_, ?_, ?_⟩
  · have r0 : ∀ f, hp_R S' x0 f = hp_R S x0 f := fun f => hR x0 f (fun q => by omega)
    have r1 : ∀ f, hp_R S' (dca Z) f = hp_R S (dca Z) f := fun f => hR _ f (fun q => by omega)
    have e2 := ccl_cg hal
    obtain ⟨a1, a2, a3, a4, a5, a6, a7, a8, a9, a10, a11, a12, a13, a14⟩ := h1
    show hp_K S' x0 = 4 ∧ hp_R S' x0 0 = some (dna Z 0) ∧ hp_R S' x0 1 = some (dca Z) ∧ hp_K S' (dca Z) = 9 ∧ hp_N S' (dca Z) = 64 ∧ hp_I S' x0 2 = nI (ccl M' 64) ∧ hp_I S' x0 3 = nI (M'.2.2.1).length ∧ hp_I S' x0 4 = M'.2.2.2.1 ∧ hp_I S' x0 5 = nI (M'.2.2.2.2.1) ∧ hp_I S' x0 6 = nI (dlh Z) ∧ hp_I S' x0 7 = M'.2.2.2.2.2.1 ∧ hp_I S' x0 8 = M'.2.2.2.2.2.2.1 ∧ hp_I S' x0 9 = M'.2.2.2.2.2.2.2 ∧ ∀ c, c < 64 → hp_R S' (dca Z) c = if pa M' c = 65 then none else some (dna Z c)
    rw [hK, hN, hI, et, e2, r0, r0]
    refine ⟨a1, a2, a3, a4, a5, a6, a7, a8, a9, a10, a11, a12, a13, fun c hc => ?_⟩
    rw [r1, a14 c hc]
    by_cases q : pa M c = 65
    · rw [if_pos q, if_pos ((hal c hc).mpr q)]
    · rw [if_neg q, if_neg (fun z => q ((hal c hc).mp z))]
  · have hpe0 : ¬ pa M e = 65 := fun z => hpe ((hal e he).mpr z)
    obtain ⟨q, ql⟩ := h2 e he hpe0
    refine ⟨?_, ?_⟩
    · obtain ⟨a1, a2, a3, a4, a5, a6, a7, a8, a9, a10, a11, a12, a13, a14⟩ := q
      show hp_K S' (dna Z e) = 2 ∧ hp_I S' (dna Z e) 0 = nI e ∧ hp_I S' (dna Z e) 1 = nI (M'.1 2 e) ∧ hp_R S' (dna Z e) 2 = some (dln Z e) ∧ hp_I S' (dna Z e) 3 = nI (M'.1 1 e) ∧ hp_R S' (dna Z e) 4 = (if pa M' e < 64 then some (dna Z (pa M' e)) else none) ∧ lk S' 6 (hp_R S' (dna Z e) 5) ((ch e).map (dna Z)) ∧ hp_I S' (dna Z e) 7 = nI (nb e) ∧ hp_I S' (dna Z e) 8 = nI (M'.1 5 e) ∧ hp_I S' (dna Z e) 9 = nI (dhu Z e) ∧ hp_J S' (dna Z e) 10 = M'.2.1 0 e ∧ hp_I S' (dna Z e) 11 = nI (M'.1 3 e) ∧ hp_J S' (dna Z e) 12 = M'.2.1 1 e ∧ hp_J S' (dna Z e) 13 = M'.2.1 2 e
      rw [hK, hI, hJ, hR _ 2 (fun z => by omega), ew, ew, ew, hM1 2 e (by omega), hM1 1 e (by omega), hM1 5 e (by omega), hM1 3 e (by omega)]
      exact ⟨a1, a2, a3, a4, a5, h4 e he hpe0, h5 e he hpe0, a8, a9, a10, a11, a12, a13, a14⟩
    · have kl := ql.1
      have := cl_fr (M' := M') (S' := S') ql (by rw [hK]) (fun j => by rw [hI]) (fun j => hR _ j (fun z => by omega)) (fun a ha => ?_) (own_M et e)
      · exact this
      · obtain ⟨i, hi⟩ := List.getElem?_of_mem ha
        have k3 := (ql.2.2.2.2.2.2.1 i a hi).1
        exact ⟨by rw [hK], fun j => by rw [hI], fun j => hR _ j (fun z => by omega)⟩
  · obtain ⟨a1, a2, a3⟩ := h3
    refine ⟨?_, fun a ha => ?_, a3⟩
    · rw [hR x0 10 (fun q => by omega)]
      refine lk_cg _ _ (fun a ha => ?_) a1
      have := (a2 a ha).1
      exact hR a 2 (fun q => by omega)
    · rw [hK]
      exact a2 a ha
  · obtain ⟨p1, p2, p3⟩ := h6
    refine ⟨fun c hc hpc => ?_, fun c e hc hpc he hpe q => ?_, ?_⟩
    · have hpc0 : ¬ pa M c = 65 := fun z => hpc ((hal c hc).mpr z)
      obtain ⟨-, -, b3, b4⟩ := p1 c hc hpc0
      obtain ⟨c1, c2⟩ := hch c hc hpc0
      refine ⟨c1, c2, ?_, b4⟩
      show M'.1 4 c = dhu Z c - M'.2.2.2.2.1
      rw [hM1 4 c (by omega), et]
      exact b3
    · exact p2 c e hc (fun z => hpc ((hal c hc).mpr z)) he (fun z => hpe ((hal e he).mpr z)) q
    · show dlh Z ≤ M'.2.2.2.2.1 + 1000 ∧ M'.2.2.2.2.1 ≤ 1000000 ∧ M'.2.2.1.length ≤ 2000
      rw [et]
      exact p3
theorem pa_mn (M : ab_T) (j b e : Nat) : pa (mn M 0 j b) e = if e = j then b else pa M e := by
  show (if 0 = 0 ∧ e = j then b else M.1 0 e) = _
  by_cases h : e = j
  · simp [h]
  · simp [h]; rfl
/-- a child is taken out of its parent's chain -/
theorem lk_out {S S' : hp_T} {b : Nat} {ys : List Nat} : ∀ (xs : List Nat) (r r' : Option Nat), (xs ++ b :: ys).Nodup → lk S 6 r (xs ++ b :: ys) → (xs = [] → r' = hp_R S b 6) → (¬ xs = [] → r' = r) → (∀ p, xs.getLast? = some p → hp_R S' p 6 = hp_R S b 6) → (∀ a ∈ xs, ¬ xs.getLast? = some a → hp_R S' a 6 = hp_R S a 6) → (∀ a ∈ ys, hp_R S' a 6 = hp_R S a 6) → lk S' 6 r' (xs ++ ys) := by
  intro xs
  induction xs with
  | nil =>
    intro r r' hn h h1 _ _ _ h5
    rw [h1 rfl]
    exact lk_cg _ _ h5 h.2
  | cons x xs ih =>
    intro r r' hn h _ h2 h3 h4 h5
    rw [h2 (by simp)]
    refine ⟨h.1, ?_⟩
    obtain ⟨n1, n2⟩ := List.nodup_cons.mp hn
    refine ih (hp_R S x 6) _ n2 h.2 (fun q => ?_) (fun q => ?_) (fun p hp => ?_) (fun a ha q => ?_) h5
    · subst q
      exact h3 x rfl
    · refine h4 x List.mem_cons_self (fun z => ?_)
      obtain ⟨y, ys2, rfl⟩ := List.exists_cons_of_ne_nil q
      rw [List.getLast?_cons_cons] at z
      exact n1 (List.mem_append_left _ (List.mem_of_getLast? z))
    · refine h3 p ?_
      cases xs with
      | nil => cases hp
      | cons y ys2 => rw [List.getLast?_cons_cons]; exact hp
    · refine h4 a (List.mem_cons_of_mem _ ha) (fun z => q ?_)
      cases xs with
      | nil => cases ha
      | cons y ys2 => rw [List.getLast?_cons_cons] at z; exact z
theorem f_letGo_K (S : hp_T) (a b : Nat) (xs : List Nat) : hp_K (f_letGo S a b xs) = hp_K S ∧ hp_I (f_letGo S a b xs) = hp_I S ∧ hp_J (f_letGo S a b xs) = hp_J S ∧ hp_N (f_letGo S a b xs) = hp_N S := by
  unfold f_letGo
  cases xs.getLast? <;> exact ⟨rfl, rfl, rfl, rfl⟩
theorem f_letGo_R (S : hp_T) (a b : Nat) (xs : List Nat) (x f : Nat) : hp_R (f_letGo S a b xs) x f = if x = b ∧ f = 6 then none else if x = b ∧ f = 4 then none else match xs.getLast? with
  | none => if x = a ∧ f = 5 then hp_R S b 6 else hp_R S x f
  | some p => if x = p ∧ f = 6 then hp_R S b 6 else hp_R S x f := by
  unfold f_letGo
  cases xs.getLast? <;> simp only [hp_R_sR]
set_option maxHeartbeats 2000000 in
theorem rn_letGo {S : hp_T} {x0 : Nat} {Z : cd_T} {M : ab_T} {nb : Nat → Nat} (h : RepN S x0 Z M nb) {j b : Nat} {xs ys : List Nat} (hj : j < 64) (hb : b < 64) (hpb : ¬ pa M b = 65) (hjb : pa M j = b) (hch : dch Z b = xs ++ j :: ys) : RepN (f_letGo S (dna Z b) (dna Z j) (xs.map (dna Z))) x0 (zch Z (fun e => if e = b then xs ++ ys else dch Z e)) (mn M 0 j 64) nb := by
  obtain ⟨f1, f2, f3, f4⟩ := f_letGo_K S (dna Z b) (dna Z j) (xs.map (dna Z))
  obtain ⟨h1, h2, h3, h6⟩ := id h
  obtain ⟨g1, g2, -, -⟩ := h6.1 b hb hpb
  have hpj : ¬ pa M j = 65 := by omega
  have cj := (h2 j hj hpj).1
  have cb := (h2 b hb hpb).1
  rw [hch] at g1 g2
  have al : ∀ k, k ∈ xs ++ j :: ys → k < 64 ∧ ¬ pa M k = 65 ∧ hp_K S (dna Z k) = 2 := fun k hk => by
    have := (g2 k).mp hk
    exact ⟨this.1, by omega, (h2 k this.1 (by omega)).1.1⟩
  have ai : ∀ k e, k < 64 → ¬ pa M k = 65 → e < 64 → ¬ pa M e = 65 → dna Z k = dna Z e → k = e := fun k e q1 q2 q3 q4 q => na_inj (h2 k q1 q2).1 (h2 e q3 q4).1 q1 q3 q
  have gl : ∀ p, (xs.map (dna Z)).getLast? = some p → ∃ k ∈ xs, p = dna Z k := fun p hp => by
    have := List.mem_of_getLast? hp
    obtain ⟨k, hk, rfl⟩ := List.mem_map.mp this
    exact ⟨k, hk, rfl⟩
  have hjx : j ∉ xs ∧ j ∉ ys := by
    rw [List.nodup_append] at g1
    obtain ⟨-, n2, n3⟩ := g1
    exact ⟨fun q => n3 j q j List.mem_cons_self rfl, (List.nodup_cons.mp n2).1⟩
  refine rn_tr h _ (fun f e hf => mn_ne M j 64 hf e) rfl (fun e he => ?_) f1 f2 f3 f4 (fun a f hq => ?_) (fun e he hpe => ?_) (fun e he hpe => ?_) (fun e he hpe => ?_)
  · rw [pa_mn]
    by_cases q : e = j
    · rw [if_pos q, q]; omega
    · rw [if_neg q]
  · rw [f_letGo_R]
    have k1 : ¬ (a = dna Z j ∧ f = 6) := fun z => hq ⟨by rw [z.1]; exact cj.1, by omega⟩
    have k2 : ¬ (a = dna Z j ∧ f = 4) := fun z => hq ⟨by rw [z.1]; exact cj.1, by omega⟩
    rw [if_neg k1, if_neg k2]
    cases hg : (xs.map (dna Z)).getLast? with
    | none =>
      show (if a = dna Z b ∧ f = 5 then _ else _) = _
      rw [if_neg (fun z => hq ⟨by rw [z.1]; exact cb.1, by omega⟩)]
    | some p =>
      obtain ⟨k, hk, rfl⟩ := gl p hg
      show (if a = dna Z k ∧ f = 6 then _ else _) = _
      rw [if_neg (fun z => hq ⟨by rw [z.1]; exact (al k (List.mem_append_left _ hk)).2.2, by omega⟩)]
  · have r4 : hp_R (f_letGo S (dna Z b) (dna Z j) (xs.map (dna Z))) (dna Z e) 4 = if dna Z e = dna Z j then none else hp_R S (dna Z e) 4 := by
      rw [f_letGo_R]
      cases (xs.map (dna Z)).getLast? <;> simp
    rw [r4, pa_mn]
    by_cases q : e = j
    · subst q; simp
    · rw [if_neg (fun z => q (ai e j he hpe hj hpj z)), if_neg q]
      exact (h2 e he hpe).1.2.2.2.2.2.1
  · show lk _ 6 _ ((if e = b then xs ++ ys else dch Z e).map (dna Z))
    have r5 : hp_R (f_letGo S (dna Z b) (dna Z j) (xs.map (dna Z))) (dna Z e) 5 = if e = b ∧ xs = [] then hp_R S (dna Z j) 6 else hp_R S (dna Z e) 5 := by
      rw [f_letGo_R]
      cases hg : (xs.map (dna Z)).getLast? with
      | none =>
        have hx : xs = [] := by simpa using hg
        by_cases q : e = b
        · simp [q, hx]
        · have : ¬ dna Z e = dna Z b := fun z => q (ai e b he hpe hb hpb z)
          simp [q, this]
      | some p =>
        have hx : ¬ xs = [] := fun z => by rw [z] at hg; cases hg
        simp [hx]
    have r6 : ∀ k, k < 64 → ¬ pa M k = 65 → ¬ k = j → ¬ (xs.map (dna Z)).getLast? = some (dna Z k) → hp_R (f_letGo S (dna Z b) (dna Z j) (xs.map (dna Z))) (dna Z k) 6 = hp_R S (dna Z k) 6 := by
      intro k k1 k2 k3 k4
      rw [f_letGo_R]
      have : ¬ dna Z k = dna Z j := fun z => k3 (ai k j k1 k2 hj hpj z)
      cases hg : (xs.map (dna Z)).getLast? with
      | none => simp [this]
      | some p =>
        have : ¬ dna Z k = p := fun z => k4 (by rw [hg, z])
        simp [*]
    by_cases q : e = b
    · subst q
      rw [if_pos rfl, r5, List.map_append]
      have hl := cb.2.2.2.2.2.2.1
      rw [hch, List.map_append, List.map_cons] at hl
      have inj : ∀ (zs : List Nat), (∀ k ∈ zs, k < 64 ∧ ¬ pa M k = 65) → zs.Nodup → (zs.map (dna Z)).Nodup := by
        intro zs
        induction zs with
        | nil => intro _ _; exact List.nodup_nil
        | cons z zs ih =>
          intro q1 q2
          obtain ⟨m1, m2⟩ := List.nodup_cons.mp q2
          refine List.nodup_cons.mpr ⟨fun hm => ?_, ih (fun k hk => q1 k (List.mem_cons_of_mem _ hk)) m2⟩
          obtain ⟨k, hk, e⟩ := List.mem_map.mp hm
          have w1 := q1 z List.mem_cons_self
          have w2 := q1 k (List.mem_cons_of_mem _ hk)
          exact m1 (by rw [← ai k z w2.1 w2.2 w1.1 w1.2 e]; exact hk)
      have nd := inj (xs ++ j :: ys) (fun k hk => ⟨(al k hk).1, (al k hk).2.1⟩) g1
      rw [List.map_append, List.map_cons] at nd
      refine lk_out (S := S) (b := dna Z j) (ys := ys.map (dna Z)) (xs.map (dna Z)) _ _ nd hl (fun z => ?_) (fun z => ?_) (fun p hp => ?_) (fun a ha hne => ?_) (fun a ha => ?_)
      · rw [if_pos ⟨rfl, by simpa using z⟩]
      · rw [if_neg (fun y => z (by rw [y.2]; rfl))]
      · obtain ⟨k, hk, rfl⟩ := gl p hp
        have w := al k (List.mem_append_left _ hk)
        have : ¬ dna Z k = dna Z j := fun z => hjx.1 (by rw [← ai k j w.1 w.2.1 hj hpj z]; exact hk)
        rw [f_letGo_R, hp]
        simp [this]
      · obtain ⟨k, hk, rfl⟩ := List.mem_map.mp ha
        have w := al k (List.mem_append_left _ hk)
        exact r6 k w.1 w.2.1 (fun z => hjx.1 (by rw [← z]; exact hk)) hne
      · obtain ⟨k, hk, rfl⟩ := List.mem_map.mp ha
        have w := al k (List.mem_append_right _ (List.mem_cons_of_mem _ hk))
        refine r6 k w.1 w.2.1 (fun z => hjx.2 (by rw [← z]; exact hk)) (fun z => ?_)
        obtain ⟨i, hi, e2⟩ := gl _ z
        have w2 := al i (List.mem_append_left _ hi)
        have e3 := ai k i w.1 w.2.1 w2.1 w2.2.1 e2
        rw [List.nodup_append] at g1
        exact g1.2.2 i hi k (List.mem_cons_of_mem _ hk) e3.symm
    · rw [if_neg q, r5, if_neg (fun z => q z.1)]
      refine lk_cg _ _ (fun a ha => ?_) (h2 e he hpe).1.2.2.2.2.2.2.1
      obtain ⟨k, hk, rfl⟩ := List.mem_map.mp ha
      have w := ((h6.1 e he hpe).2.1 k).mp hk
      refine r6 k w.1 (by omega) (fun z => q (by rw [← w.2, z]; exact hjb)) (fun z => ?_)
      obtain ⟨i, hi, e2⟩ := gl _ z
      have w2 := al i (List.mem_append_left _ hi)
      have e3 := ai k i w.1 (by omega) w2.1 w2.2.1 e2
      have w3 := (g2 i).mp (List.mem_append_left _ hi)
      rw [← e3, w.2] at w3
      exact q w3.2
  · show (if e = b then xs ++ ys else dch Z e).Nodup ∧ ∀ k, k ∈ (if e = b then xs ++ ys else dch Z e) ↔ _
    by_cases q : e = b
    · subst q
      rw [if_pos rfl]
      rw [List.nodup_append] at g1
      obtain ⟨n1, n2, n3⟩ := g1
      refine ⟨List.nodup_append.mpr ⟨n1, (List.nodup_cons.mp n2).2, fun a ha c hc => n3 a ha c (List.mem_cons_of_mem _ hc)⟩, fun k => ?_⟩
      have w := g2 k
      rw [pa_mn]
      by_cases z : k = j
      · subst z
        rw [if_pos rfl]
        constructor
        · intro y
          rcases List.mem_append.mp y with y | y
          · exact absurd y hjx.1
          · exact absurd y hjx.2
        · intro y; omega
      · rw [if_neg z, ← w]
        simp [z]
    · rw [if_neg q]
      obtain ⟨c1, c2, -, -⟩ := h6.1 e he hpe
      refine ⟨c1, fun k => ?_⟩
      rw [c2 k, pa_mn]
      by_cases z : k = j
      · subst z
        rw [if_pos rfl]
        constructor
        · intro y; omega
        · intro y; omega
      · rw [if_neg z]
set_option maxHeartbeats 2000000 in
theorem rn_adopt {S : hp_T} {x0 : Nat} {Z : cd_T} {M : ab_T} {nb : Nat → Nat} (h : RepN S x0 Z M nb) {j b : Nat} (hj : j < 64) (hb : b < 64) (hpb : ¬ pa M b = 65) (hjb : pa M j = 64) : RepN (f_adopt S (dna Z b) (dna Z j)) x0 (zch Z (fun e => if e = b then j :: dch Z b else dch Z e)) (mn M 0 j b) nb := by
  obtain ⟨h1, h2, h3, h6⟩ := id h
  have hpj : ¬ pa M j = 65 := by omega
  have cj := (h2 j hj hpj).1
  have cb := (h2 b hb hpb).1
  have ai : ∀ k e, k < 64 → ¬ pa M k = 65 → e < 64 → ¬ pa M e = 65 → dna Z k = dna Z e → k = e := fun k e q1 q2 q3 q4 q => na_inj (h2 k q1 q2).1 (h2 e q3 q4).1 q1 q3 q
  have R : ∀ x f, hp_R (f_adopt S (dna Z b) (dna Z j)) x f = if x = dna Z b ∧ f = 5 then some (dna Z j) else if x = dna Z j ∧ f = 6 then hp_R S (dna Z b) 5 else if x = dna Z j ∧ f = 4 then some (dna Z b) else hp_R S x f := fun x f => by
    unfold f_adopt
    simp only [hp_R_sR]
  have r6 : ∀ k, k < 64 → ¬ pa M k = 65 → ¬ k = j → hp_R (f_adopt S (dna Z b) (dna Z j)) (dna Z k) 6 = hp_R S (dna Z k) 6 := fun k k1 k2 k3 => by
    rw [R]
    have : ¬ dna Z k = dna Z j := fun z => k3 (ai k j k1 k2 hj hpj z)
    simp [this]
  refine rn_tr h _ (fun f e hf => mn_ne M j b hf e) rfl (fun e he => ?_) rfl rfl rfl rfl (fun a f hq => ?_) (fun e he hpe => ?_) (fun e he hpe => ?_) (fun e he hpe => ?_)
  · rw [pa_mn]
    by_cases q : e = j
    · rw [if_pos q, q]; omega
    · rw [if_neg q]
  · rw [R, if_neg (fun z => hq ⟨by rw [z.1]; exact cb.1, by omega⟩), if_neg (fun z => hq ⟨by rw [z.1]; exact cj.1, by omega⟩), if_neg (fun z => hq ⟨by rw [z.1]; exact cj.1, by omega⟩)]
  · rw [R, pa_mn]
    by_cases q : e = j
    · subst q; simp [hb]
    · have : ¬ dna Z e = dna Z j := fun z => q (ai e j he hpe hj hpj z)
      rw [if_neg (by omega), if_neg (fun z => this z.1), if_neg (fun z => this z.1), if_neg q]
      exact (h2 e he hpe).1.2.2.2.2.2.1
  · show lk _ 6 _ ((if e = b then j :: dch Z b else dch Z e).map (dna Z))
    have old : ∀ k ∈ dch Z e, hp_R (f_adopt S (dna Z b) (dna Z j)) (dna Z k) 6 = hp_R S (dna Z k) 6 := fun k hk => by
      have w := ((h6.1 e he hpe).2.1 k).mp hk
      exact r6 k w.1 (by omega) (fun z => by rw [z] at w; omega)
    have lold : lk (f_adopt S (dna Z b) (dna Z j)) 6 (hp_R S (dna Z e) 5) ((dch Z e).map (dna Z)) := by
      refine lk_cg _ _ (fun a ha => ?_) (h2 e he hpe).1.2.2.2.2.2.2.1
      obtain ⟨k, hk, rfl⟩ := List.mem_map.mp ha
      exact old k hk
    by_cases q : e = b
    · subst q
      rw [if_pos rfl, List.map_cons]
      have e5 : hp_R (f_adopt S (dna Z e) (dna Z j)) (dna Z e) 5 = some (dna Z j) := by rw [R]; simp
      have e6 : hp_R (f_adopt S (dna Z e) (dna Z j)) (dna Z j) 6 = hp_R S (dna Z e) 5 := by rw [R]; simp
      rw [e5]
      refine ⟨rfl, ?_⟩
      rw [e6]
      exact lold
    · rw [if_neg q]
      have : ¬ dna Z e = dna Z b := fun z => q (ai e b he hpe hb hpb z)
      rw [R, if_neg (fun z => this z.1), if_neg (by omega), if_neg (by omega)]
      exact lold
  · show (if e = b then j :: dch Z b else dch Z e).Nodup ∧ ∀ k, k ∈ (if e = b then j :: dch Z b else dch Z e) ↔ _
    obtain ⟨c1, c2, -, -⟩ := h6.1 e he hpe
    have jn : j ∉ dch Z e := fun z => by have := (c2 j).mp z; omega
    by_cases q : e = b
    · subst q
      rw [if_pos rfl]
      refine ⟨List.nodup_cons.mpr ⟨jn, c1⟩, fun k => ?_⟩
      rw [List.mem_cons, c2 k, pa_mn]
      by_cases z : k = j
      · subst z; simp [hj]
      · simp [z]
    · rw [if_neg q]
      refine ⟨c1, fun k => ?_⟩
      rw [c2 k, pa_mn]
      by_cases z : k = j
      · subst z
        rw [if_pos rfl]
        constructor
        · intro y; omega
        · intro y; exact absurd y.2.symm q
      · rw [if_neg z]
/-- a class that nobody holds is no more -/
theorem rn_gone {S : hp_T} {x0 : Nat} {Z : cd_T} {M : ab_T} {nb : Nat → Nat} (h : RepN S x0 Z M nb) {j : Nat} (hj : j < 64) (h0 : ¬ j = 0) (hpj : pa M j = 64) (hlf : ∀ k, k < 64 → ¬ pa M k = j) : RepN (hp_sI (hp_sR S (dca Z) j none) x0 2 (nI (ccl M 64) - 1)) x0 Z (mn M 0 j 65) nb := by
  obtain ⟨h1, h2, h3, h6⟩ := id h
  have kx := h1.1
  have kc := h1.2.2.2.1
  have hne : ¬ dca Z = x0 := fun q => by rw [q, kx] at kc; omega
  have ec : ccl M 64 = ccl (mn M 0 j 65) 64 + 1 := by
    unfold ccl
    have := cnt_del (P := fun c => decide (¬ pa M c = 65)) (m := j) hj (by simp [hpj])
    unfold cnt at this
    rw [this]
    congr 1
    refine cnt_congr (fun i hi => ?_)
    rw [pa_mn]
    by_cases q : i = j
    · simp [q]
    · simp [q]
  have pz : ∀ e, ¬ e = j → pa (mn M 0 j 65) e = pa M e := fun e q => by rw [pa_mn, if_neg q]
  have pj : pa (mn M 0 j 65) j = 65 := by rw [pa_mn, if_pos rfl]
  have RI : ∀ a k, ¬ a = x0 → hp_I (hp_sI (hp_sR S (dca Z) j none) x0 2 (nI (ccl M 64) - 1)) a k = hp_I S a k := fun a k q => by rw [hp_I_sI, if_neg (fun z => q z.1)]; rfl
  have RR : ∀ a k, ¬ a = dca Z → hp_R (hp_sI (hp_sR S (dca Z) j none) x0 2 (nI (ccl M 64) - 1)) a k = hp_R S a k := fun a k q => by rw [hp_R_sI, hp_R_sR, if_neg (fun z => q z.1)]
  have nj : ∀ e, e < 64 → ¬ pa (mn M 0 j 65) e = 65 → ¬ e = j ∧ ¬ pa M e = 65 := fun e he q => by
    have : ¬ e = j := fun z => q (by rw [z]; exact pj)
    exact ⟨this, by rw [← pz e this]; exact q⟩
  refine ⟨?_, fun e he hpe => ?_, ?_, ?_⟩
  · obtain ⟨a1, a2, a3, a4, a5, a6, a7, a8, a9, a10, a11, a12, a13, a14⟩ := h1
    have hne2 : ¬ x0 = dca Z := fun q => hne q.symm
    unfold ct
    simp only [hp_K_sI, hp_K_sR, hp_N_sI, hp_N_sR, hp_R_sI, hp_R_sR, hp_I_sI, hp_I_sR, hne2, false_and, if_false, true_and, Nat.reduceEqDiff, if_true]
    refine ⟨a1, a2, a3, a4, a5, ?_, a7, a8, a9, a10, a11, a12, a13, fun c hc => ?_⟩
    · rw [ec, ← nI_add]
      exact Int32.add_sub_cancel _ _
    · by_cases q : c = j
      · rw [if_pos q, q, pj, if_pos rfl]
      · rw [if_neg q, pz c q]
        exact a14 c hc
  · obtain ⟨w1, w2⟩ := nj e he hpe
    obtain ⟨q, ql⟩ := h2 e he w2
    have ka := q.1
    have kl := ql.1
    refine ⟨?_, ?_⟩
    · refine cn_fr q rfl (fun k => RI _ _ (fun z => by rw [z, kx] at ka; omega)) (fun _ => rfl) (fun k _ => RR _ _ (fun z => by rw [z, kc] at ka; omega)) (fun k hk => ?_) (fun f => ?_) (fun _ => rfl) rfl
      · have w := ((h6.1 e he w2).2.1 k).mp hk
        have := (h2 k w.1 (by omega)).1.1
        exact RR _ _ (fun z => by rw [z, kc] at this; omega)
      · show (if f = 0 ∧ e = j then 65 else M.1 f e) = M.1 f e
        rw [if_neg (fun z => w1 z.2)]
    · refine cl_fr ql rfl (fun k => RI _ _ (fun z => by rw [z, kx] at kl; omega)) (fun k => RR _ _ (fun z => by rw [z, kc] at kl; omega)) (fun a ha => ?_) rfl
      obtain ⟨i, hi⟩ := List.getElem?_of_mem ha
      have k3 := (ql.2.2.2.2.2.2.1 i a hi).1
      exact ⟨rfl, fun k => RI _ _ (fun z => by rw [z, kx] at k3; omega), fun k => RR _ _ (fun z => by rw [z, kc] at k3; omega)⟩
  · obtain ⟨a1, a2, a3⟩ := h3
    refine ⟨?_, a2, a3⟩
    rw [RR x0 10 (fun z => hne z.symm)]
    refine lk_cg _ _ (fun a ha => ?_) a1
    have := (a2 a ha).1
    exact RR _ _ (fun z => by rw [z, kc] at this; omega)
  · obtain ⟨p1, p2, p3⟩ := h6
    refine ⟨fun c hc hpc => ?_, fun c e hc hpc he hpe q => p2 c e hc (nj c hc hpc).2 he (nj e he hpe).2 q, p3⟩
    obtain ⟨w1, w2⟩ := nj c hc hpc
    obtain ⟨b1, b2, b3, b4⟩ := p1 c hc w2
    refine ⟨b1, fun k => ?_, b3, b4⟩
    rw [b2 k, pa_mn]
    by_cases z : k = j
    · subst z
      rw [if_pos rfl]
      constructor
      · intro y; omega
      · intro y; omega
    · rw [if_neg z]
end M57
