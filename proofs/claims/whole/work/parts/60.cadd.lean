/-! THE CLASS: add -/
section M60
def znw (Z : cd_T) (j a q : Nat) : cd_T := (Z.1, (fun c => if c = j then a else Z.2.1 c), (fun c => if c = j then q else Z.2.2.1 c), (fun c => if c = j then [] else Z.2.2.2.1 c), (fun c => if c = j then [] else Z.2.2.2.2.1 c), Z.2.2.2.2.2.1, (fun c => if c = j then 0 else Z.2.2.2.2.2.2.1 c), Z.2.2.2.2.2.2.2.1, Z.2.2.2.2.2.2.2.2)
theorem znw_na (Z : cd_T) (j a q c : Nat) : dna (znw Z j a q) c = if c = j then a else dna Z c := rfl
theorem znw_ln (Z : cd_T) (j a q c : Nat) : dln (znw Z j a q) c = if c = j then q else dln Z c := rfl
theorem znw_ch (Z : cd_T) (j a q c : Nat) : dch (znw Z j a q) c = if c = j then [] else dch Z c := rfl
theorem znw_pk (Z : cd_T) (j a q c : Nat) : dpk (znw Z j a q) c = if c = j then [] else dpk Z c := rfl
theorem znw_hu (Z : cd_T) (j a q c : Nat) : dhu (znw Z j a q) c = if c = j then 0 else dhu Z c := rfl
theorem mad_n (M : ab_T) (j b x y f e : Nat) (h : ¬ e = j) : (mad M j b x y).1 f e = M.1 f e := by simp [mad, mn, mj, h]
theorem mad_j (M : ab_T) (j b x y f e : Nat) (h : ¬ e = j) : (mad M j b x y).2.1 f e = M.2.1 f e := by simp [mad, mn, mj, h]
theorem mad_t (M : ab_T) (j b x y : Nat) : (mad M j b x y).2.2 = M.2.2 := rfl
/-- the new node and its line, before anybody holds them -/
def s_new (S : hp_T) (x0 ca j a q : Nat) (x y n : Int32) : hp_T := hp_sI (hp_sR (f_node (hp_nw S a 2 0) a q (nI j) x y) ca j (some a)) x0 2 n
theorem s_new_K (S : hp_T) {x0 ca j a q : Nat} {x y n : Int32} (z : Nat) : hp_K (s_new S x0 ca j a q x y n) z = if z = q then 1 else if z = a then 2 else hp_K S z := by
  unfold s_new f_node
  simp only [hp_K_sI, hp_K_sR, hp_K_nw]
theorem s_new_N (S : hp_T) {x0 ca j a q : Nat} {x y n : Int32} (z : Nat) : hp_N (s_new S x0 ca j a q x y n) z = if z = q then 0 else if z = a then 0 else hp_N S z := by
  unfold s_new f_node
  simp only [hp_N_sI, hp_N_sR, hp_N_nw]
theorem s_new_I (S : hp_T) {x0 ca j a q : Nat} {x y n : Int32} (z f : Nat) : hp_I (s_new S x0 ca j a q x y n) z f = if z = x0 ∧ f = 2 then n else if z = q then 0 else if z = a ∧ f = 1 then y else if z = a ∧ f = 3 then x else if z = a ∧ f = 0 then nI j else if z = a then 0 else hp_I S z f := by
  unfold s_new f_node
  simp only [hp_I_sI, hp_I_sR, hp_I_nw]
theorem s_new_J (S : hp_T) {x0 ca j a q : Nat} {x y n : Int32} (z f : Nat) : hp_J (s_new S x0 ca j a q x y n) z f = if z = q then 0 else if z = a then 0 else hp_J S z f := by
  unfold s_new f_node
  simp only [hp_J_sI, hp_J_sR, hp_J_nw]
theorem s_new_R (S : hp_T) {x0 ca j a q : Nat} {x y n : Int32} (z f : Nat) : hp_R (s_new S x0 ca j a q x y n) z f = if z = ca ∧ f = j then some a else if z = a ∧ f = 2 then some q else if z = q then none else if z = a then none else hp_R S z f := by
  unfold s_new f_node
  simp only [hp_R_sI, hp_R_sR, hp_R_nw]
theorem ccl_mad {M : ab_T} {j : Nat} (b x y : Nat) (hj : j < 64) (hpj : pa M j = 65) (hb : ¬ b = 65) : ccl (mad M j b x y) 64 = ccl M 64 + 1 := by
  unfold ccl
  have := cnt_at (P := fun c => decide (¬ pa (mad M j b x y) c = 65)) (m := j) hj
  have e2 := cnt_at (P := fun c => decide (¬ pa M c = 65)) (m := j) hj
  unfold cnt at this e2
  rw [this, e2]
  have e1 : (List.range 64).countP (fun i => decide (¬ pa (mad M j b x y) i = 65) && decide (¬ i = j)) = (List.range 64).countP (fun i => decide (¬ pa M i = 65) && decide (¬ i = j)) := by
    refine cnt_congr (fun i hi => ?_)
    rw [mad_pa]
    by_cases q : i = j
    · simp [q]
    · rw [if_neg q]
  rw [e1, mad_pa, if_pos rfl]
  simp [hb, hpj]
set_option maxHeartbeats 4000000 in
theorem rn_new {S : hp_T} {x0 : Nat} {Z : cd_T} {M : ab_T} {nb : Nat → Nat} (h : RepN S x0 Z M nb) {j x y a q : Nat} (hj : j < 64) (h0 : 1 ≤ j) (hpj : pa M j = 65) (hnc : ∀ k, k < 64 → ¬ pa M k = j) (hno : own M j = []) (hop : op M j = 0) (ha : hp_K S a = 0) (hq : hp_K S q = 0) (haq : ¬ a = q) : RepN (s_new S x0 (dca Z) j a q (nI x) (nI y) (nI (ccl M 64) + 1)) x0 (znw Z j a q) (mad M j 64 x y) (fun c => if c = j then 0 else nb c) := by
  obtain ⟨h1, h2, h3, h6⟩ := id h
  have kx := h1.1
  have kc := h1.2.2.2.1
  have nn : ∀ z, ¬ hp_K S z = 0 → ¬ z = a ∧ ¬ z = q := fun z hz => ⟨fun w => hz (by rw [w]; exact ha), fun w => hz (by rw [w]; exact hq)⟩
  have hxc : ¬ x0 = dca Z := fun w => by rw [← w, kx] at kc; omega
  obtain ⟨xa, xq⟩ := nn x0 (by omega)
  obtain ⟨ca, cq⟩ := nn (dca Z) (by omega)
  have al : ∀ e, e < 64 → ¬ pa (mad M j 64 x y) e = 65 → ¬ e = j → ¬ pa M e = 65 := fun e he hpe hne => by rw [mad_pa, if_neg hne] at hpe; exact hpe
  have jn : ∀ e, e < 64 → ¬ pa M e = 65 → ¬ e = j := fun e he hpe z => hpe (by rw [z]; exact hpj)
  -- a cell that is neither new nor the object nor the array
  have old : ∀ z, ¬ hp_K S z = 0 → ¬ z = x0 → ¬ z = dca Z → hp_K (s_new S x0 (dca Z) j a q (nI x) (nI y) (nI (ccl M 64) + 1)) z = hp_K S z ∧ (∀ f, hp_I (s_new S x0 (dca Z) j a q (nI x) (nI y) (nI (ccl M 64) + 1)) z f = hp_I S z f) ∧ (∀ f, hp_J (s_new S x0 (dca Z) j a q (nI x) (nI y) (nI (ccl M 64) + 1)) z f = hp_J S z f) ∧ ∀ f, hp_R (s_new S x0 (dca Z) j a q (nI x) (nI y) (nI (ccl M 64) + 1)) z f = hp_R S z f := by
    intro z z1 z2 z3
    obtain ⟨za, zq⟩ := nn z z1
    refine ⟨?_, fun f => ?_, fun f => ?_, fun f => ?_⟩
    · rw [s_new_K, if_neg zq, if_neg za]
    · rw [s_new_I]; simp [za, zq, z2]
    · rw [s_new_J]; simp [za, zq]
    · rw [s_new_R]; simp [za, zq, z3]
  have nd : ∀ e, e < 64 → ¬ pa M e = 65 → ¬ hp_K S (dna Z e) = 0 ∧ ¬ dna Z e = x0 ∧ ¬ dna Z e = dca Z := fun e he hpe => by
    have k2 := (h2 e he hpe).1.1
    exact ⟨by omega, fun w => by rw [w, kx] at k2; omega, fun w => by rw [w, kc] at k2; omega⟩
  refine ⟨?_, fun e he hpe => ?_, ?_, ?_⟩
  · obtain ⟨a1, a2, a3, a4, a5, a6, a7, a8, a9, a10, a11, a12, a13, a14⟩ := h1
    have c1 := ccl_mad (M := M) 64 x y hj hpj (by omega)
    have IX : ∀ f, ¬ f = 2 → hp_I (s_new S x0 (dca Z) j a q (nI x) (nI y) (nI (ccl M 64) + 1)) x0 f = hp_I S x0 f := fun f hf => by rw [s_new_I]; simp [xa, xq, hf]
    refine ⟨?_, ?_, ?_, ?_, ?_, ?_, ?_, ?_, ?_, ?_, ?_, ?_, ?_, fun c hc => ?_⟩
    · rw [s_new_K, if_neg xq, if_neg xa]; exact a1
    · rw [s_new_R, znw_na]; simp [xa, xq, hxc, show ¬ 0 = j by omega, a2]
    · rw [s_new_R]; simp [xa, xq, hxc, a3]; rfl
    · show hp_K _ (dca Z) = 9
      rw [s_new_K, if_neg cq, if_neg ca]; exact a4
    · show hp_N _ (dca Z) = 64
      rw [s_new_N, if_neg cq, if_neg ca]; exact a5
    · rw [s_new_I, if_pos ⟨rfl, rfl⟩, c1, ← nI_add]; rfl
    · rw [IX 3 (by omega)]; exact a7
    · rw [IX 4 (by omega)]; exact a8
    · rw [IX 5 (by omega)]; exact a9
    · rw [IX 6 (by omega)]; exact a10
    · rw [IX 7 (by omega)]; exact a11
    · rw [IX 8 (by omega)]; exact a12
    · rw [IX 9 (by omega)]; exact a13
    · show hp_R _ (dca Z) c = _
      rw [s_new_R, mad_pa, znw_na]
      by_cases z : c = j
      · simp [z]
      · simp only [z, and_false, if_false, ca, false_and, cq]
        exact a14 c hc
  · by_cases ej : e = j
    · subst ej
      have ra : ∀ f, ¬ f = 2 → hp_R (s_new S x0 (dca Z) e a q (nI x) (nI y) (nI (ccl M 64) + 1)) a f = none := fun f hf => by
        rw [s_new_R, if_neg (fun w => ca w.1.symm), if_neg (fun w => hf w.2), if_neg haq, if_pos rfl]
      have ia : ∀ f, ¬ f = 0 → ¬ f = 1 → ¬ f = 3 → hp_I (s_new S x0 (dca Z) e a q (nI x) (nI y) (nI (ccl M 64) + 1)) a f = 0 := fun f f0 f1 f3 => by
        rw [s_new_I]
        simp [fun w : a = x0 => xa w.symm, haq, f0, f1, f3]
        exact fun w => absurd w.symm xa
      have ja : ∀ f, hp_J (s_new S x0 (dca Z) e a q (nI x) (nI y) (nI (ccl M 64) + 1)) a f = 0 := fun f => by
        rw [s_new_J]
        simp
      have rq : ∀ f, hp_R (s_new S x0 (dca Z) e a q (nI x) (nI y) (nI (ccl M 64) + 1)) q f = none := fun f => by
        rw [s_new_R, if_neg (fun w => cq w.1.symm), if_neg (fun w => haq w.1.symm), if_pos rfl]
      have iq : ∀ f, hp_I (s_new S x0 (dca Z) e a q (nI x) (nI y) (nI (ccl M 64) + 1)) q f = 0 := fun f => by
        rw [s_new_I, if_neg (fun w => xq w.1.symm), if_pos rfl]
      have na : dna (znw Z e a q) e = a := by rw [znw_na, if_pos rfl]
      have nl : dln (znw Z e a q) e = q := by rw [znw_ln, if_pos rfl]
      have nk : dpk (znw Z e a q) e = [] := by rw [znw_pk, if_pos rfl]
      have xa2 : ¬ a = x0 := fun w => xa w.symm
      refine ⟨?_, ?_⟩
      · unfold cn
        rw [na, nl]
        refine ⟨?_, ?_, ?_, ?_, ?_, ?_, ?_, ?_, ?_, ?_, ?_, ?_, ?_, ?_⟩
        · rw [s_new_K, if_neg haq, if_pos rfl]
        · rw [s_new_I]; simp [xa2, haq]
        · rw [s_new_I]; simp [xa2, haq, lm, mad, mn, mj]
        · rw [s_new_R, if_neg (fun w => ca w.1.symm), if_pos ⟨rfl, rfl⟩]
        · rw [s_new_I]; simp [xa2, haq, wt, mad, mn, mj]
        · rw [ra 4 (by omega), mad_pa, if_pos rfl]; rfl
        · rw [ra 5 (by omega), znw_ch, if_pos rfl]; rfl
        · rw [ia 7 (by omega) (by omega) (by omega)]
          show 0 = nI (if e = e then 0 else nb e)
          rw [if_pos rfl]; rfl
        · rw [ia 8 (by omega) (by omega) (by omega), mad_op, hop]; rfl
        · rw [ia 9 (by omega) (by omega) (by omega), znw_hu, if_pos rfl]; rfl
        · rw [ja]; simp [tg, mad, mn, mj]
        · rw [ia 11 (by omega) (by omega) (by omega)]; simp [rs, mad, mn, mj]; rfl
        · rw [ja]; simp [tm, mad, mn, mj]
        · rw [ja]; simp [sh, mad, mn, mj]
      · have ho : own (mad M e 64 x y) e = [] := hno
        unfold cl
        rw [nl, nk, ho, rq, rq, iq, iq]
        refine ⟨?_, rfl, rfl, rfl, rfl, rfl, fun i a2 hi => ?_, List.nodup_nil⟩
        · rw [s_new_K, if_pos rfl]
        · simp at hi
    · have hpe0 := al e he hpe ej
      obtain ⟨qn, ql⟩ := h2 e he hpe0
      obtain ⟨z1, z2, z3⟩ := nd e he hpe0
      obtain ⟨o1, o2, o3, o4⟩ := old _ z1 z2 z3
      have na : dna (znw Z j a q) e = dna Z e := by rw [znw_na, if_neg ej]
      have nl : dln (znw Z j a q) e = dln Z e := by rw [znw_ln, if_neg ej]
      have nk : dpk (znw Z j a q) e = dpk Z e := by rw [znw_pk, if_neg ej]
      refine ⟨?_, ?_⟩
      · have c0 := cn_fr (S' := s_new S x0 (dca Z) j a q (nI x) (nI y) (nI (ccl M 64) + 1)) (M' := mad M j 64 x y) (nb' := fun c => if c = j then 0 else nb c) qn o1 o2 o3 (fun f _ => o4 f) (fun k hk => by
          have w := ((h6.1 e he hpe0).2.1 k).mp hk
          obtain ⟨y1, y2, y3⟩ := nd k w.1 (by omega)
          exact (old _ y1 y2 y3).2.2.2 6) (fun f => mad_n M j 64 x y f e ej) (fun f => mad_j M j 64 x y f e ej) (by show (if e = j then 0 else nb e) = nb e; rw [if_neg ej])
        unfold cn at c0 ⊢
        rw [na, nl, znw_ch, if_neg ej, znw_hu, if_neg ej]
        have e4 : (if pa (mad M j 64 x y) e < 64 then some (dna (znw Z j a q) (pa (mad M j 64 x y) e)) else none) = if pa (mad M j 64 x y) e < 64 then some (dna Z (pa (mad M j 64 x y) e)) else none := by
          rw [mad_pa, if_neg ej, znw_na, if_neg (hnc e he)]
        have e5 : (dch Z e).map (dna (znw Z j a q)) = (dch Z e).map (dna Z) := by
          refine List.map_congr_left (fun k hk => ?_)
          have w := ((h6.1 e he hpe0).2.1 k).mp hk
          rw [znw_na, if_neg (fun z => by rw [z, hpj] at w; omega)]
        rw [e4, e5]
        exact c0
      · have kl := ql.1
        obtain ⟨p1, p2, p3, p4⟩ := old (dln Z e) (by omega) (fun w => by rw [w, kx] at kl; omega) (fun w => by rw [w, kc] at kl; omega)
        have c0 := cl_fr (S' := s_new S x0 (dca Z) j a q (nI x) (nI y) (nI (ccl M 64) + 1)) (M' := mad M j 64 x y) ql p1 p2 p4 (fun b hb => by
          obtain ⟨i, hi⟩ := List.getElem?_of_mem hb
          have k3 := (ql.2.2.2.2.2.2.1 i b hi).1
          obtain ⟨s1, s2, s3, s4⟩ := old b (by omega) (fun w => by rw [w, kx] at k3; omega) (fun w => by rw [w, kc] at k3; omega)
          exact ⟨s1, s2, s4⟩) rfl
        unfold cl at c0 ⊢
        rw [nl, nk]
        exact c0
  · obtain ⟨a1, a2, a3⟩ := h3
    refine ⟨?_, fun b hb => ?_, a3⟩
    · have : hp_R (s_new S x0 (dca Z) j a q (nI x) (nI y) (nI (ccl M 64) + 1)) x0 10 = hp_R S x0 10 := by
        rw [s_new_R]; simp [xa, xq, hxc]
      rw [this]
      refine lk_cg _ _ (fun b hb => ?_) a1
      have k3 := (a2 b hb).1
      exact (old b (by omega) (fun w => by rw [w, kx] at k3; omega) (fun w => by rw [w, kc] at k3; omega)).2.2.2 2
    · have k3 := (a2 b hb).1
      rw [(old b (by omega) (fun w => by rw [w, kx] at k3; omega) (fun w => by rw [w, kc] at k3; omega)).1]
      exact a2 b hb
  · obtain ⟨p1, p2, p3⟩ := h6
    refine ⟨fun c hc hpc => ?_, fun c e hc hpc he hpe z => ?_, p3⟩
    · rw [znw_ch, mad_hd, znw_hu]
      by_cases ej : c = j
      · subst ej
        simp only [if_true]
        refine ⟨List.nodup_nil, fun k => ?_, ?_, Nat.zero_le _⟩
        · rw [mad_pa]
          constructor
          · intro w; cases w
          · rintro ⟨w1, w2⟩
            by_cases z : k = c
            · rw [if_pos z] at w2; omega
            · rw [if_neg z] at w2; exact absurd w2 (hnc k w1)
        · omega
      · simp only [if_neg ej]
        obtain ⟨b1, b2, b3, b4⟩ := p1 c hc (al c hc hpc ej)
        refine ⟨b1, fun k => ?_, b3, b4⟩
        rw [b2 k, mad_pa]
        by_cases z : k = j
        · subst z
          rw [if_pos rfl]
          constructor
          · intro w; omega
          · intro w; omega
        · rw [if_neg z]
    · rw [znw_ln, znw_ln] at z
      by_cases cj : c = j
      · by_cases ej : e = j
        · rw [cj, ej]
        · rw [if_pos cj, if_neg ej] at z
          have := (h2 e he (al e he hpe ej)).2.1
          rw [← z, hq] at this
          omega
      · by_cases ej : e = j
        · rw [if_neg cj, if_pos ej] at z
          have := (h2 c hc (al c hc hpc cj)).2.1
          rw [z, hq] at this
          omega
        · rw [if_neg cj, if_neg ej] at z
          exact p2 c e hc (al c hc hpc cj) he (al e he hpe ej) z
end M60
