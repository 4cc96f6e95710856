/-! THE CLASS: what a turn writes -/
section M52
/-- what the class needs to stay in order, beside the reference -/
def cin (M : ab_T) : Prop := rin M ∧ lin M ∧ hd M 0 = 0 ∧ wt M 0 = 0
theorem cn_fr4 {S S' : hp_T} {D : cd_T} {M M' : ab_T} {nb nb' : Nat → Nat} {c : Nat} (h : cn S D M nb c) (hK : hp_K S' (dna D c) = hp_K S (dna D c)) (hI : ∀ j, hp_I S' (dna D c) j = hp_I S (dna D c) j) (hJ : ∀ j, hp_J S' (dna D c) j = hp_J S (dna D c) j) (hR : ∀ j, ¬ j = 6 → hp_R S' (dna D c) j = hp_R S (dna D c) j) (hS : ∀ k ∈ dch D c, hp_R S' (dna D k) 6 = hp_R S (dna D k) 6) (h0 : ∀ f, ¬ f = 4 → M'.1 f c = M.1 f c) (h1 : ∀ f, M'.2.1 f c = M.2.1 f c) (hn : nb' c = nb c) : cn S' D M' nb' c := by
  obtain ⟨a1, a2, a3, a4, a5, a6, a7, a8, a9, a10, a11, a12, a13, a14⟩ := h
  unfold cn pa wt lm rs op tg tm sh
  rw [hK, hn]
  simp only [hI, hJ, h0 0 (by omega), h0 1 (by omega), h0 2 (by omega), h0 3 (by omega), h0 5 (by omega), h1, hR 2 (by omega), hR 4 (by omega), hR 5 (by omega)]
  refine ⟨a1, a2, a3, a4, a5, a6, lk_cg _ _ (fun a ha => ?_) a7, a8, a9, a10, a11, a12, a13, a14⟩
  obtain ⟨k, hk, rfl⟩ := List.mem_map.mp ha
  exact hS k hk
/-- the first packet of a line leaves, and the turn is counted -/
theorem rn_leave {S S' : hp_T} {x0 : Nat} {Z : cd_T} {M : ab_T} {nb : Nat → Nat} (h : RepN S x0 Z M nb) {c p len : Nat} {ps : List Nat} {id : Int32} {os P : List (Nat × Int32 × Nat)} (hc : c < 64) (hpc : ¬ pa M c = 65) (hpk : dpk Z c = p :: ps) (hown : own M c = (c, id, len) :: os) (hP : ∀ e, P.filter (fun z => z.1 == e) = if e = c then os else own M e) (hPl : P.length + 1 = (pks M).length) (htr : trn M + 1 ≤ 1000000) (eK : hp_K S' = hp_K S) (eN : hp_N S' = hp_N S) (eJ : hp_J S' = hp_J S) (eI : ∀ a j, hp_I S' a j = if a = x0 ∧ j = 3 then nI P.length else if a = x0 ∧ j = 5 then nI (trn M + 1) else if a = x0 ∧ j = 7 then nI c else if a = x0 ∧ j = 8 then id else if a = x0 ∧ j = 9 then nI len else if a = dln Z c ∧ j = 2 then nI os.length else if a = dln Z c ∧ j = 3 then nI (os.map (fun z => z.2.2)).sum else hp_I S a j) (eR : ∀ a j, hp_R S' a j = if a = dln Z c ∧ j = 0 then hp_R S p 2 else if a = dln Z c ∧ j = 1 then ps.getLast? else hp_R S a j) : RepN S' x0 (zpk Z (fun e => if e = c then ps else dpk Z e) (dsp Z) (fun a => if a = p then 65 else dow Z a)) (hdN (mT (mL (mP M P) (nI c) id (nI len)) (trn M + 1)) 64) nb ∧ fre S' (zpk Z (fun e => if e = c then ps else dpk Z e) (dsp Z) (fun a => if a = p then 65 else dow Z a)) p ∧ frC S S' := by
  obtain ⟨h1, h2, h3, h4⟩ := h
  have kx := h1.1
  obtain ⟨-, hcl⟩ := h2 c hc hpc
  have kl := hcl.1
  have hqk : ∀ z, z ∈ dpk Z c → hp_K S z = 3 ∧ dow Z z = c := fun z e => by
    obtain ⟨i, hi⟩ := List.getElem?_of_mem e
    exact ⟨(hcl.2.2.2.2.2.2.1 i z hi).1, (hcl.2.2.2.2.2.2.1 i z hi).2.1⟩
  have hpm : p ∈ dpk Z c := by rw [hpk]; exact List.mem_cons_self
  have kp := (hqk p hpm).1
  have hxl : ¬ x0 = dln Z c := fun z => by rw [z, kl] at kx; omega
  have nI1 : ∀ a, ¬ hp_K S a = 4 → ¬ hp_K S a = 1 → ∀ j, hp_I S' a j = hp_I S a j := fun a n1 n2 j => by
    have a1 : ¬ a = x0 := fun z => n1 (by rw [z]; exact kx)
    have a2 : ¬ a = dln Z c := fun z => n2 (by rw [z]; exact kl)
    rw [eI]
    simp only [a1, a2, false_and, if_false]
  have nR : ∀ a, ¬ hp_K S a = 1 → ∀ j, hp_R S' a j = hp_R S a j := fun a n2 j => by
    have a2 : ¬ a = dln Z c := fun z => n2 (by rw [z]; exact kl)
    rw [eR]
    simp only [a2, false_and, if_false]
  have nodup := hcl.2.2.2.2.2.2.2
  rw [hpk] at nodup
  obtain ⟨nd1, nd2⟩ := List.nodup_cons.mp nodup
  have epa : ∀ e, pa (hdN (mT (mL (mP M P) (nI c) id (nI len)) (trn M + 1)) 64) e = pa M e := fun e => rfl
  refine ⟨⟨?_, fun e he hpe => ⟨?_, ?_⟩, ?_, ?_⟩, ⟨by rw [eK]; exact kp, ?_⟩, ?_⟩
  · obtain ⟨a1, a2, a3, a4, a5, a6, a7, a8, a9, a10, a11, a12, a13, a14⟩ := h1
    have rx : ∀ j, hp_R S' x0 j = hp_R S x0 j := nR x0 (by omega)
    have rc : ∀ j, hp_R S' (dca Z) j = hp_R S (dca Z) j := nR (dca Z) (by omega)
    unfold ct
    simp only [rx]
    refine ⟨by rw [eK]; exact a1, a2, a3, by rw [eK]; exact a4, by rw [eN]; exact a5, ?_, ?_, ?_, ?_, ?_, ?_, ?_, ?_, fun e he => ?_⟩
    · rw [eI]; simp only [hxl, false_and, if_false, true_and, Nat.reduceEqDiff]; exact a6
    · rw [eI]; simp only [and_self, if_true]; rfl
    · rw [eI]; simp only [hxl, false_and, if_false, true_and, Nat.reduceEqDiff]; exact a8
    · rw [eI]; simp only [hxl, false_and, if_false, true_and, Nat.reduceEqDiff, if_true]; rfl
    · rw [eI]; simp only [hxl, false_and, if_false, true_and, Nat.reduceEqDiff]; exact a10
    · rw [eI]; simp only [hxl, false_and, if_false, true_and, Nat.reduceEqDiff, if_true]; rfl
    · rw [eI]; simp only [hxl, false_and, if_false, true_and, Nat.reduceEqDiff, if_true]; rfl
    · rw [eI]; simp only [hxl, false_and, if_false, true_and, Nat.reduceEqDiff, if_true]; rfl
    · show hp_R S' (dca Z) e = _
      rw [rc]; exact a14 e he
  · have hpe : ¬ pa M e = 65 := hpe
    obtain ⟨q, -⟩ := h2 e he hpe
    have kq := q.1
    exact cn_fr4 (D := Z) (M' := hdN (mT (mL (mP M P) (nI c) id (nI len)) (trn M + 1)) 64) q (by rw [eK]) (nI1 _ (by omega) (by omega)) (fun j => by rw [eJ]) (fun j _ => nR _ (by omega) j) (fun k hk => by
      have := ((h4.1 e he hpe).2.1 k).mp hk
      have k2 := (h2 k this.1 (by omega)).1.1
      exact nR _ (by omega) 6) (fun f hf => by
        show (if f = 4 ∧ e < 64 then M.1 4 e - 1 else M.1 f e) = M.1 f e
        rw [if_neg (fun z => hf z.1)]) (fun f => rfl) rfl
  · have hpe : ¬ pa M e = 65 := hpe
    obtain ⟨-, b⟩ := h2 e he hpe
    have ho : own (hdN (mT (mL (mP M P) (nI c) id (nI len)) (trn M + 1)) 64) e = if e = c then os else own M e := hP e
    by_cases g : e = c
    · subst g
      rw [if_pos rfl] at ho
      have hlx : ¬ dln Z e = x0 := fun z => hxl z.symm
      obtain ⟨b1, b2, b3, b4, b5, b6, b7, b8⟩ := b
      rw [hpk] at b2 b6 b7
      rw [hown] at b6 b7
      show hp_K S' (dln Z e) = 1 ∧ lk S' 2 (hp_R S' (dln Z e) 0) (if e = e then ps else dpk Z e) ∧ hp_R S' (dln Z e) 1 = (if e = e then ps else dpk Z e).getLast? ∧ hp_I S' (dln Z e) 2 = nI (own _ e).length ∧ hp_I S' (dln Z e) 3 = nI ((own _ e).map (fun p => p.2.2)).sum ∧ (if e = e then ps else dpk Z e).length = (own _ e).length ∧ (∀ i a : Nat, (if e = e then ps else dpk Z e)[i]? = some a → hp_K S' a = 3 ∧ (if a = p then 65 else dow Z a) = e ∧ ∀ z : Nat × Int32 × Nat, (own _ e)[i]? = some z → hp_I S' a 0 = z.2.1 ∧ hp_I S' a 1 = nI z.2.2) ∧ (if e = e then ps else dpk Z e).Nodup
      rw [if_pos rfl, ho, eK]
      refine ⟨b1, ?_, ?_, ?_, ?_, ?_, fun i a hi => ?_, nd2⟩
      · rw [eR, if_pos ⟨rfl, rfl⟩]
        refine lk_cg _ _ (fun a ha => ?_) b2.2
        have := hqk a (by rw [hpk]; exact List.mem_cons_of_mem _ ha)
        exact nR a (by omega) 2
      · rw [eR, if_neg (fun z => by omega), if_pos ⟨rfl, rfl⟩]
      · rw [eI]; simp only [hlx, false_and, if_false, and_self, if_true]
      · rw [eI]; simp only [hlx, false_and, if_false, and_self, if_true, Nat.reduceEqDiff, and_false]
      · simpa using b6
      · have ha : a ∈ ps := List.mem_of_getElem? hi
        obtain ⟨d1, d2, d3⟩ := b7 (i + 1) a hi
        refine ⟨d1, ?_, fun z hz => ?_⟩
        · rw [if_neg (fun y => nd1 (by rw [← y]; exact ha))]
          exact d2
        · rw [nI1 a (by omega) (by omega), nI1 a (by omega) (by omega)]
          exact d3 z hz
    · rw [if_neg g] at ho
      have hle : ¬ dln Z e = dln Z c := fun z => g (h4.2.1 e c he hpe hc hpc z)
      have kle := b.1
      have hlx : ¬ dln Z e = x0 := fun z => by rw [z, kx] at kle; omega
      refine cl_fr2 b (by rw [eK]) (fun j => ?_) (fun j => ?_) (fun a ha => ?_) ho ?_
      · rw [eI]; simp only [hlx, hle, false_and, if_false]
      · rw [eR]; simp only [hle, false_and, if_false]
      · obtain ⟨i, hi⟩ := List.getElem?_of_mem ha
        obtain ⟨d1, d2, -⟩ := b.2.2.2.2.2.2.1 i a hi
        refine ⟨by rw [eK], nI1 a (by omega) (by omega), nR a (by omega), ?_⟩
        show (if a = p then 65 else dow Z a) = dow Z a
        rw [if_neg (fun z => g (by rw [← d2, z]; exact (hqk p hpm).2))]
      · show (if e = c then ps else dpk Z e) = dpk Z e
        rw [if_neg g]
  · obtain ⟨s1, s2, s3⟩ := h3
    refine ⟨?_, fun a ha => ?_, s3⟩
    · rw [nR x0 (by omega)]
      refine lk_cg _ _ (fun a ha => ?_) s1
      have ka := s2 a ha
      exact nR a (by omega) 2
    · have ka := s2 a ha
      refine ⟨by rw [eK]; exact ka.1, ?_⟩
      show (if a = p then 65 else dow Z a) = 64
      rw [if_neg (fun z => by have := (hqk p hpm).2; rw [← z, ka.2] at this; omega)]
      exact ka.2
  · obtain ⟨p1, p2, p3, p4, p5⟩ := h4
    refine ⟨fun e he hpe => ?_, p2, ?_, htr, ?_⟩
    · have hpe : ¬ pa M e = 65 := hpe
      obtain ⟨c1, c2, c3, c4⟩ := p1 e he hpe
      refine ⟨c1, c2, ?_, c4⟩
      rw [hdN_hd, if_pos he]
      show hd M e - 1 = dhu Z e - (trn M + 1)
      omega
    · show dlh Z ≤ trn M + 1 + 1000
      omega
    · show P.length ≤ 2000
      omega
  · show (if p = p then 65 else dow Z p) = 65
    rw [if_pos rfl]
  · intro a q1 q2
    exact ⟨by rw [eK], by rw [eN], nI1 a (by omega) (by omega), fun j => by rw [eJ], nR a (by omega)⟩
/-- a packet in nobody's hands becomes a spare one -/
theorem rn_push {S : hp_T} {x0 : Nat} {Z : cd_T} {M : ab_T} {nb : Nat → Nat} (h : RepN S x0 Z M nb) {p : Nat} (hp : fre S Z p) : RepN (hp_sR (hp_sR S p 2 (hp_R S x0 10)) x0 10 (some p)) x0 (zpk Z (dpk Z) (p :: dsp Z) (fun a => if a = p then 64 else dow Z a)) M nb ∧ frC S (hp_sR (hp_sR S p 2 (hp_R S x0 10)) x0 10 (some p)) := by
  obtain ⟨g1, g2⟩ := fre_no h hp
  have h0 := h
  have kp := hp.1
  obtain ⟨h1, h2, h3, h4⟩ := h
  have kx := h1.1
  have hxp : ¬ x0 = p := fun z => by rw [z, kp] at kx; omega
  have hpx : ¬ p = x0 := fun z => hxp z.symm
  refine ⟨rn_pk h0 rfl rfl rfl h4.2.2.2.2 rfl (fun a ha => ⟨fun _ => rfl, fun _ => rfl, fun j => ?_⟩) ?_ (fun e he hpe => ?_) ?_, ?_⟩
  · rw [hp_R_sR, if_neg (fun q => by rw [q.1, kx] at ha; omega), hp_R_sR, if_neg (fun q => by rw [q.1, kp] at ha; omega)]
  · have kca := h1.2.2.2.1
    have n1 : ¬ dca Z = x0 := fun q => by rw [q, kx] at kca; omega
    have n2 : ¬ dca Z = p := fun q => by rw [q, kp] at kca; omega
    unfold ct at h1 ⊢
    simp only [hp_R_sR, hp_K_sR, hp_N_sR, hp_I_sR, n1, n2, hxp, false_and, if_false, Nat.reduceEqDiff, and_false]
    exact h1
  · obtain ⟨-, q⟩ := h2 e he hpe
    have kq := q.1
    refine cl_fr2 q rfl (fun _ => rfl) (fun j => ?_) (fun a ha => ⟨rfl, fun _ => rfl, fun j => ?_, ?_⟩) rfl rfl
    · rw [hp_R_sR, if_neg (fun z => by rw [z.1, kx] at kq; omega), hp_R_sR, if_neg (fun z => by rw [z.1, kp] at kq; omega)]
    · obtain ⟨i, hi⟩ := List.getElem?_of_mem ha
      have d1 := (q.2.2.2.2.2.2.1 i a hi).1
      rw [hp_R_sR, if_neg (fun z => by rw [z.1, kx] at d1; omega), hp_R_sR, if_neg (fun z => g1 e he hpe (by rw [← z.1]; exact ha))]
    · show (if a = p then 64 else dow Z a) = dow Z a
      rw [if_neg (fun z => g1 e he hpe (by rw [← z]; exact ha))]
  · obtain ⟨s1, s2, s3⟩ := h3
    refine ⟨?_, fun a ha => ?_, ?_⟩
    · show lk _ 2 (hp_R (hp_sR (hp_sR S p 2 (hp_R S x0 10)) x0 10 (some p)) x0 10) (p :: dsp Z)
      refine ⟨by rw [hp_R_sR, if_pos ⟨rfl, rfl⟩], ?_⟩
      rw [hp_R_sR, if_neg (fun z => hpx z.1), hp_R_sR, if_pos ⟨rfl, rfl⟩]
      refine lk_cg _ _ (fun a ha => ?_) s1
      have ka := (s2 a ha).1
      rw [hp_R_sR, if_neg (fun z => by rw [z.1, kx] at ka; omega), hp_R_sR, if_neg (fun z => g2 (by rw [← z.1]; exact ha))]
    · rcases List.mem_cons.mp ha with y | y
      · subst y
        refine ⟨kp, ?_⟩
        show (if a = a then 64 else dow Z a) = 64
        rw [if_pos rfl]
      · have := s2 a y
        refine ⟨this.1, ?_⟩
        show (if a = p then 64 else dow Z a) = 64
        rw [if_neg (fun z => g2 (by rw [← z]; exact y))]
        exact this.2
    · exact List.nodup_cons.mpr ⟨g2, s3⟩
  · refine frC.trans (frC.sR _ _ _ _ ?_) (frC.sR _ _ _ _ ?_)
    · rw [kp]; exact Or.inl (by omega)
    · rw [hp_K_sR, kx]; exact Or.inl (by omega)
/-- a class is charged -/
theorem rn_charge {S : hp_T} {x0 : Nat} {Z : cd_T} {M : ab_T} {nb : Nat → Nat} (h : RepN S x0 Z M nb) (hwk : wok M) (hw0 : wt M 0 = 0) {c len : Nat} (hc : c < 64) (hpc : ¬ pa M c = 65) (hlen : len ≤ 2000) : RepN (f_charge S (dna Z c) (nI len)) x0 Z (chg M len c) nb ∧ frC S (f_charge S (dna Z c) (nI len)) := by
  obtain ⟨kc, i0, i1, r2, i3, r4, r5, i7, i8, i9, j10, i11, j12, j13⟩ := (h.2.1 c hc hpc).1
  have n2 : nrk (hp_K S (dna Z c)) := by rw [kc]; exact Or.inl (by omega)
  have el : (nI len).toInt64 = lN len := nI_l (by omega)
  unfold f_charge chg
  rw [i3, j13, el, j10, i11]
  by_cases g : c = 0
  · subst g
    rw [hw0, if_pos (by decide), if_pos rfl]
    exact ⟨rn_sh h hc hpc _, frC.sJ _ _ _ _ n2⟩
  · obtain ⟨w1, w2⟩ := hwk.2 c hc (by omega) hpc
    have w3 := hwk.1 c hc
    rw [if_neg (nI_nle (by omega) (by omega)), if_neg g]
    have e1 : (65536 : Int32) * nI len + nI (rs M c) = nI (65536 * len + rs M c) := by
      rw [show (65536 : Int32) = nI 65536 from rfl, pk_mul, nI_add]
    have e2 : nI (65536 * len + rs M c) / nI (wt M c) = nI ((65536 * len + rs M c) / wt M c) := pk_div (by omega) (by omega) (by omega)
    have e3 : nI (65536 * len + rs M c) - nI (65536 * len + rs M c) / nI (wt M c) * nI (wt M c) = nI ((65536 * len + rs M c) % wt M c) := pk_rem (by omega) (by omega) (by omega)
    have e4 : (nI ((65536 * len + rs M c) / wt M c)).toInt64 = lN ((65536 * len + rs M c) / wt M c) := nI_l (by
      have := Nat.div_le_self (65536 * len + rs M c) (wt M c)
      omega)
    rw [e1, e3, e2, e4]
    refine ⟨rn_rs (rn_tg (rn_sh h hc hpc _) hc hpc _) hc hpc _, ?_⟩
    refine frC.trans (frC.trans (frC.sJ _ _ _ _ ?_) (frC.sJ _ _ _ _ ?_)) (frC.sI _ _ _ _ ?_)
    · exact n2
    · exact n2
    · exact n2
/-- charges and shorter holds do not meet -/
theorem chg_hdN (M : ab_T) (t n len x : Nat) : chg (hdN (mT M t) n) len x = hdN (mT (chg M len x) t) n := by
  unfold chg
  show (if x = 0 then mj (hdN (mT M t) n) 2 x (sh M x + lN len) else mn (mj (mj (hdN (mT M t) n) 2 x (sh M x + lN len)) 0 x (tg M x + lN ((65536 * len + rs M x) / wt M x))) 3 x ((65536 * len + rs M x) % wt M x)) = _
  by_cases g : x = 0
  · rw [if_pos g, if_pos g]
    rfl
  · rw [if_neg g, if_neg g]
    refine Prod.ext ?_ rfl
    funext f c
    show (if f = 3 ∧ c = x then (65536 * len + rs M x) % wt M x else if f = 4 ∧ c < n then M.1 4 c - 1 else M.1 f c) = (if f = 4 ∧ c < n then (if 4 = 3 ∧ c = x then (65536 * len + rs M x) % wt M x else M.1 4 c) - 1 else if f = 3 ∧ c = x then (65536 * len + rs M x) % wt M x else M.1 f c)
    by_cases h3 : f = 3
    · subst h3; simp
    · simp [h3]
theorem chgs_hdN (t n len : Nat) : ∀ (us : List Nat) (M : ab_T), chgs (hdN (mT M t) n) len us = hdN (mT (chgs M len us) t) n := by
  intro us
  induction us with
  | nil => exact fun _ => rfl
  | cons u us ih =>
    intro M
    show chgs (chg (hdN (mT M t) n) len u) len us = hdN (mT (chgs (chg M len u) len us) t) n
    rw [chg_hdN, ih]
end M52
