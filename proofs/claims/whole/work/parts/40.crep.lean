/-! THE CLASS: what it holds of a state -/
section M40
/-- where the class keeps things: the array of nodes; of each class its node, its line, its children in their chain, its packets; the spare packets; until when a class is held; the last turn at which one is held; to whom a packet belongs (64: spare) -/
abbrev cd_T : Type := Nat × (Nat → Nat) × (Nat → Nat) × (Nat → List Nat) × (Nat → List Nat) × List Nat × (Nat → Nat) × Nat × (Nat → Nat)
def dca (D : cd_T) : Nat := D.1
def dna (D : cd_T) (c : Nat) : Nat := D.2.1 c
def dln (D : cd_T) (c : Nat) : Nat := D.2.2.1 c
def dch (D : cd_T) (c : Nat) : List Nat := D.2.2.2.1 c
def dpk (D : cd_T) (c : Nat) : List Nat := D.2.2.2.2.1 c
def dsp (D : cd_T) : List Nat := D.2.2.2.2.2.1
def dhu (D : cd_T) (c : Nat) : Nat := D.2.2.2.2.2.2.1 c
def dlh (D : cd_T) : Nat := D.2.2.2.2.2.2.2.1
def dow (D : cd_T) (a : Nat) : Nat := D.2.2.2.2.2.2.2.2 a
/-- how many children to send from a class has -/
def noc (M : ab_T) (c : Nat) : Nat := cnt (fun k => decide (pa M k = c) && decide (op M k = 1))
/-- the object -/
def ct (S : hp_T) (x0 : Nat) (D : cd_T) (M : ab_T) : Prop := hp_K S x0 = 4 ∧ hp_R S x0 0 = some (dna D 0) ∧ hp_R S x0 1 = some (dca D) ∧ hp_K S (dca D) = 9 ∧ hp_N S (dca D) = 64 ∧ hp_I S x0 2 = nI (ccl M 64) ∧ hp_I S x0 3 = nI (pks M).length ∧ hp_I S x0 4 = drp M ∧ hp_I S x0 5 = nI (trn M) ∧ hp_I S x0 6 = nI (dlh D) ∧ hp_I S x0 7 = la0 M ∧ hp_I S x0 8 = la1 M ∧ hp_I S x0 9 = la2 M ∧ ∀ c, c < 64 → hp_R S (dca D) c = if pa M c = 65 then none else some (dna D c)
/-- a class's node -/
def cn (S : hp_T) (D : cd_T) (M : ab_T) (nb : Nat → Nat) (c : Nat) : Prop := hp_K S (dna D c) = 2 ∧ hp_I S (dna D c) 0 = nI c ∧ hp_I S (dna D c) 1 = nI (lm M c) ∧ hp_R S (dna D c) 2 = some (dln D c) ∧ hp_I S (dna D c) 3 = nI (wt M c) ∧ hp_R S (dna D c) 4 = (if pa M c < 64 then some (dna D (pa M c)) else none) ∧ lk S 6 (hp_R S (dna D c) 5) ((dch D c).map (dna D)) ∧ hp_I S (dna D c) 7 = nI (nb c) ∧ hp_I S (dna D c) 8 = nI (op M c) ∧ hp_I S (dna D c) 9 = nI (dhu D c) ∧ hp_J S (dna D c) 10 = tg M c ∧ hp_I S (dna D c) 11 = nI (rs M c) ∧ hp_J S (dna D c) 12 = tm M c ∧ hp_J S (dna D c) 13 = sh M c
/-- a class's line -/
def cl (S : hp_T) (D : cd_T) (M : ab_T) (c : Nat) : Prop := hp_K S (dln D c) = 1 ∧ lk S 2 (hp_R S (dln D c) 0) (dpk D c) ∧ hp_R S (dln D c) 1 = (dpk D c).getLast? ∧ hp_I S (dln D c) 2 = nI (own M c).length ∧ hp_I S (dln D c) 3 = nI ((own M c).map (fun p => p.2.2)).sum ∧ (dpk D c).length = (own M c).length ∧ (∀ i a : Nat, (dpk D c)[i]? = some a → hp_K S a = 3 ∧ dow D a = c ∧ ∀ p : Nat × Int32 × Nat, (own M c)[i]? = some p → hp_I S a 0 = p.2.1 ∧ hp_I S a 1 = nI p.2.2) ∧ (dpk D c).Nodup
/-- the spare packets -/
def csp (S : hp_T) (x0 : Nat) (D : cd_T) : Prop := lk S 2 (hp_R S x0 10) (dsp D) ∧ (∀ a ∈ dsp D, hp_K S a = 3 ∧ dow D a = 64) ∧ (dsp D).Nodup
/-- what holds of the places themselves -/
def cp (D : cd_T) (M : ab_T) : Prop := (∀ c, c < 64 → ¬ pa M c = 65 → (dch D c).Nodup ∧ (∀ k, k ∈ dch D c ↔ k < 64 ∧ pa M k = c) ∧ hd M c = dhu D c - trn M ∧ dhu D c ≤ dlh D) ∧ (∀ c e, c < 64 → ¬ pa M c = 65 → e < 64 → ¬ pa M e = 65 → dln D c = dln D e → c = e) ∧ dlh D ≤ trn M + 1000 ∧ trn M ≤ 1000000 ∧ (pks M).length ≤ 2000
/-- the class holds the state M, with nb as the numbers of children to send from -/
def RepN (S : hp_T) (x0 : Nat) (D : cd_T) (M : ab_T) (nb : Nat → Nat) : Prop := ct S x0 D M ∧ (∀ c, c < 64 → ¬ pa M c = 65 → cn S D M nb c ∧ cl S D M c) ∧ csp S x0 D ∧ cp D M
/-- THE CLASS holds the state M -/
def RepC (S : hp_T) (x0 : Nat) (D : cd_T) (M : ab_T) : Prop := RepN S x0 D M (noc M)
theorem lk_cg {S S' : hp_T} {f : Nat} : ∀ (as : List Nat) (r : Option Nat), (∀ a ∈ as, hp_R S' a f = hp_R S a f) → lk S f r as → lk S' f r as := by
  intro as
  induction as with
  | nil => intro r _ h; exact h
  | cons a as ih =>
    intro r h h1
    refine ⟨h1.1, ?_⟩
    rw [h a List.mem_cons_self]
    exact ih _ (fun b hb => h b (List.mem_cons_of_mem _ hb)) h1.2
/-- alike for a class's node -/
theorem cn_fr {S S' : hp_T} {D : cd_T} {M M' : ab_T} {nb nb' : Nat → Nat} {c : Nat} (h : cn S D M nb c) (hK : hp_K S' (dna D c) = hp_K S (dna D c)) (hI : ∀ j, hp_I S' (dna D c) j = hp_I S (dna D c) j) (hJ : ∀ j, hp_J S' (dna D c) j = hp_J S (dna D c) j) (hR : ∀ j, ¬ j = 6 → hp_R S' (dna D c) j = hp_R S (dna D c) j) (hS : ∀ k ∈ dch D c, hp_R S' (dna D k) 6 = hp_R S (dna D k) 6) (h0 : ∀ f, M'.1 f c = M.1 f c) (h1 : ∀ f, M'.2.1 f c = M.2.1 f c) (hn : nb' c = nb c) : cn S' D M' nb' c := by
  obtain ⟨a1, a2, a3, a4, a5, a6, a7, a8, a9, a10, a11, a12, a13, a14⟩ := h
  unfold cn pa wt lm rs op tg tm sh
  rw [hK, hn]
  simp only [hI, hJ, h0, h1, hR 2 (by omega), hR 4 (by omega), hR 5 (by omega)]
  refine ⟨a1, a2, a3, a4, a5, a6, lk_cg _ _ (fun a ha => ?_) a7, a8, a9, a10, a11, a12, a13, a14⟩
  obtain ⟨k, hk, rfl⟩ := List.mem_map.mp ha
  exact hS k hk
theorem cl_fr {S S' : hp_T} {D : cd_T} {M M' : ab_T} {c : Nat} (h : cl S D M c) (hK : hp_K S' (dln D c) = hp_K S (dln D c)) (hI : ∀ j, hp_I S' (dln D c) j = hp_I S (dln D c) j) (hR : ∀ j, hp_R S' (dln D c) j = hp_R S (dln D c) j) (hP : ∀ a ∈ dpk D c, hp_K S' a = hp_K S a ∧ (∀ j, hp_I S' a j = hp_I S a j) ∧ ∀ j, hp_R S' a j = hp_R S a j) (ho : own M' c = own M c) : cl S' D M' c := by
  obtain ⟨a1, a2, a3, a4, a5, a6, a7, a8⟩ := h
  unfold cl
  rw [hK, ho]
  simp only [hI, hR]
  refine ⟨a1, lk_cg _ _ (fun a ha => (hP a ha).2.2 2) a2, a3, a4, a5, a6, fun i a hi => ?_, a8⟩
  obtain ⟨q1, q2, q3⟩ := hP a (List.mem_of_getElem? hi)
  obtain ⟨b1, b2, b3⟩ := a7 i a hi
  refine ⟨by rw [q1]; exact b1, b2, fun p hp => ?_⟩
  rw [q2, q2]
  exact b3 p hp
/-- nothing of the reference has changed -/
def frC (S S' : hp_T) : Prop := ∀ a, 5 ≤ hp_K S a → hp_K S a ≤ 8 → hp_K S' a = hp_K S a ∧ hp_N S' a = hp_N S a ∧ (∀ j, hp_I S' a j = hp_I S a j) ∧ (∀ j, hp_J S' a j = hp_J S a j) ∧ ∀ j, hp_R S' a j = hp_R S a j
theorem frC.rf (S : hp_T) : frC S S := fun _ _ _ => ⟨rfl, rfl, fun _ => rfl, fun _ => rfl, fun _ => rfl⟩
theorem frC.trans {S S1 S2 : hp_T} (h : frC S S1) (h2 : frC S1 S2) : frC S S2 := fun a q1 q2 => by
  obtain ⟨a1, a2, a3, a4, a5⟩ := h a q1 q2
  obtain ⟨b1, b2, b3, b4, b5⟩ := h2 a (by omega) (by omega)
  exact ⟨b1.trans a1, b2.trans a2, fun j => (b3 j).trans (a3 j), fun j => (b4 j).trans (a4 j), fun j => (b5 j).trans (a5 j)⟩
def nrk (k : Nat) : Prop := k < 5 ∨ 8 < k
theorem frC.sI (S : hp_T) (b k : Nat) (v : Int32) (hb : nrk (hp_K S b)) : frC S (hp_sI S b k v) := fun a q1 q2 => ⟨rfl, rfl, fun j => by
  rw [hp_I_sI, if_neg (fun q => by rw [← q.1] at hb; unfold nrk at hb; omega)], fun _ => rfl, fun _ => rfl⟩
theorem frC.sJ (S : hp_T) (b k : Nat) (v : Int64) (hb : nrk (hp_K S b)) : frC S (hp_sJ S b k v) := fun a q1 q2 => ⟨rfl, rfl, fun _ => rfl, fun j => by
  rw [hp_J_sJ, if_neg (fun q => by rw [← q.1] at hb; unfold nrk at hb; omega)], fun _ => rfl⟩
theorem frC.sR (S : hp_T) (b k : Nat) (v : Option Nat) (hb : nrk (hp_K S b)) : frC S (hp_sR S b k v) := fun a q1 q2 => ⟨rfl, rfl, fun _ => rfl, fun _ => rfl, fun j => by
  rw [hp_R_sR, if_neg (fun q => by rw [← q.1] at hb; unfold nrk at hb; omega)]⟩
theorem frC.nw (S : hp_T) (b kd n : Nat) (hb : hp_K S b = 0) : frC S (hp_nw S b kd n) := fun a q1 q2 => by
  have e : ¬ a = b := fun q => by rw [q] at q1; omega
  exact ⟨by rw [hp_K_nw, if_neg e], by rw [hp_N_nw, if_neg e], fun j => by rw [hp_I_nw, if_neg e], fun j => by rw [hp_J_nw, if_neg e], fun j => by rw [hp_R_nw, if_neg e]⟩
/-- the reference still holds its state -/
theorem frC.rep {S S' : hp_T} {m0 : Nat} {ad : Nat → Nat} {M : ab_T} (h : frC S S') (hR : RepR S m0 ad M) : RepR S' m0 ad M := by
  obtain ⟨hs, hdj, hc, hn, hp⟩ := hR
  have hs0 := hs
  obtain ⟨sk0, sr1, sr2, sr3, sr4, sr5, sr6, sr7, sr8, sr9, sr10, sr11, sr12, sr13, sk1, sk2, sk3, sk4, sk5, sk6, sk7, sk8, sk9, sk10, sk11, sk12, sk13, sn1, sn2, sn3, sn4, sn5, sn6, sn7, sn8, sn9, sn10, sn11, sn12, sn13⟩ := hs
  obtain ⟨K0, N0, I0, J0, R0⟩ := h m0 (by omega) (by omega)
  have A : ∀ f, 5 ≤ hp_K S (ad f) → hp_K S (ad f) ≤ 8 → hp_K S' (ad f) = hp_K S (ad f) ∧ hp_N S' (ad f) = hp_N S (ad f) ∧ (∀ j, hp_I S' (ad f) j = hp_I S (ad f) j) ∧ ∀ j, hp_J S' (ad f) j = hp_J S (ad f) j := fun f q1 q2 => ⟨(h _ q1 q2).1, (h _ q1 q2).2.1, (h _ q1 q2).2.2.1, (h _ q1 q2).2.2.2.1⟩
  obtain ⟨K1, N1, I1, J1⟩ := A 1 (by omega) (by omega)
  obtain ⟨K2, N2, I2, J2⟩ := A 2 (by omega) (by omega)
  obtain ⟨K3, N3, I3, J3⟩ := A 3 (by omega) (by omega)
  obtain ⟨K4, N4, I4, J4⟩ := A 4 (by omega) (by omega)
  obtain ⟨K5, N5, I5, J5⟩ := A 5 (by omega) (by omega)
  obtain ⟨K6, N6, I6, J6⟩ := A 6 (by omega) (by omega)
  obtain ⟨K7, N7, I7, J7⟩ := A 7 (by omega) (by omega)
  obtain ⟨K8, N8, I8, J8⟩ := A 8 (by omega) (by omega)
  obtain ⟨K9, N9, I9, J9⟩ := A 9 (by omega) (by omega)
  obtain ⟨K10, N10, I10, J10⟩ := A 10 (by omega) (by omega)
  obtain ⟨K11, N11, I11, J11⟩ := A 11 (by omega) (by omega)
  obtain ⟨K12, N12, I12, J12⟩ := A 12 (by omega) (by omega)
  obtain ⟨K13, N13, I13, J13⟩ := A 13 (by omega) (by omega)
  refine ⟨?_, hdj, fun c hcl => ?_, ?_, fun i p hip => ?_⟩
  · unfold rsh
    rw [K0, K1, K2, K3, K4, K5, K6, K7, K8, K9, K10, K11, K12, K13, N1, N2, N3, N4, N5, N6, N7, N8, N9, N10, N11, N12, N13]
    simp only [R0]
    exact hs0
  · have q := hc c hcl
    unfold rcl at q ⊢
    simp only [I1, I2, I3, J4, I5, J6, J7, I8, I9]
    exact q
  · unfold rnm at hn ⊢
    simp only [I0]
    exact hn
  · have q := hp i p hip
    simp only [I11, I12, I13]
    exact q
/-- and the class still holds its own, whatever the reference writes -/
theorem frR.rep {S S' : hp_T} {m0 : Nat} {ad : Nat → Nat} {x0 : Nat} {D : cd_T} {M : ab_T} {nb : Nat → Nat} (h : frR S S' m0 ad) (hs : rsh S m0 ad) (hC : RepN S x0 D M nb) : RepN S' x0 D M nb := by
  obtain ⟨eK, eR, eN, eo⟩ := h
  have out : ∀ a, nrk (hp_K S a) → (∀ j, hp_I S' a j = hp_I S a j) ∧ ∀ j, hp_J S' a j = hp_J S a j := by
    intro a ha
    obtain ⟨sk0, sr1, sr2, sr3, sr4, sr5, sr6, sr7, sr8, sr9, sr10, sr11, sr12, sr13, sk1, sk2, sk3, sk4, sk5, sk6, sk7, sk8, sk9, sk10, sk11, sk12, sk13, sn1, sn2, sn3, sn4, sn5, sn6, sn7, sn8, sn9, sn10, sn11, sn12, sn13⟩ := hs
    refine eo a (fun q => ?_) (fun f f1 f2 q => ?_)
    · rw [q, sk0] at ha; unfold nrk at ha; omega
    · rw [q] at ha
      unfold nrk at ha
      rcases (show f = 1 ∨ f = 2 ∨ f = 3 ∨ f = 4 ∨ f = 5 ∨ f = 6 ∨ f = 7 ∨ f = 8 ∨ f = 9 ∨ f = 10 ∨ f = 11 ∨ f = 12 ∨ f = 13 by omega) with rfl | rfl | rfl | rfl | rfl | rfl | rfl | rfl | rfl | rfl | rfl | rfl | rfl <;> omega
  obtain ⟨h1, h2, h3, h4⟩ := hC
  refine ⟨?_, fun c hc hpc => ⟨?_, ?_⟩, ?_, h4⟩
  · have q := (out x0 (by rw [h1.1]; exact Or.inl (by omega))).1
    unfold ct at h1 ⊢
    simp only [q, eK, eR, eN]
    exact h1
  · obtain ⟨q, -⟩ := h2 c hc hpc
    obtain ⟨i1, i2⟩ := out (dna D c) (by rw [q.1]; exact Or.inl (by omega))
    exact cn_fr q (by rw [eK]) i1 i2 (fun j _ => by rw [eR]) (fun k _ => by rw [eR]) (fun _ => rfl) (fun _ => rfl) rfl
  · obtain ⟨-, q⟩ := h2 c hc hpc
    obtain ⟨i1, i2⟩ := out (dln D c) (by rw [q.1]; exact Or.inl (by omega))
    refine cl_fr q (by rw [eK]) i1 (fun j => by rw [eR]) (fun a ha => ⟨by rw [eK], ?_, fun j => by rw [eR]⟩) rfl
    obtain ⟨i, hi⟩ := List.getElem?_of_mem ha
    exact (out a (by rw [(q.2.2.2.2.2.2.1 i a hi).1]; exact Or.inl (by omega))).1
  · unfold csp at h3 ⊢
    rw [eK, eR]
    exact ⟨lk_eq eR 2 _ _ h3.1, h3.2⟩
end M40
