/-! WRITES: what a write into one of the reference's arrays makes of the state -/
section M24
def mn (M : ab_T) (f c v : Nat) : ab_T := (fun g k => if g = f ∧ k = c then v else M.1 g k, M.2)
def mj (M : ab_T) (f c : Nat) (v : Int64) : ab_T := (M.1, (fun g k => if g = f ∧ k = c then v else M.2.1 g k), M.2.2)
def mP (M : ab_T) (P : List (Nat × Int32 × Nat)) : ab_T := (M.1, M.2.1, P, M.2.2.2)
def mD (M : ab_T) (d : Int32) : ab_T := (M.1, M.2.1, M.2.2.1, d, M.2.2.2.2)
def mT (M : ab_T) (t : Nat) : ab_T := (M.1, M.2.1, M.2.2.1, M.2.2.2.1, t, M.2.2.2.2.2)
def mL (M : ab_T) (a b c : Int32) : ab_T := (M.1, M.2.1, M.2.2.1, M.2.2.2.1, M.2.2.2.2.1, a, b, c)
theorem rp_code {S : hp_T} {m0 : Nat} {ad : Nat → Nat} {M : ab_T} (h : RepR S m0 ad M) (v : Int32) : RepR (hp_sI S m0 0 v) m0 ad M := by
  obtain ⟨hs, hdj, hc, hn, hp⟩ := h
  have hs0 := hs
  obtain ⟨sk0, sr1, sr2, sr3, sr4, sr5, sr6, sr7, sr8, sr9, sr10, sr11, sr12, sr13, sk1, sk2, sk3, sk4, sk5, sk6, sk7, sk8, sk9, sk10, sk11, sk12, sk13, sn1, sn2, sn3, sn4, sn5, sn6, sn7, sn8, sn9, sn10, sn11, sn12, sn13⟩ := hs
  have dm : ∀ f, 1 ≤ f → f ≤ 13 → hp_K S (ad f) ≠ 5 → ¬ ad f = m0 := fun f _ _ q e => q (by rw [e]; exact sk0)
  have dm1 := dm 1 (by omega) (by omega) (by omega)
  have dm2 := dm 2 (by omega) (by omega) (by omega)
  have dm3 := dm 3 (by omega) (by omega) (by omega)
  have dm4 := dm 4 (by omega) (by omega) (by omega)
  have dm5 := dm 5 (by omega) (by omega) (by omega)
  have dm6 := dm 6 (by omega) (by omega) (by omega)
  have dm7 := dm 7 (by omega) (by omega) (by omega)
  have dm8 := dm 8 (by omega) (by omega) (by omega)
  have dm9 := dm 9 (by omega) (by omega) (by omega)
  have dm10 := dm 10 (by omega) (by omega) (by omega)
  have dm11 := dm 11 (by omega) (by omega) (by omega)
  have dm12 := dm 12 (by omega) (by omega) (by omega)
  have dm13 := dm 13 (by omega) (by omega) (by omega)
  refine ⟨rsh_eq rfl rfl rfl hs0, hdj, fun k hk => ?_, ?_, ?_⟩
  · have q := hc k hk
    simp only [rcl, hp_I_sI, hp_J_sI, dm1, dm2, dm3, dm4, dm5, dm6, dm7, dm8, dm9, dm10, dm11, dm12, dm13, false_and, if_false] at q ⊢
    exact q
  · have q := hn
    simp only [rnm, hp_I_sI] at q ⊢
    simpa using q
  · intro i p hip
    have q := hp i p hip
    simp only [hp_I_sI, dm11, dm12, dm13, false_and, if_false]
    exact q
theorem rp_1 {S : hp_T} {m0 : Nat} {ad : Nat → Nat} {M : ab_T} (h : RepR S m0 ad M) (c v : Nat) (hv : v ≤ 65) : RepR (hp_sI S (ad 1) c (pcd v)) m0 ad (mn M 0 c v) := by
  obtain ⟨hs, hdj, hc, hn, hp⟩ := h
  have hs0 := hs
  obtain ⟨sk0, sr1, sr2, sr3, sr4, sr5, sr6, sr7, sr8, sr9, sr10, sr11, sr12, sr13, sk1, sk2, sk3, sk4, sk5, sk6, sk7, sk8, sk9, sk10, sk11, sk12, sk13, sn1, sn2, sn3, sn4, sn5, sn6, sn7, sn8, sn9, sn10, sn11, sn12, sn13⟩ := hs
  have dj : ∀ f g, 1 ≤ f → f ≤ 13 → 1 ≤ g → g ≤ 13 → f ≠ g → ¬ ad f = ad g := fun f g a1 a2 a3 a4 a5 q => a5 (hdj f g a1 a2 a3 a4 q)
  have e2 : (ad 2 = ad 1) = False := eq_false (dj 2 1 (by omega) (by omega) (by omega) (by omega) (by omega))
  have e3 : (ad 3 = ad 1) = False := eq_false (dj 3 1 (by omega) (by omega) (by omega) (by omega) (by omega))
  have e4 : (ad 4 = ad 1) = False := eq_false (dj 4 1 (by omega) (by omega) (by omega) (by omega) (by omega))
  have e5 : (ad 5 = ad 1) = False := eq_false (dj 5 1 (by omega) (by omega) (by omega) (by omega) (by omega))
  have e6 : (ad 6 = ad 1) = False := eq_false (dj 6 1 (by omega) (by omega) (by omega) (by omega) (by omega))
  have e7 : (ad 7 = ad 1) = False := eq_false (dj 7 1 (by omega) (by omega) (by omega) (by omega) (by omega))
  have e8 : (ad 8 = ad 1) = False := eq_false (dj 8 1 (by omega) (by omega) (by omega) (by omega) (by omega))
  have e9 : (ad 9 = ad 1) = False := eq_false (dj 9 1 (by omega) (by omega) (by omega) (by omega) (by omega))
  have e10 : (ad 10 = ad 1) = False := eq_false (dj 10 1 (by omega) (by omega) (by omega) (by omega) (by omega))
  have e11 : (ad 11 = ad 1) = False := eq_false (dj 11 1 (by omega) (by omega) (by omega) (by omega) (by omega))
  have e12 : (ad 12 = ad 1) = False := eq_false (dj 12 1 (by omega) (by omega) (by omega) (by omega) (by omega))
  have e13 : (ad 13 = ad 1) = False := eq_false (dj 13 1 (by omega) (by omega) (by omega) (by omega) (by omega))
  have em : (m0 = ad 1) = False := eq_false (fun q => by rw [← q, sk0] at sk1; omega)
  refine ⟨rsh_eq rfl rfl rfl hs0, hdj, fun k hk => ?_, ?_, ?_⟩
  · have q := hc k hk
    by_cases e : k = c
    · subst e
      simp only [rcl, hp_I_sI, hp_J_sI, hp_I_sJ, hp_J_sJ, pa, wt, lm, rs, hd, op, tg, tm, sh, e2, e3, e4, e5, e6, e7, e8, e9, e10, e11, e12, e13, false_and, if_false, and_self, if_true, true_and, and_true, Nat.reduceEqDiff, mn, mj] at q ⊢
      exact ⟨hv, q.2.2⟩
    · simp only [rcl, hp_I_sI, hp_J_sI, hp_I_sJ, hp_J_sJ, pa, wt, lm, rs, hd, op, tg, tm, sh, e2, e3, e4, e5, e6, e7, e8, e9, e10, e11, e12, e13, e, false_and, and_false, if_false, mn, mj] at q ⊢
      exact q
  · have q := hn
    simp only [rnm, hp_I_sI, hp_I_sJ, em, false_and, if_false] at q ⊢
    exact q
  · intro i p hip
    have q := hp i p hip
    simp only [hp_I_sI, hp_I_sJ, e11, e12, e13, false_and, if_false]
    exact q
theorem rp_2 {S : hp_T} {m0 : Nat} {ad : Nat → Nat} {M : ab_T} (h : RepR S m0 ad M) (c v : Nat) : RepR (hp_sI S (ad 2) c (nI v)) m0 ad (mn M 1 c v) := by
  obtain ⟨hs, hdj, hc, hn, hp⟩ := h
  have hs0 := hs
  obtain ⟨sk0, sr1, sr2, sr3, sr4, sr5, sr6, sr7, sr8, sr9, sr10, sr11, sr12, sr13, sk1, sk2, sk3, sk4, sk5, sk6, sk7, sk8, sk9, sk10, sk11, sk12, sk13, sn1, sn2, sn3, sn4, sn5, sn6, sn7, sn8, sn9, sn10, sn11, sn12, sn13⟩ := hs
  have dj : ∀ f g, 1 ≤ f → f ≤ 13 → 1 ≤ g → g ≤ 13 → f ≠ g → ¬ ad f = ad g := fun f g a1 a2 a3 a4 a5 q => a5 (hdj f g a1 a2 a3 a4 q)
  have e1 : (ad 1 = ad 2) = False := eq_false (dj 1 2 (by omega) (by omega) (by omega) (by omega) (by omega))
  have e3 : (ad 3 = ad 2) = False := eq_false (dj 3 2 (by omega) (by omega) (by omega) (by omega) (by omega))
  have e4 : (ad 4 = ad 2) = False := eq_false (dj 4 2 (by omega) (by omega) (by omega) (by omega) (by omega))
  have e5 : (ad 5 = ad 2) = False := eq_false (dj 5 2 (by omega) (by omega) (by omega) (by omega) (by omega))
  have e6 : (ad 6 = ad 2) = False := eq_false (dj 6 2 (by omega) (by omega) (by omega) (by omega) (by omega))
  have e7 : (ad 7 = ad 2) = False := eq_false (dj 7 2 (by omega) (by omega) (by omega) (by omega) (by omega))
  have e8 : (ad 8 = ad 2) = False := eq_false (dj 8 2 (by omega) (by omega) (by omega) (by omega) (by omega))
  have e9 : (ad 9 = ad 2) = False := eq_false (dj 9 2 (by omega) (by omega) (by omega) (by omega) (by omega))
  have e10 : (ad 10 = ad 2) = False := eq_false (dj 10 2 (by omega) (by omega) (by omega) (by omega) (by omega))
  have e11 : (ad 11 = ad 2) = False := eq_false (dj 11 2 (by omega) (by omega) (by omega) (by omega) (by omega))
  have e12 : (ad 12 = ad 2) = False := eq_false (dj 12 2 (by omega) (by omega) (by omega) (by omega) (by omega))
  have e13 : (ad 13 = ad 2) = False := eq_false (dj 13 2 (by omega) (by omega) (by omega) (by omega) (by omega))
  have em : (m0 = ad 2) = False := eq_false (fun q => by rw [← q, sk0] at sk2; omega)
  refine ⟨rsh_eq rfl rfl rfl hs0, hdj, fun k hk => ?_, ?_, ?_⟩
  · have q := hc k hk
    by_cases e : k = c
    · subst e
      simp only [rcl, hp_I_sI, hp_J_sI, hp_I_sJ, hp_J_sJ, pa, wt, lm, rs, hd, op, tg, tm, sh, e1, e3, e4, e5, e6, e7, e8, e9, e10, e11, e12, e13, false_and, if_false, and_self, if_true, true_and, and_true, Nat.reduceEqDiff, mn, mj] at q ⊢
      obtain ⟨q0, q1, q2, q3, q4, q5, q6, q7, q8, q9⟩ := q
      refine ⟨q0, q1, q3, q4, q5, q6, q7, q8, q9⟩
    · simp only [rcl, hp_I_sI, hp_J_sI, hp_I_sJ, hp_J_sJ, pa, wt, lm, rs, hd, op, tg, tm, sh, e1, e3, e4, e5, e6, e7, e8, e9, e10, e11, e12, e13, e, false_and, and_false, if_false, mn, mj] at q ⊢
      exact q
  · have q := hn
    simp only [rnm, hp_I_sI, hp_I_sJ, em, false_and, if_false] at q ⊢
    exact q
  · intro i p hip
    have q := hp i p hip
    simp only [hp_I_sI, hp_I_sJ, e11, e12, e13, false_and, if_false]
    exact q
theorem rp_3 {S : hp_T} {m0 : Nat} {ad : Nat → Nat} {M : ab_T} (h : RepR S m0 ad M) (c v : Nat) : RepR (hp_sI S (ad 3) c (nI v)) m0 ad (mn M 2 c v) := by
  obtain ⟨hs, hdj, hc, hn, hp⟩ := h
  have hs0 := hs
  obtain ⟨sk0, sr1, sr2, sr3, sr4, sr5, sr6, sr7, sr8, sr9, sr10, sr11, sr12, sr13, sk1, sk2, sk3, sk4, sk5, sk6, sk7, sk8, sk9, sk10, sk11, sk12, sk13, sn1, sn2, sn3, sn4, sn5, sn6, sn7, sn8, sn9, sn10, sn11, sn12, sn13⟩ := hs
  have dj : ∀ f g, 1 ≤ f → f ≤ 13 → 1 ≤ g → g ≤ 13 → f ≠ g → ¬ ad f = ad g := fun f g a1 a2 a3 a4 a5 q => a5 (hdj f g a1 a2 a3 a4 q)
  have e1 : (ad 1 = ad 3) = False := eq_false (dj 1 3 (by omega) (by omega) (by omega) (by omega) (by omega))
  have e2 : (ad 2 = ad 3) = False := eq_false (dj 2 3 (by omega) (by omega) (by omega) (by omega) (by omega))
  have e4 : (ad 4 = ad 3) = False := eq_false (dj 4 3 (by omega) (by omega) (by omega) (by omega) (by omega))
  have e5 : (ad 5 = ad 3) = False := eq_false (dj 5 3 (by omega) (by omega) (by omega) (by omega) (by omega))
  have e6 : (ad 6 = ad 3) = False := eq_false (dj 6 3 (by omega) (by omega) (by omega) (by omega) (by omega))
  have e7 : (ad 7 = ad 3) = False := eq_false (dj 7 3 (by omega) (by omega) (by omega) (by omega) (by omega))
  have e8 : (ad 8 = ad 3) = False := eq_false (dj 8 3 (by omega) (by omega) (by omega) (by omega) (by omega))
  have e9 : (ad 9 = ad 3) = False := eq_false (dj 9 3 (by omega) (by omega) (by omega) (by omega) (by omega))
  have e10 : (ad 10 = ad 3) = False := eq_false (dj 10 3 (by omega) (by omega) (by omega) (by omega) (by omega))
  have e11 : (ad 11 = ad 3) = False := eq_false (dj 11 3 (by omega) (by omega) (by omega) (by omega) (by omega))
  have e12 : (ad 12 = ad 3) = False := eq_false (dj 12 3 (by omega) (by omega) (by omega) (by omega) (by omega))
  have e13 : (ad 13 = ad 3) = False := eq_false (dj 13 3 (by omega) (by omega) (by omega) (by omega) (by omega))
  have em : (m0 = ad 3) = False := eq_false (fun q => by rw [← q, sk0] at sk3; omega)
  refine ⟨rsh_eq rfl rfl rfl hs0, hdj, fun k hk => ?_, ?_, ?_⟩
  · have q := hc k hk
    by_cases e : k = c
    · subst e
      simp only [rcl, hp_I_sI, hp_J_sI, hp_I_sJ, hp_J_sJ, pa, wt, lm, rs, hd, op, tg, tm, sh, e1, e2, e4, e5, e6, e7, e8, e9, e10, e11, e12, e13, false_and, if_false, and_self, if_true, true_and, and_true, Nat.reduceEqDiff, mn, mj] at q ⊢
      obtain ⟨q0, q1, q2, q3, q4, q5, q6, q7, q8, q9⟩ := q
      refine ⟨q0, q1, q2, q4, q5, q6, q7, q8, q9⟩
    · simp only [rcl, hp_I_sI, hp_J_sI, hp_I_sJ, hp_J_sJ, pa, wt, lm, rs, hd, op, tg, tm, sh, e1, e2, e4, e5, e6, e7, e8, e9, e10, e11, e12, e13, e, false_and, and_false, if_false, mn, mj] at q ⊢
      exact q
  · have q := hn
    simp only [rnm, hp_I_sI, hp_I_sJ, em, false_and, if_false] at q ⊢
    exact q
  · intro i p hip
    have q := hp i p hip
    simp only [hp_I_sI, hp_I_sJ, e11, e12, e13, false_and, if_false]
    exact q
theorem rp_5 {S : hp_T} {m0 : Nat} {ad : Nat → Nat} {M : ab_T} (h : RepR S m0 ad M) (c v : Nat) : RepR (hp_sI S (ad 5) c (nI v)) m0 ad (mn M 3 c v) := by
  obtain ⟨hs, hdj, hc, hn, hp⟩ := h
  have hs0 := hs
  obtain ⟨sk0, sr1, sr2, sr3, sr4, sr5, sr6, sr7, sr8, sr9, sr10, sr11, sr12, sr13, sk1, sk2, sk3, sk4, sk5, sk6, sk7, sk8, sk9, sk10, sk11, sk12, sk13, sn1, sn2, sn3, sn4, sn5, sn6, sn7, sn8, sn9, sn10, sn11, sn12, sn13⟩ := hs
  have dj : ∀ f g, 1 ≤ f → f ≤ 13 → 1 ≤ g → g ≤ 13 → f ≠ g → ¬ ad f = ad g := fun f g a1 a2 a3 a4 a5 q => a5 (hdj f g a1 a2 a3 a4 q)
  have e1 : (ad 1 = ad 5) = False := eq_false (dj 1 5 (by omega) (by omega) (by omega) (by omega) (by omega))
  have e2 : (ad 2 = ad 5) = False := eq_false (dj 2 5 (by omega) (by omega) (by omega) (by omega) (by omega))
  have e3 : (ad 3 = ad 5) = False := eq_false (dj 3 5 (by omega) (by omega) (by omega) (by omega) (by omega))
  have e4 : (ad 4 = ad 5) = False := eq_false (dj 4 5 (by omega) (by omega) (by omega) (by omega) (by omega))
  have e6 : (ad 6 = ad 5) = False := eq_false (dj 6 5 (by omega) (by omega) (by omega) (by omega) (by omega))
  have e7 : (ad 7 = ad 5) = False := eq_false (dj 7 5 (by omega) (by omega) (by omega) (by omega) (by omega))
  have e8 : (ad 8 = ad 5) = False := eq_false (dj 8 5 (by omega) (by omega) (by omega) (by omega) (by omega))
  have e9 : (ad 9 = ad 5) = False := eq_false (dj 9 5 (by omega) (by omega) (by omega) (by omega) (by omega))
  have e10 : (ad 10 = ad 5) = False := eq_false (dj 10 5 (by omega) (by omega) (by omega) (by omega) (by omega))
  have e11 : (ad 11 = ad 5) = False := eq_false (dj 11 5 (by omega) (by omega) (by omega) (by omega) (by omega))
  have e12 : (ad 12 = ad 5) = False := eq_false (dj 12 5 (by omega) (by omega) (by omega) (by omega) (by omega))
  have e13 : (ad 13 = ad 5) = False := eq_false (dj 13 5 (by omega) (by omega) (by omega) (by omega) (by omega))
  have em : (m0 = ad 5) = False := eq_false (fun q => by rw [← q, sk0] at sk5; omega)
  refine ⟨rsh_eq rfl rfl rfl hs0, hdj, fun k hk => ?_, ?_, ?_⟩
  · have q := hc k hk
    by_cases e : k = c
    · subst e
      simp only [rcl, hp_I_sI, hp_J_sI, hp_I_sJ, hp_J_sJ, pa, wt, lm, rs, hd, op, tg, tm, sh, e1, e2, e3, e4, e6, e7, e8, e9, e10, e11, e12, e13, false_and, if_false, and_self, if_true, true_and, and_true, Nat.reduceEqDiff, mn, mj] at q ⊢
      obtain ⟨q0, q1, q2, q3, q4, q5, q6, q7, q8, q9⟩ := q
      refine ⟨q0, q1, q2, q3, q4, q6, q7, q8, q9⟩
    · simp only [rcl, hp_I_sI, hp_J_sI, hp_I_sJ, hp_J_sJ, pa, wt, lm, rs, hd, op, tg, tm, sh, e1, e2, e3, e4, e6, e7, e8, e9, e10, e11, e12, e13, e, false_and, and_false, if_false, mn, mj] at q ⊢
      exact q
  · have q := hn
    simp only [rnm, hp_I_sI, hp_I_sJ, em, false_and, if_false] at q ⊢
    exact q
  · intro i p hip
    have q := hp i p hip
    simp only [hp_I_sI, hp_I_sJ, e11, e12, e13, false_and, if_false]
    exact q
theorem rp_8 {S : hp_T} {m0 : Nat} {ad : Nat → Nat} {M : ab_T} (h : RepR S m0 ad M) (c v : Nat) : RepR (hp_sI S (ad 8) c (nI v)) m0 ad (mn M 4 c v) := by
  obtain ⟨hs, hdj, hc, hn, hp⟩ := h
  have hs0 := hs
  obtain ⟨sk0, sr1, sr2, sr3, sr4, sr5, sr6, sr7, sr8, sr9, sr10, sr11, sr12, sr13, sk1, sk2, sk3, sk4, sk5, sk6, sk7, sk8, sk9, sk10, sk11, sk12, sk13, sn1, sn2, sn3, sn4, sn5, sn6, sn7, sn8, sn9, sn10, sn11, sn12, sn13⟩ := hs
  have dj : ∀ f g, 1 ≤ f → f ≤ 13 → 1 ≤ g → g ≤ 13 → f ≠ g → ¬ ad f = ad g := fun f g a1 a2 a3 a4 a5 q => a5 (hdj f g a1 a2 a3 a4 q)
  have e1 : (ad 1 = ad 8) = False := eq_false (dj 1 8 (by omega) (by omega) (by omega) (by omega) (by omega))
  have e2 : (ad 2 = ad 8) = False := eq_false (dj 2 8 (by omega) (by omega) (by omega) (by omega) (by omega))
  have e3 : (ad 3 = ad 8) = False := eq_false (dj 3 8 (by omega) (by omega) (by omega) (by omega) (by omega))
  have e4 : (ad 4 = ad 8) = False := eq_false (dj 4 8 (by omega) (by omega) (by omega) (by omega) (by omega))
  have e5 : (ad 5 = ad 8) = False := eq_false (dj 5 8 (by omega) (by omega) (by omega) (by omega) (by omega))
  have e6 : (ad 6 = ad 8) = False := eq_false (dj 6 8 (by omega) (by omega) (by omega) (by omega) (by omega))
  have e7 : (ad 7 = ad 8) = False := eq_false (dj 7 8 (by omega) (by omega) (by omega) (by omega) (by omega))
  have e9 : (ad 9 = ad 8) = False := eq_false (dj 9 8 (by omega) (by omega) (by omega) (by omega) (by omega))
  have e10 : (ad 10 = ad 8) = False := eq_false (dj 10 8 (by omega) (by omega) (by omega) (by omega) (by omega))
  have e11 : (ad 11 = ad 8) = False := eq_false (dj 11 8 (by omega) (by omega) (by omega) (by omega) (by omega))
  have e12 : (ad 12 = ad 8) = False := eq_false (dj 12 8 (by omega) (by omega) (by omega) (by omega) (by omega))
  have e13 : (ad 13 = ad 8) = False := eq_false (dj 13 8 (by omega) (by omega) (by omega) (by omega) (by omega))
  have em : (m0 = ad 8) = False := eq_false (fun q => by rw [← q, sk0] at sk8; omega)
  refine ⟨rsh_eq rfl rfl rfl hs0, hdj, fun k hk => ?_, ?_, ?_⟩
  · have q := hc k hk
    by_cases e : k = c
    · subst e
      simp only [rcl, hp_I_sI, hp_J_sI, hp_I_sJ, hp_J_sJ, pa, wt, lm, rs, hd, op, tg, tm, sh, e1, e2, e3, e4, e5, e6, e7, e9, e10, e11, e12, e13, false_and, if_false, and_self, if_true, true_and, and_true, Nat.reduceEqDiff, mn, mj] at q ⊢
      obtain ⟨q0, q1, q2, q3, q4, q5, q6, q7, q8, q9⟩ := q
      refine ⟨q0, q1, q2, q3, q4, q5, q6, q7, q9⟩
    · simp only [rcl, hp_I_sI, hp_J_sI, hp_I_sJ, hp_J_sJ, pa, wt, lm, rs, hd, op, tg, tm, sh, e1, e2, e3, e4, e5, e6, e7, e9, e10, e11, e12, e13, e, false_and, and_false, if_false, mn, mj] at q ⊢
      exact q
  · have q := hn
    simp only [rnm, hp_I_sI, hp_I_sJ, em, false_and, if_false] at q ⊢
    exact q
  · intro i p hip
    have q := hp i p hip
    simp only [hp_I_sI, hp_I_sJ, e11, e12, e13, false_and, if_false]
    exact q
theorem rp_9 {S : hp_T} {m0 : Nat} {ad : Nat → Nat} {M : ab_T} (h : RepR S m0 ad M) (c v : Nat) : RepR (hp_sI S (ad 9) c (nI v)) m0 ad (mn M 5 c v) := by
  obtain ⟨hs, hdj, hc, hn, hp⟩ := h
  have hs0 := hs
  obtain ⟨sk0, sr1, sr2, sr3, sr4, sr5, sr6, sr7, sr8, sr9, sr10, sr11, sr12, sr13, sk1, sk2, sk3, sk4, sk5, sk6, sk7, sk8, sk9, sk10, sk11, sk12, sk13, sn1, sn2, sn3, sn4, sn5, sn6, sn7, sn8, sn9, sn10, sn11, sn12, sn13⟩ := hs
  have dj : ∀ f g, 1 ≤ f → f ≤ 13 → 1 ≤ g → g ≤ 13 → f ≠ g → ¬ ad f = ad g := fun f g a1 a2 a3 a4 a5 q => a5 (hdj f g a1 a2 a3 a4 q)
  have e1 : (ad 1 = ad 9) = False := eq_false (dj 1 9 (by omega) (by omega) (by omega) (by omega) (by omega))
  have e2 : (ad 2 = ad 9) = False := eq_false (dj 2 9 (by omega) (by omega) (by omega) (by omega) (by omega))
  have e3 : (ad 3 = ad 9) = False := eq_false (dj 3 9 (by omega) (by omega) (by omega) (by omega) (by omega))
  have e4 : (ad 4 = ad 9) = False := eq_false (dj 4 9 (by omega) (by omega) (by omega) (by omega) (by omega))
  have e5 : (ad 5 = ad 9) = False := eq_false (dj 5 9 (by omega) (by omega) (by omega) (by omega) (by omega))
  have e6 : (ad 6 = ad 9) = False := eq_false (dj 6 9 (by omega) (by omega) (by omega) (by omega) (by omega))
  have e7 : (ad 7 = ad 9) = False := eq_false (dj 7 9 (by omega) (by omega) (by omega) (by omega) (by omega))
  have e8 : (ad 8 = ad 9) = False := eq_false (dj 8 9 (by omega) (by omega) (by omega) (by omega) (by omega))
  have e10 : (ad 10 = ad 9) = False := eq_false (dj 10 9 (by omega) (by omega) (by omega) (by omega) (by omega))
  have e11 : (ad 11 = ad 9) = False := eq_false (dj 11 9 (by omega) (by omega) (by omega) (by omega) (by omega))
  have e12 : (ad 12 = ad 9) = False := eq_false (dj 12 9 (by omega) (by omega) (by omega) (by omega) (by omega))
  have e13 : (ad 13 = ad 9) = False := eq_false (dj 13 9 (by omega) (by omega) (by omega) (by omega) (by omega))
  have em : (m0 = ad 9) = False := eq_false (fun q => by rw [← q, sk0] at sk9; omega)
  refine ⟨rsh_eq rfl rfl rfl hs0, hdj, fun k hk => ?_, ?_, ?_⟩
  · have q := hc k hk
    by_cases e : k = c
    · subst e
      simp only [rcl, hp_I_sI, hp_J_sI, hp_I_sJ, hp_J_sJ, pa, wt, lm, rs, hd, op, tg, tm, sh, e1, e2, e3, e4, e5, e6, e7, e8, e10, e11, e12, e13, false_and, if_false, and_self, if_true, true_and, and_true, Nat.reduceEqDiff, mn, mj] at q ⊢
      obtain ⟨q0, q1, q2, q3, q4, q5, q6, q7, q8, q9⟩ := q
      refine ⟨q0, q1, q2, q3, q4, q5, q6, q7, q8⟩
    · simp only [rcl, hp_I_sI, hp_J_sI, hp_I_sJ, hp_J_sJ, pa, wt, lm, rs, hd, op, tg, tm, sh, e1, e2, e3, e4, e5, e6, e7, e8, e10, e11, e12, e13, e, false_and, and_false, if_false, mn, mj] at q ⊢
      exact q
  · have q := hn
    simp only [rnm, hp_I_sI, hp_I_sJ, em, false_and, if_false] at q ⊢
    exact q
  · intro i p hip
    have q := hp i p hip
    simp only [hp_I_sI, hp_I_sJ, e11, e12, e13, false_and, if_false]
    exact q
theorem rp_4 {S : hp_T} {m0 : Nat} {ad : Nat → Nat} {M : ab_T} (h : RepR S m0 ad M) (c : Nat) (v : Int64) : RepR (hp_sJ S (ad 4) c v) m0 ad (mj M 0 c v) := by
  obtain ⟨hs, hdj, hc, hn, hp⟩ := h
  have hs0 := hs
  obtain ⟨sk0, sr1, sr2, sr3, sr4, sr5, sr6, sr7, sr8, sr9, sr10, sr11, sr12, sr13, sk1, sk2, sk3, sk4, sk5, sk6, sk7, sk8, sk9, sk10, sk11, sk12, sk13, sn1, sn2, sn3, sn4, sn5, sn6, sn7, sn8, sn9, sn10, sn11, sn12, sn13⟩ := hs
  have dj : ∀ f g, 1 ≤ f → f ≤ 13 → 1 ≤ g → g ≤ 13 → f ≠ g → ¬ ad f = ad g := fun f g a1 a2 a3 a4 a5 q => a5 (hdj f g a1 a2 a3 a4 q)
  have e1 : (ad 1 = ad 4) = False := eq_false (dj 1 4 (by omega) (by omega) (by omega) (by omega) (by omega))
  have e2 : (ad 2 = ad 4) = False := eq_false (dj 2 4 (by omega) (by omega) (by omega) (by omega) (by omega))
  have e3 : (ad 3 = ad 4) = False := eq_false (dj 3 4 (by omega) (by omega) (by omega) (by omega) (by omega))
  have e5 : (ad 5 = ad 4) = False := eq_false (dj 5 4 (by omega) (by omega) (by omega) (by omega) (by omega))
  have e6 : (ad 6 = ad 4) = False := eq_false (dj 6 4 (by omega) (by omega) (by omega) (by omega) (by omega))
  have e7 : (ad 7 = ad 4) = False := eq_false (dj 7 4 (by omega) (by omega) (by omega) (by omega) (by omega))
  have e8 : (ad 8 = ad 4) = False := eq_false (dj 8 4 (by omega) (by omega) (by omega) (by omega) (by omega))
  have e9 : (ad 9 = ad 4) = False := eq_false (dj 9 4 (by omega) (by omega) (by omega) (by omega) (by omega))
  have e10 : (ad 10 = ad 4) = False := eq_false (dj 10 4 (by omega) (by omega) (by omega) (by omega) (by omega))
  have e11 : (ad 11 = ad 4) = False := eq_false (dj 11 4 (by omega) (by omega) (by omega) (by omega) (by omega))
  have e12 : (ad 12 = ad 4) = False := eq_false (dj 12 4 (by omega) (by omega) (by omega) (by omega) (by omega))
  have e13 : (ad 13 = ad 4) = False := eq_false (dj 13 4 (by omega) (by omega) (by omega) (by omega) (by omega))
  have em : (m0 = ad 4) = False := eq_false (fun q => by rw [← q, sk0] at sk4; omega)
  refine ⟨rsh_eq rfl rfl rfl hs0, hdj, fun k hk => ?_, ?_, ?_⟩
  · have q := hc k hk
    by_cases e : k = c
    · subst e
      simp only [rcl, hp_I_sI, hp_J_sI, hp_I_sJ, hp_J_sJ, pa, wt, lm, rs, hd, op, tg, tm, sh, e1, e2, e3, e5, e6, e7, e8, e9, e10, e11, e12, e13, false_and, if_false, and_self, if_true, true_and, and_true, Nat.reduceEqDiff, mn, mj] at q ⊢
      obtain ⟨q0, q1, q2, q3, q4, q5, q6, q7, q8, q9⟩ := q
      refine ⟨q0, q1, q2, q3, q5, q6, q7, q8, q9⟩
    · simp only [rcl, hp_I_sI, hp_J_sI, hp_I_sJ, hp_J_sJ, pa, wt, lm, rs, hd, op, tg, tm, sh, e1, e2, e3, e5, e6, e7, e8, e9, e10, e11, e12, e13, e, false_and, and_false, if_false, mn, mj] at q ⊢
      exact q
  · have q := hn
    simp only [rnm, hp_I_sI, hp_I_sJ, em, false_and, if_false] at q ⊢
    exact q
  · intro i p hip
    have q := hp i p hip
    simp only [hp_I_sI, hp_I_sJ, e11, e12, e13, false_and, if_false]
    exact q
theorem rp_6 {S : hp_T} {m0 : Nat} {ad : Nat → Nat} {M : ab_T} (h : RepR S m0 ad M) (c : Nat) (v : Int64) : RepR (hp_sJ S (ad 6) c v) m0 ad (mj M 1 c v) := by
  obtain ⟨hs, hdj, hc, hn, hp⟩ := h
  have hs0 := hs
  obtain ⟨sk0, sr1, sr2, sr3, sr4, sr5, sr6, sr7, sr8, sr9, sr10, sr11, sr12, sr13, sk1, sk2, sk3, sk4, sk5, sk6, sk7, sk8, sk9, sk10, sk11, sk12, sk13, sn1, sn2, sn3, sn4, sn5, sn6, sn7, sn8, sn9, sn10, sn11, sn12, sn13⟩ := hs
  have dj : ∀ f g, 1 ≤ f → f ≤ 13 → 1 ≤ g → g ≤ 13 → f ≠ g → ¬ ad f = ad g := fun f g a1 a2 a3 a4 a5 q => a5 (hdj f g a1 a2 a3 a4 q)
  have e1 : (ad 1 = ad 6) = False := eq_false (dj 1 6 (by omega) (by omega) (by omega) (by omega) (by omega))
  have e2 : (ad 2 = ad 6) = False := eq_false (dj 2 6 (by omega) (by omega) (by omega) (by omega) (by omega))
  have e3 : (ad 3 = ad 6) = False := eq_false (dj 3 6 (by omega) (by omega) (by omega) (by omega) (by omega))
  have e4 : (ad 4 = ad 6) = False := eq_false (dj 4 6 (by omega) (by omega) (by omega) (by omega) (by omega))
  have e5 : (ad 5 = ad 6) = False := eq_false (dj 5 6 (by omega) (by omega) (by omega) (by omega) (by omega))
  have e7 : (ad 7 = ad 6) = False := eq_false (dj 7 6 (by omega) (by omega) (by omega) (by omega) (by omega))
  have e8 : (ad 8 = ad 6) = False := eq_false (dj 8 6 (by omega) (by omega) (by omega) (by omega) (by omega))
  have e9 : (ad 9 = ad 6) = False := eq_false (dj 9 6 (by omega) (by omega) (by omega) (by omega) (by omega))
  have e10 : (ad 10 = ad 6) = False := eq_false (dj 10 6 (by omega) (by omega) (by omega) (by omega) (by omega))
  have e11 : (ad 11 = ad 6) = False := eq_false (dj 11 6 (by omega) (by omega) (by omega) (by omega) (by omega))
  have e12 : (ad 12 = ad 6) = False := eq_false (dj 12 6 (by omega) (by omega) (by omega) (by omega) (by omega))
  have e13 : (ad 13 = ad 6) = False := eq_false (dj 13 6 (by omega) (by omega) (by omega) (by omega) (by omega))
  have em : (m0 = ad 6) = False := eq_false (fun q => by rw [← q, sk0] at sk6; omega)
  refine ⟨rsh_eq rfl rfl rfl hs0, hdj, fun k hk => ?_, ?_, ?_⟩
  · have q := hc k hk
    by_cases e : k = c
    · subst e
      simp only [rcl, hp_I_sI, hp_J_sI, hp_I_sJ, hp_J_sJ, pa, wt, lm, rs, hd, op, tg, tm, sh, e1, e2, e3, e4, e5, e7, e8, e9, e10, e11, e12, e13, false_and, if_false, and_self, if_true, true_and, and_true, Nat.reduceEqDiff, mn, mj] at q ⊢
      obtain ⟨q0, q1, q2, q3, q4, q5, q6, q7, q8, q9⟩ := q
      refine ⟨q0, q1, q2, q3, q4, q5, q7, q8, q9⟩
    · simp only [rcl, hp_I_sI, hp_J_sI, hp_I_sJ, hp_J_sJ, pa, wt, lm, rs, hd, op, tg, tm, sh, e1, e2, e3, e4, e5, e7, e8, e9, e10, e11, e12, e13, e, false_and, and_false, if_false, mn, mj] at q ⊢
      exact q
  · have q := hn
    simp only [rnm, hp_I_sI, hp_I_sJ, em, false_and, if_false] at q ⊢
    exact q
  · intro i p hip
    have q := hp i p hip
    simp only [hp_I_sI, hp_I_sJ, e11, e12, e13, false_and, if_false]
    exact q
theorem rp_7 {S : hp_T} {m0 : Nat} {ad : Nat → Nat} {M : ab_T} (h : RepR S m0 ad M) (c : Nat) (v : Int64) : RepR (hp_sJ S (ad 7) c v) m0 ad (mj M 2 c v) := by
  obtain ⟨hs, hdj, hc, hn, hp⟩ := h
  have hs0 := hs
  obtain ⟨sk0, sr1, sr2, sr3, sr4, sr5, sr6, sr7, sr8, sr9, sr10, sr11, sr12, sr13, sk1, sk2, sk3, sk4, sk5, sk6, sk7, sk8, sk9, sk10, sk11, sk12, sk13, sn1, sn2, sn3, sn4, sn5, sn6, sn7, sn8, sn9, sn10, sn11, sn12, sn13⟩ := hs
  have dj : ∀ f g, 1 ≤ f → f ≤ 13 → 1 ≤ g → g ≤ 13 → f ≠ g → ¬ ad f = ad g := fun f g a1 a2 a3 a4 a5 q => a5 (hdj f g a1 a2 a3 a4 q)
  have e1 : (ad 1 = ad 7) = False := eq_false (dj 1 7 (by omega) (by omega) (by omega) (by omega) (by omega))
  have e2 : (ad 2 = ad 7) = False := eq_false (dj 2 7 (by omega) (by omega) (by omega) (by omega) (by omega))
  have e3 : (ad 3 = ad 7) = False := eq_false (dj 3 7 (by omega) (by omega) (by omega) (by omega) (by omega))
  have e4 : (ad 4 = ad 7) = False := eq_false (dj 4 7 (by omega) (by omega) (by omega) (by omega) (by omega))
  have e5 : (ad 5 = ad 7) = False := eq_false (dj 5 7 (by omega) (by omega) (by omega) (by omega) (by omega))
  have e6 : (ad 6 = ad 7) = False := eq_false (dj 6 7 (by omega) (by omega) (by omega) (by omega) (by omega))
  have e8 : (ad 8 = ad 7) = False := eq_false (dj 8 7 (by omega) (by omega) (by omega) (by omega) (by omega))
  have e9 : (ad 9 = ad 7) = False := eq_false (dj 9 7 (by omega) (by omega) (by omega) (by omega) (by omega))
  have e10 : (ad 10 = ad 7) = False := eq_false (dj 10 7 (by omega) (by omega) (by omega) (by omega) (by omega))
  have e11 : (ad 11 = ad 7) = False := eq_false (dj 11 7 (by omega) (by omega) (by omega) (by omega) (by omega))
  have e12 : (ad 12 = ad 7) = False := eq_false (dj 12 7 (by omega) (by omega) (by omega) (by omega) (by omega))
  have e13 : (ad 13 = ad 7) = False := eq_false (dj 13 7 (by omega) (by omega) (by omega) (by omega) (by omega))
  have em : (m0 = ad 7) = False := eq_false (fun q => by rw [← q, sk0] at sk7; omega)
  refine ⟨rsh_eq rfl rfl rfl hs0, hdj, fun k hk => ?_, ?_, ?_⟩
  · have q := hc k hk
    by_cases e : k = c
    · subst e
      simp only [rcl, hp_I_sI, hp_J_sI, hp_I_sJ, hp_J_sJ, pa, wt, lm, rs, hd, op, tg, tm, sh, e1, e2, e3, e4, e5, e6, e8, e9, e10, e11, e12, e13, false_and, if_false, and_self, if_true, true_and, and_true, Nat.reduceEqDiff, mn, mj] at q ⊢
      obtain ⟨q0, q1, q2, q3, q4, q5, q6, q7, q8, q9⟩ := q
      refine ⟨q0, q1, q2, q3, q4, q5, q6, q8, q9⟩
    · simp only [rcl, hp_I_sI, hp_J_sI, hp_I_sJ, hp_J_sJ, pa, wt, lm, rs, hd, op, tg, tm, sh, e1, e2, e3, e4, e5, e6, e8, e9, e10, e11, e12, e13, e, false_and, and_false, if_false, mn, mj] at q ⊢
      exact q
  · have q := hn
    simp only [rnm, hp_I_sI, hp_I_sJ, em, false_and, if_false] at q ⊢
    exact q
  · intro i p hip
    have q := hp i p hip
    simp only [hp_I_sI, hp_I_sJ, e11, e12, e13, false_and, if_false]
    exact q
end M24
