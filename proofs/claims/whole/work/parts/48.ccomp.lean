/-! TWO SETTLINGS one after the other -/
section M48
/-- more packets, more classes to send from -/
theorem fix_mono {M M' : ab_T} {o1 o2 : Nat → Nat} (hr : rkd M) (hpa : ∀ c, pa M' c = pa M c) (hhd : ∀ c, c < 64 → hd M c = 0 → hd M' c = 0) (hpk : ∀ p ∈ pks M, ∃ q ∈ pks M', q.1 = p.1) (h1 : fix M o1) (h2 : fix M' o2) : ∀ c, c < 64 → o1 c = 1 → o2 c = 1 := by
  obtain ⟨rk, hrk⟩ := hr
  have hB : ∀ c, c < 64 → rk c ≤ ((List.range 64).map rk).sum := fun c hc => sum_ge (List.mem_map.mpr ⟨c, List.mem_range.mpr hc, rfl⟩)
  have key : ∀ d c, c < 64 → ((List.range 64).map rk).sum - rk c ≤ d → o1 c = 1 → o2 c = 1 := by
    intro d
    induction d with
    | zero =>
      intro c hc hd0 ho
      obtain ⟨a, ⟨p, hp, e⟩ | ⟨k, hk, he, hk1⟩⟩ := (h1 c hc).2.mp ho
      · obtain ⟨q, hq, e2⟩ := hpk p hp
        exact (h2 c hc).2.mpr ⟨hhd c hc a, Or.inl ⟨q, hq, e2.trans e⟩⟩
      · have h3 := hrk k hk (by omega)
        have h4 := hB k hk
        rw [he] at h3
        omega
    | succ d ih =>
      intro c hc hd0 ho
      obtain ⟨a, ⟨p, hp, e⟩ | ⟨k, hk, he, hk1⟩⟩ := (h1 c hc).2.mp ho
      · obtain ⟨q, hq, e2⟩ := hpk p hp
        exact (h2 c hc).2.mpr ⟨hhd c hc a, Or.inl ⟨q, hq, e2.trans e⟩⟩
      · refine (h2 c hc).2.mpr ⟨hhd c hc a, Or.inr ⟨k, hk, by rw [hpa]; exact he, ih k hk ?_ hk1⟩⟩
        have h3 := hrk k hk (by omega)
        have h4 := hB k hk
        rw [he] at h3
        omega
  exact fun c hc ho => key _ c hc (Nat.le_refl _) ho
theorem as_comp {M : ab_T} {o1 o2 : Nat → Nat} (h : ∀ c, c < 64 → o1 c = op M c ∨ o1 c = o2 c) : a_set (a_set M o1) o2 = a_set M o2 := by
  have e : ∀ c, (flp M o1 c = false ∧ flp (a_set M o1) o2 c = flp M o2 c) ∨ (flp (a_set M o1) o2 c = false ∧ flp M o1 c = flp M o2 c) := by
    intro c
    by_cases hc : c < 64
    · rcases h c hc with q | q
      · left
        have f1 : flp M o1 c = false := by
          unfold flp
          rw [q]
          by_cases z : op M c = 1
          · simp [z]
          · simp [z]
        refine ⟨f1, ?_⟩
        unfold flp
        rw [as_op M o1 hc, as_tg, f1, q]
        rfl
      · right
        refine ⟨?_, ?_⟩
        · unfold flp
          rw [as_op M o1 hc, q]
          by_cases z : o2 c = 1
          · simp [z]
          · simp [z]
        · unfold flp
          rw [q]
    · left
      unfold flp
      simp [hc]
  refine Prod.ext ?_ (Prod.ext ?_ rfl)
  · funext f c
    show (if f = 5 then (if c < 64 then o2 c else (a_set M o1).1 5 c) else if f = 3 ∧ flp (a_set M o1) o2 c = true then 0 else (a_set M o1).1 f c) = (if f = 5 then (if c < 64 then o2 c else M.1 5 c) else if f = 3 ∧ flp M o2 c = true then 0 else M.1 f c)
    by_cases h5 : f = 5
    · subst h5
      simp only [if_true]
      by_cases hc : c < 64
      · simp [hc]
      · simp only [hc, if_false]
        unfold a_set
        simp [hc]
    · simp only [h5, if_false]
      show (if f = 3 ∧ flp (a_set M o1) o2 c = true then 0 else if f = 5 then _ else if f = 3 ∧ flp M o1 c = true then 0 else M.1 f c) = _
      simp only [h5, if_false]
      rcases e c with ⟨e1, e2⟩ | ⟨e1, e2⟩
      · rw [e1, e2]
        simp
      · rw [e1, e2]
        simp
  · funext f c
    show (if f = 0 ∧ flp (a_set M o1) o2 c = true then tm M (pa M c) else (if f = 0 ∧ flp M o1 c = true then tm M (pa M c) else M.2.1 f c)) = (if f = 0 ∧ flp M o2 c = true then tm M (pa M c) else M.2.1 f c)
    rcases e c with ⟨e1, e2⟩ | ⟨e1, e2⟩
    · rw [e1, e2]
      simp
    · rw [e1, e2]
      simp
theorem stl_self {M : ab_T} (h : fix M (op M)) : stl M M := ⟨op M, h, (as_self M).symm⟩
/-- the packets stay, whatever is settled -/
theorem as_mP (M : ab_T) (P : List (Nat × Int32 × Nat)) (o : Nat → Nat) : a_set (mP M P) o = mP (a_set M o) P := rfl
theorem as_mD (M : ab_T) (d : Int32) (o : Nat → Nat) : a_set (mD M d) o = mD (a_set M o) d := rfl
/-- a settling of more packets behind a settling -/
theorem stl_more {M M1 M2 : ab_T} {P : List (Nat × Int32 × Nat)} (hr : rkd M) (h0 : ∀ c, c < 64 → op M c = 1 → ∀ o, fix M o → o c = 1) (hP : ∀ p ∈ pks M, p ∈ P) (h1 : stl M M1) (h2 : stl (mP M1 P) M2) (hop : ∀ c, c < 64 → op M c ≤ 1) : stl (mP M P) M2 := by
  obtain ⟨o1, f1, rfl⟩ := h1
  obtain ⟨o2, f2, rfl⟩ := h2
  have f3 : fix (mP M P) o2 := f2
  refine ⟨o2, f3, ?_⟩
  rw [← as_mP]
  refine as_comp (fun c hc => ?_)
  have m2 := fix_mono (M := M) (M' := mP M P) hr (fun _ => rfl) (fun _ _ q => q) (fun p hp => ⟨p, hP p hp, rfl⟩) f1 f3 c hc
  have b1 := (f1 c hc).1
  have b2 := (f3 c hc).1
  have b3 := hop c hc
  by_cases e : o1 c = 1
  · right; rw [e, m2 e]
  · left
    have e2 : ¬ op M c = 1 := fun q => e (h0 c hc q o1 f1)
    show o1 c = op M c
    omega
end M48
