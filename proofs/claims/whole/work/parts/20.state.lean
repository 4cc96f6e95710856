/-! THE STATE as a mathematical value, and what it is for the reference -/
section M20
/-- numbers of the classes (0 parent: 64 none, 65 gone; 1 weight, 2 limit, 3 rest, 4 held, 5 is it to send), their tags, times, shares; the packets in the order of their coming (class, id, length); dropped, turns, the latest turn's leaf, id, length -/
abbrev ab_T : Type := (Nat → Nat → Nat) × (Nat → Nat → Int64) × List (Nat × Int32 × Nat) × (Int32 × Nat × Int32 × Int32 × Int32)
def pa (M : ab_T) (c : Nat) : Nat := M.1 0 c
def wt (M : ab_T) (c : Nat) : Nat := M.1 1 c
def lm (M : ab_T) (c : Nat) : Nat := M.1 2 c
def rs (M : ab_T) (c : Nat) : Nat := M.1 3 c
def hd (M : ab_T) (c : Nat) : Nat := M.1 4 c
def op (M : ab_T) (c : Nat) : Nat := M.1 5 c
def tg (M : ab_T) (c : Nat) : Int64 := M.2.1 0 c
def tm (M : ab_T) (c : Nat) : Int64 := M.2.1 1 c
def sh (M : ab_T) (c : Nat) : Int64 := M.2.1 2 c
def pks (M : ab_T) : List (Nat × Int32 × Nat) := M.2.2.1
def drp (M : ab_T) : Int32 := M.2.2.2.1
def trn (M : ab_T) : Nat := M.2.2.2.2.1
def la0 (M : ab_T) : Int32 := M.2.2.2.2.2.1
def la1 (M : ab_T) : Int32 := M.2.2.2.2.2.2.1
def la2 (M : ab_T) : Int32 := M.2.2.2.2.2.2.2
/-- the packets of a class -/
def own (M : ab_T) (c : Nat) : List (Nat × Int32 × Nat) := (pks M).filter (fun p => p.1 == c)
/-- o says rightly of each class whether it is one to send from -/
def fix (M : ab_T) (o : Nat → Nat) : Prop := ∀ c, c < 64 → o c ≤ 1 ∧ (o c = 1 ↔ hd M c = 0 ∧ ((∃ p ∈ pks M, p.1 = c) ∨ ∃ k, k < 64 ∧ pa M k = c ∧ o k = 1))
def rkd (M : ab_T) : Prop := ∃ rk : Nat → Nat, ∀ c, c < 64 → pa M c < 64 → rk (pa M c) < rk c
theorem sum_ge {l : List Nat} {x : Nat} (h : x ∈ l) : x ≤ l.sum := by
  induction l with
  | nil => cases h
  | cons a l ih =>
    rw [List.sum_cons]
    rcases List.mem_cons.mp h with rfl | h
    · omega
    · have := ih h
      omega
theorem fix_unique {M : ab_T} {o1 o2 : Nat → Nat} (hr : rkd M) (h1 : fix M o1) (h2 : fix M o2) : ∀ c, c < 64 → o1 c = o2 c := by
  obtain ⟨rk, hrk⟩ := hr
  have hB : ∀ c, c < 64 → rk c ≤ ((List.range 64).map rk).sum := fun c hc => sum_ge (List.mem_map.mpr ⟨c, List.mem_range.mpr hc, rfl⟩)
  have key : ∀ d c, c < 64 → ((List.range 64).map rk).sum - rk c ≤ d → o1 c = o2 c := by
    intro d
    induction d with
    | zero =>
      intro c hc hd0
      have hno : ∀ k, k < 64 → ¬ pa M k = c := fun k hk he => by
        have h3 := hrk k hk (by omega)
        have h4 := hB k hk
        rw [he] at h3
        omega
      have e : o1 c = 1 ↔ o2 c = 1 := by
        rw [(h1 c hc).2, (h2 c hc).2]
        constructor
        · rintro ⟨a, b | ⟨k, hk, he, _⟩⟩
          · exact ⟨a, Or.inl b⟩
          · exact absurd he (hno k hk)
        · rintro ⟨a, b | ⟨k, hk, he, _⟩⟩
          · exact ⟨a, Or.inl b⟩
          · exact absurd he (hno k hk)
      have := (h1 c hc).1
      have := (h2 c hc).1
      omega
    | succ d ih =>
      intro c hc hd0
      have hkk : ∀ k, k < 64 → pa M k = c → o1 k = o2 k := fun k hk he => ih k hk (by
        have h3 := hrk k hk (by omega)
        rw [he] at h3
        have h4 := hB k hk
        omega)
      have e : o1 c = 1 ↔ o2 c = 1 := by
        rw [(h1 c hc).2, (h2 c hc).2]
        constructor
        · rintro ⟨a, b | ⟨k, hk, he, h⟩⟩
          · exact ⟨a, Or.inl b⟩
          · exact ⟨a, Or.inr ⟨k, hk, he, by rw [← hkk k hk he]; exact h⟩⟩
        · rintro ⟨a, b | ⟨k, hk, he, h⟩⟩
          · exact ⟨a, Or.inl b⟩
          · exact ⟨a, Or.inr ⟨k, hk, he, by rw [hkk k hk he]; exact h⟩⟩
      have := (h1 c hc).1
      have := (h2 c hc).1
      omega
  intro c hc
  exact key _ c hc (Nat.le_refl _)
/-- a class comes to be one to send from, and its parent's time is greater than its tag -/
def flp (M : ab_T) (o : Nat → Nat) (c : Nat) : Bool := decide (c < 64) && decide (0 < c) && decide (o c = 1) && decide (op M c = 0) && decide (tg M c < tm M (pa M c))
/-- the state with o as what is to send from -/
def a_set (M : ab_T) (o : Nat → Nat) : ab_T := (fun f c => if f = 5 then (if c < 64 then o c else M.1 5 c) else if f = 3 ∧ flp M o c = true then 0 else M.1 f c, fun f c => if f = 0 ∧ flp M o c = true then M.2.1 1 (pa M c) else M.2.1 f c, M.2.2)
theorem flp_congr {M : ab_T} {o1 o2 : Nat → Nat} (h : ∀ c, c < 64 → o1 c = o2 c) (c : Nat) : flp M o1 c = flp M o2 c := by
  unfold flp
  by_cases hc : c < 64
  · rw [h c hc]
  · simp [hc]
theorem a_set_congr {M : ab_T} {o1 o2 : Nat → Nat} (h : ∀ c, c < 64 → o1 c = o2 c) : a_set M o1 = a_set M o2 := by
  unfold a_set
  simp only [flp_congr h]
  congr 1
  funext f c
  by_cases hc : c < 64
  · simp [hc, h c hc]
  · simp [hc]
/-- the state behind a settling -/
def stl (M M' : ab_T) : Prop := ∃ o, fix M o ∧ M' = a_set M o
theorem stl_unique {M M1 M2 : ab_T} (hr : rkd M) (h1 : stl M M1) (h2 : stl M M2) : M1 = M2 := by
  obtain ⟨o1, f1, rfl⟩ := h1
  obtain ⟨o2, f2, rfl⟩ := h2
  exact a_set_congr (fix_unique hr f1 f2)
/-- the code of a parent -/
def pcd (p : Nat) : Int32 := if p < 64 then nI p else if p = 64 then -1 else -2
theorem pcd_gone {p : Nat} (h : p ≤ 65) : pcd p = -2 ↔ p = 65 := by
  unfold pcd
  by_cases h1 : p < 64
  · rw [if_pos h1]
    constructor
    · intro h2
      exact absurd (h2 ▸ nI_pos' (n := p) (by omega)) (by decide)
    · omega
  · rw [if_neg h1]
    by_cases h2 : p = 64
    · rw [if_pos h2]
      constructor
      · intro h3; exact absurd h3 (by decide)
      · omega
    · rw [if_neg h2]
      constructor
      · omega
      · intro _; rfl
theorem pcd_none {p : Nat} (h : p ≤ 65) : pcd p = -1 ↔ p = 64 := by
  unfold pcd
  by_cases h1 : p < 64
  · rw [if_pos h1]
    constructor
    · intro h2
      exact absurd (h2 ▸ nI_pos' (n := p) (by omega)) (by decide)
    · omega
  · rw [if_neg h1]
    by_cases h2 : p = 64
    · rw [if_pos h2]
      exact ⟨fun _ => h2, fun _ => rfl⟩
    · rw [if_neg h2]
      constructor
      · intro h3; exact absurd h3 (by decide)
      · exact fun h3 => absurd h3 h2
theorem pcd_is {p j : Nat} (hj : j < 64) : pcd p = nI j ↔ p = j := by
  unfold pcd
  by_cases h1 : p < 64
  · rw [if_pos h1]
    exact nI_eq (by omega) (by omega)
  · rw [if_neg h1]
    constructor
    · intro h2
      exfalso
      by_cases h3 : p = 64
      · rw [if_pos h3] at h2
        exact absurd (h2 ▸ nI_pos' (n := j) (by omega)) (by decide)
      · rw [if_neg h3] at h2
        exact absurd (h2 ▸ nI_pos' (n := j) (by omega)) (by decide)
    · omega
theorem pcd_lt {p : Nat} (h : p < 64) : pcd p = nI p := by
  unfold pcd
  rw [if_pos h]
/-- the reference's cells: the object m0, its arrays ad 1 .. ad 13 -/
def rsh (S : hp_T) (m0 : Nat) (ad : Nat → Nat) : Prop := hp_K S m0 = 5 ∧ hp_R S m0 1 = some (ad 1) ∧ hp_R S m0 2 = some (ad 2) ∧ hp_R S m0 3 = some (ad 3) ∧ hp_R S m0 4 = some (ad 4) ∧ hp_R S m0 5 = some (ad 5) ∧ hp_R S m0 6 = some (ad 6) ∧ hp_R S m0 7 = some (ad 7) ∧ hp_R S m0 8 = some (ad 8) ∧ hp_R S m0 9 = some (ad 9) ∧ hp_R S m0 10 = some (ad 10) ∧ hp_R S m0 11 = some (ad 11) ∧ hp_R S m0 12 = some (ad 12) ∧ hp_R S m0 13 = some (ad 13) ∧ hp_K S (ad 1) = 6 ∧ hp_K S (ad 2) = 6 ∧ hp_K S (ad 3) = 6 ∧ hp_K S (ad 4) = 7 ∧ hp_K S (ad 5) = 6 ∧ hp_K S (ad 6) = 7 ∧ hp_K S (ad 7) = 7 ∧ hp_K S (ad 8) = 6 ∧ hp_K S (ad 9) = 8 ∧ hp_K S (ad 10) = 8 ∧ hp_K S (ad 11) = 6 ∧ hp_K S (ad 12) = 6 ∧ hp_K S (ad 13) = 6 ∧ hp_N S (ad 1) = 64 ∧ hp_N S (ad 2) = 64 ∧ hp_N S (ad 3) = 64 ∧ hp_N S (ad 4) = 64 ∧ hp_N S (ad 5) = 64 ∧ hp_N S (ad 6) = 64 ∧ hp_N S (ad 7) = 64 ∧ hp_N S (ad 8) = 64 ∧ hp_N S (ad 9) = 64 ∧ hp_N S (ad 10) = 64 ∧ hp_N S (ad 11) = 2000 ∧ hp_N S (ad 12) = 2000 ∧ hp_N S (ad 13) = 2000
theorem rsh_eq {S S' : hp_T} {m0 : Nat} {ad : Nat → Nat} (h1 : hp_K S' = hp_K S) (h2 : hp_R S' = hp_R S) (h3 : hp_N S' = hp_N S) (h : rsh S m0 ad) : rsh S' m0 ad := by
  unfold rsh at h ⊢
  rw [h1, h2, h3]
  exact h
/-- its arrays are apart -/
def rdj (ad : Nat → Nat) : Prop := ∀ f g, 1 ≤ f → f ≤ 13 → 1 ≤ g → g ≤ 13 → ad f = ad g → f = g
/-- what it holds of a class -/
def rcl (S : hp_T) (ad : Nat → Nat) (M : ab_T) (c : Nat) : Prop := pa M c ≤ 65 ∧ hp_I S (ad 1) c = pcd (pa M c) ∧ hp_I S (ad 2) c = nI (wt M c) ∧ hp_I S (ad 3) c = nI (lm M c) ∧ hp_J S (ad 4) c = tg M c ∧ hp_I S (ad 5) c = nI (rs M c) ∧ hp_J S (ad 6) c = tm M c ∧ hp_J S (ad 7) c = sh M c ∧ hp_I S (ad 8) c = nI (hd M c) ∧ hp_I S (ad 9) c = nI (op M c)
/-- its numbers -/
def rnm (S : hp_T) (m0 : Nat) (M : ab_T) : Prop := (pks M).length ≤ 2000 ∧ hp_I S m0 14 = nI (pks M).length ∧ hp_I S m0 15 = drp M ∧ hp_I S m0 16 = nI (trn M) ∧ hp_I S m0 17 = la0 M ∧ hp_I S m0 18 = la1 M ∧ hp_I S m0 19 = la2 M
/-- its packets -/
def rpk (S : hp_T) (ad : Nat → Nat) (M : ab_T) : Prop := ∀ i p, (pks M)[i]? = some p → p.1 < 64 ∧ p.2.2 ≤ 2000 ∧ hp_I S (ad 11) i = nI p.1 ∧ hp_I S (ad 12) i = p.2.1 ∧ hp_I S (ad 13) i = nI p.2.2
/-- THE REFERENCE holds the state M -/
def RepR (S : hp_T) (m0 : Nat) (ad : Nat → Nat) (M : ab_T) : Prop := rsh S m0 ad ∧ rdj ad ∧ (∀ c, c < 64 → rcl S ad M c) ∧ rnm S m0 M ∧ rpk S ad M
/-- what keeps a state in order -/
def wfM (M : ab_T) : Prop := (pa M 0 = 64 ∧ ∀ c, c < 64 → 0 < c → pa M c < 64 ∨ pa M c = 65) ∧ (∀ c, c < 64 → pa M c < 64 → ¬ pa M (pa M c) = 65) ∧ rkd M ∧ (∀ p ∈ pks M, p.1 < 64 ∧ 0 < p.1 ∧ pa M p.1 < 64 ∧ (∀ k, k < 64 → ¬ pa M k = p.1) ∧ 1 ≤ p.2.2 ∧ p.2.2 ≤ 2000) ∧ (pks M).length ≤ 2000 ∧ (∀ c, c < 64 → (own M c).length ≤ lm M c ∨ pa M c = 65) ∧ (∀ c, c < 64 → 0 < c → pa M c = 65 ∨ (1 ≤ wt M c ∧ wt M c ≤ 1000)) ∧ wt M 0 = 0 ∧ (∀ c, c < 64 → rs M c < 1000 ∧ lm M c ≤ 2000 ∧ hd M c ≤ 1000) ∧ fix M (op M)
end M20
