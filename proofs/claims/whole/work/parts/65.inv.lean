/-! THE SPECS: the state stays in order -/
section M65
def okS (M M' : ab_T) : Prop := cin M' ∧ trn M' ≤ trn M + 1000
theorem okS_rf {M : ab_T} (h : cin M) : okS M M := ⟨h, by omega⟩
theorem mk_cin {M M1 M' : ab_T} (h : stl M1 M') (hs : sok M1) (hw : wok M1) (hb : ∀ j, j < 64 → lm M1 j ≤ 2000 ∧ hd M1 j ≤ 1000) (hl : lin M1) (h0 : hd M1 0 = 0) (h1 : wt M1 0 = 0) (ht : trn M1 = trn M) : okS M M' := by
  refine ⟨stl_cin h (stl_rin h hs hw hb) hl h0 h1, ?_⟩
  have : trn M' = trn M1 := by unfold trn; rw [stl_tl h]
  omega
theorem inv_weight {M M' : ab_T} {c w : Int32} {k : Nat} (hc : cin M) (h : sp_weight M c w k M') : okS M M' := by
  rcases h with ⟨-, -, rfl⟩ | ⟨-, -, -, -, rfl⟩ | ⟨-, j, x, j1, j2, j3, -, x1, x2, -, rfl⟩
  · exact okS_rf hc
  · exact okS_rf hc
  · obtain ⟨⟨r1, r2, ⟨r3, r4⟩, r5⟩, l1, h0, w0⟩ := hc
    have ew : ∀ e, wt (mn (mn M 1 j x) 3 j 0) e = if e = j then x else wt M e := fun e => by
      show (if 1 = 3 ∧ e = j then 0 else (if 1 = 1 ∧ e = j then x else M.1 1 e)) = _
      simp [wt]
    have er : ∀ e, rs (mn (mn M 1 j x) 3 j 0) e = if e = j then 0 else rs M e := fun e => by
      show (if 3 = 3 ∧ e = j then 0 else (if 3 = 1 ∧ e = j then x else M.1 3 e)) = _
      simp [rs]
    refine ⟨⟨⟨⟨wfS_n (wfS_n r1.1 (by omega)) (by omega), r1.2.1, r1.2.2⟩, r2, ⟨fun e he => ?_, fun e he h1 h2 => ?_⟩, r5⟩, l1, h0, ?_⟩, Nat.le_add_right _ _⟩
    · rw [er]; split
      · omega
      · exact r3 e he
    · rw [ew]; split
      · exact ⟨x1, x2⟩
      · exact r4 e he h1 h2
    · rw [ew, if_neg (fun z => j2 z.symm)]; exact w0
theorem inv_hold {M M' : ab_T} {c w : Int32} {k : Nat} (hc : cin M) (h : sp_hold M c w k M') : okS M M' := by
  rcases h with ⟨-, -, rfl⟩ | ⟨-, -, -, -, rfl⟩ | ⟨-, j, x, j1, j2, j3, -, x2, -, hst⟩
  · exact okS_rf hc
  · exact okS_rf hc
  · obtain ⟨⟨r1, r2, r3, r5⟩, l1, h0, w0⟩ := hc
    have eh : ∀ e, hd (mn M 4 j x) e = if e = j then x else hd M e := fun e => by
      show (if 4 = 4 ∧ e = j then x else M.1 4 e) = _
      simp [hd]
    refine mk_cin hst (sok_hold r1 x2) r3 (fun e he => ⟨(r5 e he).1, ?_⟩) l1 ?_ w0 rfl
    · rw [eh]; split
      · exact x2
      · exact (r5 e he).2
    · rw [eh, if_neg (fun z => j2 z.symm)]; exact h0
theorem inv_remove {M M' : ab_T} {c : Int32} {k : Nat} (hc : cin M) (h : sp_remove M c k M') : okS M M' := by
  rcases h with ⟨-, -, rfl⟩ | ⟨-, -, rfl⟩ | ⟨-, j, j1, j2, -, j4, j5, j6, hst⟩
  · exact okS_rf hc
  · exact okS_rf hc
  · obtain ⟨⟨r1, r2, ⟨r3, r4⟩, r5⟩, l1, h0, w0⟩ := hc
    have al : ∀ e, ¬ pa (mn M 0 j 65) e = 65 → ¬ pa M e = 65 := fun e he => by
      rw [pa_mn] at he
      by_cases z : e = j
      · rw [if_pos z] at he; omega
      · rw [if_neg z] at he; exact he
    exact mk_cin hst (sok_remove r1 j1 j4 j5 j6) ⟨r3, fun e he h1 h2 => r4 e he h1 (al e h2)⟩ r5 (fun e he h2 => l1 e he (al e h2)) h0 w0 rfl
theorem inv_move {M M' : ab_T} {c p : Int32} {k : Nat} (hc : cin M) (h : sp_move M c p k M') : okS M M' := by
  rcases h with ⟨-, -, rfl⟩ | ⟨j, b, j1, j2, j3, -, b1, b2, -, ⟨-, -, rfl⟩ | ⟨-, -, -, rfl⟩ | ⟨-, u2, u3, hst⟩⟩
  · exact okS_rf hc
  · exact okS_rf hc
  · exact okS_rf hc
  · obtain ⟨⟨r1, r2, ⟨r3, r4⟩, r5⟩, l1, h0, w0⟩ := hc
    have al : ∀ e, ¬ pa (mmv M j b) e = 65 → ¬ pa M e = 65 := fun e he => by
      rw [mmv_pa] at he
      by_cases z : e = j
      · rw [z]; exact j3
      · rw [if_neg z] at he; exact he
    have er : ∀ e, rs (mmv M j b) e = if e = j then 0 else rs M e := fun e => by
      show (if 3 = 3 ∧ e = j then 0 else (if 3 = 0 ∧ e = j then b else M.1 3 e)) = _
      simp [rs]
    refine mk_cin hst (sok_move r1 j1 j2 j3 b1 b2 u2 u3) ⟨fun e he => ?_, fun e he h1 h2 => r4 e he h1 (al e h2)⟩ r5 (fun e he h2 => l1 e he (al e h2)) h0 w0 rfl
    rw [er]; split
    · omega
    · exact r3 e he
theorem own_snoc (M : ab_T) (j c x : Nat) (id : Int32) : (own (mP M (pks M ++ [(j, id, x)])) c).length = (own M c).length + if j = c then 1 else 0 := by
  show ((pks M ++ [(j, id, x)]).filter (fun p => p.1 == c)).length = _
  rw [List.filter_append, List.length_append]
  by_cases z : j = c
  · simp [z, own]
  · simp [z, own]
theorem lin_snoc {M : ab_T} (h : lin M) {j x : Nat} (id : Int32) (hj : j < 64) (hpj : ¬ pa M j = 65) (hl : ¬ (own M j).length = lm M j) : lin (mP M (pks M ++ [(j, id, x)])) := by
  intro c hc hpc
  rw [own_snoc]
  show _ ≤ lm M c
  have q := h c hc hpc
  by_cases z : j = c
  · subst z
    rw [if_pos rfl]
    omega
  · rw [if_neg z]; exact q
theorem inv_put {M M' : ab_T} {c id w v : Int32} {k : Nat} (hc : cin M) (h : sp_put M c id w k v M') : okS M M' := by
  rcases h with ⟨-, -, rfl⟩ | ⟨j, j1, j2, -, ⟨-, -, rfl⟩ | ⟨-, -, -, rfl⟩ | ⟨u1, x, x1, x2, -, ⟨-, -, rfl⟩ | ⟨-, -, -, hst⟩⟩⟩
  · exact okS_rf hc
  · exact okS_rf hc
  · exact okS_rf hc
  · exact okS_rf hc
  · obtain ⟨⟨r1, r2, r3, r5⟩, l1, h0, w0⟩ := hc
    have hs := sok_cm r1 id j1 u1.1 j2 u1.2 x1 x2
    unfold cm at hst hs
    by_cases z : (own M j).length = lm M j
    · rw [if_pos z] at hst hs
      exact mk_cin hst hs r3 r5 l1 h0 w0 rfl
    · rw [if_neg z] at hst hs
      exact mk_cin hst hs r3 r5 (lin_snoc l1 id j1 j2 z) h0 w0 rfl
theorem pal_in {j x : Nat} (id : Int32) (hj : j < 64) : ∀ (r n : Nat) (M : ab_T), ¬ pa M j = 65 → lin M → lin (pal j id x r n M).1 ∧ (pal j id x r n M).1.1 = M.1 ∧ (pal j id x r n M).1.2.1 = M.2.1 ∧ trn (pal j id x r n M).1 = trn M := by
  intro r
  induction r with
  | zero => intro n M _ h; exact ⟨h, rfl, rfl, rfl⟩
  | succ r ih =>
    intro n M hpj h
    unfold pal
    split
    · split
      · exact ⟨h, rfl, rfl, rfl⟩
      · rename_i z
        exact ih (n + 1) (mP M (pks M ++ [(j, id + nI n, x)])) hpj (lin_snoc h _ hj hpj z)
    · exact ⟨h, rfl, rfl, rfl⟩
theorem inv_putAll {M M' : ab_T} {c id w n v : Int32} {k : Nat} (hc : cin M) (h : sp_putAll M c id w n k v M') : okS M M' := by
  rcases h with ⟨-, -, rfl⟩ | ⟨j, j1, j2, -, ⟨-, -, rfl⟩ | ⟨-, -, -, rfl⟩ | ⟨-, u1, x, y, x1, x2, -, y2, -, -, hst⟩⟩
  · exact okS_rf hc
  · exact okS_rf hc
  · exact okS_rf hc
  · obtain ⟨⟨r1, r2, r3, r5⟩, l1, h0, w0⟩ := hc
    have hs := sok_pal id j1 u1.1 x1 x2 y 0 M r1 j2 u1.2
    obtain ⟨q1, q2, q3, q4⟩ := pal_in (x := x) id j1 y 0 M j2 l1
    generalize (pal j id x y 0 M).1 = M1 at *
    refine mk_cin hst hs ?_ ?_ q1 ?_ ?_ q4
    · unfold wok rs pa wt at r3 ⊢
      rw [q2]; exact r3
    · unfold lm hd at r5 ⊢
      rw [q2]; exact r5
    · unfold hd at h0 ⊢
      rw [q2]; exact h0
    · unfold wt at w0 ⊢
      rw [q2]; exact w0
theorem inv_add {M M' : ab_T} {p w q v : Int32} {k : Nat} (hc : cin M) (h : sp_add M p w q k v M') : okS M M' := by
  rcases h with ⟨-, -, rfl⟩ | ⟨b, b1, b2, -, ⟨-, -, rfl⟩ | ⟨x, y, x1, x2, -, y1, y2, -, ⟨-, -, rfl⟩ | ⟨-, -, -, rfl⟩ | ⟨-, u2, j, j0, j1, j2, -, -, hst⟩⟩⟩
  · exact okS_rf hc
  · exact okS_rf hc
  · exact okS_rf hc
  · exact okS_rf hc
  · obtain ⟨⟨r1, r2, ⟨r3, r4⟩, r5⟩, l1, h0, w0⟩ := hc
    have hs := sok_add r1 x y j1 j0 j2 b1 b2 u2
    have er : ∀ e, rs (mad M j b x y) e = if e = j then 0 else rs M e := fun e => by
      by_cases z : e = j
      · subst z; simp [rs, mad, mn, mj]
      · rw [if_neg z]; exact mad_n M j b x y 3 e z
    have ew : ∀ e, wt (mad M j b x y) e = if e = j then x else wt M e := fun e => by
      by_cases z : e = j
      · subst z; simp [wt, mad, mn, mj]
      · rw [if_neg z]; exact mad_n M j b x y 1 e z
    have el : ∀ e, lm (mad M j b x y) e = if e = j then y else lm M e := fun e => by
      by_cases z : e = j
      · subst z; simp [lm, mad, mn, mj]
      · rw [if_neg z]; exact mad_n M j b x y 2 e z
    refine mk_cin hst hs ⟨fun e he => ?_, fun e he h1 h2 => ?_⟩ (fun e he => ⟨?_, ?_⟩) (fun e he h2 => ?_) ?_ ?_ rfl
    · rw [er]; split
      · omega
      · exact r3 e he
    · rw [ew]; split
      · exact ⟨x1, x2⟩
      · rename_i z
        rw [mad_pa, if_neg z] at h2
        exact r4 e he h1 h2
    · rw [el]; split
      · exact y2
      · exact (r5 e he).1
    · rw [mad_hd]; split
      · omega
      · exact (r5 e he).2
    · show (own M e).length ≤ _
      rw [el]
      by_cases z : e = j
      · have : own M e = [] := own_nil.mpr (fun p hp q => by
          have := (r1.1.2.2.2 p hp).2.2.1
          rw [q, z, j2] at this
          omega)
        rw [this]
        exact Nat.zero_le _
      · rw [mad_pa, if_neg z] at h2
        rw [if_neg z]
        exact l1 e he h2
    · rw [mad_hd, if_neg (by omega)]; exact h0
    · rw [ew, if_neg (by omega)]; exact w0
theorem inv_clear {M M' : ab_T} {c v : Int32} {k : Nat} (hc : cin M) (h : sp_clear M c k v M') : okS M M' := by
  rcases h with ⟨-, -, rfl⟩ | ⟨-, j, j1, j2, -, -, hst⟩
  · exact okS_rf hc
  · obtain ⟨⟨r1, r2, r3, r5⟩, l1, h0, w0⟩ := hc
    refine mk_cin hst (sok_D (sok_sub r1 (fun p hp => (List.mem_filter.mp hp).1)) _) r3 r5 (fun e he h2 => ?_) h0 w0 rfl
    refine Nat.le_trans ?_ (l1 e he h2)
    show (((pks M).filter _).filter _).length ≤ ((pks M).filter _).length
    exact (List.filter_sublist.filter _).length_le
theorem inv_turn {M M' : ab_T} {r : Nat} (hc : cin M) (h : sp_turn M r M') : okS M M' := by
  obtain ⟨q1, q2⟩ := cin_turn hc h
  refine ⟨q1, ?_⟩
  have : r ≤ 1 := by rcases h with ⟨rfl, -⟩ | ⟨rfl, -⟩ <;> omega
  omega
theorem inv_tns : ∀ (n : Nat) {M M' : ab_T} {r : Nat}, cin M → tns n M r M' → cin M' ∧ trn M' ≤ trn M + n := by
  intro n
  induction n with
  | zero => intro M M' r hc h; rw [h.2]; exact ⟨hc, by omega⟩
  | succ n ih =>
    intro M M' r hc h
    rcases h with ⟨-, h2⟩ | ⟨M1, k1, h1, h2, h3⟩
    · obtain ⟨q1, q2⟩ := cin_turn hc h2
      exact ⟨q1, by omega⟩
    · obtain ⟨q1, q2⟩ := cin_turn hc h1
      obtain ⟨q3, q4⟩ := ih q1 h2
      exact ⟨q3, by omega⟩
theorem inv_turns {M M' : ab_T} {n v : Int32} {k : Nat} (hc : cin M) (h : sp_turns M n k v M') : okS M M' := by
  rcases h with ⟨-, -, rfl⟩ | ⟨-, y, s, y1, -, a3, -⟩
  · exact okS_rf hc
  · obtain ⟨q1, q2⟩ := inv_tns y hc a3
    exact ⟨q1, by omega⟩
theorem cin_M0 : cin M0 := by
  have hd0 : ∀ e, hd M0 e = 0 := fun _ => rfl
  have nf : ∀ e, e < 64 → ¬ pa M0 e < 64 := fun e _ => by rw [M0_pa]; split <;> omega
  refine ⟨⟨⟨⟨⟨rfl, fun e he h0 => Or.inr (by rw [M0_pa, if_neg (by omega)])⟩, fun e he h => absurd h (nf e he), ⟨fun _ => 0, fun e he h => absurd h (nf e he)⟩, fun p hp => absurd hp List.not_mem_nil⟩, fun e _ => by rw [hd0]; omega, fun e _ => Nat.zero_le _⟩, fun e he => ⟨Nat.zero_le _, ?_⟩, ⟨fun e _ => Nat.lt_of_lt_of_le (Nat.zero_lt_succ 0) (by omega), fun e he h0 h1 => ?_⟩, fun e _ => ⟨Nat.zero_le _, Nat.zero_le _⟩⟩, fun e _ _ => Nat.zero_le _, rfl, rfl⟩
  · constructor
    · intro z
      exact absurd z (by show ¬ 0 = 1; decide)
    · rintro ⟨-, ⟨p, hp, -⟩ | ⟨k, -, -, z⟩⟩
      · exact absurd hp List.not_mem_nil
      · exact absurd z (by show ¬ 0 = 1; decide)
  · exact absurd (by rw [M0_pa, if_neg (by omega)]) h1
end M65
