/-! THE POOL: every object and array of the system and of the reference, by its address: its kind (0: none; 1 Line, 2 Node, 3 Packet, 4 TurnTree, 5 TurnTreeModel; arrays: 6 int, 7 long, 8 boolean, 9 Node), its ints, longs and references by the place of the field (or the index), its length -/
section HPD
abbrev hp_T : Type := (Nat → Nat) × (Nat → Nat → Int32) × (Nat → Nat → Int64) × (Nat → Nat → Option Nat) × (Nat → Nat)
def hp_K (S : hp_T) : Nat → Nat := S.1
def hp_I (S : hp_T) : Nat → Nat → Int32 := S.2.1
def hp_J (S : hp_T) : Nat → Nat → Int64 := S.2.2.1
def hp_R (S : hp_T) : Nat → Nat → Option Nat := S.2.2.2.1
def hp_N (S : hp_T) : Nat → Nat := S.2.2.2.2
def hp_u {α : Type} (f : Nat → Nat → α) (a k : Nat) (v : α) : Nat → Nat → α := fun b j => if b = a ∧ j = k then v else f b j
def hp_sI (S : hp_T) (a k : Nat) (v : Int32) : hp_T := (S.1, hp_u S.2.1 a k v, S.2.2.1, S.2.2.2.1, S.2.2.2.2)
def hp_sJ (S : hp_T) (a k : Nat) (v : Int64) : hp_T := (S.1, S.2.1, hp_u S.2.2.1 a k v, S.2.2.2.1, S.2.2.2.2)
def hp_sR (S : hp_T) (a k : Nat) (v : Option Nat) : hp_T := (S.1, S.2.1, S.2.2.1, hp_u S.2.2.2.1 a k v, S.2.2.2.2)
/-- a new cell at a, of a kind and a length, all zero -/
def hp_nw (S : hp_T) (a kd n : Nat) : hp_T := (va_up S.1 a kd, fun b j => if b = a then 0 else S.2.1 b j, fun b j => if b = a then 0 else S.2.2.1 b j, fun b j => if b = a then none else S.2.2.2.1 b j, va_up S.2.2.2.2 a n)
theorem hp_u_at {α : Type} (f : Nat → Nat → α) (a k b j : Nat) (v : α) : hp_u f a k v b j = if b = a ∧ j = k then v else f b j := rfl
theorem hp_K_sI (S : hp_T) (a k : Nat) (v : Int32) : hp_K (hp_sI S a k v) = hp_K S := rfl
theorem hp_K_sJ (S : hp_T) (a k : Nat) (v : Int64) : hp_K (hp_sJ S a k v) = hp_K S := rfl
theorem hp_K_sR (S : hp_T) (a k : Nat) (v : Option Nat) : hp_K (hp_sR S a k v) = hp_K S := rfl
theorem hp_N_sI (S : hp_T) (a k : Nat) (v : Int32) : hp_N (hp_sI S a k v) = hp_N S := rfl
theorem hp_N_sJ (S : hp_T) (a k : Nat) (v : Int64) : hp_N (hp_sJ S a k v) = hp_N S := rfl
theorem hp_N_sR (S : hp_T) (a k : Nat) (v : Option Nat) : hp_N (hp_sR S a k v) = hp_N S := rfl
theorem hp_I_sI (S : hp_T) (a k : Nat) (v : Int32) (b j : Nat) : hp_I (hp_sI S a k v) b j = if b = a ∧ j = k then v else hp_I S b j := rfl
theorem hp_I_sJ (S : hp_T) (a k : Nat) (v : Int64) : hp_I (hp_sJ S a k v) = hp_I S := rfl
theorem hp_I_sR (S : hp_T) (a k : Nat) (v : Option Nat) : hp_I (hp_sR S a k v) = hp_I S := rfl
theorem hp_J_sI (S : hp_T) (a k : Nat) (v : Int32) : hp_J (hp_sI S a k v) = hp_J S := rfl
theorem hp_J_sJ (S : hp_T) (a k : Nat) (v : Int64) (b j : Nat) : hp_J (hp_sJ S a k v) b j = if b = a ∧ j = k then v else hp_J S b j := rfl
theorem hp_J_sR (S : hp_T) (a k : Nat) (v : Option Nat) : hp_J (hp_sR S a k v) = hp_J S := rfl
theorem hp_R_sI (S : hp_T) (a k : Nat) (v : Int32) : hp_R (hp_sI S a k v) = hp_R S := rfl
theorem hp_R_sJ (S : hp_T) (a k : Nat) (v : Int64) : hp_R (hp_sJ S a k v) = hp_R S := rfl
theorem hp_R_sR (S : hp_T) (a k : Nat) (v : Option Nat) (b j : Nat) : hp_R (hp_sR S a k v) b j = if b = a ∧ j = k then v else hp_R S b j := rfl
theorem hp_K_nw (S : hp_T) (a kd n b : Nat) : hp_K (hp_nw S a kd n) b = if b = a then kd else hp_K S b := rfl
theorem hp_N_nw (S : hp_T) (a kd n b : Nat) : hp_N (hp_nw S a kd n) b = if b = a then n else hp_N S b := rfl
theorem hp_I_nw (S : hp_T) (a kd n b j : Nat) : hp_I (hp_nw S a kd n) b j = if b = a then 0 else hp_I S b j := rfl
theorem hp_J_nw (S : hp_T) (a kd n b j : Nat) : hp_J (hp_nw S a kd n) b j = if b = a then 0 else hp_J S b j := rfl
theorem hp_R_nw (S : hp_T) (a kd n b j : Nat) : hp_R (hp_nw S a kd n) b j = if b = a then none else hp_R S b j := rfl
/-- the type of a field: 0 int, 1 long, 2 reference, 3 boolean -/
def hp_ty (ci k : Nat) : Nat := match ci with
  | 0 => if k < 2 then 2 else 0
  | 1 => if k = 2 ∨ k = 4 ∨ k = 5 ∨ k = 6 then 2 else if k = 10 ∨ k = 12 ∨ k = 13 then 1 else if k = 8 then 3 else 0
  | 2 => if k = 2 then 2 else 0
  | 3 => if k = 0 ∨ k = 1 ∨ k = 10 then 2 else 0
  | _ => if 1 ≤ k ∧ k ≤ 13 then 2 else 0
def hp_nf (ci : Nat) : Nat := match ci with
  | 0 => 4
  | 1 => 14
  | 2 => 3
  | 3 => 11
  | _ => 20
/-- a value of a walk: an int, a long, a reference or null -/
abbrev hp_hv : Type := Int32 ⊕ (Int64 ⊕ Option Nat)
def hp_v (x : hp_hv) : Value := match x with
  | .inl i => .int i
  | .inr (.inl j) => .long j
  | .inr (.inr r) => va_rf r
def hp_fh (S : hp_T) (a t k : Nat) : hp_hv := match t with
  | 1 => .inr (.inl (hp_J S a k))
  | 2 => .inr (.inr (hp_R S a k))
  | _ => .inl (hp_I S a k)
def hp_fl (S : hp_T) (a ci : Nat) : List Value := (List.range (hp_nf ci)).map (fun k => hp_v (hp_fh S a (hp_ty ci k) k))
def hp_e (cy : Nat → ClassId) (S : hp_T) (a : Nat) : va_E :=
  if hp_K S a = 6 then .inl (cy 0, hp_N S a, .inl (hp_I S a)) else if hp_K S a = 7 then .inl (cy 1, hp_N S a, .inr (.inl (hp_J S a)))
  else if hp_K S a = 8 then .inl (cy 2, hp_N S a, .inl (hp_I S a)) else if hp_K S a = 9 then .inl (cy 3, hp_N S a, .inr (.inr (.inr (.inr (hp_R S a)))))
  else .inr (hp_K S a - 1, hp_fl S a (hp_K S a - 1))
theorem hp_e_congr {cy : Nat → ClassId} {S S' : hp_T} {b : Nat} (h1 : hp_K S' b = hp_K S b) (h2 : ∀ j, hp_I S' b j = hp_I S b j) (h3 : ∀ j, hp_J S' b j = hp_J S b j) (h4 : ∀ j, hp_R S' b j = hp_R S b j) (h5 : hp_N S' b = hp_N S b) : hp_e cy S' b = hp_e cy S b := by
  have e2 : hp_I S' b = hp_I S b := funext h2
  have e3 : hp_J S' b = hp_J S b := funext h3
  have e4 : hp_R S' b = hp_R S b := funext h4
  have e5 : ∀ t k, hp_fh S' b t k = hp_fh S b t k := fun t k => by unfold hp_fh; rw [e2, e3, e4]
  unfold hp_e hp_fl
  rw [h1, e2, e3, e4, h5]
  simp only [e5]
theorem hp_e_obj {cy : Nat → ClassId} {S : hp_T} {a ci : Nat} (h : hp_K S a = ci + 1) (hc : ci < 5) : hp_e cy S a = .inr (ci, hp_fl S a ci) := by
  unfold hp_e
  rw [h, if_neg (by omega), if_neg (by omega), if_neg (by omega), if_neg (by omega)]
  rfl
theorem hp_fl_get {S : hp_T} {a ci k : Nat} (h : k < hp_nf ci) : (hp_fl S a ci)[k]? = some (hp_v (hp_fh S a (hp_ty ci k) k)) := by
  unfold hp_fl
  rw [List.getElem?_map, List.getElem?_range h]
  rfl
theorem hp_fl_len (S : hp_T) (a ci : Nat) : (hp_fl S a ci).length = hp_nf ci := by simp [hp_fl]
theorem hp_fl_set {S S' : hp_T} {a ci k : Nat} {v : Value} (h : k < hp_nf ci) (h1 : ∀ j, j ≠ k → hp_fh S' a (hp_ty ci j) j = hp_fh S a (hp_ty ci j) j) (h2 : hp_v (hp_fh S' a (hp_ty ci k) k) = v) : (hp_fl S a ci).set k v = hp_fl S' a ci := by
  apply List.ext_getElem?
  intro j
  by_cases hj : j = k
  · subst hj
    rw [List.getElem?_set_self (by rw [hp_fl_len]; exact h), hp_fl_get h, h2]
  · rw [List.getElem?_set_ne (Ne.symm hj)]
    by_cases hl : j < hp_nf ci
    · rw [hp_fl_get hl, hp_fl_get hl, h1 j hj]
    · rw [List.getElem?_eq_none (by rw [hp_fl_len]; omega), List.getElem?_eq_none (by rw [hp_fl_len]; omega)]
/-- the world: the heap holds the pool; its addresses lie in A -/
abbrev hp_G : Type := va_G × (Nat → ClassId)
def hp_w (A : Nat → Prop) (G : hp_G) (S : hp_T) (H : Heap) : Prop := ∃ LP : List Nat, (∀ a, hp_K S a ≠ 0 ↔ a ∈ LP) ∧ va_P G.1 vwCl (va_pl LP (hp_e G.2 S)) H ∧ va_D A (va_pl LP (hp_e G.2 S))
def hp_tys (cy : Nat → ClassId) : List (ClassId × FieldType) := [(cy 0, .int), (cy 1, .long), (cy 2, .boolean), (cy 3, .object "TurnTree$Node")]
/-- which cells a method may change -/
def hp_A (S : hp_T) (sz : Nat) : Nat → Prop := fun q => hp_K S q ≠ 0 ∨ sz ≤ q
theorem hp_w.mono {A B : Nat → Prop} {G : hp_G} {S : hp_T} {H : Heap} (h : hp_w A G S H) (hAB : ∀ q, hp_K S q ≠ 0 → A q → B q) : hp_w B G S H := by
  obtain ⟨LP, h1, h2, h3⟩ := h
  refine ⟨LP, h1, h2, h3.weaken (fun k q hk hA => hAB q.1 ?_ hA)⟩
  unfold va_pl at hk
  rw [List.getElem?_map] at hk
  cases hl : LP[k]? with
  | none => rw [hl] at hk; cases hk
  | some a => rw [hl] at hk; cases hk; exact (h1 a).mpr (List.mem_of_getElem? hl)
theorem hp_w.self {A : Nat → Prop} {G : hp_G} {S : hp_T} {H : Heap} (h : hp_w A G S H) (sz : Nat) : hp_w (hp_A S sz) G S H := h.mono (fun q hq _ => Or.inl hq)
theorem hp_w.inA {A : Nat → Prop} {G : hp_G} {S : hp_T} {H : Heap} (h : hp_w A G S H) {q : Nat} (hq : hp_K S q ≠ 0) : A q := by
  obtain ⟨LP, h1, h2, h3⟩ := h
  obtain ⟨k, hk⟩ := va_pl_get (X := []) (f := hp_e G.2 S) ((h1 q).mp hq)
  exact h3.2 k _ hk
theorem hp_w.lt {A : Nat → Prop} {G : hp_G} {S : hp_T} {H : Heap} (h : hp_w A G S H) {q : Nat} (hq : hp_K S q ≠ 0) : q < H.size := by
  obtain ⟨LP, h1, h2, h3⟩ := h
  exact va_pl_lt (X := []) h2 ((h1 q).mp hq)
/-- a place of the world -/
theorem hp_w.at {A : Nat → Prop} {G : hp_G} {S : hp_T} {H : Heap} (h : hp_w A G S H) {a : Nat} (ha : hp_K S a ≠ 0) : ∃ (LP : List Nat) (q0 : Nat), (∀ a, hp_K S a ≠ 0 ↔ a ∈ LP) ∧ va_P G.1 vwCl (va_pl LP (hp_e G.2 S)) H ∧ va_D A (va_pl LP (hp_e G.2 S)) ∧ (va_pl LP (hp_e G.2 S))[q0]? = some (a, hp_e G.2 S a) := by
  obtain ⟨LP, h1, h2, h3⟩ := h
  obtain ⟨k, hk⟩ := va_pl_get (X := []) (f := hp_e G.2 S) ((h1 a).mp ha)
  exact ⟨LP, k, h1, h2, h3, hk⟩
/-- the world behind a write at a -/
theorem hp_w.put {A : Nat → Prop} {G : hp_G} {S S' : hp_T} {H1 : Heap} {LP : List Nat} {a q0 : Nat} (h1 : ∀ a, hp_K S a ≠ 0 ↔ a ∈ LP) (hD0 : va_D A (va_pl LP (hp_e G.2 S))) (hq : (va_pl LP (hp_e G.2 S))[q0]? = some (a, hp_e G.2 S a)) (ha : hp_K S a ≠ 0) (hK : hp_K S' = hp_K S) (ho : ∀ b, b ≠ a → hp_e G.2 S' b = hp_e G.2 S b)
    (hP : va_P G.1 vwCl ((va_pl LP (hp_e G.2 S)).set q0 (a, hp_e G.2 S' a)) H1) (hD : va_D A ((va_pl LP (hp_e G.2 S)).set q0 (a, hp_e G.2 S' a))) : hp_w A G S' H1 := by
  have e0 : (va_pl LP (hp_e G.2 S)).set q0 (a, hp_e G.2 S' a) = va_pl LP (va_up (hp_e G.2 S) a (hp_e G.2 S' a)) := va_pl_set (X := []) hD0 ((h1 a).mp ha) hq
  have e1 : va_pl LP (va_up (hp_e G.2 S) a (hp_e G.2 S' a)) = va_pl LP (hp_e G.2 S') := va_pl_congr (fun b => by
    by_cases hb : b = a
    · subst hb; rw [va_up_self]
    · rw [va_up_ne _ _ hb, ho b hb])
  rw [e0, e1] at hP hD
  exact ⟨LP, fun b => by rw [hK]; exact h1 b, hP, hD⟩
/-- the world behind a new cell -/
theorem hp_w.new {A : Nat → Prop} {G : hp_G} {S : hp_T} {H1 : Heap} {LP : List Nat} {a kd n : Nat} (h1 : ∀ a, hp_K S a ≠ 0 ↔ a ∈ LP) (ha : hp_K S a = 0) (hkd : kd ≠ 0)
    (hP : va_P G.1 vwCl (va_pl LP (hp_e G.2 S) ++ [(a, hp_e G.2 (hp_nw S a kd n) a)]) H1) (hD : va_D A (va_pl LP (hp_e G.2 S) ++ [(a, hp_e G.2 (hp_nw S a kd n) a)])) : hp_w A G (hp_nw S a kd n) H1 := by
  have hn : a ∉ LP := fun h => (h1 a).mpr h ha
  have e1 : va_pl LP (hp_e G.2 S) ++ [(a, hp_e G.2 (hp_nw S a kd n) a)] = va_pl (LP ++ [a]) (hp_e G.2 (hp_nw S a kd n)) := by
    rw [va_pl_push hn]
    refine va_pl_congr (fun b => ?_)
    by_cases hb : b = a
    · subst hb; rw [va_up_self]
    · rw [va_up_ne _ _ hb]
      exact (hp_e_congr (by rw [hp_K_nw, if_neg hb]) (fun j => by rw [hp_I_nw, if_neg hb]) (fun j => by rw [hp_J_nw, if_neg hb]) (fun j => by rw [hp_R_nw, if_neg hb]) (by rw [hp_N_nw, if_neg hb])).symm
  rw [e1] at hP hD
  refine ⟨LP ++ [a], fun b => ?_, hP, hD⟩
  rw [hp_K_nw]
  by_cases hb : b = a
  · subst hb; simp [hkd]
  · simp [hb, h1 b]
end HPD
