section HPL
def hp_B : List Cond := lw_tbl.filter goodWord
theorem hp_in {w : Cond} (i : Nat) (h : lw_tbl[i]? = some w) (g : goodWord w = true) : w ∈ hp_B := List.mem_filter.mpr ⟨List.mem_of_getElem? h, g⟩
theorem hp_good {w : Cond} (h : w ∈ hp_B) : (w.onTables && w.keeps) = true ∨ ∃ ty, w = .arrayClass ty := good_of_word (List.mem_filter.mp h).2
def hp_cn (o : Nat) : String := match o with
  | 0 => RX0
  | 1 => RX1
  | 2 => RX2
  | 3 => RX3
  | 4 => RX4
  | _ => RL
def hp_TT (o : Nat) : u_T := match o with
  | 0 => TX0
  | 1 => TX1
  | 2 => TX2
  | 3 => TX3
  | _ => TX4
def hp_yy (o : Nat) : Nat → FieldType := match o with
  | 0 => tyX0
  | 1 => tyX1
  | 2 => tyX2
  | 3 => tyX3
  | _ => tyX4
theorem hp_i0 : ∀ w ∈ u_ws RX0 TX0 4, w ∈ lw_tbl := by decide +kernel
theorem hp_g0 : (u_ws RX0 TX0 4).all goodWord = true := by decide +kernel
theorem hp_i1 : ∀ w ∈ u_ws RX1 TX1 14, w ∈ lw_tbl := by decide +kernel
theorem hp_g1 : (u_ws RX1 TX1 14).all goodWord = true := by decide +kernel
theorem hp_i2 : ∀ w ∈ u_ws RX2 TX2 3, w ∈ lw_tbl := by decide +kernel
theorem hp_g2 : (u_ws RX2 TX2 3).all goodWord = true := by decide +kernel
theorem hp_i3 : ∀ w ∈ u_ws RX3 TX3 11, w ∈ lw_tbl := by decide +kernel
theorem hp_g3 : (u_ws RX3 TX3 11).all goodWord = true := by decide +kernel
theorem hp_i4 : ∀ w ∈ u_ws RX4 TX4 20, w ∈ lw_tbl := by decide +kernel
theorem hp_g4 : (u_ws RX4 TX4 20).all goodWord = true := by decide +kernel
theorem hp_ws {ci : Nat} (h : ci < 5) : ∀ w ∈ u_ws (hp_cn ci) (hp_TT ci) (hp_nf ci), w ∈ hp_B := by
  intro w hw
  match ci, h with
  | 0, _ => exact List.mem_filter.mpr ⟨hp_i0 w hw, List.all_eq_true.mp hp_g0 w hw⟩
  | 1, _ => exact List.mem_filter.mpr ⟨hp_i1 w hw, List.all_eq_true.mp hp_g1 w hw⟩
  | 2, _ => exact List.mem_filter.mpr ⟨hp_i2 w hw, List.all_eq_true.mp hp_g2 w hw⟩
  | 3, _ => exact List.mem_filter.mpr ⟨hp_i3 w hw, List.all_eq_true.mp hp_g3 w hw⟩
  | 4, _ => exact List.mem_filter.mpr ⟨hp_i4 w hw, List.all_eq_true.mp hp_g4 w hw⟩
theorem hp_cl {ci : Nat} (h : ci < 5) : vwCl[ci]? = some (hp_cn ci, hp_TT ci, hp_nf ci) := by
  match ci, h with
  | 0, _ => rfl
  | 1, _ => rfl
  | 2, _ => rfl
  | 3, _ => rfl
  | 4, _ => rfl
theorem hp_tyok {ci : Nat} (h : ci < 5) : ∀ k, k < hp_nf ci → parseFieldDescriptor (hp_TT ci k).2.2.1 = some (hp_yy ci k) := by
  match ci, h with
  | 0, _ => exact tyX0_ok
  | 1, _ => exact tyX1_ok
  | 2, _ => exact tyX2_ok
  | 3, _ => exact tyX3_ok
  | 4, _ => exact tyX4_ok
theorem hp_nm {ci : Nat} (h : ci < 5) : ∀ a, a < hp_nf ci → ∀ b, b < hp_nf ci → a ≠ b → (hp_TT ci a).2.1 ≠ (hp_TT ci b).2.1 := by
  match ci, h with
  | 0, _ => exact nmX0
  | 1, _ => exact nmX1
  | 2, _ => exact nmX2
  | 3, _ => exact nmX3
  | 4, _ => exact nmX4
/-- what a field that is no final one takes -/
def hp_fit (t : Nat) (v : hp_hv) : Prop := match t, v with
  | 0, .inl _ => True
  | 1, .inr (.inl _) => True
  | 2, .inr (.inr _) => True
  | 3, .inl x => x = 0 ∨ x = 1
  | _, _ => False
theorem hp_va_rf_fit (ty : FieldType) (h : (∃ n, ty = .object n) ∨ ∃ t, ty = .array t) (r : Option Nat) : narrow ty (va_rf r) = va_rf r ∧ fits ty (va_rf r) = true := by
  rcases h with ⟨n, rfl⟩ | ⟨t, rfl⟩ <;> cases r <;> exact ⟨rfl, rfl⟩
def hp_isr (ty : FieldType) : Bool := match ty with
  | .object _ => true
  | .array _ => true
  | _ => false
theorem hp_isr_spec {ty : FieldType} (h : hp_isr ty = true) : (∃ n, ty = .object n) ∨ ∃ t, ty = .array t := by
  cases ty <;> first | exact Or.inl ⟨_, rfl⟩ | exact Or.inr ⟨_, rfl⟩ | cases h
theorem hp_t0 : ∀ ci, ci < 5 → ∀ k, k < hp_nf ci → (hp_ty ci k = 0 → hp_yy ci k = .int) ∧ (hp_ty ci k = 1 → hp_yy ci k = .long) ∧ (hp_ty ci k = 2 → hp_isr (hp_yy ci k) = true) ∧ (hp_ty ci k = 3 → hp_yy ci k = .boolean) := by decide +kernel
theorem hp_fit_ok {ci k : Nat} (hc : ci < 5) (hk : k < hp_nf ci) {v : hp_hv} (h : hp_fit (hp_ty ci k) v) : narrow (hp_yy ci k) (hp_v v) = hp_v v ∧ fits (hp_yy ci k) (hp_v v) = true := by
  obtain ⟨h0, h1, h2, h3⟩ := hp_t0 ci hc k hk
  generalize hp_ty ci k = t at h h0 h1 h2 h3
  match t, v, h with
  | 0, .inl x, _ => rw [h0 rfl]; exact ⟨rfl, rfl⟩
  | 1, .inr (.inl x), _ => rw [h1 rfl]; exact ⟨rfl, rfl⟩
  | 2, .inr (.inr x), _ => exact hp_va_rf_fit _ (hp_isr_spec (h2 rfl)) x
  | 3, .inl x, h => rw [h3 rfl]; rcases h with rfl | rfl <;> exact ⟨by decide, by decide⟩
/-- the fields that a class links: owner, index, class, place, the place of the word in the tables -/
def hp_FT : List (Nat × Nat × Nat × Nat × Nat) := [(0, 18, 0, 0, 61), (0, 13, 0, 1, 62), (0, 21, 0, 2, 63), (3, 47, 0, 2, 64), (1, 54, 0, 2, 65), (0, 25, 0, 3, 66), (3, 238, 0, 3, 67), (1, 9, 1, 0, 77), (3, 76, 1, 0, 78), (1, 18, 1, 1, 79), (3, 191, 1, 1, 80), (1, 24, 1, 2, 81), (3, 43, 1, 2, 82), (1, 15, 1, 3, 83), (3, 82, 1, 3, 84), (1, 32, 1, 4, 85), (3, 66, 1, 4, 86), (1, 28, 1, 5, 87), (1, 35, 1, 6, 88), (1, 57, 1, 7, 89), (3, 229, 1, 7, 90), (3, 99, 1, 8, 91), (1, 42, 1, 8, 92), (3, 150, 1, 9, 93), (3, 96, 1, 10, 94), (1, 38, 1, 10, 95), (3, 85, 1, 11, 96), (1, 63, 1, 11, 97), (3, 92, 1, 12, 98), (1, 60, 1, 12, 99), (1, 66, 1, 13, 100), (3, 177, 1, 13, 101), (3, 14, 3, 0, 132), (3, 18, 3, 1, 133), (3, 22, 3, 2, 134), (3, 113, 3, 3, 135), (3, 144, 3, 4, 136), (3, 147, 3, 5, 137), (3, 153, 3, 6, 138), (3, 26, 3, 7, 139), (3, 126, 3, 8, 140), (3, 29, 3, 9, 141), (3, 133, 3, 10, 142), (3, 172, 2, 0, 415), (0, 28, 2, 1, 416), (3, 201, 2, 1, 417), (0, 7, 2, 2, 418), (3, 209, 2, 2, 419), (4, 58, 4, 0, 549), (4, 7, 4, 1, 550), (4, 13, 4, 2, 551), (4, 16, 4, 3, 552), (4, 19, 4, 4, 553), (4, 23, 4, 5, 554), (4, 26, 4, 6, 555), (4, 29, 4, 7, 556), (4, 32, 4, 8, 557), (4, 35, 4, 9, 558), (4, 39, 4, 10, 559), (4, 42, 4, 11, 560), (4, 45, 4, 12, 561), (4, 48, 4, 13, 562), (4, 65, 4, 14, 563), (4, 88, 4, 15, 564), (4, 107, 4, 16, 565), (4, 51, 4, 17, 566), (4, 98, 4, 18, 567), (4, 55, 4, 19, 568)]
def hp_F (o idx : Nat) : Option (Nat × Nat) := (hp_FT.find? (fun e => e.1 == o && e.2.1 == idx)).map (fun e => (e.2.2.1, e.2.2.2.1))
theorem hp_FT_ok : ∀ e ∈ hp_FT, e.2.2.1 < 5 ∧ e.2.2.2.1 < hp_nf e.2.2.1 ∧ lw_tbl[e.2.2.2.2]? = some (Cond.fieldLink (hp_cn e.1) e.2.1 (hp_TT e.2.2.1 e.2.2.2.1).1 (hp_TT e.2.2.1 e.2.2.2.1).2.1 (hp_TT e.2.2.1 e.2.2.2.1).2.2.1) := by decide +kernel
theorem hp_F_ok {o idx ci k : Nat} (h : hp_F o idx = some (ci, k)) : ci < 5 ∧ k < hp_nf ci ∧ Cond.fieldLink (hp_cn o) idx (hp_TT ci k).1 (hp_TT ci k).2.1 (hp_TT ci k).2.2.1 ∈ hp_B := by
  unfold hp_F at h
  cases he : hp_FT.find? (fun e => e.1 == o && e.2.1 == idx) with
  | none => rw [he] at h; cases h
  | some e =>
    rw [he] at h
    obtain ⟨o1, i1, c1, k1, n1⟩ := e
    have hp := List.find?_some he
    obtain ⟨h1, h2, h3⟩ := hp_FT_ok _ (List.mem_of_find?_eq_some he)
    simp at h hp
    obtain ⟨rfl, rfl⟩ := h
    obtain ⟨rfl, rfl⟩ := hp
    exact ⟨h1, h2, hp_in n1 h3 rfl⟩
/-- a field that is not final -/
def hp_nfin (ci k : Nat) : Bool := !(hp_TT ci k).2.2.2
end HPL
