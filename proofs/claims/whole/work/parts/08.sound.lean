section HPS
theorem hq_i1_e {st : List hp_hv} {K : Int32 → List hp_hv → Prop} (h : hq_i1 st K) : ∃ x r, st = .inl x :: r ∧ K x r := by
  unfold hq_i1 at h
  split at h
  · exact ⟨_, _, rfl, h⟩
  · exact h.elim
theorem hq_i2_e {st : List hp_hv} {K : Int32 → Int32 → List hp_hv → Prop} (h : hq_i2 st K) : ∃ x y r, st = .inl y :: .inl x :: r ∧ K x y r := by
  unfold hq_i2 at h
  split at h
  · exact ⟨_, _, _, rfl, h⟩
  · exact h.elim
theorem hq_l1_e {st : List hp_hv} {K : Int64 → List hp_hv → Prop} (h : hq_l1 st K) : ∃ x r, st = .inr (.inl x) :: r ∧ K x r := by
  unfold hq_l1 at h
  split at h
  · exact ⟨_, _, rfl, h⟩
  · exact h.elim
theorem hq_l2_e {st : List hp_hv} {K : Int64 → Int64 → List hp_hv → Prop} (h : hq_l2 st K) : ∃ x y r, st = .inr (.inl y) :: .inr (.inl x) :: r ∧ K x y r := by
  unfold hq_l2 at h
  split at h
  · exact ⟨_, _, _, rfl, h⟩
  · exact h.elim
theorem hq_r1_e {st : List hp_hv} {K : Option Nat → List hp_hv → Prop} (h : hq_r1 st K) : ∃ x r, st = .inr (.inr x) :: r ∧ K x r := by
  unfold hq_r1 at h
  split at h
  · exact ⟨_, _, rfl, h⟩
  · exact h.elim
theorem hq_r2_e {st : List hp_hv} {K : Option Nat → Option Nat → List hp_hv → Prop} (h : hq_r2 st K) : ∃ x y r, st = .inr (.inr y) :: .inr (.inr x) :: r ∧ K x y r := by
  unfold hq_r2 at h
  split at h
  · exact ⟨_, _, _, rfl, h⟩
  · exact h.elim
theorem hp_ia_e {st : List hp_hv} {K : Option Nat → Int32 → List hp_hv → Prop} (h : hp_ia st K) : ∃ x i r, st = .inl i :: .inr (.inr x) :: r ∧ K x i r := by
  unfold hp_ia at h
  split at h
  · exact ⟨_, _, _, rfl, h⟩
  · exact h.elim
theorem hp_via_e {st : List hp_hv} {K : hp_hv → Option Nat → Int32 → List hp_hv → Prop} (h : hp_via st K) : ∃ v x i r, st = v :: .inl i :: .inr (.inr x) :: r ∧ K v x i r := by
  unfold hp_via at h
  split at h
  · exact ⟨_, _, _, _, rfl, h⟩
  · exact h.elim
theorem hp_vr_e {st : List hp_hv} {K : hp_hv → Option Nat → List hp_hv → Prop} (h : hp_vr st K) : ∃ v x r, st = v :: .inr (.inr x) :: r ∧ K v x r := by
  unfold hp_vr at h
  split at h
  · exact ⟨_, _, _, rfl, h⟩
  · exact h.elim
theorem hp_ld0 {r : Option hp_hv} {K : hp_hv → Prop} (h : hp_ld 0 r K) : ∃ x, r = some (.inl x) ∧ K (.inl x) := by
  match r, h with
  | some (.inl x), h => exact ⟨x, rfl, h⟩
  | some (.inr (.inl x)), h => exact (show False from h).elim
  | some (.inr (.inr x)), h => exact (show False from h).elim
  | none, h => exact (show False from h).elim
theorem hp_ld1 {r : Option hp_hv} {K : hp_hv → Prop} (h : hp_ld 1 r K) : ∃ x, r = some (.inr (.inl x)) ∧ K (.inr (.inl x)) := by
  match r, h with
  | some (.inr (.inl x)), h => exact ⟨x, rfl, h⟩
  | some (.inl x), h => exact (show False from h).elim
  | some (.inr (.inr x)), h => exact (show False from h).elim
  | none, h => exact (show False from h).elim
theorem hp_ld2 {r : Option hp_hv} {K : hp_hv → Prop} (h : hp_ld 2 r K) : ∃ x, r = some (.inr (.inr x)) ∧ K (.inr (.inr x)) := by
  match r, h with
  | some (.inr (.inr x)), h => exact ⟨x, rfl, h⟩
  | some (.inl x), h => exact (show False from h).elim
  | some (.inr (.inl x)), h => exact (show False from h).elim
  | none, h => exact (show False from h).elim
theorem hp_s1_0 {st : List hp_hv} {K : hp_hv → List hp_hv → Prop} (h : hp_s1 0 st K) : ∃ x r, st = .inl x :: r ∧ K (.inl x) r := by
  match st, h with
  | .inl x :: r, h => exact ⟨x, r, rfl, h⟩
  | .inr (.inl x) :: r, h => exact (show False from h).elim
  | .inr (.inr x) :: r, h => exact (show False from h).elim
  | [], h => exact (show False from h).elim
theorem hp_s1_1 {st : List hp_hv} {K : hp_hv → List hp_hv → Prop} (h : hp_s1 1 st K) : ∃ x r, st = .inr (.inl x) :: r ∧ K (.inr (.inl x)) r := by
  match st, h with
  | .inr (.inl x) :: r, h => exact ⟨x, r, rfl, h⟩
  | .inl x :: r, h => exact (show False from h).elim
  | .inr (.inr x) :: r, h => exact (show False from h).elim
  | [], h => exact (show False from h).elim
theorem hp_s1_2 {st : List hp_hv} {K : hp_hv → List hp_hv → Prop} (h : hp_s1 2 st K) : ∃ x r, st = .inr (.inr x) :: r ∧ K (.inr (.inr x)) r := by
  match st, h with
  | .inr (.inr x) :: r, h => exact ⟨x, r, rfl, h⟩
  | .inl x :: r, h => exact (show False from h).elim
  | .inr (.inl x) :: r, h => exact (show False from h).elim
  | [], h => exact (show False from h).elim
theorem hp_e6 {cy : Nat → ClassId} {S : hp_T} {a : Nat} (h : hp_K S a = 6) : hp_e cy S a = .inl (cy 0, hp_N S a, .inl (hp_I S a)) := by
  unfold hp_e
  rw [if_pos h]
theorem hp_e7 {cy : Nat → ClassId} {S : hp_T} {a : Nat} (h : hp_K S a = 7) : hp_e cy S a = .inl (cy 1, hp_N S a, .inr (.inl (hp_J S a))) := by
  unfold hp_e
  rw [if_neg (by omega), if_pos h]
theorem hp_e8 {cy : Nat → ClassId} {S : hp_T} {a : Nat} (h : hp_K S a = 8) : hp_e cy S a = .inl (cy 2, hp_N S a, .inl (hp_I S a)) := by
  unfold hp_e
  rw [if_neg (by omega), if_neg (by omega), if_pos h]
theorem hp_e9 {cy : Nat → ClassId} {S : hp_T} {a : Nat} (h : hp_K S a = 9) : hp_e cy S a = .inl (cy 3, hp_N S a, .inr (.inr (.inr (.inr (hp_R S a))))) := by
  unfold hp_e
  rw [if_neg (by omega), if_neg (by omega), if_neg (by omega), if_pos h]
theorem hp_row_I (S : hp_T) (a k : Nat) (v : Int32) : hp_I (hp_sI S a k v) a = upd (hp_I S a) k v := by
  funext j
  rw [hp_I_sI]
  by_cases hj : j = k
  · subst hj; simp [upd]
  · simp [upd, hj]
theorem hp_row_J (S : hp_T) (a k : Nat) (v : Int64) : hp_J (hp_sJ S a k v) a = vp_updL (hp_J S a) k v := by
  funext j
  rw [hp_J_sJ]
  by_cases hj : j = k
  · subst hj; simp [vp_updL]
  · simp [vp_updL, hj]
theorem hp_row_R (S : hp_T) (a k : Nat) (v : Option Nat) : hp_R (hp_sR S a k v) a = va_up (hp_R S a) k v := by
  funext j
  rw [hp_R_sR]
  by_cases hj : j = k
  · subst hj; simp [va_up]
  · simp [va_up, hj]
theorem hp_oI {cy : Nat → ClassId} {S : hp_T} {a k b : Nat} {v : Int32} (hb : b ≠ a) : hp_e cy (hp_sI S a k v) b = hp_e cy S b := hp_e_congr rfl (fun j => by rw [hp_I_sI, if_neg (fun h => hb h.1)]) (fun _ => rfl) (fun _ => rfl) rfl
theorem hp_oJ {cy : Nat → ClassId} {S : hp_T} {a k b : Nat} {v : Int64} (hb : b ≠ a) : hp_e cy (hp_sJ S a k v) b = hp_e cy S b := hp_e_congr rfl (fun _ => rfl) (fun j => by rw [hp_J_sJ, if_neg (fun h => hb h.1)]) (fun _ => rfl) rfl
theorem hp_oR {cy : Nat → ClassId} {S : hp_T} {a k b : Nat} {v : Option Nat} (hb : b ≠ a) : hp_e cy (hp_sR S a k v) b = hp_e cy S b := hp_e_congr rfl (fun _ => rfl) (fun _ => rfl) (fun j => by rw [hp_R_sR, if_neg (fun h => hb h.1)]) rfl
theorem hp_oF {cy : Nat → ClassId} {S : hp_T} {a k b : Nat} {v : hp_hv} (hb : b ≠ a) : hp_e cy (hp_sF S a k v) b = hp_e cy S b := by
  rcases v with x | x | x
  · exact hp_oI hb
  · exact hp_oJ hb
  · exact hp_oR hb
theorem hp_KF (S : hp_T) (a k : Nat) (v : hp_hv) : hp_K (hp_sF S a k v) = hp_K S := by
  rcases v with x | x | x <;> rfl
theorem hp_fF {S : hp_T} {a ci k : Nat} {v : hp_hv} (hk : k < hp_nf ci) (h : hp_fit (hp_ty ci k) v) : (hp_fl S a ci).set k (hp_v v) = hp_fl (hp_sF S a k v) a ci := by
  refine hp_fl_set hk (fun j hj => ?_) ?_
  · generalize hp_ty ci j = t
    unfold hp_fh
    rcases v with x | x | x
    · split <;> simp [hp_sF, hp_J_sI, hp_R_sI, hp_I_sI, hj]
    · split <;> simp [hp_sF, hp_J_sJ, hp_R_sJ, hp_I_sJ, hj]
    · split <;> simp [hp_sF, hp_J_sR, hp_R_sR, hp_I_sR, hj]
  · generalize hp_ty ci k = t at h
    match t, v, h with
    | 0, .inl x, _ => simp [hp_fh, hp_sF, hp_I_sI]
    | 1, .inr (.inl x), _ => simp [hp_fh, hp_sF, hp_J_sJ]
    | 2, .inr (.inr x), _ => simp [hp_fh, hp_sF, hp_R_sR]
    | 3, .inl x, _ => simp [hp_fh, hp_sF, hp_I_sI]
theorem hp_zn (y : Int32) (h : y = 0 ∨ y = 1) : vp_nar .boolean y = y := by
  rcases h with rfl | rfl <;> decide
end HPS
section HPK
variable {X : hp_X} {cc : ByteArray} {nL o : Nat} {rt : Option hp_hv → Prop} {len pc : Nat} {L : hp_LL} {st : List hp_hv} {S : hp_T} {k n : Nat} {E : Prop} {K : Nat → hp_LL → List hp_hv → hp_T → Prop}
theorem hk_iconst {v : Int} (C : hp_C0 X cc nL o) (hd : decode cc pc = .ok (.iconst v, len)) (hK : ∀ pc L st S, K pc L st S → hp_V X nL pc L st S k n) (h : hp_st nL o rt (.iconst v) len pc L st S E K) : hp_V X nL pc L st S k n := by
  obtain ⟨rfl, h⟩ := h
  obtain ⟨p, l, e, R, s, m, args, below, meth, c, Q, A, G⟩ := X
  obtain ⟨hx, hb, hml, hown, hts, hK0, hA⟩ := C
  intro H locs ls hw hS hl
  exact lv_iconst (v := Int32.ofInt v) hx hb hd rfl (hK _ _ _ _ h H locs ls hw hS hl)
theorem hk_bipush {v : Int} (C : hp_C0 X cc nL o) (hd : decode cc pc = .ok (.bipush v, len)) (hK : ∀ pc L st S, K pc L st S → hp_V X nL pc L st S k n) (h : hp_st nL o rt (.bipush v) len pc L st S E K) : hp_V X nL pc L st S k n := by
  obtain ⟨rfl, h⟩ := h
  obtain ⟨p, l, e, R, s, m, args, below, meth, c, Q, A, G⟩ := X
  obtain ⟨hx, hb, hml, hown, hts, hK0, hA⟩ := C
  intro H locs ls hw hS hl
  exact lv_bipush (v := (Int8.ofInt v).toInt32) hx hb hd rfl (hK _ _ _ _ h H locs ls hw hS hl)
theorem hk_sipush {v : Int} (C : hp_C0 X cc nL o) (hd : decode cc pc = .ok (.sipush v, len)) (hK : ∀ pc L st S, K pc L st S → hp_V X nL pc L st S k n) (h : hp_st nL o rt (.sipush v) len pc L st S E K) : hp_V X nL pc L st S k n := by
  obtain ⟨rfl, h⟩ := h
  obtain ⟨p, l, e, R, s, m, args, below, meth, c, Q, A, G⟩ := X
  obtain ⟨hx, hb, hml, hown, hts, hK0, hA⟩ := C
  intro H locs ls hw hS hl
  exact lv_sipush (v := (Int16.ofInt v).toInt32) hx hb hd rfl (hK _ _ _ _ h H locs ls hw hS hl)
theorem hk_lconst {v : Fin 2} (C : hp_C0 X cc nL o) (hd : decode cc pc = .ok (.lconst v, len)) (hK : ∀ pc L st S, K pc L st S → hp_V X nL pc L st S k n) (h : hp_st nL o rt (.lconst v) len pc L st S E K) : hp_V X nL pc L st S k n := by
  obtain ⟨rfl, h⟩ := h
  obtain ⟨p, l, e, R, s, m, args, below, meth, c, Q, A, G⟩ := X
  obtain ⟨hx, hb, hml, hown, hts, hK0, hA⟩ := C
  intro H locs ls hw hS hl
  exact lv_lconst (v := Int64.ofNat v.val) hx hb hd rfl (hK _ _ _ _ h H locs ls hw hS hl)
theorem hk_aconst_null (C : hp_C0 X cc nL o) (hd : decode cc pc = .ok (.aconst_null, len)) (hK : ∀ pc L st S, K pc L st S → hp_V X nL pc L st S k n) (h : hp_st nL o rt (.aconst_null) len pc L st S E K) : hp_V X nL pc L st S k n := by
  obtain ⟨rfl, h⟩ := h
  obtain ⟨p, l, e, R, s, m, args, below, meth, c, Q, A, G⟩ := X
  obtain ⟨hx, hb, hml, hown, hts, hK0, hA⟩ := C
  intro H locs ls hw hS hl
  exact lv_null hx hb hd (hK _ _ _ _ h H locs ls hw hS hl)
theorem hk_iload_n {j : Fin 4} (C : hp_C0 X cc nL o) (hd : decode cc pc = .ok (.iload_n j, len)) (hK : ∀ pc L st S, K pc L st S → hp_V X nL pc L st S k n) (h : hp_st nL o rt (.iload_n j) len pc L st S E K) : hp_V X nL pc L st S k n := by
  obtain ⟨rfl, h⟩ := h
  obtain ⟨x, hx0, h⟩ := hp_ld0 h
  obtain ⟨p, l, e, R, s, m, args, below, meth, c, Q, A, G⟩ := X
  obtain ⟨hx, hb, hml, hown, hts, hK0, hA⟩ := C
  intro H locs ls hw hS hl
  exact lv_iload_n hx hb hd rfl (hp_at hl hx0) (hK _ _ _ _ h H locs ls hw hS hl)
theorem hk_iload {j : Nat} (C : hp_C0 X cc nL o) (hd : decode cc pc = .ok (.iload j, len)) (hK : ∀ pc L st S, K pc L st S → hp_V X nL pc L st S k n) (h : hp_st nL o rt (.iload j) len pc L st S E K) : hp_V X nL pc L st S k n := by
  obtain ⟨rfl, h⟩ := h
  obtain ⟨x, hx0, h⟩ := hp_ld0 h
  obtain ⟨p, l, e, R, s, m, args, below, meth, c, Q, A, G⟩ := X
  obtain ⟨hx, hb, hml, hown, hts, hK0, hA⟩ := C
  intro H locs ls hw hS hl
  exact lv_iload hx hb hd (hp_at hl hx0) (hK _ _ _ _ h H locs ls hw hS hl)
theorem hk_lload_n {j : Fin 4} (C : hp_C0 X cc nL o) (hd : decode cc pc = .ok (.lload_n j, len)) (hK : ∀ pc L st S, K pc L st S → hp_V X nL pc L st S k n) (h : hp_st nL o rt (.lload_n j) len pc L st S E K) : hp_V X nL pc L st S k n := by
  obtain ⟨rfl, h⟩ := h
  obtain ⟨x, hx0, h⟩ := hp_ld1 h
  obtain ⟨p, l, e, R, s, m, args, below, meth, c, Q, A, G⟩ := X
  obtain ⟨hx, hb, hml, hown, hts, hK0, hA⟩ := C
  intro H locs ls hw hS hl
  exact lv_lload_n hx hb hd rfl (hp_at hl hx0) (hK _ _ _ _ h H locs ls hw hS hl)
theorem hk_lload {j : Nat} (C : hp_C0 X cc nL o) (hd : decode cc pc = .ok (.lload j, len)) (hK : ∀ pc L st S, K pc L st S → hp_V X nL pc L st S k n) (h : hp_st nL o rt (.lload j) len pc L st S E K) : hp_V X nL pc L st S k n := by
  obtain ⟨rfl, h⟩ := h
  obtain ⟨x, hx0, h⟩ := hp_ld1 h
  obtain ⟨p, l, e, R, s, m, args, below, meth, c, Q, A, G⟩ := X
  obtain ⟨hx, hb, hml, hown, hts, hK0, hA⟩ := C
  intro H locs ls hw hS hl
  exact lv_lload hx hb hd (hp_at hl hx0) (hK _ _ _ _ h H locs ls hw hS hl)
theorem hk_aload_n {j : Fin 4} (C : hp_C0 X cc nL o) (hd : decode cc pc = .ok (.aload_n j, len)) (hK : ∀ pc L st S, K pc L st S → hp_V X nL pc L st S k n) (h : hp_st nL o rt (.aload_n j) len pc L st S E K) : hp_V X nL pc L st S k n := by
  obtain ⟨rfl, h⟩ := h
  obtain ⟨x, hx0, h⟩ := hp_ld2 h
  obtain ⟨p, l, e, R, s, m, args, below, meth, c, Q, A, G⟩ := X
  obtain ⟨hx, hb, hml, hown, hts, hK0, hA⟩ := C
  intro H locs ls hw hS hl
  cases x with
  | none => exact lv_aload_nN hx hb hd rfl (hp_at hl hx0) (hK _ _ _ _ h H locs ls hw hS hl)
  | some x => exact lv_aload_n hx hb hd rfl (hp_at hl hx0) (hK _ _ _ _ h H locs ls hw hS hl)
theorem hk_aload {j : Nat} (C : hp_C0 X cc nL o) (hd : decode cc pc = .ok (.aload j, len)) (hK : ∀ pc L st S, K pc L st S → hp_V X nL pc L st S k n) (h : hp_st nL o rt (.aload j) len pc L st S E K) : hp_V X nL pc L st S k n := by
  obtain ⟨rfl, h⟩ := h
  obtain ⟨x, hx0, h⟩ := hp_ld2 h
  obtain ⟨p, l, e, R, s, m, args, below, meth, c, Q, A, G⟩ := X
  obtain ⟨hx, hb, hml, hown, hts, hK0, hA⟩ := C
  intro H locs ls hw hS hl
  cases x with
  | none => exact lv_aloadN hx hb hd (hp_at hl hx0) (hK _ _ _ _ h H locs ls hw hS hl)
  | some x => exact lv_aload hx hb hd (hp_at hl hx0) (hK _ _ _ _ h H locs ls hw hS hl)
theorem hk_istore_n {j : Fin 4} (C : hp_C0 X cc nL o) (hd : decode cc pc = .ok (.istore_n j, len)) (hK : ∀ pc L st S, K pc L st S → hp_V X nL pc L st S k n) (h : hp_st nL o rt (.istore_n j) len pc L st S E K) : hp_V X nL pc L st S k n := by
  obtain ⟨rfl, hn, h⟩ := h
  obtain ⟨x, r, rfl, h⟩ := hp_s1_0 h
  obtain ⟨p, l, e, R, s, m, args, below, meth, c, Q, A, G⟩ := X
  obtain ⟨hx, hb, hml, hown, hts, hK0, hA⟩ := C
  intro H locs ls hw hS hl
  exact lv_istore_n hx hb hd rfl hl hn rfl (fun ls2 hl2 => hK _ _ _ _ h H locs ls2 hw hS (hp_store (v := .inl x) hl2))
theorem hk_lstore_n {j : Fin 4} (C : hp_C0 X cc nL o) (hd : decode cc pc = .ok (.lstore_n j, len)) (hK : ∀ pc L st S, K pc L st S → hp_V X nL pc L st S k n) (h : hp_st nL o rt (.lstore_n j) len pc L st S E K) : hp_V X nL pc L st S k n := by
  obtain ⟨rfl, hn, h⟩ := h
  obtain ⟨x, r, rfl, h⟩ := hp_s1_1 h
  obtain ⟨p, l, e, R, s, m, args, below, meth, c, Q, A, G⟩ := X
  obtain ⟨hx, hb, hml, hown, hts, hK0, hA⟩ := C
  intro H locs ls hw hS hl
  exact lv_lstore_n hx hb hd rfl hl hn rfl (fun ls2 hl2 => hK _ _ _ _ h H locs ls2 hw hS (hp_store2 (v := .inr (.inl x)) hl2))
theorem hk_astore_n {j : Fin 4} (C : hp_C0 X cc nL o) (hd : decode cc pc = .ok (.astore_n j, len)) (hK : ∀ pc L st S, K pc L st S → hp_V X nL pc L st S k n) (h : hp_st nL o rt (.astore_n j) len pc L st S E K) : hp_V X nL pc L st S k n := by
  obtain ⟨rfl, hn, h⟩ := h
  obtain ⟨x, r, rfl, h⟩ := hp_s1_2 h
  obtain ⟨p, l, e, R, s, m, args, below, meth, c, Q, A, G⟩ := X
  obtain ⟨hx, hb, hml, hown, hts, hK0, hA⟩ := C
  intro H locs ls hw hS hl
  cases x with
  | none => exact lv_astore_nN hx hb hd rfl hl hn rfl (fun ls2 hl2 => hK _ _ _ _ h H locs ls2 hw hS (hp_store (v := .inr (.inr none)) hl2))
  | some x => exact lv_astore_n hx hb hd rfl hl hn rfl (fun ls2 hl2 => hK _ _ _ _ h H locs ls2 hw hS (hp_store (v := .inr (.inr (some x))) hl2))
theorem hk_istore {j : Nat} (C : hp_C0 X cc nL o) (hd : decode cc pc = .ok (.istore j, len)) (hK : ∀ pc L st S, K pc L st S → hp_V X nL pc L st S k n) (h : hp_st nL o rt (.istore j) len pc L st S E K) : hp_V X nL pc L st S k n := by
  obtain ⟨rfl, hn, h⟩ := h
  obtain ⟨x, r, rfl, h⟩ := hp_s1_0 h
  obtain ⟨p, l, e, R, s, m, args, below, meth, c, Q, A, G⟩ := X
  obtain ⟨hx, hb, hml, hown, hts, hK0, hA⟩ := C
  intro H locs ls hw hS hl
  exact lv_istore hx hb hd hl hn rfl (fun ls2 hl2 => hK _ _ _ _ h H locs ls2 hw hS (hp_store (v := .inl x) hl2))
theorem hk_lstore {j : Nat} (C : hp_C0 X cc nL o) (hd : decode cc pc = .ok (.lstore j, len)) (hK : ∀ pc L st S, K pc L st S → hp_V X nL pc L st S k n) (h : hp_st nL o rt (.lstore j) len pc L st S E K) : hp_V X nL pc L st S k n := by
  obtain ⟨rfl, hn, h⟩ := h
  obtain ⟨x, r, rfl, h⟩ := hp_s1_1 h
  obtain ⟨p, l, e, R, s, m, args, below, meth, c, Q, A, G⟩ := X
  obtain ⟨hx, hb, hml, hown, hts, hK0, hA⟩ := C
  intro H locs ls hw hS hl
  exact lv_lstore hx hb hd hl hn rfl (fun ls2 hl2 => hK _ _ _ _ h H locs ls2 hw hS (hp_store2 (v := .inr (.inl x)) hl2))
theorem hk_astore {j : Nat} (C : hp_C0 X cc nL o) (hd : decode cc pc = .ok (.astore j, len)) (hK : ∀ pc L st S, K pc L st S → hp_V X nL pc L st S k n) (h : hp_st nL o rt (.astore j) len pc L st S E K) : hp_V X nL pc L st S k n := by
  obtain ⟨rfl, hn, h⟩ := h
  obtain ⟨x, r, rfl, h⟩ := hp_s1_2 h
  obtain ⟨p, l, e, R, s, m, args, below, meth, c, Q, A, G⟩ := X
  obtain ⟨hx, hb, hml, hown, hts, hK0, hA⟩ := C
  intro H locs ls hw hS hl
  cases x with
  | none => exact lv_astoreN hx hb hd hl hn rfl (fun ls2 hl2 => hK _ _ _ _ h H locs ls2 hw hS (hp_store (v := .inr (.inr none)) hl2))
  | some x => exact lv_astore hx hb hd hl hn rfl (fun ls2 hl2 => hK _ _ _ _ h H locs ls2 hw hS (hp_store (v := .inr (.inr (some x))) hl2))
theorem hk_iinc {j : Nat} {d : Int} (C : hp_C0 X cc nL o) (hd : decode cc pc = .ok (.iinc j d, len)) (hK : ∀ pc L st S, K pc L st S → hp_V X nL pc L st S k n) (h : hp_st nL o rt (.iinc j d) len pc L st S E K) : hp_V X nL pc L st S k n := by
  obtain ⟨rfl, hn, h1⟩ := h
  obtain ⟨x, hx0, h2⟩ := hp_ld0 h1
  obtain ⟨x2, r, he, h3⟩ := hq_i1_e h2
  cases he
  obtain ⟨p, l, e, R, s, m, args, below, meth, c, Q, A, G⟩ := X
  obtain ⟨hx, hb, hml, hown, hts, hK0, hA⟩ := C
  intro H locs ls hw hS hl
  obtain ⟨kx, hkx⟩ := List.getElem?_of_mem (List.mem_map.mpr ⟨(j, Sum.inl x), hp_lg_mem hx0, rfl⟩ : (j, hp_v (.inl x)) ∈ hp_Lv L)
  exact lv_iinc hx hb hd hl hkx rfl hn rfl (fun ls2 hl2 => hK _ _ _ _ h3 H locs ls2 hw hS (hp_store (v := .inl (x + Int32.ofInt d)) hl2))
theorem hk_iadd (C : hp_C0 X cc nL o) (hd : decode cc pc = .ok (.iadd, len)) (hK : ∀ pc L st S, K pc L st S → hp_V X nL pc L st S k n) (h : hp_st nL o rt (.iadd) len pc L st S E K) : hp_V X nL pc L st S k n := by
  obtain ⟨rfl, h⟩ := h
  obtain ⟨x, y, r, rfl, h⟩ := hq_i2_e h
  obtain ⟨p, l, e, R, s, m, args, below, meth, c, Q, A, G⟩ := X
  obtain ⟨hx, hb, hml, hown, hts, hK0, hA⟩ := C
  intro H locs ls hw hS hl
  exact lv_iadd hx hb hd (hK _ _ _ _ h H locs ls hw hS hl)
theorem hk_isub (C : hp_C0 X cc nL o) (hd : decode cc pc = .ok (.isub, len)) (hK : ∀ pc L st S, K pc L st S → hp_V X nL pc L st S k n) (h : hp_st nL o rt (.isub) len pc L st S E K) : hp_V X nL pc L st S k n := by
  obtain ⟨rfl, h⟩ := h
  obtain ⟨x, y, r, rfl, h⟩ := hq_i2_e h
  obtain ⟨p, l, e, R, s, m, args, below, meth, c, Q, A, G⟩ := X
  obtain ⟨hx, hb, hml, hown, hts, hK0, hA⟩ := C
  intro H locs ls hw hS hl
  exact lv_isub hx hb hd (hK _ _ _ _ h H locs ls hw hS hl)
theorem hk_imul (C : hp_C0 X cc nL o) (hd : decode cc pc = .ok (.imul, len)) (hK : ∀ pc L st S, K pc L st S → hp_V X nL pc L st S k n) (h : hp_st nL o rt (.imul) len pc L st S E K) : hp_V X nL pc L st S k n := by
  obtain ⟨rfl, h⟩ := h
  obtain ⟨x, y, r, rfl, h⟩ := hq_i2_e h
  obtain ⟨p, l, e, R, s, m, args, below, meth, c, Q, A, G⟩ := X
  obtain ⟨hx, hb, hml, hown, hts, hK0, hA⟩ := C
  intro H locs ls hw hS hl
  exact lv_imul hx hb hd (hK _ _ _ _ h H locs ls hw hS hl)
theorem hk_iand (C : hp_C0 X cc nL o) (hd : decode cc pc = .ok (.iand, len)) (hK : ∀ pc L st S, K pc L st S → hp_V X nL pc L st S k n) (h : hp_st nL o rt (.iand) len pc L st S E K) : hp_V X nL pc L st S k n := by
  obtain ⟨rfl, h⟩ := h
  obtain ⟨x, y, r, rfl, h⟩ := hq_i2_e h
  obtain ⟨p, l, e, R, s, m, args, below, meth, c, Q, A, G⟩ := X
  obtain ⟨hx, hb, hml, hown, hts, hK0, hA⟩ := C
  intro H locs ls hw hS hl
  exact lv_iand hx hb hd (hK _ _ _ _ h H locs ls hw hS hl)
theorem hk_idiv (C : hp_C0 X cc nL o) (hd : decode cc pc = .ok (.idiv, len)) (hK : ∀ pc L st S, K pc L st S → hp_V X nL pc L st S k n) (h : hp_st nL o rt (.idiv) len pc L st S E K) : hp_V X nL pc L st S k n := by
  obtain ⟨rfl, h⟩ := h
  obtain ⟨x, y, r, rfl, hne, h⟩ := hq_i2_e h
  obtain ⟨p, l, e, R, s, m, args, below, meth, c, Q, A, G⟩ := X
  obtain ⟨hx, hb, hml, hown, hts, hK0, hA⟩ := C
  intro H locs ls hw hS hl
  exact lv_idiv hx hb hd hne (hK _ _ _ _ h H locs ls hw hS hl)
theorem hk_irem (C : hp_C0 X cc nL o) (hd : decode cc pc = .ok (.irem, len)) (hK : ∀ pc L st S, K pc L st S → hp_V X nL pc L st S k n) (h : hp_st nL o rt (.irem) len pc L st S E K) : hp_V X nL pc L st S k n := by
  obtain ⟨rfl, h⟩ := h
  obtain ⟨x, y, r, rfl, hne, h⟩ := hq_i2_e h
  obtain ⟨p, l, e, R, s, m, args, below, meth, c, Q, A, G⟩ := X
  obtain ⟨hx, hb, hml, hown, hts, hK0, hA⟩ := C
  intro H locs ls hw hS hl
  exact lv_irem hx hb hd hne (hK _ _ _ _ h H locs ls hw hS hl)
theorem hk_ladd (C : hp_C0 X cc nL o) (hd : decode cc pc = .ok (.ladd, len)) (hK : ∀ pc L st S, K pc L st S → hp_V X nL pc L st S k n) (h : hp_st nL o rt (.ladd) len pc L st S E K) : hp_V X nL pc L st S k n := by
  obtain ⟨rfl, h⟩ := h
  obtain ⟨x, y, r, rfl, h⟩ := hq_l2_e h
  obtain ⟨p, l, e, R, s, m, args, below, meth, c, Q, A, G⟩ := X
  obtain ⟨hx, hb, hml, hown, hts, hK0, hA⟩ := C
  intro H locs ls hw hS hl
  exact lv_ladd hx hb hd (hK _ _ _ _ h H locs ls hw hS hl)
theorem hk_lmul (C : hp_C0 X cc nL o) (hd : decode cc pc = .ok (.lmul, len)) (hK : ∀ pc L st S, K pc L st S → hp_V X nL pc L st S k n) (h : hp_st nL o rt (.lmul) len pc L st S E K) : hp_V X nL pc L st S k n := by
  obtain ⟨rfl, h⟩ := h
  obtain ⟨x, y, r, rfl, h⟩ := hq_l2_e h
  obtain ⟨p, l, e, R, s, m, args, below, meth, c, Q, A, G⟩ := X
  obtain ⟨hx, hb, hml, hown, hts, hK0, hA⟩ := C
  intro H locs ls hw hS hl
  exact lv_lmul hx hb hd (hK _ _ _ _ h H locs ls hw hS hl)
theorem hk_ldiv (C : hp_C0 X cc nL o) (hd : decode cc pc = .ok (.ldiv, len)) (hK : ∀ pc L st S, K pc L st S → hp_V X nL pc L st S k n) (h : hp_st nL o rt (.ldiv) len pc L st S E K) : hp_V X nL pc L st S k n := by
  obtain ⟨rfl, h⟩ := h
  obtain ⟨x, y, r, rfl, hne, h⟩ := hq_l2_e h
  obtain ⟨p, l, e, R, s, m, args, below, meth, c, Q, A, G⟩ := X
  obtain ⟨hx, hb, hml, hown, hts, hK0, hA⟩ := C
  intro H locs ls hw hS hl
  exact lv_ldiv hx hb hd hne (hK _ _ _ _ h H locs ls hw hS hl)
theorem hk_lrem (C : hp_C0 X cc nL o) (hd : decode cc pc = .ok (.lrem, len)) (hK : ∀ pc L st S, K pc L st S → hp_V X nL pc L st S k n) (h : hp_st nL o rt (.lrem) len pc L st S E K) : hp_V X nL pc L st S k n := by
  obtain ⟨rfl, h⟩ := h
  obtain ⟨x, y, r, rfl, hne, h⟩ := hq_l2_e h
  obtain ⟨p, l, e, R, s, m, args, below, meth, c, Q, A, G⟩ := X
  obtain ⟨hx, hb, hml, hown, hts, hK0, hA⟩ := C
  intro H locs ls hw hS hl
  exact lv_lrem hx hb hd hne (hK _ _ _ _ h H locs ls hw hS hl)
theorem hk_lcmp (C : hp_C0 X cc nL o) (hd : decode cc pc = .ok (.lcmp, len)) (hK : ∀ pc L st S, K pc L st S → hp_V X nL pc L st S k n) (h : hp_st nL o rt (.lcmp) len pc L st S E K) : hp_V X nL pc L st S k n := by
  obtain ⟨rfl, h⟩ := h
  obtain ⟨x, y, r, rfl, h⟩ := hq_l2_e h
  obtain ⟨p, l, e, R, s, m, args, below, meth, c, Q, A, G⟩ := X
  obtain ⟨hx, hb, hml, hown, hts, hK0, hA⟩ := C
  intro H locs ls hw hS hl
  exact W.lcmp hx hb hd (hK _ _ _ _ h H locs ls hw hS hl)
theorem hk_i2l (C : hp_C0 X cc nL o) (hd : decode cc pc = .ok (.i2l, len)) (hK : ∀ pc L st S, K pc L st S → hp_V X nL pc L st S k n) (h : hp_st nL o rt (.i2l) len pc L st S E K) : hp_V X nL pc L st S k n := by
  obtain ⟨rfl, h⟩ := h
  obtain ⟨x, r, rfl, h⟩ := hq_i1_e h
  obtain ⟨p, l, e, R, s, m, args, below, meth, c, Q, A, G⟩ := X
  obtain ⟨hx, hb, hml, hown, hts, hK0, hA⟩ := C
  intro H locs ls hw hS hl
  exact lv_i2l hx hb hd rfl (hK _ _ _ _ h H locs ls hw hS hl)
theorem hk_l2i (C : hp_C0 X cc nL o) (hd : decode cc pc = .ok (.l2i, len)) (hK : ∀ pc L st S, K pc L st S → hp_V X nL pc L st S k n) (h : hp_st nL o rt (.l2i) len pc L st S E K) : hp_V X nL pc L st S k n := by
  obtain ⟨rfl, h⟩ := h
  obtain ⟨x, r, rfl, h⟩ := hq_l1_e h
  obtain ⟨p, l, e, R, s, m, args, below, meth, c, Q, A, G⟩ := X
  obtain ⟨hx, hb, hml, hown, hts, hK0, hA⟩ := C
  intro H locs ls hw hS hl
  exact lv_l2i hx hb hd rfl (hK _ _ _ _ h H locs ls hw hS hl)
theorem hk_dup (C : hp_C0 X cc nL o) (hd : decode cc pc = .ok (.dup, len)) (hK : ∀ pc L st S, K pc L st S → hp_V X nL pc L st S k n) (h : hp_st nL o rt (.dup) len pc L st S E K) : hp_V X nL pc L st S k n := by
  obtain ⟨rfl, h⟩ := h
  rcases st with _ | ⟨v, r⟩
  · exact (show False from h).elim
  obtain ⟨hv, h⟩ := h
  obtain ⟨p, l, e, R, s, m, args, below, meth, c, Q, A, G⟩ := X
  obtain ⟨hx, hb, hml, hown, hts, hK0, hA⟩ := C
  intro H locs ls hw hS hl
  exact lv_dup hx hb hd (by rw [hp_cat, hv]; rfl) (hK _ _ _ _ h H locs ls hw hS hl)
theorem hk_pop (C : hp_C0 X cc nL o) (hd : decode cc pc = .ok (.pop, len)) (hK : ∀ pc L st S, K pc L st S → hp_V X nL pc L st S k n) (h : hp_st nL o rt (.pop) len pc L st S E K) : hp_V X nL pc L st S k n := by
  obtain ⟨rfl, h⟩ := h
  rcases st with _ | ⟨v, r⟩
  · exact (show False from h).elim
  obtain ⟨hv, h⟩ := h
  obtain ⟨p, l, e, R, s, m, args, below, meth, c, Q, A, G⟩ := X
  obtain ⟨hx, hb, hml, hown, hts, hK0, hA⟩ := C
  intro H locs ls hw hS hl
  exact lv_pop hx hb hd (by rw [hp_cat, hv]; rfl) (hK _ _ _ _ h H locs ls hw hS hl)
theorem hk_dup2 (C : hp_C0 X cc nL o) (hd : decode cc pc = .ok (.dup2, len)) (hK : ∀ pc L st S, K pc L st S → hp_V X nL pc L st S k n) (h : hp_st nL o rt (.dup2) len pc L st S E K) : hp_V X nL pc L st S k n := by
  obtain ⟨rfl, h⟩ := h
  rcases st with _ | ⟨v, _ | ⟨w, r⟩⟩
  · exact (show False from h).elim
  · exact (show False from h).elim
  obtain ⟨hv, hv2, h⟩ := h
  obtain ⟨p, l, e, R, s, m, args, below, meth, c, Q, A, G⟩ := X
  obtain ⟨hx, hb, hml, hown, hts, hK0, hA⟩ := C
  intro H locs ls hw hS hl
  exact lv_dup2_11 hx hb hd (by rw [hp_cat, hv]; rfl) (by rw [hp_cat, hv2]; rfl) (hK _ _ _ _ h H locs ls hw hS hl)
theorem hk_if_eq {off : Int} (C : hp_C0 X cc nL o) (hd : decode cc pc = .ok (.ifCond .eq off, len)) (hK : ∀ pc L st S, K pc L st S → hp_V X nL pc L st S k n) (h : hp_st nL o rt (.ifCond .eq off) len pc L st S E K) : hp_V X nL pc L st S k n := by
  obtain ⟨rfl, h⟩ := h
  obtain ⟨x, r, rfl, h0, h1, h2⟩ := hq_i1_e h
  obtain ⟨p, l, e, R, s, m, args, below, meth, c, Q, A, G⟩ := X
  obtain ⟨hx, hb, hml, hown, hts, hK0, hA⟩ := C
  intro H locs ls hw hS hl
  exact lv_if_eq hx hb hd (Int.toNat_of_nonneg h0).symm (fun q => hK _ _ _ _ (h1 q) H locs ls hw hS hl) (fun q => hK _ _ _ _ (h2 q) H locs ls hw hS hl)
theorem hk_icmp_eq {off : Int} (C : hp_C0 X cc nL o) (hd : decode cc pc = .ok (.if_icmp .eq off, len)) (hK : ∀ pc L st S, K pc L st S → hp_V X nL pc L st S k n) (h : hp_st nL o rt (.if_icmp .eq off) len pc L st S E K) : hp_V X nL pc L st S k n := by
  obtain ⟨rfl, h⟩ := h
  obtain ⟨x, y, r, rfl, h0, h1, h2⟩ := hq_i2_e h
  obtain ⟨p, l, e, R, s, m, args, below, meth, c, Q, A, G⟩ := X
  obtain ⟨hx, hb, hml, hown, hts, hK0, hA⟩ := C
  intro H locs ls hw hS hl
  exact lv_icmp_eq hx hb hd (Int.toNat_of_nonneg h0).symm (fun q => hK _ _ _ _ (h1 q) H locs ls hw hS hl) (fun q => hK _ _ _ _ (h2 q) H locs ls hw hS hl)
theorem hk_if_ne {off : Int} (C : hp_C0 X cc nL o) (hd : decode cc pc = .ok (.ifCond .ne off, len)) (hK : ∀ pc L st S, K pc L st S → hp_V X nL pc L st S k n) (h : hp_st nL o rt (.ifCond .ne off) len pc L st S E K) : hp_V X nL pc L st S k n := by
  obtain ⟨rfl, h⟩ := h
  obtain ⟨x, r, rfl, h0, h1, h2⟩ := hq_i1_e h
  obtain ⟨p, l, e, R, s, m, args, below, meth, c, Q, A, G⟩ := X
  obtain ⟨hx, hb, hml, hown, hts, hK0, hA⟩ := C
  intro H locs ls hw hS hl
  exact lv_if_ne hx hb hd (Int.toNat_of_nonneg h0).symm (fun q => hK _ _ _ _ (h1 q) H locs ls hw hS hl) (fun q => hK _ _ _ _ (h2 q) H locs ls hw hS hl)
theorem hk_icmp_ne {off : Int} (C : hp_C0 X cc nL o) (hd : decode cc pc = .ok (.if_icmp .ne off, len)) (hK : ∀ pc L st S, K pc L st S → hp_V X nL pc L st S k n) (h : hp_st nL o rt (.if_icmp .ne off) len pc L st S E K) : hp_V X nL pc L st S k n := by
  obtain ⟨rfl, h⟩ := h
  obtain ⟨x, y, r, rfl, h0, h1, h2⟩ := hq_i2_e h
  obtain ⟨p, l, e, R, s, m, args, below, meth, c, Q, A, G⟩ := X
  obtain ⟨hx, hb, hml, hown, hts, hK0, hA⟩ := C
  intro H locs ls hw hS hl
  exact lv_icmp_ne hx hb hd (Int.toNat_of_nonneg h0).symm (fun q => hK _ _ _ _ (h1 q) H locs ls hw hS hl) (fun q => hK _ _ _ _ (h2 q) H locs ls hw hS hl)
theorem hk_if_lt {off : Int} (C : hp_C0 X cc nL o) (hd : decode cc pc = .ok (.ifCond .lt off, len)) (hK : ∀ pc L st S, K pc L st S → hp_V X nL pc L st S k n) (h : hp_st nL o rt (.ifCond .lt off) len pc L st S E K) : hp_V X nL pc L st S k n := by
  obtain ⟨rfl, h⟩ := h
  obtain ⟨x, r, rfl, h0, h1, h2⟩ := hq_i1_e h
  obtain ⟨p, l, e, R, s, m, args, below, meth, c, Q, A, G⟩ := X
  obtain ⟨hx, hb, hml, hown, hts, hK0, hA⟩ := C
  intro H locs ls hw hS hl
  exact lv_if_lt hx hb hd (Int.toNat_of_nonneg h0).symm (fun q => hK _ _ _ _ (h1 q) H locs ls hw hS hl) (fun q => hK _ _ _ _ (h2 q) H locs ls hw hS hl)
theorem hk_icmp_lt {off : Int} (C : hp_C0 X cc nL o) (hd : decode cc pc = .ok (.if_icmp .lt off, len)) (hK : ∀ pc L st S, K pc L st S → hp_V X nL pc L st S k n) (h : hp_st nL o rt (.if_icmp .lt off) len pc L st S E K) : hp_V X nL pc L st S k n := by
  obtain ⟨rfl, h⟩ := h
  obtain ⟨x, y, r, rfl, h0, h1, h2⟩ := hq_i2_e h
  obtain ⟨p, l, e, R, s, m, args, below, meth, c, Q, A, G⟩ := X
  obtain ⟨hx, hb, hml, hown, hts, hK0, hA⟩ := C
  intro H locs ls hw hS hl
  exact lv_icmp_lt hx hb hd (Int.toNat_of_nonneg h0).symm (fun q => hK _ _ _ _ (h1 q) H locs ls hw hS hl) (fun q => hK _ _ _ _ (h2 q) H locs ls hw hS hl)
theorem hk_if_ge {off : Int} (C : hp_C0 X cc nL o) (hd : decode cc pc = .ok (.ifCond .ge off, len)) (hK : ∀ pc L st S, K pc L st S → hp_V X nL pc L st S k n) (h : hp_st nL o rt (.ifCond .ge off) len pc L st S E K) : hp_V X nL pc L st S k n := by
  obtain ⟨rfl, h⟩ := h
  obtain ⟨x, r, rfl, h0, h1, h2⟩ := hq_i1_e h
  obtain ⟨p, l, e, R, s, m, args, below, meth, c, Q, A, G⟩ := X
  obtain ⟨hx, hb, hml, hown, hts, hK0, hA⟩ := C
  intro H locs ls hw hS hl
  exact lv_if_ge hx hb hd (Int.toNat_of_nonneg h0).symm (fun q => hK _ _ _ _ (h1 q) H locs ls hw hS hl) (fun q => hK _ _ _ _ (h2 q) H locs ls hw hS hl)
theorem hk_icmp_ge {off : Int} (C : hp_C0 X cc nL o) (hd : decode cc pc = .ok (.if_icmp .ge off, len)) (hK : ∀ pc L st S, K pc L st S → hp_V X nL pc L st S k n) (h : hp_st nL o rt (.if_icmp .ge off) len pc L st S E K) : hp_V X nL pc L st S k n := by
  obtain ⟨rfl, h⟩ := h
  obtain ⟨x, y, r, rfl, h0, h1, h2⟩ := hq_i2_e h
  obtain ⟨p, l, e, R, s, m, args, below, meth, c, Q, A, G⟩ := X
  obtain ⟨hx, hb, hml, hown, hts, hK0, hA⟩ := C
  intro H locs ls hw hS hl
  exact lv_icmp_ge hx hb hd (Int.toNat_of_nonneg h0).symm (fun q => hK _ _ _ _ (h1 q) H locs ls hw hS hl) (fun q => hK _ _ _ _ (h2 q) H locs ls hw hS hl)
theorem hk_if_gt {off : Int} (C : hp_C0 X cc nL o) (hd : decode cc pc = .ok (.ifCond .gt off, len)) (hK : ∀ pc L st S, K pc L st S → hp_V X nL pc L st S k n) (h : hp_st nL o rt (.ifCond .gt off) len pc L st S E K) : hp_V X nL pc L st S k n := by
  obtain ⟨rfl, h⟩ := h
  obtain ⟨x, r, rfl, h0, h1, h2⟩ := hq_i1_e h
  obtain ⟨p, l, e, R, s, m, args, below, meth, c, Q, A, G⟩ := X
  obtain ⟨hx, hb, hml, hown, hts, hK0, hA⟩ := C
  intro H locs ls hw hS hl
  exact lv_if_gt hx hb hd (Int.toNat_of_nonneg h0).symm (fun q => hK _ _ _ _ (h1 q) H locs ls hw hS hl) (fun q => hK _ _ _ _ (h2 q) H locs ls hw hS hl)
theorem hk_icmp_gt {off : Int} (C : hp_C0 X cc nL o) (hd : decode cc pc = .ok (.if_icmp .gt off, len)) (hK : ∀ pc L st S, K pc L st S → hp_V X nL pc L st S k n) (h : hp_st nL o rt (.if_icmp .gt off) len pc L st S E K) : hp_V X nL pc L st S k n := by
  obtain ⟨rfl, h⟩ := h
  obtain ⟨x, y, r, rfl, h0, h1, h2⟩ := hq_i2_e h
  obtain ⟨p, l, e, R, s, m, args, below, meth, c, Q, A, G⟩ := X
  obtain ⟨hx, hb, hml, hown, hts, hK0, hA⟩ := C
  intro H locs ls hw hS hl
  exact lv_icmp_gt hx hb hd (Int.toNat_of_nonneg h0).symm (fun q => hK _ _ _ _ (h1 q) H locs ls hw hS hl) (fun q => hK _ _ _ _ (h2 q) H locs ls hw hS hl)
theorem hk_if_le {off : Int} (C : hp_C0 X cc nL o) (hd : decode cc pc = .ok (.ifCond .le off, len)) (hK : ∀ pc L st S, K pc L st S → hp_V X nL pc L st S k n) (h : hp_st nL o rt (.ifCond .le off) len pc L st S E K) : hp_V X nL pc L st S k n := by
  obtain ⟨rfl, h⟩ := h
  obtain ⟨x, r, rfl, h0, h1, h2⟩ := hq_i1_e h
  obtain ⟨p, l, e, R, s, m, args, below, meth, c, Q, A, G⟩ := X
  obtain ⟨hx, hb, hml, hown, hts, hK0, hA⟩ := C
  intro H locs ls hw hS hl
  exact lv_if_le hx hb hd (Int.toNat_of_nonneg h0).symm (fun q => hK _ _ _ _ (h1 q) H locs ls hw hS hl) (fun q => hK _ _ _ _ (h2 q) H locs ls hw hS hl)
theorem hk_icmp_le {off : Int} (C : hp_C0 X cc nL o) (hd : decode cc pc = .ok (.if_icmp .le off, len)) (hK : ∀ pc L st S, K pc L st S → hp_V X nL pc L st S k n) (h : hp_st nL o rt (.if_icmp .le off) len pc L st S E K) : hp_V X nL pc L st S k n := by
  obtain ⟨rfl, h⟩ := h
  obtain ⟨x, y, r, rfl, h0, h1, h2⟩ := hq_i2_e h
  obtain ⟨p, l, e, R, s, m, args, below, meth, c, Q, A, G⟩ := X
  obtain ⟨hx, hb, hml, hown, hts, hK0, hA⟩ := C
  intro H locs ls hw hS hl
  exact lv_icmp_le hx hb hd (Int.toNat_of_nonneg h0).symm (fun q => hK _ _ _ _ (h1 q) H locs ls hw hS hl) (fun q => hK _ _ _ _ (h2 q) H locs ls hw hS hl)
theorem hk_acmp_eq {off : Int} (C : hp_C0 X cc nL o) (hd : decode cc pc = .ok (.if_acmp .eq off, len)) (hK : ∀ pc L st S, K pc L st S → hp_V X nL pc L st S k n) (h : hp_st nL o rt (.if_acmp .eq off) len pc L st S E K) : hp_V X nL pc L st S k n := by
  obtain ⟨rfl, h⟩ := h
  obtain ⟨x, y, r, rfl, h0, h1, h2⟩ := hq_r2_e h
  obtain ⟨p, l, e, R, s, m, args, below, meth, c, Q, A, G⟩ := X
  obtain ⟨hx, hb, hml, hown, hts, hK0, hA⟩ := C
  intro H locs ls hw hS hl
  exact lv_acmp_eq hx hb hd (Int.toNat_of_nonneg h0).symm (fun q => hK _ _ _ _ (h1 q) H locs ls hw hS hl) (fun q => hK _ _ _ _ (h2 q) H locs ls hw hS hl)
theorem hk_acmp_ne {off : Int} (C : hp_C0 X cc nL o) (hd : decode cc pc = .ok (.if_acmp .ne off, len)) (hK : ∀ pc L st S, K pc L st S → hp_V X nL pc L st S k n) (h : hp_st nL o rt (.if_acmp .ne off) len pc L st S E K) : hp_V X nL pc L st S k n := by
  obtain ⟨rfl, h⟩ := h
  obtain ⟨x, y, r, rfl, h0, h1, h2⟩ := hq_r2_e h
  obtain ⟨p, l, e, R, s, m, args, below, meth, c, Q, A, G⟩ := X
  obtain ⟨hx, hb, hml, hown, hts, hK0, hA⟩ := C
  intro H locs ls hw hS hl
  exact lv_acmp_ne hx hb hd (Int.toNat_of_nonneg h0).symm (fun q => hK _ _ _ _ (h1 q) H locs ls hw hS hl) (fun q => hK _ _ _ _ (h2 q) H locs ls hw hS hl)
theorem hk_ifnull {off : Int} (C : hp_C0 X cc nL o) (hd : decode cc pc = .ok (.ifnull off, len)) (hK : ∀ pc L st S, K pc L st S → hp_V X nL pc L st S k n) (h : hp_st nL o rt (.ifnull off) len pc L st S E K) : hp_V X nL pc L st S k n := by
  obtain ⟨rfl, h⟩ := h
  obtain ⟨x, r, rfl, h0, h1, h2⟩ := hq_r1_e h
  obtain ⟨p, l, e, R, s, m, args, below, meth, c, Q, A, G⟩ := X
  obtain ⟨hx, hb, hml, hown, hts, hK0, hA⟩ := C
  intro H locs ls hw hS hl
  cases x with
  | none => exact lv_ifnullN hx hb hd (Int.toNat_of_nonneg h0).symm (hK _ _ _ _ (h1 rfl) H locs ls hw hS hl)
  | some x => exact lv_ifnull hx hb hd (hK _ _ _ _ (h2 (fun q => by cases q)) H locs ls hw hS hl)
theorem hk_ifnonnull {off : Int} (C : hp_C0 X cc nL o) (hd : decode cc pc = .ok (.ifnonnull off, len)) (hK : ∀ pc L st S, K pc L st S → hp_V X nL pc L st S k n) (h : hp_st nL o rt (.ifnonnull off) len pc L st S E K) : hp_V X nL pc L st S k n := by
  obtain ⟨rfl, h⟩ := h
  obtain ⟨x, r, rfl, h0, h1, h2⟩ := hq_r1_e h
  obtain ⟨p, l, e, R, s, m, args, below, meth, c, Q, A, G⟩ := X
  obtain ⟨hx, hb, hml, hown, hts, hK0, hA⟩ := C
  intro H locs ls hw hS hl
  cases x with
  | none => exact lv_ifnonnullN hx hb hd (hK _ _ _ _ (h2 rfl) H locs ls hw hS hl)
  | some x => exact lv_ifnonnull hx hb hd (Int.toNat_of_nonneg h0).symm (hK _ _ _ _ (h1 (fun q => by cases q)) H locs ls hw hS hl)
theorem hk_goto {off : Int} (C : hp_C0 X cc nL o) (hd : decode cc pc = .ok (.goto off, len)) (hK : ∀ pc L st S, K pc L st S → hp_V X nL pc L st S k n) (h : hp_st nL o rt (.goto off) len pc L st S E K) : hp_V X nL pc L st S k n := by
  obtain ⟨rfl, h0, h⟩ := h
  obtain ⟨p, l, e, R, s, m, args, below, meth, c, Q, A, G⟩ := X
  obtain ⟨hx, hb, hml, hown, hts, hK0, hA⟩ := C
  intro H locs ls hw hS hl
  exact lv_goto hx hb hd (Int.toNat_of_nonneg h0).symm (hK _ _ _ _ h H locs ls hw hS hl)
theorem hk_getfield {idx : Nat} (C : hp_C0 X cc nL o) (hd : decode cc pc = .ok (.getfield idx, len)) (hK : ∀ pc L st S, K pc L st S → hp_V X nL pc L st S k n) (h : hp_st nL o rt (.getfield idx) len pc L st S E K) : hp_V X nL pc L st S k n := by
  obtain ⟨rfl, h⟩ := h
  cases hf : hp_F o idx with
  | none => rw [hf] at h; exact (show False from h).elim
  | some q =>
    obtain ⟨ci, f⟩ := q
    rw [hf] at h
    obtain ⟨x, r, rfl, a, rfl, ha, h⟩ := hq_r1_e h
    obtain ⟨hc, hk, hlk⟩ := hp_F_ok hf
    obtain ⟨p, l, e, R, s, m, args, below, meth, c, Q, A, G⟩ := X
    obtain ⟨hx, hb, hml, hown, hts, hK0, hA⟩ := C
    intro H locs ls hw hS hl
    obtain ⟨LP, q0, w1, hP, hD, hq⟩ := hw.at (a := a) (by omega)
    rw [hp_e_obj ha hc] at hq
    exact va_get (D := G.1) (Ts := hp_B) hx hb hts (hp_ws hc) hown hK0 hP q0 hq (hp_cl hc) f hk (hts _ hlk) (fun _ h9 => h9) (hp_fl_get hk) hd (hK _ _ _ _ h H locs ls hw hS hl)
theorem hk_putfield {idx : Nat} (C : hp_C0 X cc nL o) (hd : decode cc pc = .ok (.putfield idx, len)) (hE : E → hp_V X nL pc L st S k n) (hK : ∀ pc L st S, K pc L st S → hp_V X nL pc L st S k n) (h : hp_st nL o rt (.putfield idx) len pc L st S E K) : hp_V X nL pc L st S k n := by
  have h : (match hp_F o idx with
      | some (ci, f) => if hp_nfin ci f = true then len = 3 ∧ hp_vr st (fun v x r => ∃ a, x = some a ∧ hp_K S a = ci + 1 ∧ hp_fit (hp_ty ci f) v ∧ K (pc + 3) L r (hp_sF S a f v)) else E
      | none => False) := h
  cases hf : hp_F o idx with
  | none => rw [hf] at h; exact (show False from h).elim
  | some q =>
    obtain ⟨ci, f⟩ := q
    rw [hf] at h
    dsimp only at h
    by_cases hn : hp_nfin ci f = true
    · rw [if_pos hn] at h
      obtain ⟨rfl, h2⟩ := h
      obtain ⟨v, x, r, rfl, a, rfl, ha, hft, h3⟩ := hp_vr_e h2
      obtain ⟨hc, hk, hlk⟩ := hp_F_ok hf
      obtain ⟨p, l, e, R, s, m, args, below, meth, c, Q, A, G⟩ := X
      obtain ⟨hx, hb, hml, hown, hts, hK0, hA⟩ := C
      intro H locs ls hw hS hl
      obtain ⟨LP, q0, w1, hP, hD, hq⟩ := hw.at (a := a) (by omega)
      have hq1 := hq
      rw [hp_e_obj ha hc] at hq1
      obtain ⟨f1, f2⟩ := hp_fit_ok hc hk hft
      refine va_put (D := G.1) (Ts := hp_B) hx hb hts (hp_ws hc) (hp_yy ci) (hp_tyok hc) (hp_nm hc) hown hK0 hP hD hS q0 hq1 (hp_cl hc) f hk (hts _ hlk) (fun _ h9 => h9) (by simpa [hp_nfin] using hn) (hp_tyok hc f hk) f1 f2 (by rw [hp_fl_len]; exact hk) hd (fun H1 locs1 hP1 hD1 hS1 => ?_)
      have e1 : (Sum.inr (ci, (hp_fl S a ci).set f (hp_v v)) : va_E) = hp_e G.2 (hp_sF S a f v) a := by
        rw [hp_fF hk hft]
        exact (hp_e_obj (by rw [hp_KF]; exact ha) hc).symm
      rw [e1] at hP1 hD1
      exact hK _ _ _ _ h3 H1 locs1 ls (hp_w.put w1 hD hq (by omega) (hp_KF S a f v) (fun b hb => hp_oF hb) hP1 hD1) hS1 hl
    · rw [if_neg hn] at h
      exact hE h
theorem hk_iaload (C : hp_C0 X cc nL o) (hd : decode cc pc = .ok (.iaload, len)) (hK : ∀ pc L st S, K pc L st S → hp_V X nL pc L st S k n) (h : hp_st nL o rt (.iaload) len pc L st S E K) : hp_V X nL pc L st S k n := by
  obtain ⟨rfl, h⟩ := h
  obtain ⟨x, i, r, rfl, a, rfl, ha, hin, h⟩ := hp_ia_e h
  obtain ⟨p, l, e, R, s, m, args, below, meth, c, Q, A, G⟩ := X
  obtain ⟨hx, hb, hml, hown, hts, hK0, hA⟩ := C
  intro H locs ls hw hS hl
  obtain ⟨LP, q0, w1, hP, hD, hq⟩ := hw.at (a := a) (by omega)
  rw [hp_e6 ha] at hq
  exact va_iald hx hb hK0 hP q0 0 hq rfl hin hd (hK _ _ _ _ h H locs ls hw hS hl)
theorem hk_laload (C : hp_C0 X cc nL o) (hd : decode cc pc = .ok (.laload, len)) (hK : ∀ pc L st S, K pc L st S → hp_V X nL pc L st S k n) (h : hp_st nL o rt (.laload) len pc L st S E K) : hp_V X nL pc L st S k n := by
  obtain ⟨rfl, h⟩ := h
  obtain ⟨x, i, r, rfl, a, rfl, ha, hin, h⟩ := hp_ia_e h
  obtain ⟨p, l, e, R, s, m, args, below, meth, c, Q, A, G⟩ := X
  obtain ⟨hx, hb, hml, hown, hts, hK0, hA⟩ := C
  intro H locs ls hw hS hl
  obtain ⟨LP, q0, w1, hP, hD, hq⟩ := hw.at (a := a) (by omega)
  rw [hp_e7 ha] at hq
  exact va_lald hx hb hK0 hP q0 1 hq rfl hin hd (hK _ _ _ _ h H locs ls hw hS hl)
theorem hk_baload (C : hp_C0 X cc nL o) (hd : decode cc pc = .ok (.baload, len)) (hK : ∀ pc L st S, K pc L st S → hp_V X nL pc L st S k n) (h : hp_st nL o rt (.baload) len pc L st S E K) : hp_V X nL pc L st S k n := by
  obtain ⟨rfl, h⟩ := h
  obtain ⟨x, i, r, rfl, a, rfl, ha, hin, h⟩ := hp_ia_e h
  obtain ⟨p, l, e, R, s, m, args, below, meth, c, Q, A, G⟩ := X
  obtain ⟨hx, hb, hml, hown, hts, hK0, hA⟩ := C
  intro H locs ls hw hS hl
  obtain ⟨LP, q0, w1, hP, hD, hq⟩ := hw.at (a := a) (by omega)
  rw [hp_e8 ha] at hq
  exact va_zald hx hb hK0 hP q0 2 hq rfl hin hd (hK _ _ _ _ h H locs ls hw hS hl)
theorem hk_aaload (C : hp_C0 X cc nL o) (hd : decode cc pc = .ok (.aaload, len)) (hK : ∀ pc L st S, K pc L st S → hp_V X nL pc L st S k n) (h : hp_st nL o rt (.aaload) len pc L st S E K) : hp_V X nL pc L st S k n := by
  obtain ⟨rfl, h⟩ := h
  obtain ⟨x, i, r, rfl, a, rfl, ha, hin, h⟩ := hp_ia_e h
  obtain ⟨p, l, e, R, s, m, args, below, meth, c, Q, A, G⟩ := X
  obtain ⟨hx, hb, hml, hown, hts, hK0, hA⟩ := C
  intro H locs ls hw hS hl
  obtain ⟨LP, q0, w1, hP, hD, hq⟩ := hw.at (a := a) (by omega)
  rw [hp_e9 ha] at hq
  exact va_aldq hx hb hK0 hP q0 3 hq rfl hin hd (hK _ _ _ _ h H locs ls hw hS hl)
theorem hk_iastore (C : hp_C0 X cc nL o) (hd : decode cc pc = .ok (.iastore, len)) (hK : ∀ pc L st S, K pc L st S → hp_V X nL pc L st S k n) (h : hp_st nL o rt (.iastore) len pc L st S E K) : hp_V X nL pc L st S k n := by
  obtain ⟨rfl, h1⟩ := h
  obtain ⟨v, x, i, r, rfl, h2⟩ := hp_via_e h1
  obtain ⟨y, r2, he, a, rfl, ha, hin, h3⟩ := hq_i1_e h2
  cases he
  obtain ⟨p, l, e, R, s, m, args, below, meth, c, Q, A, G⟩ := X
  obtain ⟨hx, hb, hml, hown, hts, hK0, hA⟩ := C
  intro H locs ls hw hS hl
  obtain ⟨LP, q0, w1, hP, hD, hq⟩ := hw.at (a := a) (by omega)
  have hq1 := hq
  rw [hp_e6 ha] at hq1
  refine va_iast hx hb hK0 hP hD hS q0 0 hq1 rfl hin hd (fun H1 locs1 hP1 hD1 hS1 => ?_)
  have e1 : (.inl (G.2 0, hp_N S a, .inl (upd (hp_I S a) i.toNatClampNeg y)) : va_E) = hp_e G.2 (hp_sI S a i.toNatClampNeg y) a := by
    rw [hp_e6 (S := hp_sI S a i.toNatClampNeg y) ha, hp_row_I]
    rfl
  rw [e1] at hP1 hD1
  exact hK _ _ _ _ h3 H1 locs1 ls (hp_w.put w1 hD hq (by omega) rfl (fun b hb => hp_oI hb) hP1 hD1) hS1 hl
theorem hk_lastore (C : hp_C0 X cc nL o) (hd : decode cc pc = .ok (.lastore, len)) (hK : ∀ pc L st S, K pc L st S → hp_V X nL pc L st S k n) (h : hp_st nL o rt (.lastore) len pc L st S E K) : hp_V X nL pc L st S k n := by
  obtain ⟨rfl, h1⟩ := h
  obtain ⟨v, x, i, r, rfl, h2⟩ := hp_via_e h1
  obtain ⟨y, r2, he, a, rfl, ha, hin, h3⟩ := hq_l1_e h2
  cases he
  obtain ⟨p, l, e, R, s, m, args, below, meth, c, Q, A, G⟩ := X
  obtain ⟨hx, hb, hml, hown, hts, hK0, hA⟩ := C
  intro H locs ls hw hS hl
  obtain ⟨LP, q0, w1, hP, hD, hq⟩ := hw.at (a := a) (by omega)
  have hq1 := hq
  rw [hp_e7 ha] at hq1
  refine va_last hx hb hK0 hP hD hS q0 1 hq1 rfl hin hd (fun H1 locs1 hP1 hD1 hS1 => ?_)
  have e1 : (.inl (G.2 1, hp_N S a, .inr (.inl (vp_updL (hp_J S a) i.toNatClampNeg y))) : va_E) = hp_e G.2 (hp_sJ S a i.toNatClampNeg y) a := by
    rw [hp_e7 (S := hp_sJ S a i.toNatClampNeg y) ha, hp_row_J]
    rfl
  rw [e1] at hP1 hD1
  exact hK _ _ _ _ h3 H1 locs1 ls (hp_w.put w1 hD hq (by omega) rfl (fun b hb => hp_oJ hb) hP1 hD1) hS1 hl
theorem hk_bastore (C : hp_C0 X cc nL o) (hd : decode cc pc = .ok (.bastore, len)) (hK : ∀ pc L st S, K pc L st S → hp_V X nL pc L st S k n) (h : hp_st nL o rt (.bastore) len pc L st S E K) : hp_V X nL pc L st S k n := by
  obtain ⟨rfl, h1⟩ := h
  obtain ⟨v, x, i, r, rfl, h2⟩ := hp_via_e h1
  obtain ⟨y, r2, he, a, rfl, ha, hin, hy, h3⟩ := hq_i1_e h2
  cases he
  obtain ⟨p, l, e, R, s, m, args, below, meth, c, Q, A, G⟩ := X
  obtain ⟨hx, hb, hml, hown, hts, hK0, hA⟩ := C
  intro H locs ls hw hS hl
  obtain ⟨LP, q0, w1, hP, hD, hq⟩ := hw.at (a := a) (by omega)
  have hq1 := hq
  rw [hp_e8 ha] at hq1
  refine va_zast hx hb hK0 hP hD hS q0 2 hq1 rfl hin hd (fun H1 locs1 hP1 hD1 hS1 => ?_)
  rw [hp_zn y hy] at hP1 hD1
  have e1 : (.inl (G.2 2, hp_N S a, .inl (upd (hp_I S a) i.toNatClampNeg y)) : va_E) = hp_e G.2 (hp_sI S a i.toNatClampNeg y) a := by
    rw [hp_e8 (S := hp_sI S a i.toNatClampNeg y) ha, hp_row_I]
    rfl
  rw [e1] at hP1 hD1
  exact hK _ _ _ _ h3 H1 locs1 ls (hp_w.put w1 hD hq (by omega) rfl (fun b hb => hp_oI hb) hP1 hD1) hS1 hl
theorem hk_aastore (C : hp_C0 X cc nL o) (hd : decode cc pc = .ok (.aastore, len)) (hK : ∀ pc L st S, K pc L st S → hp_V X nL pc L st S k n) (h : hp_st nL o rt (.aastore) len pc L st S E K) : hp_V X nL pc L st S k n := by
  obtain ⟨rfl, h1⟩ := h
  obtain ⟨v, x, i, r, rfl, h2⟩ := hp_via_e h1
  obtain ⟨y, r2, he, a, rfl, ha, hin, hy, h3⟩ := hq_r1_e h2
  cases he
  obtain ⟨p, l, e, R, s, m, args, below, meth, c, Q, A, G⟩ := X
  obtain ⟨hx, hb, hml, hown, hts, hK0, hA⟩ := C
  intro H locs ls hw hS hl
  have hw0 := hw
  obtain ⟨LP, q0, w1, hP, hD, hq⟩ := hw.at (a := a) (by omega)
  have hq1 := hq
  rw [hp_e9 ha] at hq1
  have e1 : ∀ y, (.inl (G.2 3, hp_N S a, .inr (.inr (.inr (.inr (va_up (hp_R S a) i.toNatClampNeg y))))) : va_E) = hp_e G.2 (hp_sR S a i.toNatClampNeg y) a := by
    intro y
    rw [hp_e9 (S := hp_sR S a i.toNatClampNeg y) ha, hp_row_R]
    rfl
  cases y with
  | none =>
    refine va_astqN hx hb hK0 hP hD hS q0 3 hq1 rfl hin hd (fun H1 locs1 hP1 hD1 hS1 => ?_)
    rw [e1] at hP1 hD1
    exact hK _ _ _ _ h3 H1 locs1 ls (hp_w.put w1 hD hq (by omega) rfl (fun b hb => hp_oR hb) hP1 hD1) hS1 hl
  | some b =>
    have hb2 := hy b rfl
    obtain ⟨qk, hqk⟩ := va_pl_get (X := []) (f := hp_e G.2 S) ((w1 b).mp (by omega))
    rw [hp_e_obj (ci := 1) hb2 (by omega)] at hqk
    refine va_astq (ci := 1) (r := (RX1, TX1, 14)) hx hb hK0 hP hD hS q0 3 qk hq1 rfl hqk rfl hin hd (fun H1 locs1 hP1 hD1 hS1 => ?_)
    rw [e1] at hP1 hD1
    exact hK _ _ _ _ h3 H1 locs1 ls (hp_w.put w1 hD hq (by omega) rfl (fun b hb => hp_oR hb) hP1 hD1) hS1 hl
end HPK
