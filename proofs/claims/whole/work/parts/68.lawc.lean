/-! THE LAW: what its cases share -/
section M68
def hp_scr (X : hp_X) (b Ls : Nat) (xs : Nat → Int32) : Prop := match X with
  | (_, _, _, _, s, _, _, _, _, _, _, A, _) => va_X b Ls xs s s.heap ∧ b < s.heap.size ∧ ¬ A b
section Rows
variable {X : hp_X} {cc : ByteArray} {nL o : Nat} {rt : Option hp_hv → hp_T → Nat → Nat → Prop} {pc b Ls : Nat} {xs : Nat → Int32} {st : List hp_hv} {S : hp_T} {L : hp_LL} {k n : Nat}
theorem hp_sld {i : Int32} (C : hp_C X cc nL o rt) (hX : hp_scr X b Ls xs) (hd : decode cc pc = .ok (.iaload, 1)) (hin : vp_in i Ls) (kk : hp_V X nL (pc + 1) L (.inl (xs i.toNatClampNeg) :: st) S k n) : hp_V X nL pc L (.inl i :: .inr (.inr (some b)) :: st) S k n := by
  obtain ⟨p, l', e, R', s, m, args, below, meth, c, Q, A, G'⟩ := X
  obtain ⟨⟨hx, hb, hml, hown, hts, hK0, hA⟩, -⟩ := C
  obtain ⟨h1, h2, h3⟩ := hX
  intro H locs ls hw hS hl
  exact va_sld hx hb h1 h2 h3 hS hin hd (kk H locs ls hw hS hl)
theorem hp_slen (C : hp_C X cc nL o rt) (hX : hp_scr X b Ls xs) (hd : decode cc pc = .ok (.arraylength, 1)) (kk : hp_V X nL (pc + 1) L (.inl (nI Ls) :: st) S k n) : hp_V X nL pc L (.inr (.inr (some b)) :: st) S k n := by
  obtain ⟨p, l', e, R', s, m, args, below, meth, c, Q, A, G'⟩ := X
  obtain ⟨⟨hx, hb, hml, hown, hts, hK0, hA⟩, -⟩ := C
  obtain ⟨h1, h2, h3⟩ := hX
  intro H locs ls hw hS hl
  exact va_slen hx hb h1 h2 h3 hS hd (kk H locs ls hw hS hl)
end Rows
theorem sc_in {i j Ls : Nat} (h : i + j < Ls) (hL : Ls ≤ 2560) : vp_in (nI i + nI j) Ls := by
  rw [nI_add]
  exact vp_in_nI h (by omega)
theorem lg_self (x : Int64) : lg_cmp x x = 0 := (lg_eq0 x x).mpr rfl
/-- both hold the same state; the law's out is apart -/
def lwI (S : hp_T) (x0 m0 o0 : Nat) (ad : Nat → Nat) (M : ab_T) : Prop := (∃ Z, RepC S x0 Z M) ∧ RepR S m0 ad M ∧ hp_K S o0 = 7 ∧ hp_N S o0 = 1 ∧ (∀ f, 1 ≤ f → f ≤ 13 → ¬ ad f = o0) ∧ cin M
theorem wp1_v {S S1 : hp_T} {x0 o0 : Nat} {sp : Nat → Int64 → ab_T → Prop} {v : Option hp_hv} (h : wp1 S x0 o0 sp v S1) : ∃ vk, v = some (.inl vk) := by
  obtain ⟨k, -, -, -, h1, -⟩ := h
  exact ⟨_, h1⟩
theorem wp0_v {S S1 : hp_T} {x0 : Nat} {sp : Nat → ab_T → Prop} {v : Option hp_hv} (h : wp0 S x0 sp v S1) : ∃ vk, v = some (.inl vk) := by
  obtain ⟨k, -, -, h1, -⟩ := h
  exact ⟨_, h1⟩
theorem wp1_r {S S1 : hp_T} {x0 m0 o0 : Nat} {ad : Nat → Nat} {M : ab_T} {sp : Nat → Int64 → ab_T → Prop} {v : Option hp_hv} (hI : lwI S x0 m0 o0 ad M) (h : wp1 S x0 o0 sp v S1) : RepR S1 m0 ad M := by
  obtain ⟨-, -, -, -, -, -, -, -, -, h1⟩ := h
  obtain ⟨-, hR, ko, no, ho, -⟩ := hI
  exact (h1.rep hR ho ko no).1
theorem wp0_r {S S1 : hp_T} {x0 m0 o0 : Nat} {ad : Nat → Nat} {M : ab_T} {sp : Nat → ab_T → Prop} {v : Option hp_hv} (hI : lwI S x0 m0 o0 ad M) (h : wp0 S x0 sp v S1) : RepR S1 m0 ad M := by
  obtain ⟨-, -, -, -, -, -, -, h1⟩ := h
  exact h1.rep hI.2.1
theorem lwI_J {S1 S2 : hp_T} {m0 o0 : Nat} {ad : Nat → Nat} (h : frR S1 S2 m0 ad) (hm : hp_K S1 m0 = 5) (ko : hp_K S1 o0 = 7) (ho : ∀ f, 1 ≤ f → f ≤ 13 → ¬ ad f = o0) (j : Nat) : hp_J S2 o0 j = hp_J S1 o0 j := (h.2.2.2 o0 (fun z => by rw [z] at ko; omega) (fun f f1 f2 z => ho f f1 f2 z.symm)).2 j
/-- behind both calls -/
theorem jn1 {S S1 S2 : hp_T} {x0 m0 o0 : Nat} {ad : Nat → Nat} {M : ab_T} {T : Type} {f : T → Int64} {sp : Nat → T → ab_T → Prop} {r : T} {vk : Int32} (hI : lwI S x0 m0 o0 ad M) (hdet : ∀ k k2 r r2 M1 M2, sp k r M1 → sp k2 r2 M2 → k = k2 ∧ M1 = M2 ∧ (k = 0 → r = r2)) (hinv : ∀ k r M1, sp k r M1 → okS M M1) (h1 : wp1 S x0 o0 (fun k L M' => ∃ r, L = f r ∧ sp k r M') (some (.inl vk)) S1) (h2 : rpo S1 m0 ad (fun k M' => sp k r M') S2) : ∃ k M', vk = nI k ∧ k ≤ 4 ∧ hp_I S2 m0 0 = nI k ∧ (k = 0 → hp_J S2 o0 0 = f r) ∧ lwI S2 x0 m0 o0 ad M' ∧ trn M' ≤ trn M + 1000 := by
  obtain ⟨k, L, Z', M1, e1, e2, ⟨r1, e3, e4⟩, e5, e6, e7⟩ := h1
  obtain ⟨k2, M2, f1, f2, f3, f4⟩ := h2
  obtain ⟨-, hR, ko, no, ho, hci⟩ := hI
  obtain ⟨g1, g2, g3⟩ := e7.rep hR ho ko no
  obtain ⟨d1, d2, d3⟩ := hdet _ _ _ _ _ _ e4 f2
  obtain ⟨w1, w2⟩ := hinv _ _ _ e4
  subst d1
  subst d2
  refine ⟨k, M1, by simpa using e1, e2, f1, fun z => ?_, ⟨⟨Z', f4.rep g1.1 e6⟩, f3, ?_, ?_, ho, w1⟩, w2⟩
  · rw [lwI_J f4 g1.1.1 g2 ho, e5 z, e3, d3 z]
  · rw [f4.1]; exact g2
  · rw [f4.2.2.1]; exact g3
theorem jn0 {S S1 S2 : hp_T} {x0 m0 o0 : Nat} {ad : Nat → Nat} {M : ab_T} {sp : Nat → ab_T → Prop} {vk : Int32} (hI : lwI S x0 m0 o0 ad M) (hdet : ∀ k k2 M1 M2, sp k M1 → sp k2 M2 → k = k2 ∧ M1 = M2) (hinv : ∀ k M1, sp k M1 → okS M M1) (h1 : wp0 S x0 sp (some (.inl vk)) S1) (h2 : rpo S1 m0 ad sp S2) : ∃ k M', vk = nI k ∧ k ≤ 4 ∧ hp_I S2 m0 0 = nI k ∧ lwI S2 x0 m0 o0 ad M' ∧ trn M' ≤ trn M + 1000 := by
  obtain ⟨k, Z', M1, e1, e2, e4, e6, e7⟩ := h1
  obtain ⟨k2, M2, f1, f2, f3, f4⟩ := h2
  obtain ⟨-, hR, ko, no, ho, hci⟩ := hI
  obtain ⟨g2, g3⟩ := frC_out e7 ko no
  have g1 := e7.rep hR
  obtain ⟨d1, d2⟩ := hdet _ _ _ _ e4 f2
  obtain ⟨w1, w2⟩ := hinv _ _ e4
  subst d1
  subst d2
  refine ⟨k, M1, by simpa using e1, e2, f1, ⟨⟨Z', f4.rep g1.1 e6⟩, f3, ?_, ?_, ho, w1⟩, w2⟩
  · rw [f4.1]; exact g2
  · rw [f4.2.2.1]; exact g3
theorem rc_big : 300000 ≤ room_1.cells ∧ 900000 ≤ room_1.slots ∧ 12 ≤ room_1.frames ∧ 432 ≤ room_1.locals := by decide
def rt_law : Option hp_hv → hp_T → Nat → Nat → Prop := fun v _ k n => v = some (.inl 1) ∧ k ≤ room_1.cells ∧ n ≤ room_1.slots
end M68
