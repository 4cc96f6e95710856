/-! ROWS for the instructions that the run leaves: new, arrays, final fields, constants, Math.max, the switch -/
section HPN
variable {X : hp_X} {cc : ByteArray} {nL o : Nat} {rt : Option hp_hv → hp_T → Nat → Nat → Prop} {l : Launch} {R : Room} {G : hp_G} {pc idx ci : Nat} {st rest : List hp_hv} {S : hp_T} {L : hp_LL} {k n : Nat}
theorem hp_dflt {ci : Nat} (hc : ci < 5) (S : hp_T) (q : Nat) : ∀ j, j < hp_nf ci → defaultValue (hp_yy ci j) = vp_V (hp_fl (hp_nw S q (ci + 1) 0) q ci) j := by
  intro j hj
  have e1 : vp_V (hp_fl (hp_nw S q (ci + 1) 0) q ci) j = hp_v (hp_fh (hp_nw S q (ci + 1) 0) q (hp_ty ci j) j) := by
    unfold vp_V
    rw [List.getD_eq_getElem?_getD, hp_fl_get hj]
    rfl
  rw [e1]
  obtain ⟨h0, h1, h2, h3⟩ := hp_t0 ci hc j hj
  have h4 : hp_ty ci j < 4 := (by decide +kernel : ∀ ci, ci < 5 → ∀ j, j < hp_nf ci → hp_ty ci j < 4) ci hc j hj
  generalize hp_ty ci j = t at h0 h1 h2 h3 h4
  match t, h4 with
  | 0, _ => rw [h0 rfl]; simp [hp_fh, hp_I_nw, hp_v, defaultValue]
  | 1, _ => rw [h1 rfl]; simp [hp_fh, hp_J_nw, hp_v, defaultValue]
  | 2, _ =>
    rcases hp_isr_spec (h2 rfl) with ⟨nm, e⟩ | ⟨t2, e⟩
    · rw [e]; simp [hp_fh, hp_R_nw, hp_v, defaultValue, va_rf]
    · rw [e]; simp [hp_fh, hp_R_nw, hp_v, defaultValue, va_rf]
  | 3, _ => rw [h3 rfl]; simp [hp_fh, hp_I_nw, hp_v, defaultValue]
/-- a new object of class ci -/
theorem hp_new (C : hp_C X cc nL o rt) (D : hp_D X l R G) (hd : decode cc pc = .ok (.new idx, 3)) (hc : ci < 5) (h1 : Cond.classLink (hp_cn o) idx (hp_cn ci) ∈ hp_B) (h2 : Cond.instantiable (hp_cn ci) (hp_nf ci) ∈ hp_B) (h3 : Cond.initialized (hp_cn ci) ∈ hp_B) (hR : k + 1 ≤ R.cells ∧ n + hp_nf ci ≤ R.slots)
    (kk : ∀ q : Nat, hp_K S q = 0 → hp_V X nL (pc + 3) L (.inr (.inr (some q)) :: st) (hp_nw S q (ci + 1) 0) (k + 1) (n + hp_nf ci)) : hp_V X nL pc L st S k n := by
  obtain ⟨p, l', e, R', s, m, args, below, meth, c, Q, A, G'⟩ := X
  obtain ⟨⟨hx, hb, hml, hown, hts, hK0, hA⟩, -⟩ := C
  obtain ⟨rfl, rfl, rfl, hE⟩ := D
  intro H locs ls hw hS hls
  obtain ⟨LP, w1, hP, hD⟩ := hw
  have hKn := hK0.1 ci _ (hp_cl hc)
  refine W.newcK hx hb hown (hts _ h1) (hts _ h2) (hts _ h3) rfl hd hR.1 hR.2 hKn.2.1 rfl fun H1 kC hkC e1 z1 o1 => ?_
  have hk : ∀ (k : Nat) (x : Nat × va_E), (va_pl LP (hp_e G'.2 S))[k]? = some x → H1[x.1]? = H[x.1]? := fun k x hx => o1 x.1 ((hP k x hx).lt)
  have h0 : hp_K S H.size = 0 := by
    by_cases h9 : hp_K S H.size = 0
    · exact h9
    · exact absurd (va_pl_lt (X := []) hP ((w1 _).mp h9)) (by omega)
  refine kk H.size h0 H1 locs ls (hp_w.new w1 h0 (by omega) ((hP.kept hk).app (fun k x hx => ?_)) (hD.push hP rfl (hA _ hS.1))) ⟨Nat.le_trans hS.1 (by omega), fun x h1 h2 => (o1 x (Nat.lt_of_lt_of_le h1 hS.1)).trans (hS.2.1 x h1 h2), hS.2.2⟩ hls
  have hz : k < 1 := (List.getElem?_eq_some_iff.mp hx).1
  rw [show k = 0 by omega] at hx
  cases hx
  rw [hp_e_obj (ci := ci) (by rw [hp_K_nw, if_pos rfl]) hc]
  exact ⟨_, hp_cl hc, (u_born (hp_yy ci) hts (hp_ws hc) hKn hkC e1 (hp_tyok hc)).to (hp_dflt hc S H.size)⟩
def hp_isI (X : hp_X) : Prop := match X with
  | (_, _, _, _, _, _, _, _, meth, _, _, _, _) => meth.name = "<init>"
/-- a final field, in a constructor -/
theorem hp_putF {f : Nat} {v : hp_hv} {a : Nat} (C : hp_C X cc nL o rt) (hin : hp_isI X) (hd : decode cc pc = .ok (.putfield idx, 3)) (hF : hp_F o idx = some (ci, f)) (hfin : hp_nfin ci f = false) (hdecl : (hp_TT ci f).1 = hp_cn o) (ha : hp_K S a = ci + 1) (hft : hp_fit (hp_ty ci f) v)
    (kk : hp_V X nL (pc + 3) L rest (hp_sF S a f v) k n) : hp_V X nL pc L (v :: .inr (.inr (some a)) :: rest) S k n := by
  obtain ⟨p, l', e, R', s, m, args, below, meth, c, Q, A, G⟩ := X
  obtain ⟨⟨hx, hb, hml, hown, hts, hK0, hA⟩, -⟩ := C
  obtain ⟨hc, hk, hlk⟩ := hp_F_ok hF
  intro H locs ls hw hS hl
  obtain ⟨LP, q0, w1, hP, hD, hq⟩ := hw.at (a := a) (by omega)
  have hq1 := hq
  rw [hp_e_obj ha hc] at hq1
  obtain ⟨f1, f2⟩ := hp_fit_ok hc hk hft
  refine va_putF (D := G.1) (Ts := hp_B) hx hb hts (hp_ws hc) (hp_yy ci) (hp_tyok hc) (hp_nm hc) hown hK0 hP hD hS q0 hq1 (hp_cl hc) f hk (hts _ hlk) (fun _ h9 => h9) (by simpa [hp_nfin] using hfin) hin hdecl (hp_tyok hc f hk) f1 f2 (by rw [hp_fl_len]; exact hk) hd (fun H1 locs1 hP1 hD1 hS1 => ?_)
  have e1 : (Sum.inr (ci, (hp_fl S a ci).set f (hp_v v)) : va_E) = hp_e G.2 (hp_sF S a f v) a := by
    rw [hp_fF hk hft]
    exact (hp_e_obj (by rw [hp_KF]; exact ha) hc).symm
  rw [e1] at hP1 hD1
  exact kk H1 locs1 ls (hp_w.put w1 hD hq (by omega) (hp_KF S a f v) (fun b hb => hp_oF hb) hP1 hD1) hS1 hl
/-- Object's constructor -/
theorem hp_obj {a : Nat} (C : hp_C X cc nL o rt) (D : hp_D X l R G) (hd : decode cc pc = .ok (.invokespecial idx, 3)) (h1 : Cond.methodLink (hp_cn o) idx Lib.objectInit ∈ hp_B) (h2 : Cond.instanceMethod Lib.objectInit ∈ hp_B) (h3 : Cond.code Lib.objectInit ⟨#[0xb1]⟩ 1 none ∈ hp_B) (hR : 1 ≤ R.frames ∧ ((rest.map hp_v).map fun v => v.category).sum + 12 ≤ R.locals)
    (kk : hp_V X nL (pc + 3) L rest S k n) : hp_V X nL pc L (.inr (.inr (some a)) :: rest) S k n := by
  obtain ⟨p, l', e, R', s, m, args, below, meth, c, Q, A, G'⟩ := X
  obtain ⟨⟨hx, hb, hml, hown, hts, hK0, hA⟩, -⟩ := C
  obtain ⟨rfl, rfl, rfl, hE⟩ := D
  intro H locs ls hw hS hl
  exact W.objInit hx hb hown (hts _ h1) (hts _ h2) (hts _ h3) rfl (by rw [hml]; exact hl.1) rfl hd hR.1 (by show 2 * 0 + _ + 12 ≤ _; omega) (kk H locs ls hw hS hl)
theorem hp_ldc {v : Int32} (C : hp_C X cc nL o rt) (hd : decode cc pc = .ok (.ldc idx, 2)) (h1 : Cond.constant (hp_cn o) idx v ∈ hp_B) (kk : hp_V X nL (pc + 2) L (.inl v :: st) S k n) : hp_V X nL pc L st S k n := by
  obtain ⟨p, l', e, R', s, m, args, below, meth, c, Q, A, G'⟩ := X
  obtain ⟨⟨hx, hb, hml, hown, hts, hK0, hA⟩, -⟩ := C
  intro H locs ls hw hS hl
  exact lv_ldc hx hb hown (hts _ h1) hd (kk H locs ls hw hS hl)
theorem hp_ldc2 {v : Int64} (C : hp_C X cc nL o rt) (hd : decode cc pc = .ok (.ldc2_w idx, 3)) (h1 : Cond.constantLong (hp_cn o) idx v ∈ hp_B) (kk : hp_V X nL (pc + 3) L (.inr (.inl v) :: st) S k n) : hp_V X nL pc L st S k n := by
  obtain ⟨p, l', e, R', s, m, args, below, meth, c, Q, A, G'⟩ := X
  obtain ⟨⟨hx, hb, hml, hown, hts, hK0, hA⟩, -⟩ := C
  intro H locs ls hw hS hl
  exact lv_ldc2 hx hb hown (hts _ h1) hd (kk H locs ls hw hS hl)
theorem hp_max {x y : Int32} (C : hp_C X cc nL o rt) (D : hp_D X l R G) (hd : decode cc pc = .ok (.invokestatic idx, 3)) (h1 : Cond.methodLink (hp_cn o) idx Lib.Math.max.name ∈ hp_B) (h2 : Cond.static Lib.Math.max.name ∈ hp_B) (h3 : Cond.initialized "java/lang/Math" ∈ hp_B) (h4 : Cond.code Lib.Math.max.name Lib.Math.max.code 2 (some .int) ∈ hp_B) (hR : 1 ≤ R.frames ∧ ((rest.map hp_v).map fun v => v.category).sum + 13 ≤ R.locals ∧ k ≤ R.cells ∧ n ≤ R.slots)
    (kk : hp_V X nL (pc + 3) L (.inl (if x < y then y else x) :: rest) S k n) : hp_V X nL pc L (.inl y :: .inl x :: rest) S k n := by
  obtain ⟨p, l', e, R', s, m, args, below, meth, c, Q, A, G'⟩ := X
  obtain ⟨⟨hx, hb, hml, hown, hts, hK0, hA⟩, -⟩ := C
  obtain ⟨rfl, rfl, rfl, hE⟩ := D
  intro H locs ls hw hS hl
  exact va_mmax hx hb (by rw [hml]; exact hl.1.symm) hown (hts _ h1) (hts _ h2) (hts _ h3) (hts _ h4) hR.1 hR.2.1 hR.2.2.1 hR.2.2.2 hd (kk H locs ls hw hS hl)
theorem hp_swO {x : Int32} {dflt lo hi : Int} {offs : Array Int} {len tgt : Nat} (C : hp_C X cc nL o rt) (hd : decode cc pc = .ok (.tableswitch dflt lo hi offs, len)) (h : x.toInt < lo ∨ hi < x.toInt) (ht : (pc : Int) + dflt = (tgt : Int)) (kk : hp_V X nL tgt L rest S k n) : hp_V X nL pc L (.inl x :: rest) S k n := by
  obtain ⟨p, l', e, R', s, m, args, below, meth, c, Q, A, G'⟩ := X
  obtain ⟨⟨hx, hb, hml, hown, hts, hK0, hA⟩, -⟩ := C
  intro H locs ls hw hS hl
  exact lv_tableOut hx hb hd h ht (kk H locs ls hw hS hl)
theorem hp_swI {x : Int32} {dflt lo hi off : Int} {offs : Array Int} {len tgt : Nat} (C : hp_C X cc nL o rt) (hd : decode cc pc = .ok (.tableswitch dflt lo hi offs, len)) (h1 : ¬ x.toInt < lo) (h2 : ¬ hi < x.toInt) (ho : offs[(x.toInt - lo).toNat]? = some off) (ht : (pc : Int) + off = (tgt : Int)) (kk : hp_V X nL tgt L rest S k n) : hp_V X nL pc L (.inl x :: rest) S k n := by
  obtain ⟨p, l', e, R', s, m, args, below, meth, c, Q, A, G'⟩ := X
  obtain ⟨⟨hx, hb, hml, hown, hts, hK0, hA⟩, -⟩ := C
  intro H locs ls hw hS hl
  exact lv_tableIn hx hb hd h1 h2 ho ht (kk H locs ls hw hS hl)
end HPN
