/-! CONSTRUCTORS: contracts of them, new arrays -/
section M56
theorem hp_Met.ofI {l : Launch} {G : hp_G} {y : MethodName} {cc : ByteArray} {nL o : Nat} {ret : Option FieldType} {rm : Room} {av : List hp_hv} {S : hp_T} {post : Option hp_hv → hp_T → Prop} (hy : plainName y.cls = true) (ho : y.cls = hp_cn o) (hin : y.name = "<init>") (hn : hp_al av ≤ nL)
    (body : ∀ X : hp_X, hp_C X cc nL o (hp_rtM ret rm post) → hp_D X l rm G → hp_isI X → hp_V X nL 0 (hp_ar 0 av) [] S 0 0) : hp_Met l G y cc nL ret rm av S post := by
  intro sz
  refine Met.ofW (cc := cc) (maxL := nL) (ret := ret) hy rfl ?_
  intro p e s m args below meth c s₁ B hml hv
  obtain ⟨rfl, hsz, hw, hE⟩ := hv
  have hts := atoms_spec (ws := .code y cc nL ret :: hp_B) B.pre
  have hown : s.vm.findClass (hp_cn o) = some m.cls := by rw [← ho]; exact findClass_of_methodNamed B.named
  have hA : ∀ q, s.heap.size ≤ q → hp_A S sz q := fun q h => Or.inr (by rw [← hsz]; exact h)
  have hl := lv_entry (av.map hp_v) (n := nL) (by rw [hp_al_eq]; exact hn)
  rw [lg_entry_eq]
  rw [hp_ar_eq] at hl
  exact body (p, l, e, rm, s, m, (av.map hp_v).toArray, below, meth, c, MQ below (hp_Qc G S sz post) (av.map hp_v).toArray s rm.cells rm.slots (hp_A S sz), hp_A S sz, G)
    ⟨⟨B.exec, B.bytes, hml, hown, fun w hw => hts w (List.mem_cons_of_mem _ hw), hE.1, hA⟩, fun i pc L st S' k n v hd hv hr => hp_end B.exec B.bytes B.returns B.notSynchronized i pc L st S' k n v hd hv hr.1 hr.2.1 hr.2.2.1 hr.2.2.2⟩ ⟨rfl, rfl, rfl, hE⟩ ((name_of_methodNamed B.named B.method).1.trans hin) s.heap [] _ hw va_S.rf hl
section Rows
variable {X : hp_X} {cc : ByteArray} {nL o : Nat} {rt : Option hp_hv → hp_T → Nat → Nat → Prop} {l : Launch} {R : Room} {G : hp_G} {pc idx ci : Nat} {st rest : List hp_hv} {S : hp_T} {L : hp_LL} {k n : Nat}
theorem hp_newa {atype : ArrayType} {ty : FieldType} {t kd N : Nat} {v : Int32} {a0 : vp_A} (C : hp_C X cc nL o rt) (D : hp_D X l R G) (hd : decode cc pc = .ok (.newarray atype, 2)) (hty : newarray.typeOf atype = ty) (hw0 : Cond.arrayClass ty ∈ hp_B) (ht : (hp_tys G.2)[t]? = some (G.2 t, ty)) (hRA : ∀ (cA : ClassId) (U : State), va_RA U cA ty → U.vm.findClass ("[" ++ ty.toString) = some cA) (ha : ∀ cA : ClassId, vp_cell cA a0 = arrV cA N (fun _ => defaultValue ty)) (he : ∀ q, hp_e G.2 (hp_nw S q kd N) q = .inl (G.2 t, a0)) (hkd : kd ≠ 0) (hv : ¬ v < 0) (hN : v.toNatClampNeg = N) (hby : N * componentBytes ty ≤ 536870912) (hR : k + 1 ≤ R.cells ∧ n + N ≤ R.slots)
    (kk : ∀ q : Nat, hp_K S q = 0 → hp_V X nL (pc + 2) L (.inr (.inr (some q)) :: st) (hp_nw S q kd N) (k + 1) (n + N)) : hp_V X nL pc L (.inl v :: st) S k n := by
  subst hty
  obtain ⟨p, l', e, R', s, m, args, below, meth, c, Q, A, G'⟩ := X
  obtain ⟨⟨hx, hb, hml, hown, hts, hK0, hA⟩, -⟩ := C
  obtain ⟨rfl, rfl, rfl, hE⟩ := D
  intro H locs ls hw hS hls
  obtain ⟨LP, w1, hP, hD⟩ := hw
  refine va_newaK hx hb (hts _ hw0) rfl hd rfl hv hN hby hR.1 hR.2 rfl fun H1 cA e1 z1 o1 hAr hNm => ?_
  have hc : cA = G'.2 t := by
    have := hRA _ _ (hK0.2 t _ ht).2
    rw [hNm] at this
    exact Option.some.inj this
  subst hc
  have hk : ∀ (k : Nat) (x : Nat × va_E), (va_pl LP (hp_e G'.2 S))[k]? = some x → H1[x.1]? = H[x.1]? := fun k x hx => o1 x.1 ((hP k x hx).lt)
  have h0 : hp_K S H.size = 0 := by
    by_cases h9 : hp_K S H.size = 0
    · exact h9
    · exact absurd (va_pl_lt (X := []) hP ((w1 _).mp h9)) (by omega)
  refine kk H.size h0 H1 locs ls (hp_w.new w1 h0 hkd ((hP.kept hk).app (fun k x hx => ?_)) (hD.push hP rfl (hA _ hS.1))) ⟨Nat.le_trans hS.1 (by omega), fun x h1 h2 => (o1 x (Nat.lt_of_lt_of_le h1 hS.1)).trans (hS.2.1 x h1 h2), hS.2.2⟩ hls
  have hz : k < 1 := (List.getElem?_eq_some_iff.mp hx).1
  rw [show k = 0 by omega] at hx
  cases hx
  rw [he]
  show H1[H.size]? = some (vp_cell _ _)
  rw [ha]
  exact e1
theorem hp_newq {N : Nat} {v : Int32} (C : hp_C X cc nL o rt) (D : hp_D X l R G) (hd : decode cc pc = .ok (.anewarray idx, 3)) (hw0 : Cond.classLink (hp_cn o) idx "TurnTree$Node" ∈ hp_B) (hv : ¬ v < 0) (hN : v.toNatClampNeg = N) (hby : N * 4 ≤ 536870912) (hR : k + 1 ≤ R.cells ∧ n + N ≤ R.slots)
    (kk : ∀ q : Nat, hp_K S q = 0 → hp_V X nL (pc + 3) L (.inr (.inr (some q)) :: st) (hp_nw S q 9 N) (k + 1) (n + N)) : hp_V X nL pc L (.inl v :: st) S k n := by
  subst hN
  obtain ⟨p, l', e, R', s, m, args, below, meth, c, Q, A, G'⟩ := X
  obtain ⟨⟨hx, hb, hml, hown, hts, hK0, hA⟩, -⟩ := C
  obtain ⟨rfl, rfl, rfl, hE⟩ := D
  intro H locs ls hw hS hls
  obtain ⟨LP, w1, hP, hD⟩ := hw
  refine W.anew hx hb hown (hts _ hw0) (va_AO.use hE.2.2.2.1) rfl hd rfl hv hby hR.1 hR.2 fun cA kA comp f1 f2 f3 f4 => ?_
  generalize hH1 : H.push ({ cls := cA, slots := Array.replicate v.toNatClampNeg .null, vm := .none } : Cell) = H1
  have z1 : H1.size = H.size + 1 := by rw [← hH1, Array.size_push]
  have e1 : H1[H.size]? = some (arrV cA v.toNatClampNeg (fun _ => .null)) := by rw [← hH1, Array.getElem?_push_size, ← arrV_new]
  have o1 : ∀ q : Nat, q < H.size → H1[q]? = H[q]? := fun q hq => by rw [← hH1, Array.getElem?_push, if_neg (Nat.ne_of_lt hq)]
  have hc : cA = G'.2 3 := by
    obtain ⟨-, -, -, -, -, h9⟩ := (hK0.2 3 (G'.2 3, .object "TurnTree$Node") rfl).2
    rw [f1] at h9
    exact Option.some.inj h9
  subst hc
  have hk : ∀ (k : Nat) (x : Nat × va_E), (va_pl LP (hp_e G'.2 S))[k]? = some x → H1[x.1]? = H[x.1]? := fun k x hx => o1 x.1 ((hP k x hx).lt)
  have h0 : hp_K S H.size = 0 := by
    by_cases h9 : hp_K S H.size = 0
    · exact h9
    · exact absurd (va_pl_lt (X := []) hP ((w1 _).mp h9)) (by omega)
  refine kk H.size h0 H1 locs ls (hp_w.new w1 h0 (by omega) ((hP.kept hk).app (fun k x hx => ?_)) (hD.push hP rfl (hA _ hS.1))) ⟨Nat.le_trans hS.1 (by omega), fun x h1 h2 => (o1 x (Nat.lt_of_lt_of_le h1 hS.1)).trans (hS.2.1 x h1 h2), hS.2.2⟩ hls
  have hz : k < 1 := (List.getElem?_eq_some_iff.mp hx).1
  rw [show k = 0 by omega] at hx
  cases hx
  have he : hp_e G'.2 (hp_nw S H.size 9 v.toNatClampNeg) H.size = .inl (G'.2 3, v.toNatClampNeg, .inr (.inr (.inr (.inr (fun _ => none))))) := by
    have e2 : hp_R (hp_nw S H.size 9 v.toNatClampNeg) H.size = fun _ => none := by funext j; rw [hp_R_nw, if_pos rfl]
    unfold hp_e
    rw [hp_K_nw, if_pos rfl, hp_N_nw, if_pos rfl, e2]
    rfl
  rw [he]
  show H1[H.size]? = some (vp_cell _ _)
  rw [vp_cell_q]
  exact e1
theorem aw_i : Cond.arrayClass .int ∈ hp_B := hp_in 610 (by decide +kernel) rfl
theorem aw_l : Cond.arrayClass .long ∈ hp_B := hp_in 611 (by decide +kernel) rfl
theorem aw_b : Cond.arrayClass .boolean ∈ hp_B := hp_in 612 (by decide +kernel) rfl
theorem hp_newI {N : Nat} {v : Int32} (C : hp_C X cc nL o rt) (D : hp_D X l R G) (hd : decode cc pc = .ok (.newarray .int, 2)) (hv : ¬ v < 0) (hN : v.toNatClampNeg = N) (hby : N ≤ 4000) (hR : k + 1 ≤ R.cells ∧ n + N ≤ R.slots)
    (kk : ∀ q : Nat, hp_K S q = 0 → hp_V X nL (pc + 2) L (.inr (.inr (some q)) :: st) (hp_nw S q 6 N) (k + 1) (n + N)) : hp_V X nL pc L (.inl v :: st) S k n := by
  refine hp_newa (ty := .int) (t := 0) (kd := 6) (a0 := (N, .inl (fun _ => 0))) C D hd rfl aw_i rfl (fun _ _ h => h) (fun cA => by rw [vp_cell_i]; rfl) (fun q => ?_) (by omega) hv hN (by show N * 4 ≤ _; omega) hR kk
  have e2 : hp_I (hp_nw S q 6 N) q = fun _ => 0 := by funext j; rw [hp_I_nw, if_pos rfl]
  unfold hp_e
  rw [hp_K_nw, if_pos rfl, hp_N_nw, if_pos rfl, e2]
  rfl
theorem hp_newL {N : Nat} {v : Int32} (C : hp_C X cc nL o rt) (D : hp_D X l R G) (hd : decode cc pc = .ok (.newarray .long, 2)) (hv : ¬ v < 0) (hN : v.toNatClampNeg = N) (hby : N ≤ 4000) (hR : k + 1 ≤ R.cells ∧ n + N ≤ R.slots)
    (kk : ∀ q : Nat, hp_K S q = 0 → hp_V X nL (pc + 2) L (.inr (.inr (some q)) :: st) (hp_nw S q 7 N) (k + 1) (n + N)) : hp_V X nL pc L (.inl v :: st) S k n := by
  refine hp_newa (ty := .long) (t := 1) (kd := 7) (a0 := (N, .inr (.inl (fun _ => 0)))) C D hd rfl aw_l rfl (fun _ _ h => h) (fun cA => by rw [vp_cell_l]; rfl) (fun q => ?_) (by omega) hv hN (by show N * 8 ≤ _; omega) hR kk
  have e2 : hp_J (hp_nw S q 7 N) q = fun _ => 0 := by funext j; rw [hp_J_nw, if_pos rfl]
  unfold hp_e
  rw [hp_K_nw, if_pos rfl, hp_N_nw, if_pos rfl, e2]
  rfl
theorem hp_newB {N : Nat} {v : Int32} (C : hp_C X cc nL o rt) (D : hp_D X l R G) (hd : decode cc pc = .ok (.newarray .boolean, 2)) (hv : ¬ v < 0) (hN : v.toNatClampNeg = N) (hby : N ≤ 4000) (hR : k + 1 ≤ R.cells ∧ n + N ≤ R.slots)
    (kk : ∀ q : Nat, hp_K S q = 0 → hp_V X nL (pc + 2) L (.inr (.inr (some q)) :: st) (hp_nw S q 8 N) (k + 1) (n + N)) : hp_V X nL pc L (.inl v :: st) S k n := by
  refine hp_newa (ty := .boolean) (t := 2) (kd := 8) (a0 := (N, .inl (fun _ => 0))) C D hd rfl aw_b rfl (fun _ _ h => h) (fun cA => by rw [vp_cell_i]; rfl) (fun q => ?_) (by omega) hv hN (by show N * 1 ≤ _; omega) hR kk
  have e2 : hp_I (hp_nw S q 8 N) q = fun _ => 0 := by funext j; rw [hp_I_nw, if_pos rfl]
  unfold hp_e
  rw [hp_K_nw, if_pos rfl, hp_N_nw, if_pos rfl, e2]
  rfl
end Rows
theorem nd_1 : Cond.classLink (hp_cn 1) 21 (hp_cn 0) ∈ hp_B := hp_in 55 (by decide +kernel) rfl
theorem nd_2 : Cond.instantiable (hp_cn 0) (hp_nf 0) ∈ hp_B := hp_in 56 (by decide +kernel) rfl
theorem nd_3 : Cond.initialized (hp_cn 0) ∈ hp_B := hp_in 30 (by decide +kernel) rfl
theorem nd_4 : Cond.instanceMethod yn_Line ∈ hp_B := hp_in 58 (by decide +kernel) rfl
theorem nd_5 : Cond.code yn_Line cX0_init 1 none ∈ hp_B := hp_in 59 (by decide +kernel) rfl
def rm_n : Room := { frames := 2, cells := 1, slots := 4, locals := 40 }
theorem rm_nc : rm_n.cells = 1 := rfl
theorem rm_ns : rm_n.slots = 4 := rfl
/-- what a node's constructor makes of the pool: q is its line -/
def f_node (S : hp_T) (a q : Nat) (i w m : Int32) : hp_T := hp_sR (hp_nw (hp_sI (hp_sI (hp_sI S a 0 i) a 3 w) a 1 m) q 1 0) a 2 (some q)
set_option maxRecDepth 20000 in
set_option maxHeartbeats 2000000 in
theorem mt_Node_init (l : Launch) (G : hp_G) (S : hp_T) (a : Nat) (i w m : Int32) (ha : hp_K S a = 2) : hp_Met l G yX1_init cX1_init 4 none rm_n [.inr (.inr (some a)), .inl i, .inl w, .inl m] S (fun v S' => v = none ∧ ∃ q, hp_K S q = 0 ∧ S' = f_node S a q i w m) := by
  refine hp_Met.ofI (o := 1) (by decide) rfl rfl (Nat.le_refl _) (fun X C D hI => ?_)
  refine hp_run C [] 40 _ _ _ _ ?_
  simp only [or_true, or_false, true_or, false_or, or_self, hp_wp0, hp_wpS, eq_self, true_and, and_true, false_and, and_false, if_true, if_false, Bool.false_eq_true, Bool.or_false, Bool.or_true, Bool.true_or, Bool.false_or, ite_true, ite_false, ↓reduceIte, reduceCtorEq, Nat.reduceBEq, Nat.reduceAdd, Nat.reduceEqDiff, Nat.reduceLT, Nat.reduceLeDiff, Int.reduceAdd, Int.reduceToNat, Int.reduceLE, Int.reduceNeg, Int.cast_ofNat_Int, Nat.zero_add, Option.some.injEq, exists_eq_left', exists_eq_left, not_true_eq_false, not_false_eq_true, false_implies, true_implies, forall_const, implies_true, List.cons_append, List.nil_append, Nat.le_refl, Nat.zero_le, hp_K_sI, hp_K_sJ, hp_K_sR, hp_N_sI, hp_N_sJ, hp_N_sR, hp_I_sI, hp_I_sJ, hp_I_sR, hp_J_sI, hp_J_sJ, hp_J_sR, hp_R_sI, hp_R_sJ, hp_R_sR, hr_iload_n, hr_aload_n, hr_dup, hr_putfield, hr_return_, hr_invokespecial, hr_new, hz_i1, hz_i2, hz_l1, hz_l2, hz_r1, hz_r2, hz_ia, hz_via, hz_vr, hz_ld0, hz_ld1, hz_ld2, hz_s0, hz_s1, hz_s2, hz_g0, hz_g1, hz_d0, hz_d1, hz_d3, hz_d2, hz_t0, hz_t1, hz_t3, hz_t2, hz_c0, hz_c1, hz_rti, hz_rtl, hz_rta, hz_rtv, hz_br, hz_fh0, hz_fh1, hz_fh2, hz_fh3, hz_ft0, hz_ft1, hz_ft2, hz_ft3, hz_sF0, hz_sF1, hz_sF2, hz_lg0, hz_lg1, hz_lg2, hz_f0, hz_f1, hz_f2, hz_f3, hz_k0, hz_k1, hz_rm, hz_ok0, hz_ok1, hz_ok2, hz_ok3, hz_ok4, hz_l0, hz_l1c, hz_ar0, hz_ar1, ht_0_0, hn_0_0, ht_0_1, hn_0_1, ht_0_2, hn_0_2, ht_0_3, hn_0_3, hnf_0, ht_1_0, hn_1_0, ht_1_1, hn_1_1, ht_1_2, hn_1_2, ht_1_3, hn_1_3, ht_1_4, hn_1_4, ht_1_5, hn_1_5, ht_1_6, hn_1_6, ht_1_7, hn_1_7, ht_1_8, hn_1_8, ht_1_9, hn_1_9, ht_1_10, hn_1_10, ht_1_11, hn_1_11, ht_1_12, hn_1_12, ht_1_13, hn_1_13, hnf_1, ht_2_0, hn_2_0, ht_2_1, hn_2_1, ht_2_2, hn_2_2, hnf_2, ht_3_0, hn_3_0, ht_3_1, hn_3_1, ht_3_2, hn_3_2, ht_3_3, hn_3_3, ht_3_4, hn_3_4, ht_3_5, hn_3_5, ht_3_6, hn_3_6, ht_3_7, hn_3_7, ht_3_8, hn_3_8, ht_3_9, hn_3_9, ht_3_10, hn_3_10, hnf_3, ht_4_0, hn_4_0, ht_4_1, hn_4_1, ht_4_2, hn_4_2, ht_4_3, hn_4_3, ht_4_4, hn_4_4, ht_4_5, hn_4_5, ht_4_6, hn_4_6, ht_4_7, hn_4_7, ht_4_8, hn_4_8, ht_4_9, hn_4_9, ht_4_10, hn_4_10, ht_4_11, hn_4_11, ht_4_12, hn_4_12, ht_4_13, hn_4_13, ht_4_14, hn_4_14, ht_4_15, hn_4_15, ht_4_16, hn_4_16, ht_4_17, hn_4_17, ht_4_18, hn_4_18, ht_4_19, hn_4_19, hnf_4, hc_im1, hc_i0, hc_i1, hc_i2, hc_i3, hc_i4, hc_i5, hc_bm2, hc_b6, hc_b7, hc_b15, hc_b64, hc_s500, hc_s1000, hc_s2000, hw_10, hw_01, hp_F_1_15, hp_F_1_18, hp_F_1_24, hp_F_1_9, dX1_init_0, dX1_init_1, dX1_init_4, dX1_init_5, dX1_init_6, dX1_init_9, dX1_init_10, dX1_init_11, dX1_init_14, dX1_init_15, dX1_init_16, dX1_init_19, dX1_init_20, dX1_init_23, dX1_init_24, dX1_init_27, dX1_init_30, rm_nc, rm_ns, hw_20, hw_30, hw_40, hx_0, hx_1, hx_2, hx_3, hx_4, hy_00, hy_10]
  refine hp_obj C D dX1_init_1 ob_1 ob_i ob_c ⟨by decide, by decide⟩ ?_
  refine hp_run C [] 40 _ _ _ _ ?_
  simp only [or_true, or_false, true_or, false_or, or_self, hp_wp0, hp_wpS, eq_self, true_and, and_true, false_and, and_false, if_true, if_false, Bool.false_eq_true, Bool.or_false, Bool.or_true, Bool.true_or, Bool.false_or, ite_true, ite_false, ↓reduceIte, reduceCtorEq, Nat.reduceBEq, Nat.reduceAdd, Nat.reduceEqDiff, Nat.reduceLT, Nat.reduceLeDiff, Int.reduceAdd, Int.reduceToNat, Int.reduceLE, Int.reduceNeg, Int.cast_ofNat_Int, Nat.zero_add, Option.some.injEq, exists_eq_left', exists_eq_left, not_true_eq_false, not_false_eq_true, false_implies, true_implies, forall_const, implies_true, List.cons_append, List.nil_append, Nat.le_refl, Nat.zero_le, hp_K_sI, hp_K_sJ, hp_K_sR, hp_N_sI, hp_N_sJ, hp_N_sR, hp_I_sI, hp_I_sJ, hp_I_sR, hp_J_sI, hp_J_sJ, hp_J_sR, hp_R_sI, hp_R_sJ, hp_R_sR, hr_iload_n, hr_aload_n, hr_dup, hr_putfield, hr_return_, hr_invokespecial, hr_new, hz_i1, hz_i2, hz_l1, hz_l2, hz_r1, hz_r2, hz_ia, hz_via, hz_vr, hz_ld0, hz_ld1, hz_ld2, hz_s0, hz_s1, hz_s2, hz_g0, hz_g1, hz_d0, hz_d1, hz_d3, hz_d2, hz_t0, hz_t1, hz_t3, hz_t2, hz_c0, hz_c1, hz_rti, hz_rtl, hz_rta, hz_rtv, hz_br, hz_fh0, hz_fh1, hz_fh2, hz_fh3, hz_ft0, hz_ft1, hz_ft2, hz_ft3, hz_sF0, hz_sF1, hz_sF2, hz_lg0, hz_lg1, hz_lg2, hz_f0, hz_f1, hz_f2, hz_f3, hz_k0, hz_k1, hz_rm, hz_ok0, hz_ok1, hz_ok2, hz_ok3, hz_ok4, hz_l0, hz_l1c, hz_ar0, hz_ar1, ht_0_0, hn_0_0, ht_0_1, hn_0_1, ht_0_2, hn_0_2, ht_0_3, hn_0_3, hnf_0, ht_1_0, hn_1_0, ht_1_1, hn_1_1, ht_1_2, hn_1_2, ht_1_3, hn_1_3, ht_1_4, hn_1_4, ht_1_5, hn_1_5, ht_1_6, hn_1_6, ht_1_7, hn_1_7, ht_1_8, hn_1_8, ht_1_9, hn_1_9, ht_1_10, hn_1_10, ht_1_11, hn_1_11, ht_1_12, hn_1_12, ht_1_13, hn_1_13, hnf_1, ht_2_0, hn_2_0, ht_2_1, hn_2_1, ht_2_2, hn_2_2, hnf_2, ht_3_0, hn_3_0, ht_3_1, hn_3_1, ht_3_2, hn_3_2, ht_3_3, hn_3_3, ht_3_4, hn_3_4, ht_3_5, hn_3_5, ht_3_6, hn_3_6, ht_3_7, hn_3_7, ht_3_8, hn_3_8, ht_3_9, hn_3_9, ht_3_10, hn_3_10, hnf_3, ht_4_0, hn_4_0, ht_4_1, hn_4_1, ht_4_2, hn_4_2, ht_4_3, hn_4_3, ht_4_4, hn_4_4, ht_4_5, hn_4_5, ht_4_6, hn_4_6, ht_4_7, hn_4_7, ht_4_8, hn_4_8, ht_4_9, hn_4_9, ht_4_10, hn_4_10, ht_4_11, hn_4_11, ht_4_12, hn_4_12, ht_4_13, hn_4_13, ht_4_14, hn_4_14, ht_4_15, hn_4_15, ht_4_16, hn_4_16, ht_4_17, hn_4_17, ht_4_18, hn_4_18, ht_4_19, hn_4_19, hnf_4, hc_im1, hc_i0, hc_i1, hc_i2, hc_i3, hc_i4, hc_i5, hc_bm2, hc_b6, hc_b7, hc_b15, hc_b64, hc_s500, hc_s1000, hc_s2000, hw_10, hw_01, hp_F_1_15, hp_F_1_18, hp_F_1_24, hp_F_1_9, dX1_init_0, dX1_init_1, dX1_init_4, dX1_init_5, dX1_init_6, dX1_init_9, dX1_init_10, dX1_init_11, dX1_init_14, dX1_init_15, dX1_init_16, dX1_init_19, dX1_init_20, dX1_init_23, dX1_init_24, dX1_init_27, dX1_init_30, rm_nc, rm_ns, hw_20, hw_30, hw_40, hx_0, hx_1, hx_2, hx_3, hx_4, hy_00, hy_10]
  refine hp_putF (f := 0) (ci := 1) C hI dX1_init_6 rfl rfl rfl ha trivial ?_
  refine hp_run C [] 40 _ _ _ _ ?_
  simp only [or_true, or_false, true_or, false_or, or_self, hp_wp0, hp_wpS, eq_self, true_and, and_true, false_and, and_false, if_true, if_false, Bool.false_eq_true, Bool.or_false, Bool.or_true, Bool.true_or, Bool.false_or, ite_true, ite_false, ↓reduceIte, reduceCtorEq, Nat.reduceBEq, Nat.reduceAdd, Nat.reduceEqDiff, Nat.reduceLT, Nat.reduceLeDiff, Int.reduceAdd, Int.reduceToNat, Int.reduceLE, Int.reduceNeg, Int.cast_ofNat_Int, Nat.zero_add, Option.some.injEq, exists_eq_left', exists_eq_left, not_true_eq_false, not_false_eq_true, false_implies, true_implies, forall_const, implies_true, List.cons_append, List.nil_append, Nat.le_refl, Nat.zero_le, hp_K_sI, hp_K_sJ, hp_K_sR, hp_N_sI, hp_N_sJ, hp_N_sR, hp_I_sI, hp_I_sJ, hp_I_sR, hp_J_sI, hp_J_sJ, hp_J_sR, hp_R_sI, hp_R_sJ, hp_R_sR, hr_iload_n, hr_aload_n, hr_dup, hr_putfield, hr_return_, hr_invokespecial, hr_new, hz_i1, hz_i2, hz_l1, hz_l2, hz_r1, hz_r2, hz_ia, hz_via, hz_vr, hz_ld0, hz_ld1, hz_ld2, hz_s0, hz_s1, hz_s2, hz_g0, hz_g1, hz_d0, hz_d1, hz_d3, hz_d2, hz_t0, hz_t1, hz_t3, hz_t2, hz_c0, hz_c1, hz_rti, hz_rtl, hz_rta, hz_rtv, hz_br, hz_fh0, hz_fh1, hz_fh2, hz_fh3, hz_ft0, hz_ft1, hz_ft2, hz_ft3, hz_sF0, hz_sF1, hz_sF2, hz_lg0, hz_lg1, hz_lg2, hz_f0, hz_f1, hz_f2, hz_f3, hz_k0, hz_k1, hz_rm, hz_ok0, hz_ok1, hz_ok2, hz_ok3, hz_ok4, hz_l0, hz_l1c, hz_ar0, hz_ar1, ht_0_0, hn_0_0, ht_0_1, hn_0_1, ht_0_2, hn_0_2, ht_0_3, hn_0_3, hnf_0, ht_1_0, hn_1_0, ht_1_1, hn_1_1, ht_1_2, hn_1_2, ht_1_3, hn_1_3, ht_1_4, hn_1_4, ht_1_5, hn_1_5, ht_1_6, hn_1_6, ht_1_7, hn_1_7, ht_1_8, hn_1_8, ht_1_9, hn_1_9, ht_1_10, hn_1_10, ht_1_11, hn_1_11, ht_1_12, hn_1_12, ht_1_13, hn_1_13, hnf_1, ht_2_0, hn_2_0, ht_2_1, hn_2_1, ht_2_2, hn_2_2, hnf_2, ht_3_0, hn_3_0, ht_3_1, hn_3_1, ht_3_2, hn_3_2, ht_3_3, hn_3_3, ht_3_4, hn_3_4, ht_3_5, hn_3_5, ht_3_6, hn_3_6, ht_3_7, hn_3_7, ht_3_8, hn_3_8, ht_3_9, hn_3_9, ht_3_10, hn_3_10, hnf_3, ht_4_0, hn_4_0, ht_4_1, hn_4_1, ht_4_2, hn_4_2, ht_4_3, hn_4_3, ht_4_4, hn_4_4, ht_4_5, hn_4_5, ht_4_6, hn_4_6, ht_4_7, hn_4_7, ht_4_8, hn_4_8, ht_4_9, hn_4_9, ht_4_10, hn_4_10, ht_4_11, hn_4_11, ht_4_12, hn_4_12, ht_4_13, hn_4_13, ht_4_14, hn_4_14, ht_4_15, hn_4_15, ht_4_16, hn_4_16, ht_4_17, hn_4_17, ht_4_18, hn_4_18, ht_4_19, hn_4_19, hnf_4, hc_im1, hc_i0, hc_i1, hc_i2, hc_i3, hc_i4, hc_i5, hc_bm2, hc_b6, hc_b7, hc_b15, hc_b64, hc_s500, hc_s1000, hc_s2000, hw_10, hw_01, hp_F_1_15, hp_F_1_18, hp_F_1_24, hp_F_1_9, dX1_init_0, dX1_init_1, dX1_init_4, dX1_init_5, dX1_init_6, dX1_init_9, dX1_init_10, dX1_init_11, dX1_init_14, dX1_init_15, dX1_init_16, dX1_init_19, dX1_init_20, dX1_init_23, dX1_init_24, dX1_init_27, dX1_init_30, ha, hp_sF, rm_nc, rm_ns, hw_20, hw_30, hw_40, hx_0, hx_1, hx_2, hx_3, hx_4, hy_00, hy_10]
  sorry
end M56
