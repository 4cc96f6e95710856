/-! CONTRACTS of methods that may throw (they change nothing then), the throwing, and calls by them -/
section HPX
def hp_nms : List String := ["java/lang/RuntimeException", "java/lang/Exception"]
/-- the statics that a new Throwable reads: outside of what may change -/
def hp_thr (A : Nat → Prop) (U : State) (H : Heap) : Prop := vx_Zq Bundle.tN "UNASSIGNED_STACK" Bundle.steD A U H ∧ vx_Zq Bundle.tN "SUPPRESSED_SENTINEL" Bundle.listD A U H
def hp_PcX (G : hp_G) (av : List hp_hv) (S : hp_T) (sz : Nat) : Array Value → State → Prop := va_Pc (av.map hp_v) (fun U => U.heap.size = sz ∧ hp_w (hp_A S sz) G S U.heap ∧ hp_env G U ∧ hp_thr (hp_A S sz) U U.heap)
def hp_Xc (G : hp_G) (S : hp_T) (sz : Nat) (ex : String → Prop) : String → State → State → Prop := fun E st t => ex E ∧ hp_w (hp_A S sz) G S t.heap ∧ va_F (hp_A S sz) st t
/-- A CONTRACT of a method that may throw: 'ex E' then, and the pool stays -/
def hp_MetX (l : Launch) (G : hp_G) (y : MethodName) (cc : ByteArray) (nL : Nat) (ret : Option FieldType) (rm : Room) (av : List hp_hv) (S : hp_T) (post : Option hp_hv → hp_T → Prop) (ex : String → Prop) : Prop := ∀ sz : Nat, vx_Met l y (.code y cc nL ret :: hp_B) rm (hp_PcX G av S sz) (hp_Qc G S sz post) (hp_Xc G S sz ex) rm.cells rm.slots (hp_A S sz)
/-- an exception's words -/
def hp_exok (ik ic : Nat) (cls : String) : Prop := Cond.classLink RX3 ik cls ∈ hp_B ∧ Cond.initialized cls ∈ hp_B ∧ Bundle.fit cls = true ∧ (∀ w ∈ (vx_at0 RX3 ic cls hp_nms).filter goodWord, w ∈ hp_B) ∧ (∀ w ∈ (vx_at0 RX3 ic cls hp_nms).filter (fun w => !goodWord w), w ∈ hp_B2) ∧ ∀ w ∈ Cond.classLink RX3 ik cls :: Cond.initialized cls :: vx_at0 RX3 ic cls hp_nms, vx_ot w = true
/-- how a walk is left by an exception -/
def hp_CX (X : hp_X) (cc : ByteArray) (nL : Nat) (S0 : hp_T) (rm : Room) (ex : String → Prop) : Prop := match X with
  | (p, l, e, R, s, m, args, below, meth, c, Q, A, G) => hp_thr A s s.heap ∧
    (∀ (E : String) (q : Addr) (H : Heap) (locs : List Loc) (ls : Array Slot) (pc : Nat) (rest : List Value) (ce : Cell) (k n : Nat), ex E → hp_w A G S0 H → va_S A s.heap H locs → H[q]? = some ce → ce.vm = .none → s.vm.findClass E = some ce.cls → k ≤ rm.cells → n ≤ rm.slots → vx_W p l e R s m args below meth c H locs k n Q (F0 m pc ls rest) q) ∧
    (∀ (ik ic : Nat) (cls : String) (pc : Nat) (L : hp_LL) (rest : List hp_hv) (k n : Nat), hp_exok ik ic cls → ex cls → decode cc pc = .ok (.new ik, 3) → decode cc (pc + 3) = .ok (.dup, 1) → decode cc (pc + 4) = .ok (.invokespecial ic, 3) → decode cc (pc + 7) = .ok (.athrow, 1) → 5 < R.frames → ((rest.map hp_v).map fun v => v.category).sum + 81 ≤ R.locals → k + 1 ≤ rm.cells → n + 6 ≤ rm.slots → hp_V X nL pc L rest S0 k n)
theorem hp_MetX.of {l : Launch} {G : hp_G} {y : MethodName} {cc : ByteArray} {nL : Nat} {ret : Option FieldType} {rm : Room} {av : List hp_hv} {S : hp_T} {post : Option hp_hv → hp_T → Prop} {ex : String → Prop} (hy : plainName y.cls = true) (ho : y.cls = RX3) (hlt : l.stackTraces = false) (hn : hp_al av ≤ nL)
    (body : ∀ X : hp_X, hp_C X cc nL 3 (hp_rtM ret rm post) → hp_D X l rm G → hp_CX X cc nL S rm ex → hp_V X nL 0 (hp_ar 0 av) [] S 0 0) : hp_MetX l G y cc nL ret rm av S post ex := by
  intro sz
  refine vx_ofW (cc := cc) (maxL := nL) (ret := ret) hy rfl ?_
  intro p e s m args below meth c s₁ B hml hex hv
  obtain ⟨rfl, hsz, hw, hE, hthr⟩ := hv
  have hts := atoms_spec (ws := .code y cc nL ret :: hp_B) B.pre
  have hB : ∀ w ∈ hp_B, w.before (av.map hp_v).toArray s = true := fun w hw => hts w (List.mem_cons_of_mem _ hw)
  have hown : s.vm.findClass (hp_cn 3) = some m.cls := by rw [show hp_cn 3 = y.cls from ho.symm]; exact findClass_of_methodNamed B.named
  have hA : ∀ q, s.heap.size ≤ q → hp_A S sz q := fun q h => Or.inr (by rw [← hsz]; exact h)
  have hl := lv_entry (av.map hp_v) (n := nL) (by rw [hp_al_eq]; exact hn)
  rw [lg_entry_eq]
  rw [hp_ar_eq] at hl
  refine body (p, l, e, rm, s, m, (av.map hp_v).toArray, below, meth, c, vx_MQ below (hp_Qc G S sz post) (hp_Xc G S sz ex) (av.map hp_v).toArray s rm.cells rm.slots (hp_A S sz), hp_A S sz, G)
    ⟨⟨B.exec, B.bytes, hml, hown, hB, hE.1, hA⟩, fun i pc L st S' k n v hd hv hr H locs ls hw hS hl => vx_ret (hp_end B.exec B.bytes B.returns B.notSynchronized i pc L st S' k n v hd hv hr.1 hr.2.1 hr.2.2.1 hr.2.2.2 H locs ls hw hS hl)⟩ ⟨rfl, rfl, rfl, hE⟩ ⟨hthr, ?_, ?_⟩ s.heap [] _ hw va_S.rf hl
  · intro E q H locs ls pc rest ce k n hE1 hw1 hS1 h1 h2 h3 h4 h5
    exact vx_out (fun x hx => (hex x hx).elim) B.notSynchronized h1 h2 h3 (fun t ht _ => ⟨hE1, by rw [ht]; exact hw1, hS1.F ht⟩) hS1.2.2 h4 h5
  · intro ik ic cls pc L rest k n hok hE1 d0 d3 d4 d7 r1 r2 r3 r4 H locs ls hw1 hS1 hl1
    obtain ⟨o1, o2, o3, o4, o5, o6⟩ := hok
    have hat : ∀ w ∈ vx_at0 RX3 ic cls hp_nms, w.before (av.map hp_v).toArray s = true := vx_hat (fun w hw => hB w (o4 w hw)) o5 (fun w hw => va_Nw.use (by
      have h1 := (List.mem_filter.mp hw).2
      cases w <;> first | rfl | cases h1) (hE.2.2.2.2 w hw))
    refine vx_throw0 (A := hp_A S sz) B.exec B.bytes hlt (own := RX3) (cls := cls) (names := hp_nms) (ik := ik) (ic := ic) hown o3 (by decide) (hB _ o1) (hB _ o2) hat o6 hthr.1 hthr.2 hS1 (by rw [hml]; exact hl1.1) d0 d3 d4 d7 (fun x hx => (hex x hx).elim) r1 r2 (Nat.le_trans r3 (Nat.le_refl _)) (Nat.le_trans r4 (Nat.le_refl _)) B.notSynchronized
      (fun t hvm hz hk => ⟨hE1, ?_, ?_⟩) hS1.2.2 r3 r4
    · obtain ⟨LP, w1, w2, w3⟩ := hw1
      exact ⟨LP, w1, w2.kept (fun k2 q2 hq2 => hk q2.1 ((w2 k2 q2 hq2).lt)), w3⟩
    · exact ⟨Nat.le_trans hS1.1 hz, fun q h1 h2 => by rw [hk q (Nat.lt_of_lt_of_le h1 hS1.1)]; exact hS1.2.1 q h1 h2⟩
theorem hp_PcX_blind {G : hp_G} {av : List hp_hv} {S : hp_T} {sz : Nat} : FrameBlind (hp_PcX G av S sz) := fun a U g mk q => by
  obtain ⟨q0, q1, q2, q3, q4, q5⟩ := q
  exact ⟨q0, q1, q2, q3.same (u := U) (U := U.calling g mk a) rfl, vx_Zq.moved (u := U) (U := U.calling g mk a) (Vm.Alike.refl U.vm) q4, vx_Zq.moved (u := U) (U := U.calling g mk a) (Vm.Alike.refl U.vm) q5⟩
theorem hp_thr.go {A : Nat → Prop} {G : hp_G} {S : hp_T} {s U : State} {H : Heap} {locs : List Loc} (h : hp_thr A s s.heap) (hw : hp_w A G S H) (hS : va_S A s.heap H locs) (hA : ∀ q, s.heap.size ≤ q → A q) (hU : U.heap = H) (hW : s.WarmedH U.vm) : hp_thr (hp_A S H.size) U U.heap := by
  have hAA : ∀ q, hp_A S H.size q → A q := fun q h => h.elim (fun h => hw.inA h) (fun h => hA q (Nat.le_trans hS.1 h))
  rw [hU]
  exact ⟨(vx_Zq.moved hW.alike (h.1.kept hS.2.1)).narrow hAA, (vx_Zq.moved hW.alike (h.2.kept hS.2.1)).narrow hAA⟩
section Calls
variable {X : hp_X} {cc : ByteArray} {nL o : Nat} {rt : Option hp_hv → hp_T → Nat → Nat → Prop} {l : Launch} {R : Room} {G : hp_G} {pc idx ci : Nat} {y : MethodName} {ccy : ByteArray} {nLy ar : Nat} {rety : Option FieldType} {rm rm0 : Room} {b : Nat} {as rest : List hp_hv} {S : hp_T} {post : Option hp_hv → hp_T → Prop} {L : hp_LL} {k n : Nat} {ex exy : String → Prop}
/-- a call of a method that may throw; what it throws leaves this one too (the pool is as it was at the start) -/
theorem hp_callX (C : hp_C X cc nL o rt) (D : hp_D X l R G) (CX : hp_CX X cc nL S rm0 ex) (hd : decode cc pc = .ok (.invokevirtual idx, 3)) (hl : hp_LV o idx ci y ccy nLy rety ar) (hM : hp_MetX l G y ccy nLy rety rm (.inr (.inr (some b)) :: as) S post exy) (hK : hp_K S b = ci + 1) (hc : ci < 5) (har : as.length = ar) (hR : hp_rm R rm nLy k n rest) (hR0 : k + rm.cells ≤ rm0.cells ∧ n + rm.slots ≤ rm0.slots) (hex : ∀ E, exy E → ex E)
    (kk : ∀ (v : Option hp_hv) (S' : hp_T), post v S' → hp_V X nL (pc + 3) L (v.toList ++ rest) S' (k + rm.cells) (n + rm.slots)) : hp_V X nL pc L (as.reverse ++ .inr (.inr (some b)) :: rest) S k n := by
  obtain ⟨p, l', e, R', s, m, args, below, meth, c, Q, A, G'⟩ := X
  obtain ⟨⟨hx, hb, hml, hown, hts, hK0, hA⟩, -⟩ := C
  obtain ⟨rfl, rfl, rfl, hE⟩ := D
  obtain ⟨hthr, hout, -⟩ := CX
  intro H locs ls hw hS hls
  obtain ⟨l1, l2, l3, l4, l5, l6⟩ := hl
  have hG : GoodIn hp_B (wsV (hp_cn o) idx (hp_cn ci) y (.code y ccy nLy rety :: hp_B)) := hp_GA (fun w hw => by simp only [List.mem_cons, List.not_mem_nil, or_false] at hw; rcases hw with rfl | rfl | rfl | rfl <;> assumption) (hp_GI l5)
  obtain ⟨LP, q0, w1, hP, hD, hq⟩ := hw.at (a := b) (by omega)
  rw [hp_e_obj hK hc] at hq
  have hst : ((as.reverse ++ .inr (.inr (some b)) :: rest).map hp_v) = (as.map hp_v).reverse ++ .ref b :: rest.map hp_v := by
    rw [List.map_append, List.map_reverse]
    rfl
  rw [hst]
  have hAA : ∀ q, hp_A S H.size q → A q := fun q h => h.elim (fun h => hw.inA h) (fun h => hA q (Nat.le_trans hS.1 h))
  have hr := vx_runV (p := p) (e := e) (below := below) (meth := meth) (H := H) (locs := locs) (cells := k) (slots := n) (g := F0 m pc ls ((as.map hp_v).reverse ++ .ref b :: rest.map hp_v)) (As := as.map hp_v) (rest := rest.map hp_v) (nL := nL) ⟨hx, hb, hml, hown, hts⟩ (hM H.size) (cwV ar hts hG rfl rfl rfl l6 hR.1) ⟨hp_PcX_blind, va_recv hK0 hP (hp_cl hc) hq, fun U hU hW => ⟨rfl, by rw [hU], by rw [hU]; exact hw.self _, hE.warm hW, hthr.go hw hS hA hU hW⟩⟩ rfl (by rw [List.length_map]; exact har) hls.1 rfl (lv_room hR.2.2) hd hR.2.1
  intro T hT X
  rcases hr T hT X with ⟨v, st₀, t, T', L2, h0, X', hL, e1, e2, ⟨⟨r, S', hv, hp, hb2⟩, hF⟩, st⟩ | ⟨q, st₀, t, T', L2, E, ce, h0, X', hL, e1, e2, ⟨hp, hb2, hF⟩, hce, hcv, hcl, st⟩
  · cases hv
    obtain ⟨k1, k2, k3⟩ := vx_keep h0 e1 hS (fun q _ h => hAA q h) hAA hL hF
    have e3 : (r.map hp_v).toList ++ rest.map hp_v = (r.toList ++ rest).map hp_v := by cases r <;> rfl
    rw [e3] at st
    obtain ⟨t2, a1, b1⟩ := kk r S' hp T'.heap (locs ++ L2) ls (by rw [e1]; exact hb2.mono (fun q _ h => hAA q h)) k3 hls T' rfl X'
    exact ⟨t2, st t2 a1, b1⟩
  · obtain ⟨k1, k2, k3⟩ := vx_keep h0 e1 hS (fun q _ h => hAA q h) hAA hL hF
    obtain ⟨t2, a1, b1⟩ := hout E q T'.heap (locs ++ L2) ls pc (rest.map hp_v) ce _ _ (hex E hp) (by rw [e1]; exact hb2.mono (fun q _ h => hAA q h)) k3 (by rw [e1]; exact hce) hcv hcl hR0.1 hR0.2 T' rfl X'
    exact ⟨t2, st.trans a1, b1⟩
theorem hp_throw (CX : hp_CX X cc nL S rm0 ex) (D : hp_D X l R G) {ik ic : Nat} {cls : String} (hok : hp_exok ik ic cls) (hex : ex cls) (d0 : decode cc pc = .ok (.new ik, 3)) (d3 : decode cc (pc + 3) = .ok (.dup, 1)) (d4 : decode cc (pc + 4) = .ok (.invokespecial ic, 3)) (d7 : decode cc (pc + 7) = .ok (.athrow, 1)) (hR : 5 < R.frames ∧ ((rest.map hp_v).map fun v => v.category).sum + 81 ≤ R.locals ∧ k + 1 ≤ rm0.cells ∧ n + 6 ≤ rm0.slots) : hp_V X nL pc L rest S k n := by
  obtain ⟨p, l', e, R', s, m, args, below, meth, c, Q, A, G'⟩ := X
  obtain ⟨rfl, rfl, rfl, hE⟩ := D
  obtain ⟨-, -, ht⟩ := CX
  exact ht ik ic cls pc L rest k n hok hex d0 d3 d4 d7 hR.1 hR.2.1 hR.2.2.1 hR.2.2.2
end Calls
theorem hp_x_IAE : hp_exok 40 42 "java/lang/IllegalArgumentException" := ⟨List.mem_filter.mpr ⟨by decide +kernel, rfl⟩, List.mem_filter.mpr ⟨by decide +kernel, rfl⟩, by decide, fun w hw => List.mem_filter.mpr ⟨(by decide +kernel : ∀ w ∈ (vx_at0 RX3 42 "java/lang/IllegalArgumentException" hp_nms).filter goodWord, w ∈ lw_tbl) w hw, (List.mem_filter.mp hw).2⟩, by decide +kernel, by decide +kernel⟩
theorem hp_x_ISE : hp_exok 52 54 "java/lang/IllegalStateException" := ⟨List.mem_filter.mpr ⟨by decide +kernel, rfl⟩, List.mem_filter.mpr ⟨by decide +kernel, rfl⟩, by decide, fun w hw => List.mem_filter.mpr ⟨(by decide +kernel : ∀ w ∈ (vx_at0 RX3 54 "java/lang/IllegalStateException" hp_nms).filter goodWord, w ∈ lw_tbl) w hw, (List.mem_filter.mp hw).2⟩, by decide +kernel, by decide +kernel⟩
theorem hp_x_UOE : hp_exok 59 61 "java/lang/UnsupportedOperationException" := ⟨List.mem_filter.mpr ⟨by decide +kernel, rfl⟩, List.mem_filter.mpr ⟨by decide +kernel, rfl⟩, by decide, fun w hw => List.mem_filter.mpr ⟨(by decide +kernel : ∀ w ∈ (vx_at0 RX3 61 "java/lang/UnsupportedOperationException" hp_nms).filter goodWord, w ∈ lw_tbl) w hw, (List.mem_filter.mp hw).2⟩, by decide +kernel, by decide +kernel⟩
theorem hp_x_IOE : hp_exok 165 167 "java/lang/IndexOutOfBoundsException" := ⟨List.mem_filter.mpr ⟨by decide +kernel, rfl⟩, List.mem_filter.mpr ⟨by decide +kernel, rfl⟩, by decide, fun w hw => List.mem_filter.mpr ⟨(by decide +kernel : ∀ w ∈ (vx_at0 RX3 167 "java/lang/IndexOutOfBoundsException" hp_nms).filter goodWord, w ∈ lw_tbl) w hw, (List.mem_filter.mp hw).2⟩, by decide +kernel, by decide +kernel⟩
end HPX
