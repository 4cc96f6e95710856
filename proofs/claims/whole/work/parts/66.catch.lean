/-! CATCHING: methods with an exception table, over the pool -/
section VXC
variable {p : Program} {l : Launch} {e : Env} {R : Room} {s : State} {m : MethodId} {args : Array Value} {below : List Frame} {meth : Method} {c : Code} {H : Heap} {locs : List Loc} {cells slots : Nat} {Q : State → Prop} {pc : Nat} {ls : Array Slot} {rest : List Value}
/-- caught by the row x of this method's table; the rows ahead don't take it -/
theorem vx_catch {own name : String} {E : String} {ce : Cell} {q : Addr} (hown : s.vm.findClass own = some m.cls) (pre : List ExceptionTableEntry) (x : ExceptionTableEntry) (suf : List ExceptionTableEntry) (hsplit : c.exceptionTable.toList = pre ++ x :: suf)
    (hpass : ∀ z ∈ pre, covers z pc = false ∨ (z.catchType ≠ 0 ∧ ∃ nm : String, (Cond.classLink own z.catchType nm).before args s = true ∧ va_Nc E nm s)) (hx : covers x pc = true) (h0 : x.catchType ≠ 0)
    (hlink : (Cond.classLink own x.catchType name).before args s = true) (hcast : (Cond.castable E name).before args s = true) (hcell : H[q]? = some ce) (hv : ce.vm = .none) (hcl : s.vm.findClass E = some ce.cls)
    (kk : W p l e R s m args below meth c H locs cells slots Q (F0 m x.handlerPc ls [.ref q])) : vx_W p l e R s m args below meth c H locs cells slots Q (F0 m pc ls rest) q := by
  intro T hT X
  have hpl : e.platform.magicAccessors = ({} : Platform).magicAccessors := by rw [X.admits.platform]
  obtain ⟨c3, c4, hc3, hc4, hasg⟩ := Cond.castable_spec hcast
  cases Option.some.inj (hc3.symm.trans hcl)
  obtain ⟨c5, hc5, hcl5⟩ := Cond.classLink_spec hown hlink e.platform hpl
  cases Option.some.inj (hc4.symm.trans hc5)
  obtain ⟨vm', X', st⟩ := Jvm.Stand.thenCaughtThrough X q (g := F0 m pc ls rest) rfl (Steps.refl _) (by rw [hT]; exact hcell) (by rw [hv]; rfl) (by obtain ⟨k9, h9, -⟩ := Vm.findClass_spec hcl; exact ⟨k9, h9⟩) pre x suf hsplit
    (fun z hz => by
      rcases hpass z hz with h | ⟨hz0, nm, hl1, hn1⟩
      · exact Or.inl h
      · obtain ⟨c6, hc6, hcl6⟩ := Cond.classLink_spec hown hl1 e.platform hpl
        obtain ⟨a8, b8, h1, h2, h3⟩ := hn1
        cases Option.some.inj (h1.symm.trans hcl)
        cases Option.some.inj (h2.symm.trans hc6)
        exact Or.inr ⟨hz0, _, hcl6, h3⟩) hx (Or.inr ⟨h0, c4, hcl5, hasg⟩)
  obtain ⟨t, a1, b1⟩ := kk (T.setVm vm') hT X'
  exact ⟨t, st.trans a1, b1⟩
end VXC
section HPC
def exn (a : Nat) : String := if a = 1 then "java/lang/IndexOutOfBoundsException" else if a = 2 then "java/lang/IllegalArgumentException" else if a = 3 then "java/lang/IllegalStateException" else "java/lang/UnsupportedOperationException"
def ect (a : Nat) : Nat := 11 + 2 * a
def hp_nc (U : State) : Prop := ∀ a b, 1 ≤ a → a ≤ 4 → 1 ≤ b → b ≤ 4 → ¬ a = b → va_Nc (exn a) (exn b) U
theorem hp_nc.moved {u U : State} (hvm : u.vm.Alike U.vm) (h : hp_nc u) : hp_nc U := fun a b h1 h2 h3 h4 h5 => va_Nc.moved hvm (h a b h1 h2 h3 h4 h5)
theorem ex_link (a : Nat) (h1 : 1 ≤ a) (h2 : a ≤ 4) : Cond.classLink (hp_cn 5) (ect a) (exn a) ∈ hp_B := by
  rcases (show a = 1 ∨ a = 2 ∨ a = 3 ∨ a = 4 by omega) with rfl | rfl | rfl | rfl
  · exact hp_in 214 (by decide +kernel) rfl
  · exact hp_in 215 (by decide +kernel) rfl
  · exact hp_in 216 (by decide +kernel) rfl
  · exact hp_in 217 (by decide +kernel) rfl
theorem ex_cast (a : Nat) (h1 : 1 ≤ a) (h2 : a ≤ 4) : Cond.castable (exn a) (exn a) ∈ hp_B2 := by
  rcases (show a = 1 ∨ a = 2 ∨ a = 3 ∨ a = 4 by omega) with rfl | rfl | rfl | rfl
  · exact List.mem_filter.mpr ⟨List.mem_of_getElem? (i := 228) (by decide +kernel), rfl⟩
  · exact List.mem_filter.mpr ⟨List.mem_of_getElem? (i := 295) (by decide +kernel), rfl⟩
  · exact List.mem_filter.mpr ⟨List.mem_of_getElem? (i := 310) (by decide +kernel), rfl⟩
  · exact List.mem_filter.mpr ⟨List.mem_of_getElem? (i := 329) (by decide +kernel), rfl⟩
def hp_PcH (G : hp_G) (av : List hp_hv) (S : hp_T) (sz : Nat) : Array Value → State → Prop := va_Pc (av.map hp_v) (fun U => U.heap.size = sz ∧ hp_w (hp_A S sz) G S U.heap ∧ hp_env G U ∧ hp_thr (hp_A S sz) U U.heap ∧ hp_nc U)
/-- A CONTRACT of a method with an exception table, that lets nothing out -/
def hp_MetH (l : Launch) (G : hp_G) (y : MethodName) (cc : ByteArray) (nL : Nat) (ret : Option FieldType) (hh : List (Nat × Nat × Nat × Nat)) (rm : Room) (av : List hp_hv) (S : hp_T) (post : Option hp_hv → hp_T → Prop) : Prop := ∀ sz : Nat, vx_Met l y (.codeWith y cc nL ret hh :: hp_B) rm (hp_PcH G av S sz) (hp_Qc G S sz post) (fun _ _ _ => False) rm.cells rm.slots (hp_A S sz)
/-- at pc, an exception of the class exn a goes on at hpc -/
def hp_hdl (X : hp_X) (pc a hpc : Nat) : Prop := match X with
  | (p, l, e, R, s, m, args, below, meth, c, Q, _, _) => ∀ (H : Heap) (locs : List Loc) (k n : Nat) (ls : Array Slot) (rest : List Value) (q : Addr) (ce : Cell), H[q]? = some ce → ce.vm = .none → s.vm.findClass (exn a) = some ce.cls → W p l e R s m args below meth c H locs k n Q (F0 m hpc ls [.ref q]) → vx_W p l e R s m args below meth c H locs k n Q (F0 m pc ls rest) q
def hp_tX (X : hp_X) : Prop := match X with
  | (_, _, _, _, s, _, _, _, _, _, _, A, _) => hp_thr A s s.heap
def hp_nX (X : hp_X) : Prop := match X with
  | (_, _, _, _, s, _, _, _, _, _, _, _, _) => hp_nc s
def hp_fnd (hh : List (Nat × Nat × Nat × Nat)) (pc a : Nat) : Option Nat := if hh.all (fun z => decide (z.1 ≤ pc) && decide (pc < z.2.1) && (decide (z.2.2.2 = 13) || decide (z.2.2.2 = 15) || decide (z.2.2.2 = 17) || decide (z.2.2.2 = 19))) then (hh.find? (fun z => decide (z.2.2.2 = ect a))).map (fun z => z.2.2.1) else none
theorem hp_hdl_of {p : Program} {l : Launch} {e : Env} {R : Room} {s : State} {m : MethodId} {args : Array Value} {below : List Frame} {meth : Method} {c : Code} {Q : State → Prop} {A : Nat → Prop} {G : hp_G} {hh : List (Nat × Nat × Nat × Nat)} (ht : c.exceptionTable.toList = tableOf hh) (hown : s.vm.findClass (hp_cn 5) = some m.cls) (hB : ∀ w ∈ hp_B, w.before args s = true) (hE : hp_env G s) (hN : hp_nc s) {pc a hpc : Nat} (a1 : 1 ≤ a) (a2 : a ≤ 4) (hf : hp_fnd hh pc a = some hpc) : hp_hdl (p, l, e, R, s, m, args, below, meth, c, Q, A, G) pc a hpc := by
  intro H locs k n ls rest q ce h1 h2 h3 hW
  unfold hp_fnd at hf
  split at hf
  · rename_i hall
    cases hx : hh.find? (fun z => decide (z.2.2.2 = ect a)) with
    | none => rw [hx] at hf; cases hf
    | some x =>
      rw [hx] at hf
      have e1 : x.2.2.1 = hpc := Option.some.inj hf
      obtain ⟨hp, pre, suf, hsp, hpre⟩ := List.find?_eq_some_iff_append.mp hx
      have hct : x.2.2.2 = ect a := by simpa using hp
      rw [List.all_eq_true] at hall
      have hrow : ∀ z ∈ hh, (z.1 ≤ pc ∧ pc < z.2.1) ∧ (z.2.2.2 = 13 ∨ z.2.2.2 = 15 ∨ z.2.2.2 = 17 ∨ z.2.2.2 = 19) := fun z hz => by
        have := hall z hz
        simp only [Bool.and_eq_true, Bool.or_eq_true, decide_eq_true_eq] at this
        exact ⟨this.1, by omega⟩
      have hcov : ∀ z ∈ hh, covers (⟨z.1, z.2.1, z.2.2.1, z.2.2.2⟩ : ExceptionTableEntry) pc = true := fun z hz => by
        have := (hrow z hz).1
        simp [covers, this.1, this.2]
      have hxm : x ∈ hh := by rw [hsp]; exact List.mem_append_right _ List.mem_cons_self
      subst e1
      refine vx_catch (own := hp_cn 5) (name := exn a) (E := exn a) hown (tableOf pre) ⟨x.1, x.2.1, x.2.2.1, x.2.2.2⟩ (tableOf suf) ?_ (fun z hz => ?_) (hcov x hxm) ?_ ?_ ?_ h1 h2 h3 hW
      · rw [ht, hsp]
        unfold tableOf
        rw [List.map_append, List.map_cons]
      · obtain ⟨z0, hz0, rfl⟩ := List.mem_map.mp hz
        have hzm : z0 ∈ hh := by rw [hsp]; exact List.mem_append_left _ hz0
        obtain ⟨-, hty⟩ := hrow z0 hzm
        have hne : ¬ z0.2.2.2 = ect a := by
          have := hpre z0 hz0
          simpa using this
        obtain ⟨b, b1, b2, b3⟩ : ∃ b, 1 ≤ b ∧ b ≤ 4 ∧ z0.2.2.2 = ect b := by
          unfold ect
          rcases hty with h | h | h | h
          · exact ⟨1, by omega, by omega, by omega⟩
          · exact ⟨2, by omega, by omega, by omega⟩
          · exact ⟨3, by omega, by omega, by omega⟩
          · exact ⟨4, by omega, by omega, by omega⟩
        refine Or.inr ⟨?_, exn b, ?_, hN a b a1 a2 b1 b2 (fun z => hne (by rw [b3, z]))⟩
        · show z0.2.2.2 ≠ 0
          rw [b3]; unfold ect; omega
        · show (Cond.classLink (hp_cn 5) z0.2.2.2 (exn b)).before args s = true
          rw [b3]
          exact hB _ (ex_link b b1 b2)
      · show x.2.2.2 ≠ 0
        rw [hct]; unfold ect; omega
      · show (Cond.classLink (hp_cn 5) x.2.2.2 (exn a)).before args s = true
        rw [hct]
        exact hB _ (ex_link a a1 a2)
      · exact va_Nw.use rfl (hE.2.2.2.2 _ (ex_cast a a1 a2))
  · cases hf
theorem hp_MetH.of {l : Launch} {G : hp_G} {y : MethodName} {cc : ByteArray} {nL : Nat} {ret : Option FieldType} {hh : List (Nat × Nat × Nat × Nat)} {rm : Room} {av : List hp_hv} {S : hp_T} {post : Option hp_hv → hp_T → Prop} (hy : plainName y.cls = true) (ho : y.cls = hp_cn 5) (hn : hp_al av ≤ nL)
    (body : ∀ X : hp_X, hp_C X cc nL 5 (hp_rtM ret rm post) → hp_D X l rm G → hp_tX X → (∀ pc a hpc, 1 ≤ a → a ≤ 4 → hp_fnd hh pc a = some hpc → hp_hdl X pc a hpc) → hp_V X nL 0 (hp_ar 0 av) [] S 0 0) : hp_MetH l G y cc nL ret hh rm av S post := by
  intro sz
  refine vx_ofWH (cc := cc) (maxL := nL) (ret := ret) (hh := hh) hy rfl ?_
  intro p e s m args below meth c s₁ B hml hv
  obtain ⟨rfl, hsz, hw, hE, hthr, hnc⟩ := hv
  have hts := atoms_spec (ws := .codeWith y cc nL ret hh :: hp_B) B.pre
  have hB : ∀ w ∈ hp_B, w.before (av.map hp_v).toArray s = true := fun w hw => hts w (List.mem_cons_of_mem _ hw)
  have hown : s.vm.findClass (hp_cn 5) = some m.cls := by rw [← ho]; exact findClass_of_methodNamed B.named
  have hA : ∀ q, s.heap.size ≤ q → hp_A S sz q := fun q h => Or.inr (by rw [← hsz]; exact h)
  have htab := vx_table (x := y) B (hts _ List.mem_cons_self)
  have hl := lv_entry (av.map hp_v) (n := nL) (by rw [hp_al_eq]; exact hn)
  rw [lg_entry_eq]
  rw [hp_ar_eq] at hl
  exact body (p, l, e, rm, s, m, (av.map hp_v).toArray, below, meth, c, vx_MQ below (hp_Qc G S sz post) (fun _ _ _ => False) (av.map hp_v).toArray s rm.cells rm.slots (hp_A S sz), hp_A S sz, G)
    ⟨⟨B.exec, B.bytes, hml, hown, hB, hE.1, hA⟩, fun i pc L st S' k n v hd hv hr H locs ls hw hS hl => vx_ret (hp_end B.exec B.bytes B.returns B.notSynchronized i pc L st S' k n v hd hv hr.1 hr.2.1 hr.2.2.1 hr.2.2.2 H locs ls hw hS hl)⟩ ⟨rfl, rfl, rfl, hE⟩ hthr (fun pc a hpc a1 a2 hf => hp_hdl_of htab hown hB hE hnc a1 a2 hf) s.heap [] _ hw va_S.rf hl
theorem hp_PcH_blind {G : hp_G} {av : List hp_hv} {S : hp_T} {sz : Nat} : FrameBlind (hp_PcH G av S sz) := fun a U g mk q => by
  obtain ⟨q0, q1, q2, q3, q4, q5⟩ := q
  exact ⟨q0, q1, q2, q3.same (u := U) (U := U.calling g mk a) rfl, ⟨vx_Zq.moved (u := U) (U := U.calling g mk a) (Vm.Alike.refl U.vm) q4.1, vx_Zq.moved (u := U) (U := U.calling g mk a) (Vm.Alike.refl U.vm) q4.2⟩, hp_nc.moved (u := U) (U := U.calling g mk a) (Vm.Alike.refl U.vm) q5⟩
section Calls
variable {X : hp_X} {cc : ByteArray} {nL o : Nat} {rt : Option hp_hv → hp_T → Nat → Nat → Prop} {l : Launch} {R : Room} {G : hp_G} {pc idx ci : Nat} {y : MethodName} {ccy : ByteArray} {nLy ar : Nat} {rety : Option FieldType} {rm : Room} {b : Nat} {as rest : List hp_hv} {S : hp_T} {post : Option hp_hv → hp_T → Prop} {L : hp_LL} {k n : Nat} {exy : String → Prop} {hh : List (Nat × Nat × Nat × Nat)}
/-- a call of a method that may throw, and what it throws is caught here -/
theorem hp_callC (C : hp_C X cc nL o rt) (D : hp_D X l R G) (hT : hp_tX X) (hd : decode cc pc = .ok (.invokevirtual idx, 3)) (hl : hp_LV o idx ci y ccy nLy rety ar) (hM : hp_MetX l G y ccy nLy rety rm (.inr (.inr (some b)) :: as) S post exy) (hK : hp_K S b = ci + 1) (hc : ci < 5) (har : as.length = ar) (hR : hp_rm R rm nLy k n rest)
    (hex : ∀ E, exy E → ∃ a hpc, E = exn a ∧ hp_hdl X pc a hpc ∧ ∀ q : Nat, hp_V X nL hpc L [.inr (.inr (some q))] S (k + rm.cells) (n + rm.slots))
    (kk : ∀ (v : Option hp_hv) (S' : hp_T), post v S' → hp_V X nL (pc + 3) L (v.toList ++ rest) S' (k + rm.cells) (n + rm.slots)) : hp_V X nL pc L (as.reverse ++ .inr (.inr (some b)) :: rest) S k n := by
  obtain ⟨p, l', e, R', s, m, args, below, meth, c, Q, A, G'⟩ := X
  obtain ⟨⟨hx, hb, hml, hown, hts, hK0, hA⟩, -⟩ := C
  obtain ⟨rfl, rfl, rfl, hE⟩ := D
  have hthr : hp_thr A s s.heap := hT
  intro H locs ls hw hS hls
  obtain ⟨l1, l2, l3, l4, l5, l6⟩ := hl
  have hG : GoodIn hp_B (wsV (hp_cn o) idx (hp_cn ci) y (.code y ccy nLy rety :: hp_B)) := hp_GA (fun w hw => by simp only [List.mem_cons, List.not_mem_nil, or_false] at hw; rcases hw with rfl | rfl | rfl | rfl <;> assumption) (hp_GI l5)
  obtain ⟨LP, q0, w1, hP, hD, hq⟩ := hw.at (a := b) (by omega)
  rw [hp_e_obj hK hc] at hq
  have hst : ((as.reverse ++ .inr (.inr (some b)) :: rest).map hp_v) = (as.map hp_v).reverse ++ .ref b :: rest.map hp_v := by
    rw [List.map_append, List.map_reverse]
    rfl
  rw [hst]
  have hAA : ∀ q, hp_A S H.size q → A q := fun q h => h.elim (fun h => hw.inA h) (fun h => hA q (Nat.le_trans hS.1 h))
  have hr := vx_runV (p := p) (e := e) (below := below) (meth := meth) (H := H) (locs := locs) (cells := k) (slots := n) (g := F0 m pc ls ((as.map hp_v).reverse ++ .ref b :: rest.map hp_v)) (As := as.map hp_v) (rest := rest.map hp_v) (nL := nL) ⟨hx, hb, hml, hown, hts⟩ (hM H.size) (cwV ar hts hG rfl rfl rfl l6 hR.1) ⟨hp_PcX_blind, va_recv hK0 hP (hp_cl hc) hq, fun U hU hW => ⟨rfl, by rw [hU], by rw [hU]; exact hw.self _, hE.warm hW, hthr.go hw hS hA hU hW⟩⟩ rfl (by rw [List.length_map]; exact har) hls.1 rfl (lv_room hR.2.2) hd hR.2.1
  intro T hT X
  rcases hr T hT X with ⟨v, st₀, t, T', L2, h0, X', hL, e1, e2, ⟨⟨r, S', hv, hp, hb2⟩, hF⟩, st⟩ | ⟨q, st₀, t, T', L2, E, ce, h0, X', hL, e1, e2, ⟨hp, hb2, hF⟩, hce, hcv, hcl, st⟩
  · cases hv
    obtain ⟨k1, k2, k3⟩ := vx_keep h0 e1 hS (fun q _ h => hAA q h) hAA hL hF
    have e3 : (r.map hp_v).toList ++ rest.map hp_v = (r.toList ++ rest).map hp_v := by cases r <;> rfl
    rw [e3] at st
    obtain ⟨t2, a1, b1⟩ := kk r S' hp T'.heap (locs ++ L2) ls (by rw [e1]; exact hb2.mono (fun q _ h => hAA q h)) k3 hls T' rfl X'
    exact ⟨t2, st t2 a1, b1⟩
  · obtain ⟨k1, k2, k3⟩ := vx_keep h0 e1 hS (fun q _ h => hAA q h) hAA hL hF
    obtain ⟨a, hpc, rfl, hcat, hv⟩ := hex E hp
    have hW := hv q T'.heap (locs ++ L2) ls (by rw [e1]; exact hb2.mono (fun q _ h => hAA q h)) k3 hls
    obtain ⟨t2, a1, b1⟩ := hcat T'.heap (locs ++ L2) _ _ ls (rest.map hp_v) q ce (by rw [e1]; exact hce) hcv hcl hW T' rfl X'
    exact ⟨t2, st.trans a1, b1⟩
def hp_LH (o idx : Nat) (y : MethodName) (cc : ByteArray) (nL : Nat) (ret : Option FieldType) (hh : List (Nat × Nat × Nat × Nat)) (ar : Nat) : Prop := Cond.methodLink (hp_cn o) idx y ∈ hp_B ∧ Cond.static y ∈ hp_B ∧ Cond.initialized y.cls ∈ hp_B ∧ Cond.codeWith y cc nL ret hh ∈ hp_B ∧ (y.cls ≠ "java/lang/invoke/MethodHandle" ∧ y.cls ≠ "java/lang/invoke/VarHandle" ∧ (parseMethodDescriptor y.desc).map (fun d => d.parameters.length) = some ar)
/-- a call of a static method with an exception table -/
theorem hp_callH (C : hp_C X cc nL o rt) (D : hp_D X l R G) (hT : hp_tX X) (hN : hp_nX X) (hd : decode cc pc = .ok (.invokestatic idx, 3)) (hl : hp_LH o idx y ccy nLy rety hh ar) (hM : hp_MetH l G y ccy nLy rety hh rm as S post) (har : as.length = ar) (hR : hp_rm R rm nLy k n rest)
    (kk : ∀ (v : Option hp_hv) (S' : hp_T), post v S' → hp_V X nL (pc + 3) L (v.toList ++ rest) S' (k + rm.cells) (n + rm.slots)) : hp_V X nL pc L (as.reverse ++ rest) S k n := by
  obtain ⟨p, l', e, R', s, m, args, below, meth, c, Q, A, G'⟩ := X
  obtain ⟨⟨hx, hb, hml, hown, hts, hK0, hA⟩, -⟩ := C
  obtain ⟨rfl, rfl, rfl, hE⟩ := D
  have hthr : hp_thr A s s.heap := hT
  have hnc : hp_nc s := hN
  intro H locs ls hw hS hls
  obtain ⟨l1, l2, l3, l5, l6⟩ := hl
  have hG : GoodIn hp_B (va_wsS (hp_cn o) idx y (.codeWith y ccy nLy rety hh :: hp_B)) := hp_GA (fun w hw => by simp only [List.mem_cons, List.not_mem_nil, or_false] at hw; rcases hw with rfl | rfl | rfl <;> assumption) (hp_GI l5)
  have hst : ((as.reverse ++ rest).map hp_v) = (as.map hp_v).reverse ++ rest.map hp_v := by
    rw [List.map_append, List.map_reverse]
  rw [hst]
  have hAA : ∀ q, hp_A S H.size q → A q := fun q h => h.elim (fun h => hw.inA h) (fun h => hA q (Nat.le_trans hS.1 h))
  have hr := vx_runSX (p := p) (e := e) (below := below) (meth := meth) (H := H) (locs := locs) (cells := k) (slots := n) (g := F0 m pc ls ((as.map hp_v).reverse ++ rest.map hp_v)) (As := as.map hp_v) (rest := rest.map hp_v) (nL := nL) ⟨hx, hb, hml, hown, hts⟩ (hM H.size) (vx_cwSW ar hts hG rfl rfl rfl l6 hR.1) ⟨hp_PcH_blind, fun U hU hW => ⟨rfl, by rw [hU], by rw [hU]; exact hw.self _, hE.warm hW, hthr.go hw hS hA hU hW, hnc.moved hW.alike⟩⟩ rfl (by rw [List.length_map]; exact har) hls.1 rfl (lv_room hR.2.2) hd hR.2.1
  intro T hT X
  rcases hr T hT X with ⟨v, st₀, t, T', L2, h0, X', hL, e1, e2, ⟨⟨r, S', hv, hp, hb2⟩, hF⟩, st⟩ | ⟨q, st₀, t, T', L2, E, ce, h0, X', hL, e1, e2, hff, -⟩
  · cases hv
    obtain ⟨k1, k2, k3⟩ := vx_keep h0 e1 hS (fun q _ h => hAA q h) hAA hL hF
    have e3 : (r.map hp_v).toList ++ rest.map hp_v = (r.toList ++ rest).map hp_v := by cases r <;> rfl
    rw [e3] at st
    obtain ⟨t2, a1, b1⟩ := kk r S' hp T'.heap (locs ++ L2) ls (by rw [e1]; exact hb2.mono (fun q _ h => hAA q h)) k3 hls T' rfl X'
    exact ⟨t2, st t2 a1, b1⟩
  · exact hff.elim
end Calls
end HPC
