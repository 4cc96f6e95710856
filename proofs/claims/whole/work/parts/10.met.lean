/-! CONTRACTS over the pool, and calls by them -/
section HPM
def yn_Line : MethodName := ⟨RX0, "<init>", "()V"⟩
def yn_Packet : MethodName := ⟨RX2, "<init>", "()V"⟩
/-- what the tables say beside the words: the classes' numbers, the two links among nest mates, arrays over Node -/
def hp_isdc (w : Cond) : Bool := match w with
  | .declares _ => true
  | .castable _ _ => true
  | _ => false
/-- the words on exceptions that are kept by themselves -/
def hp_B2 : List Cond := lw_tbl.filter hp_isdc
def hp_env (G : hp_G) (U : State) : Prop := va_K G.1 vwCl (hp_tys G.2) U ∧ va_Nw (.methodLinkNest RX1 23 yn_Line RX3) U ∧ va_Nw (.methodLinkNest RX3 208 yn_Packet RX3) U ∧ va_AO "TurnTree$Node" U ∧ ∀ w ∈ hp_B2, va_Nw w U
theorem hp_B2_same {w : Cond} (hw : w ∈ hp_B2) {u U : State} (h : u.vm = U.vm) (hZ : va_Nw w u) : va_Nw w U := by
  have h1 := (List.mem_filter.mp hw).2
  cases w <;> first | exact va_Nw.same rfl h hZ | cases h1
theorem hp_B2_warm {w : Cond} (hw : w ∈ hp_B2) {s U : State} (hW : s.WarmedH U.vm) (hZ : va_Nw w s) : va_Nw w U := by
  have h1 := (List.mem_filter.mp hw).2
  cases w <;> first | exact va_Nw.warmD hW hZ | exact va_Nw.warmC hW hZ | cases h1
theorem hp_env.same {G : hp_G} {u U : State} (h : u.vm = U.vm) (hE : hp_env G u) : hp_env G U := ⟨va_K.moved (by rw [← h]; exact Vm.Alike.refl _) hE.1, va_Nw.same rfl h hE.2.1, va_Nw.same rfl h hE.2.2.1, va_AO.moved (by rw [← h]; exact Vm.Alike.refl _) hE.2.2.2.1, fun w hw => hp_B2_same hw h (hE.2.2.2.2 w hw)⟩
theorem hp_env.warm {G : hp_G} {s U : State} (hW : s.WarmedH U.vm) (hE : hp_env G s) : hp_env G U := ⟨va_K.moved hW.alike hE.1, va_Nw.warmM hW hE.2.1, va_Nw.warmM hW hE.2.2.1, va_AO.moved hW.alike hE.2.2.2.1, fun w hw => hp_B2_warm hw hW (hE.2.2.2.2 w hw)⟩
def hp_ar : Nat → List hp_hv → hp_LL
  | _, [] => []
  | i, v :: vs => (i, v) :: hp_ar (if hp_lng v = true then i + 2 else i + 1) vs
theorem hp_ar_eq (vs : List hp_hv) : ∀ i, lv_args i (vs.map hp_v) = hp_Lv (hp_ar i vs) := by
  induction vs with
  | nil => intro i; rfl
  | cons v vs ih =>
    intro i
    show (i, hp_v v) :: lv_args (if (hp_v v).category = 2 then i + 2 else i + 1) (vs.map hp_v) = (i, hp_v v) :: hp_Lv (hp_ar (if hp_lng v = true then i + 2 else i + 1) vs)
    rw [hp_cat, ih]
    by_cases h : hp_lng v = true
    · simp [h]
    · simp [h]
def hp_al : List hp_hv → Nat
  | [] => 0
  | v :: vs => (if hp_lng v = true then 2 else 1) + hp_al vs
theorem hp_al_eq (vs : List hp_hv) : (lg_sl (vs.map hp_v)).length = hp_al vs := by
  induction vs with
  | nil => rfl
  | cons v vs ih =>
    unfold lg_sl at ih ⊢
    rw [List.map_cons, List.flatMap_cons, List.length_append, ih, hp_cat]
    show _ = (if hp_lng v = true then 2 else 1) + hp_al vs
    by_cases h : hp_lng v = true
    · simp [h]
    · simp [h]
/-- an answer fits the method's type -/
def hp_rok (ret : Option FieldType) (v : Option hp_hv) : Prop := match ret, v with
  | none, none => True
  | some .int, some (.inl _) => True
  | some .boolean, some (.inl x) => x = 0 ∨ x = 1
  | some .long, some (.inr (.inl _)) => True
  | some (.object _), some (.inr (.inr _)) => True
  | _, _ => False
def hp_Pc (G : hp_G) (av : List hp_hv) (S : hp_T) (sz : Nat) : Array Value → State → Prop := va_Pc (av.map hp_v) (fun U => U.heap.size = sz ∧ hp_w (hp_A S sz) G S U.heap ∧ hp_env G U)
def hp_Qc (G : hp_G) (S : hp_T) (sz : Nat) (post : Option hp_hv → hp_T → Prop) : Array Value → State → Outcome → State → Prop := fun _ st oc t => (∃ (v : Option hp_hv) (S' : hp_T), oc = .returned (v.map hp_v) ∧ post v S' ∧ hp_w (hp_A S sz) G S' t.heap) ∧ va_F (hp_A S sz) st t
/-- A CONTRACT: from the pool S, with the arguments av, the method returns v and the pool S' with 'post v S''; nothing outside the pool changes; the room is rm -/
def hp_Met (l : Launch) (G : hp_G) (y : MethodName) (cc : ByteArray) (nL : Nat) (ret : Option FieldType) (rm : Room) (av : List hp_hv) (S : hp_T) (post : Option hp_hv → hp_T → Prop) : Prop := ∀ sz : Nat, Met l y (.code y cc nL ret :: hp_B) rm (hp_Pc G av S sz) (hp_Qc G S sz post) rm.cells rm.slots (hp_A S sz)
def hp_D (X : hp_X) (l : Launch) (R : Room) (G : hp_G) : Prop := match X with
  | (_, l', _, R', s, _, _, _, _, _, _, _, G') => l' = l ∧ R' = R ∧ G' = G ∧ hp_env G s
def hp_rtM (ret : Option FieldType) (rm : Room) (post : Option hp_hv → hp_T → Prop) : Option hp_hv → hp_T → Nat → Nat → Prop := fun v S k n => hp_rok ret v ∧ post v S ∧ k ≤ rm.cells ∧ n ≤ rm.slots
theorem hp_rv_cases {i : Instr} {st : List hp_hv} {v : Option hp_hv} (h : hp_rv i st = some v) : (∃ x, i = .ireturn ∧ st = [.inl x] ∧ v = some (.inl x)) ∨ (∃ x, i = .lreturn ∧ st = [.inr (.inl x)] ∧ v = some (.inr (.inl x))) ∨ (∃ x, i = .areturn ∧ st = [.inr (.inr x)] ∧ v = some (.inr (.inr x))) ∨ (i = .return_ ∧ st = [] ∧ v = none) := by
  unfold hp_rv at h
  split at h
  · cases h; exact Or.inl ⟨_, rfl, rfl, rfl⟩
  · cases h; exact Or.inr (Or.inl ⟨_, rfl, rfl, rfl⟩)
  · cases h; exact Or.inr (Or.inr (Or.inl ⟨_, rfl, rfl, rfl⟩))
  · cases h; exact Or.inr (Or.inr (Or.inr ⟨rfl, rfl, rfl⟩))
  · cases h
/-- the end of a method: it answers v -/
theorem hp_end {p : Program} {l : Launch} {e : Env} {R : Room} {s : State} {m : MethodId} {args : Array Value} {below : List Frame} {meth : Method} {c : Code} {cc : ByteArray} {ret : Option FieldType} {mc ms : Nat} {S0 : hp_T} {sz : Nat} {G : hp_G} {post : Option hp_hv → hp_T → Prop} {nL : Nat} (hx : p.tables.exec = Jvm.exec) (hb : c.code = cc) (hr : meth.sig.returnType = ret) (hlocks : meth.locks = false)
    (i : Instr) (pc : Nat) (L : hp_LL) (st : List hp_hv) (S : hp_T) (k n : Nat) (v : Option hp_hv) (hd : decode cc pc = .ok (i, 1)) (hv : hp_rv i st = some v) (hk : hp_rok ret v) (hpo : post v S) (h1 : k ≤ mc) (h2 : n ≤ ms) : hp_V (p, l, e, R, s, m, args, below, meth, c, MQ below (hp_Qc G S0 sz post) args s mc ms (hp_A S0 sz), hp_A S0 sz, G) nL pc L st S k n := by
  intro H locs ls hw hS hl
  have hq : ∀ t : State, t.heap = H → s.WarmedH t.vm → hp_Qc G S0 sz post args s (.returned (v.map hp_v)) t := fun t ht _ => ⟨⟨v, S, rfl, hpo, by rw [ht]; exact hw⟩, hS.F ht⟩
  refine W.widen h1 h2 ?_
  rcases hp_rv_cases hv with ⟨x, rfl, rfl, rfl⟩ | ⟨x, rfl, rfl, rfl⟩ | ⟨x, rfl, rfl, rfl⟩ | ⟨rfl, rfl, rfl⟩
  · cases ret with
    | none => exact (show False from hk).elim
    | some ty =>
      cases ty with
      | int => exact W.zret hx hb hr rfl hq hS.2.2 hd
      | boolean => exact W.zret hx hb hr (by rcases hk with rfl | rfl <;> decide) hq hS.2.2 hd
      | _ => exact (show False from hk).elim
  · cases ret with
    | none => exact (show False from hk).elim
    | some ty =>
      cases ty with
      | long => exact W.lret hx hb hr hq hS.2.2 hd
      | _ => exact (show False from hk).elim
  · cases ret with
    | none => exact (show False from hk).elim
    | some ty =>
      cases ty with
      | object nm => exact W.aret (v := va_rf x) hx hb hr (Or.inl ⟨_, rfl⟩) (by cases x with
        | none => exact Or.inl rfl
        | some a => exact Or.inr ⟨a, rfl⟩) hq hS.2.2 hd
      | _ => exact (show False from hk).elim
  · cases ret with
    | none => exact W.vret hx hb hr hq hS.2.2 hd
    | some ty => cases ty <;> exact (show False from hk).elim
/-- a contract out of a walk of the body -/
theorem hp_Met.of {l : Launch} {G : hp_G} {y : MethodName} {cc : ByteArray} {nL o : Nat} {ret : Option FieldType} {rm : Room} {av : List hp_hv} {S : hp_T} {post : Option hp_hv → hp_T → Prop} (hy : plainName y.cls = true) (ho : y.cls = hp_cn o) (hn : hp_al av ≤ nL)
    (body : ∀ X : hp_X, hp_C X cc nL o (hp_rtM ret rm post) → hp_D X l rm G → hp_V X nL 0 (hp_ar 0 av) [] S 0 0) : hp_Met l G y cc nL ret rm av S post := by
  intro sz
  refine Met.ofW (cc := cc) (maxL := nL) (ret := ret) hy rfl ?_
  intro p e s m args below meth c s₁ B hml hv
  obtain ⟨rfl, hsz, hw, hE⟩ := hv
  have hts := atoms_spec (ws := .code y cc nL ret :: hp_B) B.pre
  have hown : s.vm.findClass (hp_cn o) = some m.cls := by rw [← ho]; exact findClass_of_methodNamed B.named
  have hA : ∀ q, s.heap.size ≤ q → hp_A S sz q := fun q h => Or.inr (by rw [← hsz]; exact h)
  have hl := lv_entry (av.map hp_v) (n := nL) (by rw [hp_al_eq]; exact hn)
  rw [lg_entry_eq]
  rw [hp_ar_eq] at hl
  exact body (p, l, e, rm, s, m, (av.map hp_v).toArray, below, meth, c, MQ below (hp_Qc G S sz post) (av.map hp_v).toArray s rm.cells rm.slots (hp_A S sz), hp_A S sz, G)
    ⟨⟨B.exec, B.bytes, hml, hown, fun w hw => hts w (List.mem_cons_of_mem _ hw), hE.1, hA⟩, fun i pc L st S' k n v hd hv hr => hp_end B.exec B.bytes B.returns B.notSynchronized i pc L st S' k n v hd hv hr.1 hr.2.1 hr.2.2.1 hr.2.2.2⟩ ⟨rfl, rfl, rfl, hE⟩ s.heap [] _ hw va_S.rf hl
/-- a weaker post -/
theorem hp_Met.mono {l : Launch} {G : hp_G} {y : MethodName} {cc : ByteArray} {nL : Nat} {ret : Option FieldType} {rm : Room} {av : List hp_hv} {S : hp_T} {post post' : Option hp_hv → hp_T → Prop} (h : hp_Met l G y cc nL ret rm av S post) (hpp : ∀ v S', post v S' → post' v S') : hp_Met l G y cc nL ret rm av S post' := by
  intro sz p e ha hc hk s m args below hf hap hP hK
  obtain ⟨n, o, h1, h2, h3, ⟨⟨v, S', g1, g2, g3⟩, g4⟩, g5⟩ := h sz p e ha hc hk s m args below hf hap hP hK
  exact ⟨n, o, h1, h2, h3, ⟨⟨v, S', g1, hpp v S' g2, g3⟩, g4⟩, g5⟩
theorem hp_Pc_blind {G : hp_G} {av : List hp_hv} {S : hp_T} {sz : Nat} : FrameBlind (hp_Pc G av S sz) := fun a U g mk q => by
  obtain ⟨q0, q1, q2, q3⟩ := q
  exact ⟨q0, q1, q2, q3.same (u := U) (U := U.calling g mk a) rfl⟩
section Go
variable {p : Program} {l : Launch} {e : Env} {R : Room} {s : State} {m : MethodId} {args : Array Value} {below : List Frame} {meth : Method} {c : Code} {H : Heap} {locs : List Loc} {k n : Nat} {Q : State → Prop}
theorem hp_cont {A : Nat → Prop} {G : hp_G} {S : hp_T} {pc : Nat} {ls : Array Slot} {st0 : List Value} {rest : List hp_hv} {mc ms : Nat} {a : Array Value} {post : Option hp_hv → hp_T → Prop} (hr : va_Run p l e R s m args below meth c H locs k n mc ms (F0 m pc ls st0) (rest.map hp_v) (hp_Qc G S H.size post a) (hp_A S H.size)) (hw : hp_w A G S H) (hS : va_S A s.heap H locs) (hA : ∀ q, s.heap.size ≤ q → A q)
    (kk : ∀ (v : Option hp_hv) (S' : hp_T) (H1 : Heap) (locs1 : List Loc), post v S' → hp_w A G S' H1 → va_S A s.heap H1 locs1 → W p l e R s m args below meth c H1 locs1 (k + mc) (n + ms) Q (F0 m (pc + 3) ls ((v.toList ++ rest).map hp_v))) : W p l e R s m args below meth c H locs k n Q (F0 m pc ls st0) := by
  have hAA : ∀ q, hp_A S H.size q → A q := fun q h => h.elim (fun h => hw.inA h) (fun h => hA q (Nat.le_trans hS.1 h))
  intro T hT X
  obtain ⟨v, st₀, t, T', L, h0, X', hL, e1, e2, ⟨⟨r, S', hv, hp, hb⟩, hz, hk⟩, st⟩ := hr T hT X
  cases hv
  rw [h0] at hz hk
  have e3 : (r.map hp_v).toList ++ rest.map hp_v = (r.toList ++ rest).map hp_v := by cases r <;> rfl
  rw [e3] at st
  obtain ⟨t2, a1, b1⟩ := kk r S' T'.heap (locs ++ L) hp (by rw [e1]; exact hb.mono (fun q _ h => hAA q h))
    ⟨Nat.le_trans hS.1 (by rw [e1]; exact hz), fun q h1 h2 => by rw [e1, hk q (Nat.lt_of_lt_of_le h1 hS.1) (fun z => h2 (hAA q z))]; exact hS.2.1 q h1 h2, fun q hq => by
      rcases List.mem_append.mp hq with h | h
      · exact hS.2.2 q h
      · exact hAA _ (hL q h)⟩ T' rfl X'
  exact ⟨t2, st t2 a1, b1⟩
end Go
theorem hp_GI {w : Cond} (h : w ∈ hp_B) : GoodIn hp_B (w :: hp_B) := fun z hz => by
  rcases List.mem_cons.mp hz with rfl | hz
  · exact ⟨h, hp_good h⟩
  · exact ⟨hz, hp_good hz⟩
theorem hp_GA {l1 l2 : List Cond} (h1 : ∀ w ∈ l1, w ∈ hp_B) (h2 : GoodIn hp_B l2) : GoodIn hp_B (l1 ++ l2) := fun z hz => by
  rcases List.mem_append.mp hz with h | h
  · exact ⟨h1 z h, hp_good (h1 z h)⟩
  · exact h2 z h
/-- what a virtual call links -/
def hp_LV (o idx ci : Nat) (y : MethodName) (cc : ByteArray) (nL : Nat) (ret : Option FieldType) (ar : Nat) : Prop := Cond.methodLink (hp_cn o) idx y ∈ hp_B ∧ Cond.instanceMethod y ∈ hp_B ∧ Cond.selects (hp_cn ci) y y ∈ hp_B ∧ Cond.initialized (hp_cn ci) ∈ hp_B ∧ Cond.code y cc nL ret ∈ hp_B ∧ (y.cls = hp_cn ci ∧ y.cls ≠ "java/lang/invoke/MethodHandle" ∧ y.cls ≠ "java/lang/invoke/VarHandle" ∧ (parseMethodDescriptor y.desc).map (fun d => d.parameters.length) = some ar)
/-- what a static call links -/
def hp_LS (o idx : Nat) (y : MethodName) (cc : ByteArray) (nL : Nat) (ret : Option FieldType) (ar : Nat) : Prop := Cond.methodLink (hp_cn o) idx y ∈ hp_B ∧ Cond.static y ∈ hp_B ∧ Cond.initialized y.cls ∈ hp_B ∧ Cond.code y cc nL ret ∈ hp_B ∧ (y.cls ≠ "java/lang/invoke/MethodHandle" ∧ y.cls ≠ "java/lang/invoke/VarHandle" ∧ (parseMethodDescriptor y.desc).map (fun d => d.parameters.length) = some ar)
/-- what a constructor's call links -/
def hp_LI (o idx : Nat) (y : MethodName) (cc : ByteArray) (nL : Nat) (ar : Nat) : Prop := Cond.methodLink (hp_cn o) idx y ∈ hp_B ∧ Cond.instanceMethod y ∈ hp_B ∧ Cond.initialized y.cls ∈ hp_B ∧ Cond.code y cc nL none ∈ hp_B ∧ y.name = "<init>" ∧ (y.cls ≠ "java/lang/invoke/MethodHandle" ∧ y.cls ≠ "java/lang/invoke/VarHandle" ∧ (parseMethodDescriptor y.desc).map (fun d => d.parameters.length) = some ar)
/-- the room that a call asks of its caller -/
def hp_rm (R rm : Room) (nLy k n : Nat) (rest : List hp_hv) : Prop := (rm.frames + 1 ≤ R.frames ∧ 8 + (nLy + 11) + rm.locals ≤ R.locals) ∧ (k + rm.cells ≤ R.cells ∧ n + rm.slots ≤ R.slots) ∧ ((rest.map hp_v).map fun v => v.category).sum ≤ 8
section Calls
variable {X : hp_X} {cc : ByteArray} {nL o : Nat} {rt : Option hp_hv → hp_T → Nat → Nat → Prop} {l : Launch} {R : Room} {G : hp_G} {pc idx ci : Nat} {y : MethodName} {ccy : ByteArray} {nLy ar : Nat} {rety : Option FieldType} {rm : Room} {b : Nat} {as rest : List hp_hv} {S : hp_T} {post : Option hp_hv → hp_T → Prop} {L : hp_LL} {k n : Nat}
theorem hp_callV (C : hp_C X cc nL o rt) (D : hp_D X l R G) (hd : decode cc pc = .ok (.invokevirtual idx, 3)) (hl : hp_LV o idx ci y ccy nLy rety ar) (hM : hp_Met l G y ccy nLy rety rm (.inr (.inr (some b)) :: as) S post) (hK : hp_K S b = ci + 1) (hc : ci < 5) (har : as.length = ar) (hR : hp_rm R rm nLy k n rest)
    (kk : ∀ (v : Option hp_hv) (S' : hp_T), post v S' → hp_V X nL (pc + 3) L (v.toList ++ rest) S' (k + rm.cells) (n + rm.slots)) : hp_V X nL pc L (as.reverse ++ .inr (.inr (some b)) :: rest) S k n := by
  obtain ⟨p, l', e, R', s, m, args, below, meth, c, Q, A, G'⟩ := X
  obtain ⟨⟨hx, hb, hml, hown, hts, hK0, hA⟩, -⟩ := C
  obtain ⟨rfl, rfl, rfl, hE⟩ := D
  intro H locs ls hw hS hls
  obtain ⟨l1, l2, l3, l4, l5, l6⟩ := hl
  have hG : GoodIn hp_B (wsV (hp_cn o) idx (hp_cn ci) y (.code y ccy nLy rety :: hp_B)) := hp_GA (fun w hw => by simp only [List.mem_cons, List.not_mem_nil, or_false] at hw; rcases hw with rfl | rfl | rfl | rfl <;> assumption) (hp_GI l5)
  obtain ⟨LP, q0, w1, hP, hD, hq⟩ := hw.at (a := b) (by omega)
  rw [hp_e_obj hK hc] at hq
  have hst : ((as.reverse ++ .inr (.inr (some b)) :: rest).map hp_v) = (as.map hp_v).reverse ++ .ref b :: rest.map hp_v := by
    rw [List.map_append, List.map_reverse]
    rfl
  rw [hst]
  refine hp_cont (va_runV (As := as.map hp_v) (rest := rest.map hp_v) (nL := nL) ⟨hx, hb, hml, hown, hts⟩ (hM H.size) (cwV ar hts hG rfl rfl rfl l6 hR.1) ⟨hp_Pc_blind, va_recv hK0 hP (hp_cl hc) hq, fun U hU hW => ⟨rfl, by rw [hU], by rw [hU]; exact hw.self _, hE.warm hW⟩⟩ rfl (by rw [List.length_map]; exact har) hls.1 rfl (lv_room hR.2.2) hd hR.2.1) hw hS hA ?_
  intro v S' H1 locs1 hp hw1 hS1
  exact kk v S' hp H1 locs1 ls hw1 hS1 hls
theorem hp_callS (C : hp_C X cc nL o rt) (D : hp_D X l R G) (hd : decode cc pc = .ok (.invokestatic idx, 3)) (hl : hp_LS o idx y ccy nLy rety ar) (hM : hp_Met l G y ccy nLy rety rm as S post) (har : as.length = ar) (hR : hp_rm R rm nLy k n rest)
    (kk : ∀ (v : Option hp_hv) (S' : hp_T), post v S' → hp_V X nL (pc + 3) L (v.toList ++ rest) S' (k + rm.cells) (n + rm.slots)) : hp_V X nL pc L (as.reverse ++ rest) S k n := by
  obtain ⟨p, l', e, R', s, m, args, below, meth, c, Q, A, G'⟩ := X
  obtain ⟨⟨hx, hb, hml, hown, hts, hK0, hA⟩, -⟩ := C
  obtain ⟨rfl, rfl, rfl, hE⟩ := D
  intro H locs ls hw hS hls
  obtain ⟨l1, l2, l3, l5, l6⟩ := hl
  have hG : GoodIn hp_B (va_wsS (hp_cn o) idx y (.code y ccy nLy rety :: hp_B)) := hp_GA (fun w hw => by simp only [List.mem_cons, List.not_mem_nil, or_false] at hw; rcases hw with rfl | rfl | rfl <;> assumption) (hp_GI l5)
  have hst : ((as.reverse ++ rest).map hp_v) = (as.map hp_v).reverse ++ rest.map hp_v := by
    rw [List.map_append, List.map_reverse]
  rw [hst]
  refine hp_cont (va_runS (As := as.map hp_v) (rest := rest.map hp_v) (nL := nL) ⟨hx, hb, hml, hown, hts⟩ (hM H.size) (va_cwS ar hts hG rfl rfl rfl l6 hR.1) ⟨hp_Pc_blind, fun U hU hW => ⟨rfl, by rw [hU], by rw [hU]; exact hw.self _, hE.warm hW⟩⟩ rfl (by rw [List.length_map]; exact har) hls.1 rfl (lv_room hR.2.2) hd hR.2.1) hw hS hA ?_
  intro v S' H1 locs1 hp hw1 hS1
  exact kk v S' hp H1 locs1 ls hw1 hS1 hls
theorem hp_callI (C : hp_C X cc nL o rt) (D : hp_D X l R G) (hd : decode cc pc = .ok (.invokespecial idx, 3)) (hl : hp_LI o idx y ccy nLy ar) (hM : hp_Met l G y ccy nLy none rm (.inr (.inr (some b)) :: as) S post) (har : as.length = ar) (hR : hp_rm R rm nLy k n rest)
    (kk : ∀ (v : Option hp_hv) (S' : hp_T), post v S' → hp_V X nL (pc + 3) L (v.toList ++ rest) S' (k + rm.cells) (n + rm.slots)) : hp_V X nL pc L (as.reverse ++ .inr (.inr (some b)) :: rest) S k n := by
  obtain ⟨p, l', e, R', s, m, args, below, meth, c, Q, A, G'⟩ := X
  obtain ⟨⟨hx, hb, hml, hown, hts, hK0, hA⟩, -⟩ := C
  obtain ⟨rfl, rfl, rfl, hE⟩ := D
  intro H locs ls hw hS hls
  obtain ⟨l1, l2, l3, l5, l7, l6⟩ := hl
  have hst : ((as.reverse ++ .inr (.inr (some b)) :: rest).map hp_v) = (as.map hp_v).reverse ++ .ref b :: rest.map hp_v := by
    rw [List.map_append, List.map_reverse]
    rfl
  rw [hst]
  refine hp_cont (va_runI (As := as.map hp_v) (rest := rest.map hp_v) (nL := nL) ⟨hx, hb, hml, hown, hts⟩ (hM H.size) (cwI ar hts (hp_GI l5) rfl rfl rfl (hts _ l3) (hts _ l1) (hts _ l2) l7 l6 hR.1) ⟨hp_Pc_blind, fun U hU hW => ⟨rfl, by rw [hU], by rw [hU]; exact hw.self _, hE.warm hW⟩⟩ rfl (by rw [List.length_map]; exact har) hls.1 rfl (lv_room hR.2.2) hd hR.2.1) hw hS hA ?_
  intro v S' H1 locs1 hp hw1 hS1
  exact kk v S' hp H1 locs1 ls hw1 hS1 hls
/-- a nest mate's constructor -/
theorem hp_callN (C : hp_C X cc nL o rt) (D : hp_D X l R G) {host : String} (hd : decode cc pc = .ok (.invokespecial idx, 3)) (hN : ∀ U : State, hp_env G U → va_Nw (.methodLinkNest (hp_cn o) idx y host) U) (l2 : Cond.instanceMethod y ∈ hp_B) (l3 : Cond.initialized y.cls ∈ hp_B) (l5 : Cond.code y ccy nLy none ∈ hp_B) (l7 : y.name = "<init>") (l6 : y.cls ≠ "java/lang/invoke/MethodHandle" ∧ y.cls ≠ "java/lang/invoke/VarHandle" ∧ (parseMethodDescriptor y.desc).map (fun d => d.parameters.length) = some ar)
    (hM : hp_Met l G y ccy nLy none rm (.inr (.inr (some b)) :: as) S post) (har : as.length = ar) (hR : hp_rm R rm nLy k n rest)
    (kk : ∀ (v : Option hp_hv) (S' : hp_T), post v S' → hp_V X nL (pc + 3) L (v.toList ++ rest) S' (k + rm.cells) (n + rm.slots)) : hp_V X nL pc L (as.reverse ++ .inr (.inr (some b)) :: rest) S k n := by
  obtain ⟨p, l', e, R', s, m, args, below, meth, c, Q, A, G'⟩ := X
  obtain ⟨⟨hx, hb, hml, hown, hts, hK0, hA⟩, -⟩ := C
  obtain ⟨rfl, rfl, rfl, hE⟩ := D
  intro H locs ls hw hS hls
  have hst : ((as.reverse ++ .inr (.inr (some b)) :: rest).map hp_v) = (as.map hp_v).reverse ++ .ref b :: rest.map hp_v := by
    rw [List.map_append, List.map_reverse]
    rfl
  rw [hst]
  refine hp_cont (va_runIN (As := as.map hp_v) (rest := rest.map hp_v) (nL := nL) ⟨hx, hb, hml, hown, hts⟩ (hM H.size) ⟨va_cnB ar hts (hp_GI l5) rfl rfl rfl (hN s hE) (hts _ l3) l6 hR.1, l7, hts _ l2⟩ ⟨hp_Pc_blind, fun U hU hW => ⟨rfl, by rw [hU], by rw [hU]; exact hw.self _, hE.warm hW⟩⟩ rfl (by rw [List.length_map]; exact har) hls.1 rfl (lv_room hR.2.2) hd hR.2.1) hw hS hA ?_
  intro v S' H1 locs1 hp hw1 hS1
  exact kk v S' hp H1 locs1 ls hw1 hS1 hls
end Calls
end HPM
