/-! THE REFERENCE: isTurned -/
section M31
theorem rp_m0 {S : hp_T} {m0 : Nat} {ad : Nat → Nat} {M M' : ab_T} (h : RepR S m0 ad M) (j : Nat) (v : Int32) (h0 : M'.1 = M.1) (h1 : M'.2.1 = M.2.1) (h2 : M'.2.2.1 = M.2.2.1) (hn' : rnm (hp_sI S m0 j v) m0 M') : RepR (hp_sI S m0 j v) m0 ad M' := by
  obtain ⟨hs, hdj, hc, hn, hp⟩ := h
  have hs0 := hs
  obtain ⟨sk0, sr1, sr2, sr3, sr4, sr5, sr6, sr7, sr8, sr9, sr10, sr11, sr12, sr13, sk1, sk2, sk3, sk4, sk5, sk6, sk7, sk8, sk9, sk10, sk11, sk12, sk13, sn1, sn2, sn3, sn4, sn5, sn6, sn7, sn8, sn9, sn10, sn11, sn12, sn13⟩ := hs
  have dm : ∀ f, 1 ≤ f → f ≤ 13 → hp_K S (ad f) ≠ 5 → ¬ ad f = m0 := fun f _ _ q e => q (by rw [e]; exact sk0)
  have dm1 := dm 1 (by omega) (by omega) (by omega)
  have dm2 := dm 2 (by omega) (by omega) (by omega)
  have dm3 := dm 3 (by omega) (by omega) (by omega)
  have dm5 := dm 5 (by omega) (by omega) (by omega)
  have dm8 := dm 8 (by omega) (by omega) (by omega)
  have dm9 := dm 9 (by omega) (by omega) (by omega)
  have dm11 := dm 11 (by omega) (by omega) (by omega)
  have dm12 := dm 12 (by omega) (by omega) (by omega)
  have dm13 := dm 13 (by omega) (by omega) (by omega)
  refine ⟨rsh_eq rfl rfl rfl hs0, hdj, fun k hk => ?_, hn', ?_⟩
  · have q := hc k hk
    simp only [rcl, pa, wt, lm, rs, hd, op, tg, tm, sh, h0, h1, hp_I_sI, hp_J_sI, dm1, dm2, dm3, dm5, dm8, dm9, false_and, if_false] at q ⊢
    exact q
  · intro i p hip
    have q := hp i p (by unfold pks at hip ⊢; rw [← h2]; exact hip)
    simp only [hp_I_sI, dm11, dm12, dm13, false_and, if_false]
    exact q
theorem rp_T {S : hp_T} {m0 : Nat} {ad : Nat → Nat} {M : ab_T} (h : RepR S m0 ad M) (t : Nat) : RepR (hp_sI S m0 16 (nI t)) m0 ad (mT M t) := by
  refine rp_m0 h _ _ rfl rfl rfl ?_
  obtain ⟨n1, n2, n3, n4, n5, n6, n7⟩ := h.2.2.2.1
  simp only [rnm, hp_I_sI, Nat.reduceEqDiff, and_false, if_false, and_self, if_true]
  exact ⟨n1, n2, n3, rfl, n5, n6, n7⟩
theorem rp_l0 {S : hp_T} {m0 : Nat} {ad : Nat → Nat} {M : ab_T} (h : RepR S m0 ad M) (v : Int32) : RepR (hp_sI S m0 17 v) m0 ad (mL M v (la1 M) (la2 M)) := by
  refine rp_m0 h _ _ rfl rfl rfl ?_
  obtain ⟨n1, n2, n3, n4, n5, n6, n7⟩ := h.2.2.2.1
  simp only [rnm, hp_I_sI, Nat.reduceEqDiff, and_false, if_false, and_self, if_true]
  exact ⟨n1, n2, n3, n4, rfl, n6, n7⟩
theorem rp_l1 {S : hp_T} {m0 : Nat} {ad : Nat → Nat} {M : ab_T} (h : RepR S m0 ad M) (v : Int32) : RepR (hp_sI S m0 18 v) m0 ad (mL M (la0 M) v (la2 M)) := by
  refine rp_m0 h _ _ rfl rfl rfl ?_
  obtain ⟨n1, n2, n3, n4, n5, n6, n7⟩ := h.2.2.2.1
  simp only [rnm, hp_I_sI, Nat.reduceEqDiff, and_false, if_false, and_self, if_true]
  exact ⟨n1, n2, n3, n4, n5, rfl, n7⟩
theorem rp_l2 {S : hp_T} {m0 : Nat} {ad : Nat → Nat} {M : ab_T} (h : RepR S m0 ad M) (v : Int32) : RepR (hp_sI S m0 19 v) m0 ad (mL M (la0 M) (la1 M) v) := by
  refine rp_m0 h _ _ rfl rfl rfl ?_
  obtain ⟨n1, n2, n3, n4, n5, n6, n7⟩ := h.2.2.2.1
  simp only [rnm, hp_I_sI, Nat.reduceEqDiff, and_false, if_false, and_self, if_true]
  exact ⟨n1, n2, n3, n4, n5, n6, rfl⟩
theorem bst_ex (M : ab_T) (c : Nat) : ∀ n, n ≤ 64 → ∃ r, bst M c n r := by
  intro n
  induction n with
  | zero => exact fun _ => ⟨64, Or.inl ⟨rfl, fun i i1 i2 => by omega⟩⟩
  | succ n ih =>
    intro hn
    obtain ⟨r, h⟩ := ih (by omega)
    by_cases g : pa M n = c ∧ op M n = 1
    · by_cases n0 : 1 ≤ n
      · rcases h with ⟨z1, z2⟩ | ⟨z1, z2, z3, z4, z5, z6⟩
        · refine ⟨n, Or.inr ⟨n0, by omega, by omega, g.1, g.2, fun i i1 i2 i3 i4 => ?_⟩⟩
          by_cases e : i = n
          · subst e; exact Or.inr ⟨rfl, Nat.le_refl _⟩
          · exact absurd i4 (z2 i i1 (by omega) i3)
        · by_cases g9 : tg M n < tg M r
          · refine ⟨n, Or.inr ⟨n0, by omega, by omega, g.1, g.2, fun i i1 i2 i3 i4 => ?_⟩⟩
            by_cases e : i = n
            · subst e; exact Or.inr ⟨rfl, Nat.le_refl _⟩
            · rcases z6 i i1 (by omega) i3 i4 with y | y
              · exact Or.inl (Int64.lt_trans g9 y)
              · exact Or.inl (y.1 ▸ g9)
          · refine ⟨r, Or.inr ⟨z1, by omega, z3, z4, z5, fun i i1 i2 i3 i4 => ?_⟩⟩
            by_cases e : i = n
            · subst e
              by_cases e2 : tg M r = tg M i
              · exact Or.inr ⟨e2, by omega⟩
              · exact Or.inl (Int64.lt_of_le_of_ne (Int64.not_lt.mp g9) e2)
            · exact z6 i i1 (by omega) i3 i4
      · refine ⟨r, ?_⟩
        rcases h with ⟨z1, z2⟩ | ⟨z1, z2, -⟩
        · exact Or.inl ⟨z1, fun i i1 i2 => by omega⟩
        · omega
    · exact ⟨r, bst_skip h g⟩
theorem bst_un {M : ab_T} {c r r2 : Nat} (h : bst M c 64 r) (h2 : bst M c 64 r2) : r = r2 := by
  rcases h with ⟨z1, z2⟩ | ⟨z1, z2, z3, z4, z5, z6⟩
  · rcases h2 with ⟨y1, y2⟩ | ⟨y1, y2, y3, y4, y5, y6⟩
    · rw [z1, y1]
    · exact absurd y5 (z2 r2 y1 y2 y4)
  · rcases h2 with ⟨y1, y2⟩ | ⟨y1, y2, y3, y4, y5, y6⟩
    · exact absurd z5 (y2 r z1 z2 z4)
    · rcases z6 r2 y1 y2 y4 y5 with a | a
      · rcases y6 r z1 z2 z4 z5 with b | b
        · exact absurd (Int64.lt_trans a b) Int64.lt_irrefl
        · exact absurd (b.1 ▸ a) Int64.lt_irrefl
      · rcases y6 r z1 z2 z4 z5 with b | b
        · exact absurd (a.1 ▸ b) Int64.lt_irrefl
        · omega
/-- the way down from c to the leaf e whose turn it is -/
def dnl (M : ab_T) : Nat → List Nat → Nat → Prop
  | c, [], e => c = e ∧ c < 64 ∧ ¬ c = 0 ∧ nch M c = 0
  | c, k :: ks, e => c < 64 ∧ ¬ (¬ c = 0 ∧ nch M c = 0) ∧ bst M c 64 k ∧ k < 64 ∧ dnl M k ks e
theorem dnl_ex {M : ab_T} (hw : wfS M) (hf : fix M (op M)) : ∀ c, c < 64 → op M c = 1 → ∃ ks e, dnl M c ks e ∧ e < 64 ∧ op M e = 1 ∧ ∃ p ∈ pks M, p.1 = e := by
  obtain ⟨⟨w1, w2⟩, w3, ⟨rk, w4⟩, w5⟩ := hw
  have hB : ∀ c, c < 64 → rk c ≤ ((List.range 64).map rk).sum := fun c hc => sum_ge (List.mem_map.mpr ⟨c, List.mem_range.mpr hc, rfl⟩)
  have key : ∀ d c, c < 64 → op M c = 1 → ((List.range 64).map rk).sum - rk c ≤ d → ∃ ks e, dnl M c ks e ∧ e < 64 ∧ op M e = 1 ∧ ∃ p ∈ pks M, p.1 = e := by
    intro d
    induction d with
    | zero =>
      intro c hc ho hd0
      have hno : ∀ k, k < 64 → ¬ pa M k = c := fun k hk he => by
        have h3 := w4 k hk (by omega)
        have h4 := hB k hk
        rw [he] at h3
        omega
      obtain ⟨-, ⟨p, hp, rfl⟩ | ⟨k, hk, he, -⟩⟩ := (hf c hc).2.mp ho
      · exact ⟨[], p.1, ⟨rfl, hc, by have := (w5 p hp).2.1; omega, (nch_0 w1 hc).mpr hno⟩, hc, ho, p, hp, rfl⟩
      · exact absurd he (hno k hk)
    | succ d ih =>
      intro c hc ho hd0
      obtain ⟨-, ⟨p, hp, rfl⟩ | ⟨k, hk, he, hk1⟩⟩ := (hf c hc).2.mp ho
      · exact ⟨[], p.1, ⟨rfl, hc, by have := (w5 p hp).2.1; omega, (nch_0 w1 hc).mpr (w5 p hp).2.2.2.1⟩, hc, ho, p, hp, rfl⟩
      · obtain ⟨r, hr⟩ := bst_ex M c 64 (Nat.le_refl _)
        have hk0 : 1 ≤ k := by
          rcases Nat.eq_zero_or_pos k with e | e
          · rw [e, w1] at he; omega
          · exact e
        rcases id hr with ⟨z1, z2⟩ | ⟨z1, z2, z3, z4, z5, z6⟩
        · exact absurd hk1 (z2 k hk0 hk he)
        · obtain ⟨ks, e, q1, q2⟩ := ih r z3 z5 (by
            have h3 := w4 r z3 (by omega)
            rw [z4] at h3
            have h4 := hB r z3
            omega)
          exact ⟨r :: ks, e, ⟨hc, fun q => (nch_0 w1 hc).mp q.2 k hk he, hr, z3, q1⟩, q2⟩
  exact fun c hc ho => key _ c hc ho (Nat.le_refl _)
/-- from the root: if one of its children is open -/
theorem dnl_ex0 {M : ab_T} (hw : wfS M) (hf : fix M (op M)) {r : Nat} (hr : bst M 0 64 r) (h : r < 64) : ∃ ks e, dnl M 0 (r :: ks) e ∧ e < 64 ∧ ∃ p ∈ pks M, p.1 = e := by
  rcases id hr with ⟨z1, z2⟩ | ⟨z1, z2, z3, z4, z5, z6⟩
  · omega
  · obtain ⟨ks, e, q1, q2, -, q3⟩ := dnl_ex hw hf r z3 z5
    exact ⟨ks, e, ⟨by decide, fun q => q.1 rfl, hr, z3, q1⟩, q2, q3⟩
/-- the times that are set on the way down -/
def tim (M : ab_T) : Nat → List Nat → ab_T
  | _, [] => M
  | c, k :: ks => tim (mj M 1 c (tg M k)) k ks
/-- alike but for the times -/
def sam (M1 M : ab_T) : Prop := M1.1 = M.1 ∧ M1.2.1 0 = M.2.1 0 ∧ M1.2.1 2 = M.2.1 2 ∧ M1.2.2 = M.2.2
theorem sam.mj {M1 M : ab_T} (h : sam M1 M) (c : Nat) (v : Int64) : sam (mj M1 1 c v) M := ⟨h.1, h.2.1, h.2.2.1, h.2.2.2⟩
theorem sam_tim {M : ab_T} : ∀ (ks : List Nat) (c : Nat) (M1 : ab_T), sam M1 M → sam (tim M1 c ks) M := by
  intro ks
  induction ks with
  | nil => exact fun _ _ h => h
  | cons k ks ih => exact fun c M1 h => ih _ _ (h.mj _ _)
theorem sam_bst {M1 M : ab_T} (h : sam M1 M) {c n r : Nat} (q : bst M1 c n r) : bst M c n r := by
  unfold bst pa op tg at q ⊢
  rw [h.1, h.2.1] at q
  exact q
theorem sam_nch {M1 M : ab_T} (h : sam M1 M) (c : Nat) : nch M1 c = nch M c := by
  unfold nch pa
  rw [h.1]
/-- the first packet of the class e is at p -/
def fsp (M : ab_T) (e p : Nat) (id : Int32) (len : Nat) : Prop := (pks M)[p]? = some (e, id, len) ∧ ∀ i q, i < p → (pks M)[i]? = some q → ¬ q.1 = e
theorem fsp_ex {M : ab_T} {e : Nat} (h : ∃ p ∈ pks M, p.1 = e) : ∃ p id len, fsp M e p id len := by
  obtain ⟨z, hz, rfl⟩ := h
  obtain ⟨n, hn⟩ := List.getElem?_of_mem hz
  obtain ⟨k, ⟨w, hk1, hk2⟩, hk3⟩ := pk_least (fun k => ∃ w, (pks M)[k]? = some w ∧ w.1 = z.1) ⟨n, z, hn, rfl⟩
  refine ⟨k, w.2.1, w.2.2, ?_, fun i q hi hq hq2 => hk3 i hi ⟨q, hq, hq2⟩⟩
  rw [hk1, ← hk2]
/-- one class is charged -/
def chg (M : ab_T) (len x : Nat) : ab_T := if x = 0 then mj M 2 x (sh M x + lN len) else mn (mj (mj M 2 x (sh M x + lN len)) 0 x (tg M x + lN ((65536 * len + rs M x) / wt M x))) 3 x ((65536 * len + rs M x) % wt M x)
def chgs (M : ab_T) (len : Nat) : List Nat → ab_T
  | [] => M
  | x :: xs => chgs (chg M len x) len xs
theorem chg_pa (M : ab_T) (len x c : Nat) : pa (chg M len x) c = pa M c := by
  unfold chg; split <;> rfl
theorem chg_wt (M : ab_T) (len x c : Nat) : wt (chg M len x) c = wt M c := by
  unfold chg; split <;> rfl
theorem chg_lm (M : ab_T) (len x c : Nat) : lm (chg M len x) c = lm M c := by
  unfold chg; split <;> rfl
theorem chg_hd (M : ab_T) (len x c : Nat) : hd (chg M len x) c = hd M c := by
  unfold chg; split <;> rfl
theorem chg_op (M : ab_T) (len x c : Nat) : op (chg M len x) c = op M c := by
  unfold chg; split <;> rfl
theorem chg_tl (M : ab_T) (len x : Nat) : (chg M len x).2.2 = M.2.2 := by
  unfold chg; split <;> rfl
theorem chg_tm (M : ab_T) (len x c : Nat) : tm (chg M len x) c = tm M c := by
  unfold chg; split <;> rfl
/-- weights and rests are in their bounds -/
def wok (M : ab_T) : Prop := (∀ c, c < 64 → rs M c < 1000) ∧ ∀ c, c < 64 → 0 < c → ¬ pa M c = 65 → 1 ≤ wt M c ∧ wt M c ≤ 1000
theorem wok_chg {M : ab_T} (h : wok M) {len x : Nat} (hx : x < 64) (hpx : ¬ pa M x = 65) : wok (chg M len x) := by
  refine ⟨fun c hc => ?_, fun c hc h0 h1 => ?_⟩
  · unfold chg
    split
    · exact h.1 c hc
    · rename_i e
      show (if (3 = 3 ∧ c = x) then (65536 * len + rs M x) % wt M x else M.1 3 c) < 1000
      by_cases e2 : c = x
      · rw [if_pos ⟨rfl, e2⟩]
        obtain ⟨a, b⟩ := h.2 x hx (by omega) hpx
        have := Nat.mod_lt (65536 * len + rs M x) (show 0 < wt M x by omega)
        omega
      · rw [if_neg (fun q => e2 q.2)]
        exact h.1 c hc
  · rw [chg_wt]
    exact h.2 c hc h0 (by rw [chg_pa] at h1; exact h1)
theorem upl_pa {M M' : ab_T} (h : ∀ c, pa M' c = pa M c) : ∀ (us : List Nat) (c : Nat), upl M c us → upl M' c us := by
  intro us
  induction us with
  | nil => exact fun _ h => h
  | cons u us ih => exact fun c q => ⟨q.1, q.2.1, by rw [h]; exact ih _ q.2.2⟩
/-- the holds of the first n classes are one turn shorter -/
def hdN (M : ab_T) (n : Nat) : ab_T := (fun f c => if f = 4 ∧ c < n then M.1 4 c - 1 else M.1 f c, M.2)
theorem hdN_0 (M : ab_T) : hdN M 0 = M := by
  unfold hdN
  simp
theorem hdN_S (M : ab_T) (n : Nat) : hdN M (n + 1) = mn (hdN M n) 4 n (hd M n - 1) := by
  unfold hdN mn hd
  congr 1
  funext f c
  by_cases h1 : f = 4
  · subst h1
    by_cases h2 : c = n
    · subst h2; simp
    · have h3 : (c < n + 1) = (c < n) := by apply propext; omega
      simp [h2, h3]
  · simp [h1]
theorem hdN_hd (M : ab_T) (n c : Nat) : hd (hdN M n) c = if c < n then hd M c - 1 else hd M c := by
  show (if (4 = 4 ∧ c < n) then M.1 4 c - 1 else M.1 4 c) = _
  simp [hd]
theorem chgs_pa : ∀ (us : List Nat) (M : ab_T) (len c : Nat), pa (chgs M len us) c = pa M c := by
  intro us
  induction us with
  | nil => exact fun _ _ _ => rfl
  | cons u us ih => exact fun M len c => (ih _ _ _).trans (chg_pa _ _ _ _)
theorem chgs_hd : ∀ (us : List Nat) (M : ab_T) (len c : Nat), hd (chgs M len us) c = hd M c := by
  intro us
  induction us with
  | nil => exact fun _ _ _ => rfl
  | cons u us ih => exact fun M len c => (ih _ _ _).trans (chg_hd _ _ _ _)
theorem chgs_op : ∀ (us : List Nat) (M : ab_T) (len c : Nat), op (chgs M len us) c = op M c := by
  intro us
  induction us with
  | nil => exact fun _ _ _ => rfl
  | cons u us ih => exact fun M len c => (ih _ _ _).trans (chg_op _ _ _ _)
theorem chgs_tl : ∀ (us : List Nat) (M : ab_T) (len : Nat), (chgs M len us).2.2 = M.2.2 := by
  intro us
  induction us with
  | nil => exact fun _ _ => rfl
  | cons u us ih => exact fun M len => (ih _ _).trans (chg_tl _ _ _)
/-- the state ahead of the settling that ends a turn -/
def trd (M : ab_T) (ks : List Nat) (e : Nat) (us : List Nat) (p : Nat) (id : Int32) (len : Nat) : ab_T := hdN (mT (chgs (mP (mL (tim M 0 ks) (nI e) id (nI len)) ((pks M).eraseIdx p)) len us) (trn M + 1)) 64
theorem trd_pa {M : ab_T} {ks : List Nat} {e : Nat} {us : List Nat} {p : Nat} {id : Int32} {len : Nat} (c : Nat) : pa (trd M ks e us p id len) c = pa M c := by
  show pa (chgs (mP (mL (tim M 0 ks) (nI e) id (nI len)) ((pks M).eraseIdx p)) len us) c = _
  rw [chgs_pa]
  show (tim M 0 ks).1 0 c = _
  rw [(sam_tim ks 0 M ⟨rfl, rfl, rfl, rfl⟩).1]
  rfl
theorem trd_op {M : ab_T} {ks : List Nat} {e : Nat} {us : List Nat} {p : Nat} {id : Int32} {len : Nat} (c : Nat) : op (trd M ks e us p id len) c = op M c := by
  show op (chgs (mP (mL (tim M 0 ks) (nI e) id (nI len)) ((pks M).eraseIdx p)) len us) c = _
  rw [chgs_op]
  show (tim M 0 ks).1 5 c = _
  rw [(sam_tim ks 0 M ⟨rfl, rfl, rfl, rfl⟩).1]
  rfl
theorem trd_hd {M : ab_T} {ks : List Nat} {e : Nat} {us : List Nat} {p : Nat} {id : Int32} {len : Nat} {c : Nat} (hc : c < 64) : hd (trd M ks e us p id len) c = hd M c - 1 := by
  unfold trd
  rw [hdN_hd, if_pos hc]
  show hd (chgs (mP (mL (tim M 0 ks) (nI e) id (nI len)) ((pks M).eraseIdx p)) len us) c - 1 = _
  rw [chgs_hd]
  show (tim M 0 ks).1 4 c - 1 = _
  rw [(sam_tim ks 0 M ⟨rfl, rfl, rfl, rfl⟩).1]
  rfl
theorem trd_pks {M : ab_T} {ks : List Nat} {e : Nat} {us : List Nat} {p : Nat} {id : Int32} {len : Nat} : pks (trd M ks e us p id len) = (pks M).eraseIdx p := by
  show (chgs (mP (mL (tim M 0 ks) (nI e) id (nI len)) ((pks M).eraseIdx p)) len us).2.2.1 = _
  rw [chgs_tl]
  rfl
theorem sok_trd {M : ab_T} (h : sok M) {ks : List Nat} {e : Nat} {us : List Nat} {p : Nat} {id : Int32} {len : Nat} : sok (trd M ks e us p id len) := by
  obtain ⟨⟨w1, w3, w4, w5⟩, g2, g3⟩ := h
  unfold sok wfS rkd
  simp only [trd_pa, trd_op, trd_pks]
  refine ⟨⟨w1, w3, w4, fun z hz => w5 z (List.mem_of_mem_eraseIdx hz)⟩, fun c hc => ?_, g3⟩
  rw [trd_hd hc]
  have := g2 c hc
  omega
/-- one turn -/
def sp_turn (M : ab_T) (r : Nat) (M' : ab_T) : Prop := (r = 0 ∧ bst M 0 64 64 ∧ M' = M) ∨ (r = 1 ∧ ∃ k ks e us p id len, dnl M 0 (k :: ks) e ∧ upl M e us ∧ fsp M e p id len ∧ stl (trd M (k :: ks) e us p id len) M')
end M31
