/-! THE CLASS: a walk of settling, over what is to send from -/
section M43
theorem cpo_mono {M : ab_T} {o o1 : Nat → Nat} {c : Nat} (h : ∀ k, k < 64 → o k = 1 → o1 k = 1) (q : cpo M o c) : cpo M o1 c := by
  obtain ⟨a, b | ⟨k, k1, k2, k3⟩⟩ := q
  · exact ⟨a, Or.inl b⟩
  · exact ⟨a, Or.inr ⟨k, k1, k2, h k k1 k3⟩⟩
theorem cpo_ne {M : ab_T} {o : Nat → Nat} {c d v : Nat} (h : ¬ c = pa M d) : cpo M (upo o d v) c ↔ cpo M o c := by
  have e : ∀ k, pa M k = c → upo o d v k = o k := fun k hk => by
    unfold upo
    rw [if_neg (fun q => h (by rw [← hk, q]))]
  constructor
  · rintro ⟨a, b | ⟨k, k1, k2, k3⟩⟩
    · exact ⟨a, Or.inl b⟩
    · exact ⟨a, Or.inr ⟨k, k1, k2, by rw [e k k2] at k3; exact k3⟩⟩
  · rintro ⟨a, b | ⟨k, k1, k2, k3⟩⟩
    · exact ⟨a, Or.inl b⟩
    · exact ⟨a, Or.inr ⟨k, k1, k2, by rw [e k k2]; exact k3⟩⟩
theorem upo_at (o : Nat → Nat) (c v : Nat) : upo o c v c = v := by unfold upo; rw [if_pos rfl]
theorem upo_ne {o : Nat → Nat} {c v k : Nat} (h : ¬ k = c) : upo o c v k = o k := by unfold upo; rw [if_neg h]
theorem sgo_open {M : ab_T} (hw : wfS M) {E : Nat} {Y : Nat → Prop} : ∀ (us : List Nat) (d : Nat) (o : Nat → Nat), upl M d us → (∀ c, c < 64 → o c ≤ 1) → (∀ c, c < 64 → ¬ c = E → o c = 1 → cpo M o c) → (E < 64 → o E = 1 → hd M E = 0) → (d = E → d < 64 → ∃ k, k < 64 ∧ pa M k = d ∧ o k = 1) → (∀ c, c < 64 → ¬ Y c → ¬ c = d → cpo M o c → o c = 1) → (∀ u ∈ us, o u = 0 → op M u = 0) → ∃ o', sgo (a_set M o) us = a_set M o' ∧ vis E (a_set M o) us ∧ (∀ c, c < 64 → o' c ≤ 1) ∧ (∀ c, c < 64 → ¬ c = E → o' c = 1 → cpo M o' c) ∧ (E < 64 → o' E = 1 → hd M E = 0) ∧ (∀ c, c < 64 → ¬ Y c → cpo M o' c → o' c = 1) ∧ ∀ c, o c = 1 → o' c = 1 := by
  intro us
  induction us with
  | nil =>
    intro d o hu hB hO hE _ hC _
    have hd64 : d = 64 := hu
    exact ⟨o, rfl, trivial, hB, hO, hE, fun c hc hy q => hC c hc hy (by omega) q, fun _ q => q⟩
  | cons u us ih =>
    intro d o hu hB hO hE hH hC hP
    have hin := upl_in (u :: us) d hu u List.mem_cons_self
    obtain ⟨rfl, hd1, hu2⟩ := hu
    have hop : op (a_set M o) d = o d := as_op M o hd1
    have hv1 : d = E → 0 < noc (a_set M o) d := fun q => by
      obtain ⟨k, k1, k2, k3⟩ := hH q hd1
      exact noc_pos.mpr ⟨k, k1, k2, by rw [as_op M o k1]; exact k3⟩
    have hOd : o d = 1 → cpo M o d := fun q => by
      by_cases e : d = E
      · obtain ⟨k, k1, k2, k3⟩ := hH e hd1
        exact ⟨by rw [e]; exact hE (by omega) (by rw [← e]; exact q), Or.inr ⟨k, k1, k2, k3⟩⟩
      · exact hO d hd1 e q
    by_cases g : cpo M o d
    · have hcm : cmo (a_set M o) d = 1 := cmo_1 (cpo_as.mpr g)
      by_cases g2 : o d = 1
      · have e1 : op (a_set M o) d = cmo (a_set M o) d := by rw [hop, hcm, g2]
        refine ⟨o, ?_, ⟨hv1, Or.inl e1⟩, hB, hO, hE, fun c hc hy q => ?_, fun _ q => q⟩
        · show (if op (a_set M o) d = cmo (a_set M o) d then a_set M o else _) = _
          rw [if_pos e1]
        · by_cases e : c = d
          · rw [e]; exact g2
          · exact hC c hc hy e q
      · have g3 : o d = 0 := by
          have := hB d hd1
          omega
        have e1 : ¬ op (a_set M o) d = cmo (a_set M o) d := by rw [hop, hcm, g3]; omega
        have e2 : flp1 (a_set M o) d (cmo (a_set M o) d) = a_set M (upo o d 1) := by
          rw [hcm]
          exact flp1_open hw hd1 hin.2 g3 (hP d List.mem_cons_self g3)
        have mono : ∀ k, o k = 1 → upo o d 1 k = 1 := fun k hk => by
          by_cases e : k = d
          · rw [e, upo_at]
          · rw [upo_ne e]; exact hk
        obtain ⟨o', r1, r2, r3, r4, r5, r6, r7⟩ := ih (pa M d) (upo o d 1) hu2 (fun c hc => by
            by_cases e : c = d
            · rw [e, upo_at]; omega
            · rw [upo_ne e]; exact hB c hc) (fun c hc hce q => by
            by_cases e : c = d
            · rw [e]; exact cpo_mono (fun k _ => mono k) g
            · rw [upo_ne e] at q
              exact cpo_mono (fun k _ => mono k) (hO c hc hce q)) (fun h1 h2 => by
            by_cases e : E = d
            · rw [e]; exact g.1
            · rw [upo_ne e] at h2
              exact hE h1 h2) (fun q hq => ⟨d, hd1, rfl, upo_at o d 1⟩) (fun c hc hy hcd q => by
            rw [cpo_ne hcd] at q
            by_cases e : c = d
            · rw [e, upo_at]
            · rw [upo_ne e]; exact hC c hc hy e q) (fun z hz q => by
            by_cases e : z = d
            · rw [e, upo_at] at q; omega
            · rw [upo_ne e] at q
              exact hP z (List.mem_cons_of_mem _ hz) q)
        refine ⟨o', ?_, ⟨hv1, Or.inr ?_⟩, r3, r4, r5, r6, fun c hc => r7 c (mono c hc)⟩
        · show (if op (a_set M o) d = cmo (a_set M o) d then a_set M o else sgo (flp1 (a_set M o) d (cmo (a_set M o) d)) us) = _
          rw [if_neg e1, e2]
          exact r1
        · rw [e2]; exact r2
    · have hcm : cmo (a_set M o) d = 0 := cmo_0 (fun q => g (cpo_as.mp q))
      have g2 : o d = 0 := by
        have := hB d hd1
        by_cases e : o d = 1
        · exact absurd (hOd e) g
        · omega
      have e1 : op (a_set M o) d = cmo (a_set M o) d := by rw [hop, hcm, g2]
      refine ⟨o, ?_, ⟨hv1, Or.inl e1⟩, hB, hO, hE, fun c hc hy q => ?_, fun _ q => q⟩
      · show (if op (a_set M o) d = cmo (a_set M o) d then a_set M o else _) = _
        rw [if_pos e1]
      · by_cases e : c = d
        · rw [e] at q; exact absurd q g
        · exact hC c hc hy e q
theorem sgo_close {M : ab_T} (hw : wfS M) : ∀ (us : List Nat) (d : Nat) (o : Nat → Nat), upl M d us → (∀ c, c < 64 → o c ≤ 1) → (∀ c, c < 64 → cpo M o c → o c = 1) → (∀ c, c < 64 → ¬ c = d → o c = 1 → cpo M o c) → (d < 64 → o d = 1 → op M d = 1) → (∀ w ∈ us, op M w = 1 → pa M w < 64 → hd M (pa M w) = 0 → o (pa M w) = 1 → op M (pa M w) = 1) → ∃ o', sgo (a_set M o) us = a_set M o' ∧ fix M o' ∧ ∀ c, o' c = 1 → o c = 1 := by
  intro us
  induction us with
  | nil =>
    intro d o hu hB hC hO _ _
    have hd64 : d = 64 := hu
    exact ⟨o, rfl, fun c hc => ⟨hB c hc, fun q => hO c hc (by omega) q, fun q => hC c hc q⟩, fun _ q => q⟩
  | cons u us ih =>
    intro d o hu hB hC hO hH hU
    obtain ⟨rfl, hd1, hu2⟩ := hu
    have hop : op (a_set M o) d = o d := as_op M o hd1
    by_cases g : cpo M o d
    · have hcm : cmo (a_set M o) d = 1 := cmo_1 (cpo_as.mpr g)
      have e1 : op (a_set M o) d = cmo (a_set M o) d := by rw [hop, hcm]; exact hC d hd1 g
      refine ⟨o, ?_, fun c hc => ⟨hB c hc, fun q => ?_, fun q => hC c hc q⟩, fun _ q => q⟩
      · show (if op (a_set M o) d = cmo (a_set M o) d then a_set M o else _) = _
        rw [if_pos e1]
      · by_cases e : c = d
        · subst e; exact g
        · exact hO c hc e q
    · have hcm : cmo (a_set M o) d = 0 := cmo_0 (fun q => g (cpo_as.mp q))
      by_cases g2 : o d = 1
      · have e1 : ¬ op (a_set M o) d = cmo (a_set M o) d := by rw [hop, hcm, g2]; omega
        have g3 := hH hd1 g2
        have e2 : flp1 (a_set M o) d (cmo (a_set M o) d) = a_set M (upo o d 0) := by
          rw [hcm]
          exact flp1_close hd1 g3
        have anti : ∀ k, upo o d 0 k = 1 → o k = 1 := fun k hk => by
          by_cases e : k = d
          · rw [e]; exact g2
          · rw [upo_ne e] at hk; exact hk
        have hcp : pa M d < 64 → ¬ pa M d = d := fun hp q => by
          obtain ⟨rk, hrk⟩ := hw.2.2.1
          have := hrk d hd1 hp
          rw [q] at this
          omega
        obtain ⟨o', r1, r2, r3⟩ := ih (pa M d) (upo o d 0) hu2 (fun c hc => by
            by_cases e : c = d
            · rw [e, upo_at]; omega
            · rw [upo_ne e]; exact hB c hc) (fun c hc q => by
            have q2 := cpo_mono (fun k _ => anti k) q
            by_cases e : c = d
            · rw [e] at q2; exact absurd q2 g
            · rw [upo_ne e]; exact hC c hc q2) (fun c hc hcd q => by
            by_cases e : c = d
            · rw [e, upo_at] at q; omega
            · rw [upo_ne e] at q
              rw [cpo_ne hcd]
              exact hO c hc e q) (fun hp q => by
            have e := hcp hp
            rw [upo_ne e] at q
            exact hU d List.mem_cons_self g3 hp (hO _ hp e q).1 q) (fun z hz q1 q2 q3 q4 => hU z (List.mem_cons_of_mem _ hz) q1 q2 q3 (anti _ q4))
        refine ⟨o', ?_, r2, fun c hc => anti c (r3 c hc)⟩
        show (if op (a_set M o) d = cmo (a_set M o) d then a_set M o else sgo (flp1 (a_set M o) d (cmo (a_set M o) d)) us) = _
        rw [if_neg e1, e2]
        exact r1
      · have g3 : o d = 0 := by
          have := hB d hd1
          omega
        have e1 : op (a_set M o) d = cmo (a_set M o) d := by rw [hop, hcm, g3]
        refine ⟨o, ?_, fun c hc => ⟨hB c hc, fun q => ?_, fun q => hC c hc q⟩, fun _ q => q⟩
        · show (if op (a_set M o) d = cmo (a_set M o) d then a_set M o else _) = _
          rw [if_pos e1]
        · by_cases e : c = d
          · subst e; exact absurd q g2
          · exact hO c hc e q
theorem vis_64 : ∀ (us : List Nat) (M : ab_T) (c : Nat), upl M c us → vis 64 M us := by
  intro us
  induction us with
  | nil => exact fun _ _ _ => trivial
  | cons u us ih =>
    intro M c hu
    obtain ⟨rfl, h1, h2⟩ := hu
    exact ⟨fun q => by omega, Or.inr (ih _ _ (upl_pa (flp1_pa M c _) us _ h2))⟩
theorem xnb_64 {M : ab_T} {c : Nat} (h : c < 64) : xnb 64 M c = noc M c := by
  unfold xnb
  rw [if_neg (by omega)]
  rfl
theorem rc_x {S : hp_T} {x0 : Nat} {D : cd_T} {M : ab_T} : RepC S x0 D M ↔ RepN S x0 D M (xnb 64 M) := ⟨fun h => rn_nb h (fun _ hc => xnb_64 hc), fun h => rn_nb h (fun _ hc => (xnb_64 hc).symm)⟩
theorem upl_lk {S : hp_T} {x0 : Nat} {D : cd_T} {M : ab_T} {nb : Nat → Nat} (h : RepN S x0 D M nb) : ∀ (us : List Nat) (c : Nat), upl M c us → c < 64 → lk S 4 (some (dna D c)) (us.map (dna D)) := by
  intro us
  induction us with
  | nil => intro c hu hc; have hu : c = 64 := hu; omega
  | cons u us ih =>
    intro c hu hc
    have hin := upl_in (u :: us) c hu u List.mem_cons_self
    obtain ⟨rfl, h1, h2⟩ := hu
    refine ⟨rfl, ?_⟩
    rw [(h.2.1 c hc hin.2).1.2.2.2.2.2.1]
    by_cases g : pa M c < 64
    · rw [if_pos g]
      exact ih _ h2 g
    · rw [if_neg g]
      cases us with
      | nil => rfl
      | cons v us => exact absurd h2.2.1 (by have := h2.1; omega)
theorem upl_nd {S : hp_T} {x0 : Nat} {D : cd_T} {M : ab_T} {nb : Nat → Nat} (h : RepN S x0 D M nb) {us : List Nat} {c : Nat} (hu : upl M c us) : ∀ x ∈ us.map (dna D), nd_ok S x := by
  intro x hx
  obtain ⟨u, hu2, rfl⟩ := List.mem_map.mp hx
  obtain ⟨h1, h2⟩ := upl_in us c hu u hu2
  obtain ⟨a, b⟩ := h.2.1 u h1 h2
  exact ⟨a.1, _, a.2.2.2.1, b.1⟩
/-- settle, over the state -/
theorem ct_settle (l : Launch) (G : hp_G) (S : hp_T) (x0 : Nat) (D : cd_T) (M : ab_T) (F c : Nat) (us : List Nat) (h : RepN S x0 D M (xnb F M)) (hw : wfS M) (hop : ∀ e, e < 64 → op M e ≤ 1) (hc : c < 64) (hu : upl M c us) (hv : vis F M us) : hp_Met l G yX3_settle cX3_settle 4 none rm_s [.inr (.inr (some x0)), .inr (.inr (some (dna D c)))] S (fun v S' => v = none ∧ RepN S' x0 D (sgo M us) (xnb F (sgo M us)) ∧ frC S S') := by
  have q := mt_settle l G S x0 (dna D c) (us.map (dna D)) h.1.1 (upl_lk h us c hu hc) (upl_nd h hu)
  refine hp_Met.mono q (fun v S' hv2 => ?_)
  obtain ⟨rfl, rfl⟩ := hv2
  obtain ⟨q1, q2⟩ := rx_settle us c M S h hw hop hu hv
  exact ⟨rfl, q1, q2⟩
end M43
