/-! THE SPECS: one answer alone -/
section M64
theorem no_th {M : ab_T} {c : Int32} {j : Nat} (h : thB M c = false) (hj : j < 64) (hp : ¬ pa M j = 65) (e : c = nI j) : False := by
  rw [e, th_nI hj hp] at h
  cases h
theorem nI_c {a b n : Nat} (h : nI a = nI b) (ha : a < n) (hb : b < n) (hn : n ≤ 2 ^ 31) : a = b := (nI_eq (by omega) (by omega)).mp h
theorem nI_z {j : Nat} (hj : j < 64) (h : ¬ j = 0) : ¬ nI j = 0 := fun q => h (nI_c (n := 64) (b := 0) q hj (by omega) (by omega))
theorem nI_r {x lo hi : Nat} (h1 : lo ≤ x) (h2 : x ≤ hi) (hh : hi < 2 ^ 31) : nI lo ≤ nI x ∧ nI x ≤ nI hi := ⟨nI_le h1 (by omega), nI_le h2 hh⟩
theorem det_weight {M : ab_T} {c w : Int32} {k k2 : Nat} {M' M2 : ab_T} (h : sp_weight M c w k M') (g : sp_weight M c w k2 M2) : k = k2 ∧ M' = M2 := by
  rcases h with ⟨a1, a2, a3⟩ | ⟨a1, a2, a3, a4, a5⟩ | ⟨a1, j, x, j1, j2, j3, j4, x1, x2, x3, e1⟩
  · rcases g with ⟨b1, b2, b3⟩ | ⟨b1, b2, b3, b4, b5⟩ | ⟨b1, i, y, i1, i2, i3, i4, y1, y2, y3, e2⟩
    · exact ⟨by omega, by rw [a3, b3]⟩
    · rcases a2 with a2 | a2
      · rw [a2] at b2; cases b2
      · exact absurd a2 b3
    · rcases a2 with a2 | a2
      · exact (no_th a2 i1 i3 i4).elim
      · exact absurd (i4.symm.trans a2) (nI_z i1 i2)
  · rcases g with ⟨b1, b2, b3⟩ | ⟨b1, b2, b3, b4, b5⟩ | ⟨b1, i, y, i1, i2, i3, i4, y1, y2, y3, e2⟩
    · rcases b2 with b2 | b2
      · rw [a2] at b2; cases b2
      · exact absurd b2 a3
    · exact ⟨by omega, by rw [a5, b5]⟩
    · exact absurd (by rw [y3]; exact nI_r (lo := 1) (hi := 1000) y1 y2 (by omega)) a4
  · rcases g with ⟨b1, b2, b3⟩ | ⟨b1, b2, b3, b4, b5⟩ | ⟨b1, i, y, i1, i2, i3, i4, y1, y2, y3, e2⟩
    · rcases b2 with b2 | b2
      · exact (no_th b2 j1 j3 j4).elim
      · exact absurd (j4.symm.trans b2) (nI_z j1 j2)
    · exact absurd (by rw [x3]; exact nI_r (lo := 1) (hi := 1000) x1 x2 (by omega)) b4
    · have z1 := nI_c (j4.symm.trans i4) j1 i1 (by omega)
      have z2 := nI_c (n := 1001) (x3.symm.trans y3) (by omega) (by omega) (by omega)
      subst z1 z2
      exact ⟨by omega, by rw [e1, e2]⟩
theorem det_hold {M : ab_T} (hr : rkd M) {c w : Int32} {k k2 : Nat} {M' M2 : ab_T} (h : sp_hold M c w k M') (g : sp_hold M c w k2 M2) : k = k2 ∧ M' = M2 := by
  rcases h with ⟨a1, a2, a3⟩ | ⟨a1, a2, a3, a4, a5⟩ | ⟨a1, j, x, j1, j2, j3, j4, x2, x3, e1⟩
  · rcases g with ⟨b1, b2, b3⟩ | ⟨b1, b2, b3, b4, b5⟩ | ⟨b1, i, y, i1, i2, i3, i4, y2, y3, e2⟩
    · exact ⟨by omega, by rw [a3, b3]⟩
    · rcases a2 with a2 | a2
      · rw [a2] at b2; cases b2
      · exact absurd a2 b3
    · rcases a2 with a2 | a2
      · exact (no_th a2 i1 i3 i4).elim
      · exact absurd (i4.symm.trans a2) (nI_z i1 i2)
  · rcases g with ⟨b1, b2, b3⟩ | ⟨b1, b2, b3, b4, b5⟩ | ⟨b1, i, y, i1, i2, i3, i4, y2, y3, e2⟩
    · rcases b2 with b2 | b2
      · rw [a2] at b2; cases b2
      · exact absurd b2 a3
    · exact ⟨by omega, by rw [a5, b5]⟩
    · exact absurd (by rw [y3]; exact nI_r (lo := 0) (hi := 1000) (by omega) y2 (by omega)) a4
  · rcases g with ⟨b1, b2, b3⟩ | ⟨b1, b2, b3, b4, b5⟩ | ⟨b1, i, y, i1, i2, i3, i4, y2, y3, e2⟩
    · rcases b2 with b2 | b2
      · exact (no_th b2 j1 j3 j4).elim
      · exact absurd (j4.symm.trans b2) (nI_z j1 j2)
    · exact absurd (by rw [x3]; exact nI_r (lo := 0) (hi := 1000) (by omega) x2 (by omega)) b4
    · have z1 := nI_c (j4.symm.trans i4) j1 i1 (by omega)
      have z2 := nI_c (n := 1001) (x3.symm.trans y3) (by omega) (by omega) (by omega)
      subst z1 z2
      exact ⟨by omega, stl_unique (show rkd (mn M 4 j x) from hr) e1 e2⟩
theorem det_remove {M : ab_T} (hs : sok M) {c : Int32} {k k2 : Nat} {M' M2 : ab_T} (h : sp_remove M c k M') (g : sp_remove M c k2 M2) : k = k2 ∧ M' = M2 := by
  rcases h with ⟨a1, a2, a3⟩ | ⟨a1, ⟨j, j1, j2, j3, j4⟩, a3⟩ | ⟨a1, j, j1, j2, j3, j4, j5, j6, e1⟩
  · rcases g with ⟨b1, b2, b3⟩ | ⟨b1, ⟨i, i1, i2, i3, i4⟩, b3⟩ | ⟨b1, i, i1, i2, i3, i4, i5, i6, e2⟩
    · exact ⟨by omega, by rw [a3, b3]⟩
    · exact (no_th a2 i1 i2 i3).elim
    · exact (no_th a2 i1 i2 i3).elim
  · rcases g with ⟨b1, b2, b3⟩ | ⟨b1, ⟨i, i1, i2, i3, i4⟩, b3⟩ | ⟨b1, i, i1, i2, i3, i4, i5, i6, e2⟩
    · exact (no_th b2 j1 j2 j3).elim
    · exact ⟨by omega, by rw [a3, b3]⟩
    · have z1 := nI_c (j3.symm.trans i3) j1 i1 (by omega)
      subst z1
      exact absurd ⟨i4, i5, i6⟩ j4
  · rcases g with ⟨b1, b2, b3⟩ | ⟨b1, ⟨i, i1, i2, i3, i4⟩, b3⟩ | ⟨b1, i, i1, i2, i3, i4, i5, i6, e2⟩
    · exact (no_th b2 j1 j2 j3).elim
    · have z1 := nI_c (j3.symm.trans i3) j1 i1 (by omega)
      subst z1
      exact absurd ⟨j4, j5, j6⟩ i4
    · have z1 := nI_c (j3.symm.trans i3) j1 i1 (by omega)
      subst z1
      exact ⟨by omega, stl_unique (sok_remove hs j1 j4 j5 j6).1.2.2.1 e1 e2⟩
theorem det_move {M : ab_T} (hs : sok M) {c p : Int32} {k k2 : Nat} {M' M2 : ab_T} (h : sp_move M c p k M') (g : sp_move M c p k2 M2) : k = k2 ∧ M' = M2 := by
  rcases h with ⟨a1, a2, a3⟩ | ⟨j, b, j1, j2, j3, j4, b1, b2, b3, a4⟩
  · rcases g with ⟨d1, d2, d3⟩ | ⟨i, d, i1, i2, i3, i4, d1, d2, d3, d4⟩
    · exact ⟨by omega, by rw [a3, d3]⟩
    · rcases a2 with a2 | a2 | a2
      · exact (no_th a2 i1 i3 i4).elim
      · exact absurd (i4.symm.trans a2) (nI_z i1 i2)
      · exact (no_th a2 d1 d2 d3).elim
  · rcases g with ⟨d1, d2, d3⟩ | ⟨i, d, i1, i2, i3, i4, d1, d2, d3, d4⟩
    · rcases d2 with d2 | d2 | d2
      · exact (no_th d2 j1 j3 j4).elim
      · exact absurd (j4.symm.trans d2) (nI_z j1 j2)
      · exact (no_th d2 b1 b2 b3).elim
    · have z1 := nI_c (j4.symm.trans i4) j1 i1 (by omega)
      have z2 := nI_c (b3.symm.trans d3) b1 d1 (by omega)
      subst z1 z2
      rcases a4 with ⟨u1, u2, u3⟩ | ⟨u1, u2, u3, u4⟩ | ⟨u1, u2, u3, u4⟩
      · rcases d4 with ⟨v1, v2, v3⟩ | ⟨v1, v2, v3, v4⟩ | ⟨v1, v2, v3, v4⟩
        · exact ⟨by omega, by rw [u3, v3]⟩
        · exact absurd u2 v2
        · exact absurd u2 v2
      · rcases d4 with ⟨v1, v2, v3⟩ | ⟨v1, v2, v3, v4⟩ | ⟨v1, v2, v3, v4⟩
        · exact absurd v2 u2
        · exact ⟨by omega, by rw [u4, v4]⟩
        · exact absurd v3 u3
      · rcases d4 with ⟨v1, v2, v3⟩ | ⟨v1, v2, v3, v4⟩ | ⟨v1, v2, v3, v4⟩
        · exact absurd v2 u2
        · exact absurd u3 v3
        · exact ⟨by omega, stl_unique (sok_move hs j1 j2 j3 b1 b2 u2 u3).1.2.2.1 u4 v4⟩
theorem det_put {M : ab_T} (hs : sok M) {c id w : Int32} {k k2 : Nat} {r r2 : Int32} {M' M2 : ab_T} (h : sp_put M c id w k r M') (g : sp_put M c id w k2 r2 M2) : k = k2 ∧ M' = M2 ∧ (k = 0 → r = r2) := by
  rcases h with ⟨a1, a2, a3⟩ | ⟨j, j1, j2, j3, a4⟩
  · rcases g with ⟨b1, b2, b3⟩ | ⟨i, i1, i2, i3, b4⟩
    · exact ⟨by omega, by rw [a3, b3], fun z => by omega⟩
    · exact (no_th a2 i1 i2 i3).elim
  · rcases g with ⟨b1, b2, b3⟩ | ⟨i, i1, i2, i3, b4⟩
    · exact (no_th b2 j1 j2 j3).elim
    · have z1 := nI_c (j3.symm.trans i3) j1 i1 (by omega)
      subst z1
      rcases a4 with ⟨u1, u2, u3⟩ | ⟨u1, u2, u3, u4⟩ | ⟨u1, x, x1, x2, x3, u4⟩
      · rcases b4 with ⟨v1, v2, v3⟩ | ⟨v1, v2, v3, v4⟩ | ⟨v1, y, y1, y2, y3, v4⟩
        · exact ⟨by omega, by rw [u3, v3], fun z => by omega⟩
        · exact absurd v2 u2
        · exact absurd v1 u2
      · rcases b4 with ⟨v1, v2, v3⟩ | ⟨v1, v2, v3, v4⟩ | ⟨v1, y, y1, y2, y3, v4⟩
        · exact absurd u2 v2
        · exact ⟨by omega, by rw [u4, v4], fun z => by omega⟩
        · exact absurd (by rw [y3]; exact nI_r (lo := 1) (hi := 2000) y1 y2 (by omega)) u3
      · rcases b4 with ⟨v1, v2, v3⟩ | ⟨v1, v2, v3, v4⟩ | ⟨v1, y, y1, y2, y3, v4⟩
        · exact absurd u1 v2
        · exact absurd (by rw [x3]; exact nI_r (lo := 1) (hi := 2000) x1 x2 (by omega)) v3
        · have z2 := nI_c (n := 2001) (x3.symm.trans y3) (by omega) (by omega) (by omega)
          subst z2
          rcases u4 with ⟨p1, p2, p3⟩ | ⟨p1, p2, p3, p4⟩
          · rcases v4 with ⟨q1, q2, q3⟩ | ⟨q1, q2, q3, q4⟩
            · exact ⟨by omega, by rw [p3, q3], fun z => by omega⟩
            · omega
          · rcases v4 with ⟨q1, q2, q3⟩ | ⟨q1, q2, q3, q4⟩
            · omega
            · exact ⟨by omega, stl_unique (sok_cm hs id j1 u1.1 j2 u1.2 x1 x2).1.2.2.1 p4 q4, fun _ => by rw [p3, q3]⟩
theorem det_putAll {M : ab_T} (hs : sok M) {c id w n : Int32} {k k2 : Nat} {r r2 : Int32} {M' M2 : ab_T} (h : sp_putAll M c id w n k r M') (g : sp_putAll M c id w n k2 r2 M2) : k = k2 ∧ M' = M2 ∧ (k = 0 → r = r2) := by
  rcases h with ⟨a1, a2, a3⟩ | ⟨j, j1, j2, j3, a4⟩
  · rcases g with ⟨b1, b2, b3⟩ | ⟨i, i1, i2, i3, b4⟩
    · exact ⟨by omega, by rw [a3, b3], fun z => by omega⟩
    · exact (no_th a2 i1 i2 i3).elim
  · rcases g with ⟨b1, b2, b3⟩ | ⟨i, i1, i2, i3, b4⟩
    · exact (no_th b2 j1 j2 j3).elim
    · have z1 := nI_c (j3.symm.trans i3) j1 i1 (by omega)
      subst z1
      rcases a4 with ⟨u1, u2, u3⟩ | ⟨u1, u2, u3, u4⟩ | ⟨u0, u1, x, y, x1, x2, x3, y2, y3, u4, u5⟩
      · rcases b4 with ⟨v1, v2, v3⟩ | ⟨v1, v2, v3, v4⟩ | ⟨v0, v1, x', y', x1', x2', x3', y2', y3', v4, v5⟩
        · exact ⟨by omega, by rw [u3, v3], fun z => by omega⟩
        · exact absurd v2 u2
        · exact absurd v1 u2
      · rcases b4 with ⟨v1, v2, v3⟩ | ⟨v1, v2, v3, v4⟩ | ⟨v0, v1, x', y', x1', x2', x3', y2', y3', v4, v5⟩
        · exact absurd u2 v2
        · exact ⟨by omega, by rw [u4, v4], fun z => by omega⟩
        · have q1 := nI_r (lo := 1) (hi := 2000) x1' x2' (by omega)
          have q2 := nI_r (lo := 0) (hi := 500) (Nat.zero_le _) y2' (by omega)
          exact absurd (by rw [x3', y3']; exact ⟨q1.1, q1.2, q2.1, q2.2⟩) u3
      · rcases b4 with ⟨v1, v2, v3⟩ | ⟨v1, v2, v3, v4⟩ | ⟨v0, v1, x', y', x1', x2', x3', y2', y3', v4, v5⟩
        · exact absurd u1 v2
        · have q1 := nI_r (lo := 1) (hi := 2000) x1 x2 (by omega)
          have q2 := nI_r (lo := 0) (hi := 500) (Nat.zero_le _) y2 (by omega)
          exact absurd (by rw [x3, y3]; exact ⟨q1.1, q1.2, q2.1, q2.2⟩) v3
        · have z2 := nI_c (n := 2001) (x3.symm.trans x3') (by omega) (by omega) (by omega)
          have z3 := nI_c (n := 501) (y3.symm.trans y3') (by omega) (by omega) (by omega)
          subst z2 z3
          exact ⟨by omega, stl_unique (sok_pal id j1 u1.1 x1 x2 _ _ _ hs j2 u1.2).1.2.2.1 u5 v5, fun _ => by rw [u4, v4]⟩
theorem det_add {M : ab_T} (hs : sok M) {p w q : Int32} {k k2 : Nat} {r r2 : Int32} {M' M2 : ab_T} (h : sp_add M p w q k r M') (g : sp_add M p w q k2 r2 M2) : k = k2 ∧ M' = M2 ∧ (k = 0 → r = r2) := by
  rcases h with ⟨a1, a2, a3⟩ | ⟨j, j1, j2, j3, a4⟩
  · rcases g with ⟨b1, b2, b3⟩ | ⟨i, i1, i2, i3, b4⟩
    · exact ⟨by omega, by rw [a3, b3], fun z => by omega⟩
    · exact (no_th a2 i1 i2 i3).elim
  · rcases g with ⟨b1, b2, b3⟩ | ⟨i, i1, i2, i3, b4⟩
    · exact (no_th b2 j1 j2 j3).elim
    · have z1 := nI_c (j3.symm.trans i3) j1 i1 (by omega)
      subst z1
      rcases a4 with ⟨u1, u2, u3⟩ | ⟨x, y, x1, x2, x3, y1, y2, y3, u4⟩
      · rcases b4 with ⟨v1, v2, v3⟩ | ⟨x', y', x1', x2', x3', y1', y2', y3', v4⟩
        · exact ⟨by omega, by rw [u3, v3], fun z => by omega⟩
        · have q1 := nI_r (lo := 1) (hi := 1000) x1' x2' (by omega)
          have q2 := nI_r (lo := 1) (hi := 2000) y1' y2' (by omega)
          exact absurd (by rw [x3', y3']; exact ⟨q1.1, q1.2, q2.1, q2.2⟩) u2
      · rcases b4 with ⟨v1, v2, v3⟩ | ⟨x', y', x1', x2', x3', y1', y2', y3', v4⟩
        · have q1 := nI_r (lo := 1) (hi := 1000) x1 x2 (by omega)
          have q2 := nI_r (lo := 1) (hi := 2000) y1 y2 (by omega)
          exact absurd (by rw [x3, y3]; exact ⟨q1.1, q1.2, q2.1, q2.2⟩) v2
        · have z2 := nI_c (n := 1001) (x3.symm.trans x3') (by omega) (by omega) (by omega)
          have z3 := nI_c (n := 2001) (y3.symm.trans y3') (by omega) (by omega) (by omega)
          subst z2 z3
          rcases u4 with ⟨p1, p2, p3⟩ | ⟨p1, p2, p3, p4⟩ | ⟨p1, p2, f, f1, f2, f3, f4, f5, f6⟩
          · rcases v4 with ⟨q1, q2, q3⟩ | ⟨q1, q2, q3, q4⟩ | ⟨q1, q2, e, e1, e2, e3, e4, e5, e6⟩
            · exact ⟨by omega, by rw [p3, q3], fun z => by omega⟩
            · exact absurd q2 p2
            · exact absurd q2 p2
          · rcases v4 with ⟨q1, q2, q3⟩ | ⟨q1, q2, q3, q4⟩ | ⟨q1, q2, e, e1, e2, e3, e4, e5, e6⟩
            · exact absurd p2 q2
            · exact ⟨by omega, by rw [p4, q4], fun z => by omega⟩
            · exact absurd e3 (p3 e e1 e2)
          · rcases v4 with ⟨q1, q2, q3⟩ | ⟨q1, q2, q3, q4⟩ | ⟨q1, q2, e, e1, e2, e3, e4, e5, e6⟩
            · exact absurd p2 q2
            · exact absurd f3 (q3 f f1 f2)
            · have z4 : f = e := by
                rcases Nat.lt_trichotomy f e with z | z | z
                · exact absurd f3 (e4 f f1 z)
                · exact z
                · exact absurd e3 (f4 e e1 z)
              subst z4
              exact ⟨by omega, stl_unique (sok_add hs x y f2 f1 f3 j1 j2 p2).1.2.2.1 f6 e6, fun _ => by rw [f5, e5]⟩
theorem det_clear {M : ab_T} (hs : sok M) {c : Int32} {k k2 : Nat} {r r2 : Int32} {M' M2 : ab_T} (h : sp_clear M c k r M') (g : sp_clear M c k2 r2 M2) : k = k2 ∧ M' = M2 ∧ (k = 0 → r = r2) := by
  rcases h with ⟨a1, a2, a3⟩ | ⟨a1, j, j1, j2, j3, a4, a5⟩
  · rcases g with ⟨b1, b2, b3⟩ | ⟨b1, i, i1, i2, i3, b4, b5⟩
    · exact ⟨by omega, by rw [a3, b3], fun z => by omega⟩
    · exact (no_th a2 i1 i2 i3).elim
  · rcases g with ⟨b1, b2, b3⟩ | ⟨b1, i, i1, i2, i3, b4, b5⟩
    · exact (no_th b2 j1 j2 j3).elim
    · have z1 := nI_c (j3.symm.trans i3) j1 i1 (by omega)
      subst z1
      have z2 : r = r2 := by rw [a4, b4]
      subst z2
      exact ⟨by omega, stl_unique (sok_D (sok_sub hs (fun p hp => (List.mem_filter.mp hp).1)) _).1.2.2.1 a5 b5, fun _ => rfl⟩
theorem fsp_un {M : ab_T} {e p p2 : Nat} {id id2 : Int32} {len len2 : Nat} (h : fsp M e p id len) (g : fsp M e p2 id2 len2) : p = p2 ∧ id = id2 ∧ len = len2 := by
  have hp : p = p2 := by
    rcases Nat.lt_trichotomy p p2 with z | z | z
    · exact absurd rfl (g.2 p _ z h.1)
    · exact z
    · exact absurd rfl (h.2 p2 _ z g.1)
  subst hp
  have := h.1.symm.trans g.1
  simp only [Option.some.injEq, Prod.mk.injEq] at this
  exact ⟨rfl, this.2.1, this.2.2⟩
theorem dnl_un {M : ab_T} : ∀ (ks ks2 : List Nat) (c e e2 : Nat), dnl M c ks e → dnl M c ks2 e2 → ks = ks2 ∧ e = e2 := by
  intro ks
  induction ks with
  | nil =>
    intro ks2 c e e2 h g
    cases ks2 with
    | nil => exact ⟨rfl, h.1.symm.trans g.1⟩
    | cons k ks2 => exact absurd ⟨h.2.2.1, h.2.2.2⟩ g.2.1
  | cons k ks ih =>
    intro ks2 c e e2 h g
    cases ks2 with
    | nil => exact absurd ⟨g.2.2.1, g.2.2.2⟩ h.2.1
    | cons k2 ks2 =>
      have := bst_un h.2.2.1 g.2.2.1
      subst this
      obtain ⟨q1, q2⟩ := ih ks2 k e e2 h.2.2.2.2 g.2.2.2.2
      exact ⟨by rw [q1], q2⟩
theorem det_turn {M : ab_T} (hs : sok M) {r r2 : Nat} {M' M2 : ab_T} (h : sp_turn M r M') (g : sp_turn M r2 M2) : r = r2 ∧ M' = M2 := by
  rcases h with ⟨a1, a2, a3⟩ | ⟨a1, k, ks, e, us, p, id, len, b1, b2, b3, b4⟩
  · rcases g with ⟨c1, c2, c3⟩ | ⟨c1, k', ks', e', us', p', id', len', d1, d2, d3, d4⟩
    · exact ⟨by omega, by rw [a3, c3]⟩
    · have := bst_un a2 d1.2.2.1
      have := d1.2.2.2.1
      omega
  · rcases g with ⟨c1, c2, c3⟩ | ⟨c1, k', ks', e', us', p', id', len', d1, d2, d3, d4⟩
    · have := bst_un c2 b1.2.2.1
      have := b1.2.2.2.1
      omega
    · obtain ⟨q1, q2⟩ := dnl_un _ _ _ _ _ b1 d1
      subst q2
      have q3 := upl_un _ _ _ b2 d2
      obtain ⟨q4, q5, q6⟩ := fsp_un b3 d3
      rw [← q1, ← q3, ← q4, ← q5, ← q6] at d4
      exact ⟨by omega, stl_unique (sok_trd hs).1.2.2.1 b4 d4⟩
theorem det_tns : ∀ (n : Nat) {M M' M2 : ab_T} {r r2 : Nat}, rin M → tns n M r M' → tns n M r2 M2 → r = r2 ∧ M' = M2 := by
  intro n
  induction n with
  | zero =>
    intro M M' M2 r r2 _ h g
    exact ⟨h.1.trans g.1.symm, h.2.trans g.2.symm⟩
  | succ n ih =>
    intro M M' M2 r r2 hr h g
    rcases h with ⟨h1, h2⟩ | ⟨M1, k1, h1, h2, h3⟩
    · rcases g with ⟨g1, g2⟩ | ⟨N1, l1, g1, g2, g3⟩
      · exact ⟨by omega, (det_turn hr.1 h2 g2).2⟩
      · have := (det_turn hr.1 h2 g1).1
        omega
    · rcases g with ⟨g1, g2⟩ | ⟨N1, l1, g1, g2, g3⟩
      · have := (det_turn hr.1 h1 g2).1
        omega
      · have e := (det_turn hr.1 h1 g1).2
        subst e
        obtain ⟨q1, q2⟩ := ih (rin_turn hr h1) h2 g2
        exact ⟨by omega, q2⟩
theorem det_turns {M : ab_T} (hr : rin M) {n : Int32} {k k2 : Nat} {r r2 : Int32} {M' M2 : ab_T} (h : sp_turns M n k r M') (g : sp_turns M n k2 r2 M2) : k = k2 ∧ M' = M2 ∧ (k = 0 → r = r2) := by
  rcases h with ⟨a1, a2, a3⟩ | ⟨a1, y, s, y1, y2, a3, a4⟩
  · rcases g with ⟨b1, b2, b3⟩ | ⟨b1, z, t, z1, z2, b3, b4⟩
    · exact ⟨by omega, by rw [a3, b3], fun z => by omega⟩
    · exact absurd (by rw [z2]; exact nI_r (lo := 0) (hi := 1000) (Nat.zero_le _) z1 (by omega)) a2
  · rcases g with ⟨b1, b2, b3⟩ | ⟨b1, z, t, z1, z2, b3, b4⟩
    · exact absurd (by rw [y2]; exact nI_r (lo := 0) (hi := 1000) (Nat.zero_le _) y1 (by omega)) b2
    · have e := nI_c (n := 1001) (y2.symm.trans z2) (by omega) (by omega) (by omega)
      subst e
      obtain ⟨q1, q2⟩ := det_tns y hr a3 b3
      exact ⟨by omega, q2, fun _ => by rw [a4, b4, q1]⟩
theorem det_latest {M : ab_T} {w : Int32} {k k2 : Nat} {r r2 : Int32} {M' M2 : ab_T} (h : sp_latest M w k r M') (g : sp_latest M w k2 r2 M2) : k = k2 ∧ M' = M2 ∧ (k = 0 → r = r2) := by
  obtain ⟨rfl, h⟩ := h
  obtain ⟨rfl, g⟩ := g
  rcases h with ⟨a1, a2⟩ | ⟨a1, a2⟩
  · rcases g with ⟨b1, b2⟩ | ⟨b1, b2⟩
    · exact ⟨by omega, rfl, fun z => by omega⟩
    · refine absurd ?_ a2
      rcases b2 with ⟨rfl, -⟩ | ⟨rfl, -⟩ | ⟨rfl, -⟩ <;> decide
  · rcases g with ⟨b1, b2⟩ | ⟨b1, b2⟩
    · refine absurd ?_ b2
      rcases a2 with ⟨rfl, -⟩ | ⟨rfl, -⟩ | ⟨rfl, -⟩ <;> decide
    · refine ⟨by omega, rfl, fun _ => ?_⟩
      rcases a2 with ⟨rfl, e⟩ | ⟨rfl, e⟩ | ⟨rfl, e⟩ <;> rcases b2 with ⟨q, e2⟩ | ⟨q, e2⟩ | ⟨q, e2⟩ <;> first | exact absurd q (by decide) | rw [e, e2]
theorem det_count {M : ab_T} {w : Int32} {k k2 : Nat} {r r2 : Int32} {M' M2 : ab_T} (h : sp_count M w k r M') (g : sp_count M w k2 r2 M2) : k = k2 ∧ M' = M2 ∧ (k = 0 → r = r2) := by
  obtain ⟨rfl, h⟩ := h
  obtain ⟨rfl, g⟩ := g
  rcases h with ⟨a1, a2⟩ | ⟨a1, a2⟩
  · rcases g with ⟨b1, b2⟩ | ⟨b1, b2⟩
    · exact ⟨by omega, rfl, fun z => by omega⟩
    · refine absurd ?_ a2
      rcases b2 with ⟨rfl, -⟩ | ⟨rfl, -⟩ | ⟨rfl, -⟩ | ⟨rfl, -⟩ | ⟨rfl, -⟩ <;> decide
  · rcases g with ⟨b1, b2⟩ | ⟨b1, b2⟩
    · refine absurd ?_ b2
      rcases a2 with ⟨rfl, -⟩ | ⟨rfl, -⟩ | ⟨rfl, -⟩ | ⟨rfl, -⟩ | ⟨rfl, -⟩ <;> decide
    · refine ⟨by omega, rfl, fun _ => ?_⟩
      rcases a2 with ⟨rfl, e⟩ | ⟨rfl, e⟩ | ⟨rfl, e⟩ | ⟨rfl, e⟩ | ⟨rfl, e⟩ <;> rcases b2 with ⟨q, e2⟩ | ⟨q, e2⟩ | ⟨q, e2⟩ | ⟨q, e2⟩ | ⟨q, e2⟩ <;> first | exact absurd q (by decide) | rw [e, e2]
theorem det_sum {M : ab_T} {c w : Int32} {k k2 : Nat} {r r2 : Int64} {M' M2 : ab_T} (h : sp_sum M c w k r M') (g : sp_sum M c w k2 r2 M2) : k = k2 ∧ M' = M2 ∧ (k = 0 → r = r2) := by
  obtain ⟨rfl, h⟩ := h
  obtain ⟨rfl, g⟩ := g
  rcases h with ⟨a1, a2⟩ | ⟨j, j1, j2, j3, a4⟩
  · rcases g with ⟨b1, b2⟩ | ⟨i, i1, i2, i3, b4⟩
    · exact ⟨by omega, rfl, fun z => by omega⟩
    · exact (no_th a2 i1 i2 i3).elim
  · rcases g with ⟨b1, b2⟩ | ⟨i, i1, i2, i3, b4⟩
    · exact (no_th b2 j1 j2 j3).elim
    · have z1 := nI_c (j3.symm.trans i3) j1 i1 (by omega)
      subst z1
      rcases a4 with ⟨a1, a2⟩ | ⟨a1, a2⟩
      · rcases b4 with ⟨b1, b2⟩ | ⟨b1, b2⟩
        · exact ⟨by omega, rfl, fun z => by omega⟩
        · refine absurd ?_ a2
          rcases b2 with ⟨rfl, -⟩ | ⟨rfl, -⟩ | ⟨rfl, -⟩ | ⟨rfl, -⟩ <;> decide
      · rcases b4 with ⟨b1, b2⟩ | ⟨b1, b2⟩
        · refine absurd ?_ b2
          rcases a2 with ⟨rfl, -⟩ | ⟨rfl, -⟩ | ⟨rfl, -⟩ | ⟨rfl, -⟩ <;> decide
        · refine ⟨by omega, rfl, fun _ => ?_⟩
          rcases a2 with ⟨rfl, e⟩ | ⟨rfl, e⟩ | ⟨rfl, e⟩ | ⟨rfl, e⟩ <;> rcases b2 with ⟨q, e2⟩ | ⟨q, e2⟩ | ⟨q, e2⟩ | ⟨q, e2⟩ <;> first | exact absurd q (by decide) | rw [e, e2]
theorem det_about {M : ab_T} {c w : Int32} {k k2 : Nat} {r r2 : Int32} {M' M2 : ab_T} (h : sp_about M c w k r M') (g : sp_about M c w k2 r2 M2) : k = k2 ∧ M' = M2 ∧ (k = 0 → r = r2) := by
  obtain ⟨rfl, h⟩ := h
  obtain ⟨rfl, g⟩ := g
  rcases h with ⟨a1, a2⟩ | ⟨j, j1, j2, j3, a4⟩
  · rcases g with ⟨b1, b2⟩ | ⟨i, i1, i2, i3, b4⟩
    · exact ⟨by omega, rfl, fun z => by omega⟩
    · exact (no_th a2 i1 i2 i3).elim
  · rcases g with ⟨b1, b2⟩ | ⟨i, i1, i2, i3, b4⟩
    · exact (no_th b2 j1 j2 j3).elim
    · have z1 := nI_c (j3.symm.trans i3) j1 i1 (by omega)
      subst z1
      rcases a4 with ⟨a1, a2⟩ | ⟨a1, a2⟩
      · rcases b4 with ⟨b1, b2⟩ | ⟨b1, b2⟩
        · exact ⟨by omega, rfl, fun z => by omega⟩
        · refine absurd ?_ a2
          rcases b2 with ⟨rfl, -⟩ | ⟨rfl, -⟩ | ⟨rfl, -⟩ | ⟨rfl, -⟩ | ⟨rfl, -⟩ | ⟨rfl, -⟩ | ⟨rfl, -⟩ | ⟨rfl, -⟩ <;> decide
      · rcases b4 with ⟨b1, b2⟩ | ⟨b1, b2⟩
        · refine absurd ?_ b2
          rcases a2 with ⟨rfl, -⟩ | ⟨rfl, -⟩ | ⟨rfl, -⟩ | ⟨rfl, -⟩ | ⟨rfl, -⟩ | ⟨rfl, -⟩ | ⟨rfl, -⟩ | ⟨rfl, -⟩ <;> decide
        · refine ⟨by omega, rfl, fun _ => ?_⟩
          rcases a2 with ⟨rfl, e⟩ | ⟨rfl, e⟩ | ⟨rfl, e⟩ | ⟨rfl, e⟩ | ⟨rfl, e⟩ | ⟨rfl, e⟩ | ⟨rfl, e⟩ | ⟨rfl, e⟩ <;> rcases b2 with ⟨q, e2⟩ | ⟨q, e2⟩ | ⟨q, e2⟩ | ⟨q, e2⟩ | ⟨q, e2⟩ | ⟨q, e2⟩ | ⟨q, e2⟩ | ⟨q, e2⟩ <;> first | exact absurd q (by decide) | rw [e, e2]
theorem det_packet {M : ab_T} {c w : Int32} {k k2 : Nat} {r r2 : Int32} {M' M2 : ab_T} (h : sp_packet M c w k r M') (g : sp_packet M c w k2 r2 M2) : k = k2 ∧ M' = M2 ∧ (k = 0 → r = r2) := by
  obtain ⟨rfl, h⟩ := h
  obtain ⟨rfl, g⟩ := g
  rcases h with ⟨a1, a2⟩ | ⟨a1, j, y, z, j1, j2, j3, y1, y2, a3, a4⟩
  · rcases g with ⟨b1, b2⟩ | ⟨b1, i, s, t, i1, i2, i3, s1, s2, b3, b4⟩
    · exact ⟨by omega, rfl, fun z => by omega⟩
    · exact absurd ⟨i, s, t, i1, i2, i3, s1, s2, b3⟩ a2
  · rcases g with ⟨b1, b2⟩ | ⟨b1, i, s, t, i1, i2, i3, s1, s2, b3, b4⟩
    · exact absurd ⟨j, y, z, j1, j2, j3, y1, y2, a3⟩ b2
    · have e1 := nI_c (j3.symm.trans i3) j1 i1 (by omega)
      have e2 := (nI_eq y2 s2).mp (y1.symm.trans s1)
      subst e1 e2
      have e3 := Option.some.inj (a3.symm.trans b3)
      exact ⟨by omega, rfl, fun _ => by rw [a4, b4, e3]⟩
theorem det_child {M : ab_T} {c w : Int32} {k k2 : Nat} {r r2 : Int32} {M' M2 : ab_T} (h : sp_child M c w k r M') (g : sp_child M c w k2 r2 M2) : k = k2 ∧ M' = M2 ∧ (k = 0 → r = r2) := by
  obtain ⟨rfl, h⟩ := h
  obtain ⟨rfl, g⟩ := g
  have n64 : ∀ j, nch M2 j ≤ 64 := fun j => Nat.le_trans List.countP_le_length (by simp)
  rcases h with ⟨a1, a2⟩ | ⟨a1, j, y, x, j1, j2, j3, y1, y2, x1, x2, x3, x4, a4⟩
  · rcases g with ⟨b1, b2⟩ | ⟨b1, i, s, t, i1, i2, i3, s1, s2, t1, t2, t3, t4, b4⟩
    · exact ⟨by omega, rfl, fun z => by omega⟩
    · exact absurd ⟨i, s, i1, i2, i3, s1, s2⟩ a2
  · rcases g with ⟨b1, b2⟩ | ⟨b1, i, s, t, i1, i2, i3, s1, s2, t1, t2, t3, t4, b4⟩
    · exact absurd ⟨j, y, j1, j2, j3, y1, y2⟩ b2
    · have e1 := nI_c (j3.symm.trans i3) j1 i1 (by omega)
      subst e1
      have := n64 j
      have e2 := nI_c (n := 65) (y1.symm.trans s1) (by omega) (by omega) (by omega)
      subst e2
      have e3 := rk_inj x2 x1 x3 t2 t1 t3 (x4.trans t4.symm)
      exact ⟨by omega, rfl, fun _ => by rw [a4, b4, e3]⟩
end M64
