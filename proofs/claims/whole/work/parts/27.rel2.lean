section RR1
variable {np T : Nat} {P C C' v v' : Vw} {ns nc nl nq nd fo pc : Nat}
theorem cri_lt {pc fo k : Nat} (hf : fo < pc) (hk : k < pc) : cri pc fo k < pc := by unfold cri; split <;> omega
theorem cri_inj {pc fo k k' : Nat} (hf : fo < pc) (hk : k < pc) (hk' : k' < pc) (e : cri pc fo k = cri pc fo k') : k = k' := by
  unfold cri at e
  split at e <;> split at e <;> omega
theorem b2_01 {p : Prop} [Decidable p] (h : ¬ p) {q : Prop} [Decidable q] (h2 : q) : b2 q - b2 p = 1 := by rw [b2_t h2, b2_f h]; rfl
theorem b2_10 {p : Prop} [Decidable p] (h : p) {q : Prop} [Decidable q] (h2 : ¬ q) : b2 q - b2 p = -1 := by rw [b2_t h, b2_f h2]; rfl
theorem b2_cg {p q : Prop} [Decidable p] [Decidable q] (h : q ↔ p) : b2 q = b2 p := by
  by_cases hp : p
  · rw [b2_t hp, b2_t (h.mpr hp)]
  · rw [b2_f hp, b2_f (fun z => hp (h.mp z))]
theorem nI_ne {a b : Nat} (h : a ≠ b) (ha : a < 2 ^ 31) (hb : b < 2 ^ 31) : nI a ≠ nI b := fun z => h ((nI_eq ha hb).mp z)
theorem nI_inj {a b : Nat} (e : nI a = nI b) (ha : a < 2 ^ 31) (hb : b < 2 ^ 31) : a = b := (nI_eq ha hb).mp e
theorem nI_m1 {a : Nat} (ha : a < 2 ^ 31) : nI a ≠ -1 := fun z => nI_pos ha (by rw [z]; decide)
/-- a parcel is dropped: what changes, place by place -/
theorem RR_dr {q c k : Nat} {x : Int32} (hq : q < nq) (hc : c < nc) (hk : k < pc) (h : RR np T P C v ns nc nl nq nd fo pc) (h1 : v 4 q 4 = 1) (h5 : v 4 q 5 = nI k)
    (hx : ∃ w, w < 4 ∧ x = nI w ∧ C' 21 0 w = C 21 0 w + 1 ∧ ∀ w', w' ≠ w → C' 21 0 w' = C 21 0 w')
    (v0 : v' 0 0 k = -1) (v0' : ∀ k', k' ≠ k → v' 0 0 k' = v 0 0 k') (v1 : v' 1 = v 1) (v2 : ∀ c', c' ≠ c → v' 2 c' = v 2 c') (v3 : v' 3 = v 3) (v4 : ∀ p, p ≠ q → v' 4 p = v 4 p)
    (v5 : v' 5 0 nd = nI q) (v5' : ∀ i, i ≠ nd → v' 5 0 i = v 5 0 i) (v6 : v' 6 0 5 = nI (nd + 1)) (v6' : ∀ j, j ≠ 5 → v' 6 0 j = v 6 0 j)
    (q4 : v' 4 q 4 = 2) (q5 : v' 4 q 5 = nI c) (q6 : v' 4 q 6 = v 4 q 6) (q10 : v' 4 q 10 = x)
    (r0 : v' 2 c 0 = v 2 c 0) (r11 : v' 2 c 11 = v 2 c 11 + 1) (r8 : 0 ≤ v' 2 c 8) (r5 : v' 2 c 5 = v 2 c 5) (r9 : v' 2 c 9 = v 2 c 9) (r10 : 0 ≤ v' 2 c 10)
    (c0 : ∀ c', c' ≠ c → C' 0 c' = C 0 c') (c0c : ∀ j, j < 15 → C' 0 c j = v' 2 c j) (c1 : ∀ p, p ≠ q → C' 1 p = C 1 p) (c1q : ∀ j, j < 12 → C' 1 q j = v' 4 q j)
    (c4 : C' 4 0 7 = nI (nd + 1)) (c4' : ∀ j, j ≠ 7 → C' 4 0 j = C 4 0 j) (c5 : C' 5 = C 5) (c14 : C' 14 = C 14) (c17 : C' 17 = C 17)
    (c19 : C' 19 0 (cri pc fo k) = -1) (c19' : ∀ i, i ≠ cri pc fo k → C' 19 0 i = C 19 0 i) (c20 : C' 20 0 nd = nI q) (c20' : ∀ i, i ≠ nd → C' 20 0 i = C 20 0 i) : RR np T P C' v' ns nc nl nq (nd + 1) fo pc := by
  obtain ⟨hN, hS, hCh, hL, hP, hB, hG, hK⟩ := h
  obtain ⟨⟨a1, a2, a3, a4, a5, a6, b1, b2', b3, b4, b5, b6, b7⟩, d0, d1, d2, d3, d4, d5, d6, d7, d8, tm, t1, t2⟩ := hN
  obtain ⟨k1, k2, k3, k4, k5, k6, k7, k8⟩ := hK
  have hk0 : v 0 0 k = nI q := by
    obtain ⟨-, -, h3⟩ := hP q hq
    rcases h3 with ⟨z, -⟩ | ⟨-, -, k', hk', hk5, hk0, -⟩ | ⟨z, -⟩
    · rw [h1] at z; exact absurd z (by decide)
    · rw [h5] at hk5
      have := nI_inj hk5 (by omega) (by omega)
      subst this
      exact hk0
    · rw [h1] at z; exact absurd z (by decide)
  have hC19 : C 19 0 (cri pc fo k) = nI q := by rw [(hB k hk).1, hk0]
  have hlt : nd < nq := by
    have := cn_lt (P := fun p => v 4 p 4 = 2) q hq (by rw [h1]; decide)
    omega
  have hv10 : v 4 q 10 = -1 := by
    obtain ⟨-, -, h3⟩ := hP q hq
    rcases h3 with ⟨z, -⟩ | ⟨-, z, -⟩ | ⟨z, -⟩
    · rw [h1] at z; exact absurd z (by decide)
    · exact z
    · rw [h1] at z; exact absurd z (by decide)
  have hrd : ∀ p, rnd v' p = rnd v p := fun p => by
    unfold rnd
    by_cases hp : p = q
    · subst hp; rw [q6]
    · rw [v4 p hp]
  have crn : ∀ k', k' < pc → k' ≠ k → cri pc fo k' ≠ cri pc fo k := fun k' hk' hne e => hne (cri_inj d8 hk' hk e)
  refine ⟨⟨⟨?_, ?_, ?_, ?_, ?_, v6, b1, b2', b3, b4, b5, b6, by omega⟩, ?_, ?_, ?_, ?_, ?_, ?_, ?_, c4, d8, tm, ?_, t2⟩, ?_, ?_, hL.of v3 c17, ?_, ?_, ?_, ?_⟩
  · rw [v6' 0 (by decide)]; exact a1
  · rw [v6' 1 (by decide)]; exact a2
  · rw [v6' 2 (by decide)]; exact a3
  · rw [v6' 3 (by decide)]; exact a4
  · rw [v6' 4 (by decide)]; exact a5
  · rw [v6' 6 (by decide), c4' 0 (by decide)]; exact d0
  · rw [c4' 1 (by decide)]; exact d1
  · rw [c4' 2 (by decide)]; exact d2
  · rw [c4' 3 (by decide)]; exact d3
  · rw [c4' 4 (by decide)]; exact d4
  · rw [c4' 5 (by decide)]; exact d5
  · rw [c4' 6 (by decide)]; exact d6
  · rw [v6' 6 (by decide)]; exact t1
  · intro s hs
    obtain ⟨pl, w, s1, s2, s3, s4, s5, s6, s7, s8, s9, s10⟩ := hS s hs
    rw [v1, c5, c14]
    refine ⟨pl, w, s1, s2, s3, s4, s5, s6, s7, s8, fun j hj => ?_, s10⟩
    obtain ⟨m1, p, m2, m3, m4, m5⟩ := s9 j hj
    have hpq : p ≠ q := fun z => by subst z; rw [h1] at m4; exact absurd m4 (by decide)
    exact ⟨m1, p, m2, m3, by rw [v4 p hpq]; exact m4, by rw [v4 p hpq]; exact m5⟩
  · intro c' hc'
    by_cases e : c' = c
    · subst e
      obtain ⟨n1, ⟨pl, n2⟩, n3, n4, n5, n6⟩ := hCh c' hc'
      exact ⟨c0c, ⟨pl, by rw [r0]; exact n2⟩, r8, by rw [r5]; exact n4, by rw [r9]; exact n5, Or.inr r10⟩
    · rw [v2 c' e, c0 c' e]
      exact hCh c' hc'
  · intro p hp
    obtain ⟨n1, n2, n3⟩ := hP p hp
    by_cases e : p = q
    · subst e
      refine ⟨fun j hj _ => c1q j hj, by rw [q6]; exact n2, Or.inr (Or.inr ⟨q4, c1q 5 (by decide), c, hc, q5⟩)⟩
    · rw [v4 p e, c1 p e]
      refine ⟨n1, n2, ?_⟩
      rcases n3 with n3 | ⟨m1, m2, k', m3, m4, m5, m6⟩ | n3
      · exact Or.inl n3
      · have hkk : k' ≠ k := fun z => by
          subst z
          rw [hk0] at m5
          exact e (nI_inj m5 (by omega) (by omega)).symm
        exact Or.inr (Or.inl ⟨m1, m2, k', m3, m4, by rw [v0' k' hkk]; exact m5, m6⟩)
      · exact Or.inr (Or.inr n3)
  · intro k' hk'
    by_cases e : k' = k
    · subst e
      exact ⟨by rw [c19, v0], Or.inl v0⟩
    · rw [c19' _ (crn k' hk' e), v0' k' e]
      obtain ⟨n1, n2⟩ := hB k' hk'
      refine ⟨n1, ?_⟩
      rcases n2 with n2 | ⟨p, m1, m2, m3, m4⟩
      · exact Or.inl n2
      · have hpq : p ≠ q := fun z => by
          subst z
          rw [h5] at m4
          exact e (nI_inj m4 (by omega) (by omega)).symm
        exact Or.inr ⟨p, m1, m2, by rw [v4 p hpq]; exact m3, by rw [v4 p hpq]; exact m4⟩
  · intro i hi
    by_cases e : i = nd
    · subst e
      exact ⟨by rw [c20, v5], q, hq, v5, q4⟩
    · rw [c20' i e, v5' i e]
      obtain ⟨n1, p, n2, n3, n4⟩ := hG i (by omega)
      have hpq : p ≠ q := fun z => by subst z; rw [h1] at n4; exact absurd n4 (by decide)
      exact ⟨n1, p, n2, n3, by rw [v4 p hpq]; exact n4⟩
  · have hn1 : ¬ v 4 q 4 = 2 := by rw [h1]; decide
    refine ⟨?_, ?_, ?_, ?_, ?_, ?_, ?_, ?_⟩
    · rw [cn_one (P := fun p => v 4 p 4 = 2) (Q := fun p => v' 4 p 4 = 2) q hq (fun j _ hj => by rw [v4 j hj]) hn1 q4, k1]
    · rw [v1, ← k2]
      refine sm_congr (fun p hp => b2_cg ?_)
      by_cases e : p = q
      · subst e; rw [q4, h1]; decide
      · rw [v4 p e]
    · have e1 : sm (fun p => b2 (v' 4 p 4 = 1)) nq = sm (fun p => b2 (v 4 p 4 = 1)) nq + (b2 (v' 4 q 4 = 1) - b2 (v 4 q 4 = 1)) := sm_one q hq (fun j _ hj => b2_cg (by rw [v4 j hj]))
      have e2 : sm (fun i => b2 (¬ C' 19 0 i = -1)) pc = sm (fun i => b2 (¬ C 19 0 i = -1)) pc + (b2 (¬ C' 19 0 (cri pc fo k) = -1) - b2 (¬ C 19 0 (cri pc fo k) = -1)) := sm_one (cri pc fo k) (cri_lt d8 hk) (fun j _ hj => b2_cg (by rw [c19' j hj]))
      rw [e1, e2, k3, b2_10 h1 (by rw [q4]; decide), b2_10 (by rw [hC19]; exact nI_m1 (by omega)) (by rw [c19]; decide)]
    · have e1 : sm (fun c => v' 2 c 11) nc = sm (fun c => v 2 c 11) nc + (v' 2 c 11 - v 2 c 11) := sm_one c hc (fun j _ hj => by show v' 2 j 11 = v 2 j 11; rw [v2 j hj])
      rw [e1, k4, r11, ← nI_1]
      grind
    · intro c' hc'
      have e1 : sm (fun p => b2 (v' 4 p 4 = 2 ∧ v' 4 p 5 = nI c')) nq = sm (fun p => b2 (v 4 p 4 = 2 ∧ v 4 p 5 = nI c')) nq + (b2 (v' 4 q 4 = 2 ∧ v' 4 q 5 = nI c') - b2 (v 4 q 4 = 2 ∧ v 4 q 5 = nI c')) := sm_one q hq (fun j _ hj => b2_cg (by rw [v4 j hj]))
      rw [e1, ← k5 c' hc', b2_f (p := v 4 q 4 = 2 ∧ v 4 q 5 = nI c') (fun z => hn1 z.1)]
      by_cases e : c' = c
      · subst e
        rw [b2_t ⟨q4, q5⟩, r11]
        grind
      · rw [v2 c' e, b2_f (fun z => e (nI_inj (z.2.symm.trans q5) (by omega) (by omega)))]
        grind
    · intro w' hw'
      obtain ⟨w, hw, rfl, g1, g2⟩ := hx
      have e1 : sm (fun p => b2 (v' 4 p 10 = nI w')) nq = sm (fun p => b2 (v 4 p 10 = nI w')) nq + (b2 (v' 4 q 10 = nI w') - b2 (v 4 q 10 = nI w')) := sm_one q hq (fun j _ hj => b2_cg (by rw [v4 j hj]))
      rw [e1, ← k6 w' hw', b2_f (p := v 4 q 10 = nI w') (by rw [hv10]; exact fun z => nI_m1 (by omega) z.symm)]
      by_cases e : w' = w
      · subst e
        rw [b2_t q10, g1]
        grind
      · rw [g2 w' e, b2_f (fun z => e (nI_inj (z.symm.trans q10) (by omega) (by omega)))]
        grind
    · rw [c4' 8 (by decide), k7]
      exact (sm_congr (fun p _ => hrd p)).symm
    · have e1 : sm (fun p => if v' 4 p 4 = 2 then rnd v' p else 0) nq = sm (fun p => if v 4 p 4 = 2 then rnd v p else 0) nq + ((if v' 4 q 4 = 2 then rnd v' q else 0) - (if v 4 q 4 = 2 then rnd v q else 0)) := sm_one q hq (fun j _ hj => by
        show (if v' 4 j 4 = 2 then rnd v' j else 0) = if v 4 j 4 = 2 then rnd v j else 0
        rw [hrd, v4 j hj])
      have e2 : sm (fun i => rnd v' (v' 5 0 i).toNatClampNeg) nd = sm (fun i => rnd v (v 5 0 i).toNatClampNeg) nd := sm_congr (fun i hi => by
        show rnd v' (v' 5 0 i).toNatClampNeg = rnd v (v 5 0 i).toNatClampNeg
        rw [hrd, v5' i (by omega)])
      rw [e1, k8, sm, e2, if_pos q4, if_neg hn1, hrd, hrd, v5, nI_clamp (by omega)]
      grind
/-- a station sends its first parcel -/
theorem RR_se {s q w k : Nat} (hs : s < ns) (hk : k < pc) (hw10 : w < 10) (hqn : q < nq) (hw : v 1 s 1 = nI (w + 1)) (hpl : v 1 s 0 = nI k) (hq0 : v 1 s 3 = nI q) (h : RR np T P C v ns nc nl nq nd fo pc) (hb : v 0 0 k = -1)
    (v0 : v' 0 0 k = nI q) (v0' : ∀ k', k' ≠ k → v' 0 0 k' = v 0 0 k') (v1 : ∀ s', s' ≠ s → v' 1 s' = v 1 s') (v10 : v' 1 s 0 = v 1 s 0) (v11 : v' 1 s 1 = nI w) (v13 : ∀ j, j < w → v' 1 s (3 + j) = v 1 s (3 + j + 1)) (v2 : v' 2 = v 2) (v3 : v' 3 = v 3) (v4 : ∀ p, p ≠ q → v' 4 p = v 4 p) (v5 : v' 5 = v 5) (v6 : v' 6 = v 6)
    (q4 : v' 4 q 4 = 1) (q5 : v' 4 q 5 = nI k) (q' : ∀ j, j ≠ 4 → j ≠ 5 → v' 4 q j = v 4 q j)
    (c0 : C' 0 = C 0) (c1 : ∀ p, p ≠ q → C' 1 p = C 1 p) (c1q : ∀ j, j < 12 → j ≠ 5 → C' 1 q j = v' 4 q j) (c15 : C' 1 q 5 = nI (cri pc fo k)) (c4 : C' 4 = C 4) (c5 : ∀ s', s' ≠ s → C' 5 s' = C 5 s') (c50 : C' 5 s 0 = C 5 s 0) (c51 : C' 5 s 1 = nI w) (c52 : C' 5 s 2 = v' 1 s 2)
    (c14 : ∀ s', s' ≠ s → C' 14 s' = C 14 s') (c14s : ∀ j, j < w → C' 14 s j = C 14 s (j + 1)) (c17 : C' 17 = C 17) (c19 : C' 19 0 (cri pc fo k) = nI q) (c19' : ∀ i, i ≠ cri pc fo k → C' 19 0 i = C 19 0 i) (c20 : C' 20 = C 20) (c21 : C' 21 = C 21) : RR np T P C' v' ns nc nl nq nd fo pc := by
  obtain ⟨hN, hS, hCh, hL, hP, hB, hG, hK⟩ := h
  obtain ⟨⟨a1, a2, a3, a4, a5, a6, b1, b2', b3, b4, b5, b6, b7⟩, d0, d1, d2, d3, d4, d5, d6, d7, d8, tm, t1, t2⟩ := id hN
  obtain ⟨k1, k2, k3, k4, k5, k6, k7, k8⟩ := hK
  obtain ⟨pl0, w0, s1, s2, s3, s4, s5, s6, s7, s8, s9, s10⟩ := hS s hs
  have hw0 : w0 = w + 1 := nI_inj (s4.symm.trans hw) (by omega) (by omega)
  subst hw0
  obtain ⟨m1, p0, hq, m3, h1, h5⟩ := s9 0 (by omega)
  have hp0 : p0 = q := nI_inj (m3.symm.trans hq0) (by omega) (by omega)
  subst hp0
  have hv10 : v 4 p0 10 = -1 := by
    obtain ⟨-, -, h3⟩ := hP p0 hq
    rcases h3 with ⟨-, z, -⟩ | ⟨z, -⟩ | ⟨z, -⟩
    · exact z
    · rw [h1] at z; exact absurd z (by decide)
    · rw [h1] at z; exact absurd z (by decide)
  have hrd : ∀ p, rnd v' p = rnd v p := fun p => by
    unfold rnd
    by_cases hp : p = p0
    · subst hp; rw [q' 6 (by decide) (by decide)]
    · rw [v4 p hp]
  have hC19 : C 19 0 (cri pc fo k) = -1 := by rw [(hB k hk).1, hb]
  have crn : ∀ k', k' < pc → k' ≠ k → cri pc fo k' ≠ cri pc fo k := fun k' hk' hne e => hne (cri_inj d8 hk' hk e)
  refine ⟨?_, ?_, ?_, hL.of v3 c17, ?_, ?_, ?_, ?_⟩
  · unfold RN VN at *; rw [v6, c4]; exact hN
  · intro s' hs'
    by_cases e : s' = s
    · subst e
      refine ⟨pl0, w, by rw [v10]; exact s1, s2, s3, v11, by omega, by rw [c50]; exact s6, c51, c52, fun j hj => ?_, fun i j hij hj => ?_⟩
      · obtain ⟨n1, p, n2, n3, n4, n5⟩ := s9 (j + 1) (by omega)
        have hpq : p ≠ p0 := fun z => by
          subst z
          exact s10 0 (j + 1) (by omega) (by omega) (by rw [m3, n3])
        rw [c14s j hj, v13 j hj]
        exact ⟨n1, p, n2, n3, by rw [v4 p hpq]; exact n4, by rw [v4 p hpq]; exact n5⟩
      · rw [v13 i (by omega), v13 j hj]
        exact s10 (i + 1) (j + 1) (by omega) (by omega)
    · rw [v1 s' e, c5 s' e, c14 s' e]
      obtain ⟨pl, w', e1, e2, e3, e4, e5, e6, e7, e8, e9, e10⟩ := hS s' hs'
      refine ⟨pl, w', e1, e2, e3, e4, e5, e6, e7, e8, fun j hj => ?_, e10⟩
      obtain ⟨n1, p, n2, n3, n4, n5⟩ := e9 j hj
      have hpq : p ≠ p0 := fun z => by
        subst z
        exact e (nI_inj (n5.symm.trans h5) (by omega) (by omega))
      exact ⟨n1, p, n2, n3, by rw [v4 p hpq]; exact n4, by rw [v4 p hpq]; exact n5⟩
  · unfold RCh at *; rw [v2, c0]; exact hCh
  · intro p hp
    obtain ⟨n1, n2, n3⟩ := hP p hp
    by_cases e : p = p0
    · subst e
      exact ⟨c1q, by rw [q' 6 (by decide) (by decide)]; exact n2, Or.inr (Or.inl ⟨q4, by rw [q' 10 (by decide) (by decide)]; exact hv10, k, hk, q5, v0, c15⟩)⟩
    · rw [v4 p e, c1 p e]
      refine ⟨n1, n2, ?_⟩
      rcases n3 with n3 | ⟨m1, m2, k', m3, m4, m5, m6⟩ | n3
      · exact Or.inl n3
      · have hkk : k' ≠ k := fun z => by
          subst z
          rw [hb] at m5
          exact nI_m1 (by omega) m5.symm
        exact Or.inr (Or.inl ⟨m1, m2, k', m3, m4, by rw [v0' k' hkk]; exact m5, m6⟩)
      · exact Or.inr (Or.inr n3)
  · intro k' hk'
    by_cases e : k' = k
    · subst e
      exact ⟨by rw [c19, v0], Or.inr ⟨p0, hq, v0, q4, q5⟩⟩
    · rw [c19' _ (crn k' hk' e), v0' k' e]
      obtain ⟨n1, n2⟩ := hB k' hk'
      refine ⟨n1, ?_⟩
      rcases n2 with n2 | ⟨p, m1, m2, m3, m4⟩
      · exact Or.inl n2
      · have hpq : p ≠ p0 := fun z => by
          rw [z, h1] at m3
          exact absurd m3 (by decide)
        exact Or.inr ⟨p, m1, m2, by rw [v4 p hpq]; exact m3, by rw [v4 p hpq]; exact m4⟩
  · intro i hi
    rw [v5, c20]
    obtain ⟨n1, p, n2, n3, n4⟩ := hG i hi
    have hpq : p ≠ p0 := fun z => by subst z; rw [h1] at n4; exact absurd n4 (by decide)
    exact ⟨n1, p, n2, n3, by rw [v4 p hpq]; exact n4⟩
  · have h2 : ∀ p, v' 4 p 4 = 2 ↔ v 4 p 4 = 2 := fun p => by
      by_cases e : p = p0
      · subst e; rw [q4, h1]; decide
      · rw [v4 p e]
    have h25 : ∀ p x, (v' 4 p 4 = 2 ∧ v' 4 p 5 = x) ↔ (v 4 p 4 = 2 ∧ v 4 p 5 = x) := fun p x => by
      by_cases e : p = p0
      · subst e; rw [q4, h1]; exact ⟨fun z => absurd z.1 (by decide), fun z => absurd z.1 (by decide)⟩
      · rw [v4 p e]
    have h10 : ∀ p, v' 4 p 10 = v 4 p 10 := fun p => by
      by_cases e : p = p0
      · subst e; exact q' 10 (by decide) (by decide)
      · rw [v4 p e]
    refine ⟨?_, ?_, ?_, ?_, ?_, ?_, ?_, ?_⟩
    · rw [← k1]; exact cn_congr (fun p _ => h2 p)
    · have e1 : sm (fun p => b2 (v' 4 p 4 = 0)) nq = sm (fun p => b2 (v 4 p 4 = 0)) nq + (b2 (v' 4 p0 4 = 0) - b2 (v 4 p0 4 = 0)) := sm_one p0 hq (fun j _ hj => b2_cg (by rw [v4 j hj]))
      have e2 : sm (fun s => v' 1 s 1) ns = sm (fun s => v 1 s 1) ns + (v' 1 s 1 - v 1 s 1) := sm_one s hs (fun j _ hj => by show v' 1 j 1 = v 1 j 1; rw [v1 j hj])
      rw [e1, e2, k2, b2_10 h1 (by rw [q4]; decide), v11, hw, ← nI_1]
      grind
    · have e1 : sm (fun p => b2 (v' 4 p 4 = 1)) nq = sm (fun p => b2 (v 4 p 4 = 1)) nq + (b2 (v' 4 p0 4 = 1) - b2 (v 4 p0 4 = 1)) := sm_one p0 hq (fun j _ hj => b2_cg (by rw [v4 j hj]))
      have e2 : sm (fun i => b2 (¬ C' 19 0 i = -1)) pc = sm (fun i => b2 (¬ C 19 0 i = -1)) pc + (b2 (¬ C' 19 0 (cri pc fo k) = -1) - b2 (¬ C 19 0 (cri pc fo k) = -1)) := sm_one (cri pc fo k) (cri_lt d8 hk) (fun j _ hj => b2_cg (by rw [c19' j hj]))
      rw [e1, e2, k3, b2_01 (by rw [h1]; decide) q4, b2_01 (by rw [hC19]; decide) (by rw [c19]; exact nI_m1 (by omega))]
    · rw [v2]; exact k4
    · intro c hc
      rw [v2, k5 c hc]
      exact (sm_congr (fun p _ => b2_cg (h25 p _))).symm
    · intro w' hw'
      rw [c21, k6 w' hw']
      exact (sm_congr (fun p _ => b2_cg (by rw [h10]))).symm
    · rw [c4, k7]
      exact (sm_congr (fun p _ => hrd p)).symm
    · rw [v5]
      have e1 : sm (fun p => if v' 4 p 4 = 2 then rnd v' p else 0) nq = sm (fun p => if v 4 p 4 = 2 then rnd v p else 0) nq := sm_congr (fun p _ => by
        show (if v' 4 p 4 = 2 then rnd v' p else 0) = if v 4 p 4 = 2 then rnd v p else 0
        rw [hrd]
        by_cases e : v 4 p 4 = 2
        · rw [if_pos e, if_pos ((h2 p).mpr e)]
        · rw [if_neg e, if_neg (fun z => e ((h2 p).mp z))])
      rw [e1, k8]
      exact (sm_congr (fun i _ => hrd _)).symm
end RR1
