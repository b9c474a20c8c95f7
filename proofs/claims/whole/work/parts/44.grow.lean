/-! the tie when something is added -/
section GRO
variable {np T : Nat} {P C C' v v' : Vw} {ns nc nl nq nd fo pc : Nat}
theorem VR.mono {p r n nc' : Nat} (h : VR v nc p r n) (hn : nc ≤ nc') : VR v nc' p r n := ⟨h.1, h.2.1, fun k hk => by obtain ⟨c, h1, h2⟩ := h.2.2 k hk; exact ⟨c, by omega, h2⟩⟩
theorem VP.mono {p m c nc' : Nat} (h : VP v nc p m c) (hn : nc ≤ nc') : VP v nc' p m c := ⟨h.1, h.2.1, h.2.2.1, by have := h.2.2.2.1; omega, fun r hr => (h.2.2.2.2 r hr).imp fun n hh => hh.mono hn⟩
theorem RR_ast {k : Nat} (h : RR np T P C v ns nc nl nq nd fo pc) (hns : ns < 3) (hk1 : 1 ≤ k) (hk2 : k < pc)
    (v1 : ∀ s, s ≠ ns → v' 1 s = v 1 s) (v10 : v' 1 ns 0 = nI k) (v11 : v' 1 ns 1 = 0) (v12 : v' 1 ns 2 = 0) (vk : ∀ x, x ≠ 1 → x ≠ 6 → v' x = v x) (v6 : v' 6 0 1 = nI (ns + 1)) (v6' : ∀ j, j ≠ 1 → v' 6 0 j = v 6 0 j)
    (c5 : ∀ s, s ≠ ns → C' 5 s = C 5 s) (c50 : C' 5 ns 0 = nI k) (c51 : C' 5 ns 1 = 0) (c52 : C' 5 ns 2 = 0) (c4 : C' 4 0 3 = nI (ns + 1)) (c4' : ∀ j, j ≠ 3 → C' 4 0 j = C 4 0 j) (ck : ∀ x, x ≠ 4 → x ≠ 5 → C' x = C x) : RR np T P C' v' (ns + 1) nc nl nq nd fo pc := by
  obtain ⟨⟨⟨a1, a2, a3, a4, a5, a6, b1, b2', b3, b4, b5, b6, b7⟩, d0, d1, d2, d3, d4, d5, d6, d7, d8, tm, t1, t2⟩, hS, hCh, hL, hP, hB, hG, k1, k2, k3, k4, k5, k6, k7, k8⟩ := h
  refine ⟨⟨⟨?_, v6, ?_, ?_, ?_, ?_, b1, b2', by omega, b4, b5, b6, b7⟩, ?_, ?_, ?_, c4, ?_, ?_, ?_, ?_, d8, tm, ?_, t2⟩, fun s hs => ?_, ?_, hL.of (vk 3 (by decide) (by decide)) (ck 17 (by decide) (by decide)), fun p hp => ?_, ?_, ?_, ?_, ?_, ?_, ?_, ?_, ?_, ?_, ?_⟩
  · rw [v6' 0 (by decide)]; exact a1
  · rw [v6' 2 (by decide)]; exact a3
  · rw [v6' 3 (by decide)]; exact a4
  · rw [v6' 4 (by decide)]; exact a5
  · rw [v6' 5 (by decide)]; exact a6
  · rw [c4' 0 (by decide), v6' 6 (by decide)]; exact d0
  · rw [c4' 1 (by decide)]; exact d1
  · rw [c4' 2 (by decide)]; exact d2
  · rw [c4' 4 (by decide)]; exact d4
  · rw [c4' 5 (by decide)]; exact d5
  · rw [c4' 6 (by decide)]; exact d6
  · rw [c4' 7 (by decide)]; exact d7
  · rw [v6' 6 (by decide)]; exact t1
  · by_cases e : s = ns
    · subst e
      exact ⟨k, 0, v10, hk1, hk2, v11, by decide, c50, c51, by rw [c52, v12], fun j hj => absurd hj (by omega), fun i j _ hj => absurd hj (by omega)⟩
    · rw [v1 s e, c5 s e, vk 4 (by decide) (by decide), ck 14 (by decide) (by decide)]
      exact hS s (by omega)
  · unfold RCh at *; rw [vk 2 (by decide) (by decide), ck 0 (by decide) (by decide)]; exact hCh
  · rw [vk 4 (by decide) (by decide), vk 0 (by decide) (by decide), ck 1 (by decide) (by decide)]
    obtain ⟨q1, q2, q3⟩ := hP p hp
    refine ⟨q1, q2, ?_⟩
    rcases q3 with ⟨z1, z2, z3, s, z4, z5⟩ | q3 | q3
    · exact Or.inl ⟨z1, z2, z3, s, by omega, z5⟩
    · exact Or.inr (Or.inl q3)
    · exact Or.inr (Or.inr q3)
  · unfold RBe at *; rw [vk 0 (by decide) (by decide), vk 4 (by decide) (by decide), ck 19 (by decide) (by decide)]; exact hB
  · unfold RLe at *; rw [vk 5 (by decide) (by decide), vk 4 (by decide) (by decide), ck 20 (by decide) (by decide)]; exact hG
  · rw [vk 4 (by decide) (by decide)]; exact k1
  · have e1 : sm (fun s => v' 1 s 1) ns = sm (fun s => v 1 s 1) ns := sm_congr (fun s hs => by show v' 1 s 1 = v 1 s 1; rw [v1 s (by omega)])
    rw [vk 4 (by decide) (by decide), k2, sm, e1, v11]
    grind
  · rw [vk 4 (by decide) (by decide), ck 19 (by decide) (by decide)]; exact k3
  · rw [vk 2 (by decide) (by decide)]; exact k4
  · rw [vk 4 (by decide) (by decide), vk 2 (by decide) (by decide)]; exact k5
  · rw [vk 4 (by decide) (by decide), ck 21 (by decide) (by decide)]; exact k6
  · unfold rnd at *; rw [vk 4 (by decide) (by decide), c4' 8 (by decide)]; exact k7
  · unfold rnd at *; rw [vk 4 (by decide) (by decide), vk 5 (by decide) (by decide)]; exact k8
theorem RR_ach {k : Nat} (h : RR np T P C v ns nc nl nq nd fo pc) (hnc : nc < 8) (hk1 : 1 ≤ k) (hk2 : k < pc)
    (v2 : ∀ c, c ≠ nc → v' 2 c = v 2 c) (v20 : v' 2 nc 0 = nI k) (v25 : 0 ≤ v' 2 nc 5) (v28 : v' 2 nc 8 = 0) (v29 : v' 2 nc 9 = 0) (v210 : v' 2 nc 10 = -1) (v211 : v' 2 nc 11 = 0) (vk : ∀ x, x ≠ 2 → x ≠ 6 → v' x = v x) (v6 : v' 6 0 2 = nI (nc + 1)) (v6' : ∀ j, j ≠ 2 → v' 6 0 j = v 6 0 j)
    (c0 : ∀ c, c ≠ nc → C' 0 c = C 0 c) (c0n : ∀ j, j < 15 → C' 0 nc j = v' 2 nc j) (c4 : C' 4 0 4 = nI (nc + 1)) (c4' : ∀ j, j ≠ 4 → C' 4 0 j = C 4 0 j) (ck : ∀ x, x ≠ 4 → x ≠ 0 → C' x = C x) : RR np T P C' v' ns (nc + 1) nl nq nd fo pc := by
  obtain ⟨⟨⟨a1, a2, a3, a4, a5, a6, b1, b2', b3, b4, b5, b6, b7⟩, d0, d1, d2, d3, d4, d5, d6, d7, d8, tm, t1, t2⟩, hS, hCh, hL, hP, hB, hG, k1, k2, k3, k4, k5, k6, k7, k8⟩ := h
  have hL' := hL.of (vk 3 (by decide) (by decide)) (ck 17 (by decide) (by decide))
  refine ⟨⟨⟨?_, ?_, v6, ?_, ?_, ?_, b1, b2', b3, by omega, b5, b6, b7⟩, ?_, ?_, ?_, ?_, c4, ?_, ?_, ?_, d8, tm, ?_, t2⟩, ?_, fun c hc => ?_, ⟨fun p hp => ?_, hL'.2⟩, fun p hp => ?_, ?_, ?_, ?_, ?_, ?_, ?_, fun c hc => ?_, ?_, ?_, ?_⟩
  · rw [v6' 0 (by decide)]; exact a1
  · rw [v6' 1 (by decide)]; exact a2
  · rw [v6' 3 (by decide)]; exact a4
  · rw [v6' 4 (by decide)]; exact a5
  · rw [v6' 5 (by decide)]; exact a6
  · rw [c4' 0 (by decide), v6' 6 (by decide)]; exact d0
  · rw [c4' 1 (by decide)]; exact d1
  · rw [c4' 2 (by decide)]; exact d2
  · rw [c4' 3 (by decide)]; exact d3
  · rw [c4' 5 (by decide)]; exact d5
  · rw [c4' 6 (by decide)]; exact d6
  · rw [c4' 7 (by decide)]; exact d7
  · rw [v6' 6 (by decide)]; exact t1
  · unfold RSt at *; rw [vk 1 (by decide) (by decide), vk 4 (by decide) (by decide), ck 5 (by decide) (by decide), ck 14 (by decide) (by decide)]; exact hS
  · by_cases e : c = nc
    · subst e
      exact ⟨c0n, ⟨k, v20, hk1, hk2⟩, by rw [v28]; decide, v25, Or.inl v29, Or.inl v210⟩
    · rw [v2 c e, c0 c e]
      exact hCh c (by omega)
  · obtain ⟨⟨m, x, q1⟩, q2, q3⟩ := hL'.1 p hp
    exact ⟨⟨m, x, q1.mono (by omega)⟩, q2, q3⟩
  · rw [vk 4 (by decide) (by decide), vk 0 (by decide) (by decide), ck 1 (by decide) (by decide)]
    obtain ⟨q1, q2, q3⟩ := hP p hp
    refine ⟨q1, q2, ?_⟩
    rcases q3 with q3 | q3 | ⟨z1, z2, c, z3, z4⟩
    · exact Or.inl q3
    · exact Or.inr (Or.inl q3)
    · exact Or.inr (Or.inr ⟨z1, z2, c, by omega, z4⟩)
  · unfold RBe at *; rw [vk 0 (by decide) (by decide), vk 4 (by decide) (by decide), ck 19 (by decide) (by decide)]; exact hB
  · unfold RLe at *; rw [vk 5 (by decide) (by decide), vk 4 (by decide) (by decide), ck 20 (by decide) (by decide)]; exact hG
  · rw [vk 4 (by decide) (by decide)]; exact k1
  · rw [vk 4 (by decide) (by decide), vk 1 (by decide) (by decide)]; exact k2
  · rw [vk 4 (by decide) (by decide), ck 19 (by decide) (by decide)]; exact k3
  · have e1 : sm (fun c => v' 2 c 11) nc = sm (fun c => v 2 c 11) nc := sm_congr (fun c hc => by show v' 2 c 11 = v 2 c 11; rw [v2 c (by omega)])
    rw [sm, e1, k4, v211]
    grind
  · rw [vk 4 (by decide) (by decide)]
    by_cases e : c = nc
    · subst e
      rw [v211]
      refine (sm_zero (fun p hp => b2_f (fun z => ?_))).symm
      rcases (hP p hp).2.2 with ⟨y, -⟩ | ⟨y, -⟩ | ⟨-, -, c', y1, y2⟩
      · rw [z.1] at y; exact absurd y (by decide)
      · rw [z.1] at y; exact absurd y (by decide)
      · rw [z.2] at y2
        exact nI_ne (a := c) (b := c') (by omega) (by omega) (by omega) y2
    · rw [v2 c e]
      exact k5 c (by omega)
  · rw [vk 4 (by decide) (by decide), ck 21 (by decide) (by decide)]; exact k6
  · unfold rnd at *; rw [vk 4 (by decide) (by decide), c4' 8 (by decide)]; exact k7
  · unfold rnd at *; rw [vk 4 (by decide) (by decide), vk 5 (by decide) (by decide)]; exact k8
theorem RR_arr {s w : Nat} (h : RR np T P C v ns nc nl nq nd fo pc) (hs : s < ns) (hnq : nq < 60) (hw : v 1 s 1 = nI w) (hw10 : w < 10)
    (v1 : ∀ s', s' ≠ s → v' 1 s' = v 1 s') (v10 : v' 1 s 0 = v 1 s 0) (v12 : v' 1 s 2 = v 1 s 2) (v11 : v' 1 s 1 = nI (w + 1)) (v1w : v' 1 s (3 + w) = nI nq) (v1j : ∀ j, j < w → v' 1 s (3 + j) = v 1 s (3 + j))
    (v4 : ∀ p, p ≠ nq → v' 4 p = v 4 p) (q4 : v' 4 nq 4 = 0) (q5 : v' 4 nq 5 = nI s) (q6 : v' 4 nq 6 = 0) (q10 : v' 4 nq 10 = -1) (vk : ∀ x, x ≠ 1 → x ≠ 4 → x ≠ 6 → v' x = v x) (v6 : v' 6 0 4 = nI (nq + 1)) (v6' : ∀ j, j ≠ 4 → v' 6 0 j = v 6 0 j)
    (c5 : ∀ s', s' ≠ s → C' 5 s' = C 5 s') (c50 : C' 5 s 0 = C 5 s 0) (c52 : C' 5 s 2 = C 5 s 2) (c51 : C' 5 s 1 = nI (w + 1)) (c14 : ∀ s', s' ≠ s → C' 14 s' = C 14 s') (c14w : C' 14 s w = nI nq) (c14j : ∀ j, j < w → C' 14 s j = C 14 s j)
    (c1 : ∀ p, p ≠ nq → C' 1 p = C 1 p) (c1n : ∀ j, j < 12 → C' 1 nq j = v' 4 nq j) (c4 : C' 4 0 6 = nI (nq + 1)) (c4' : ∀ j, j ≠ 6 → C' 4 0 j = C 4 0 j) (ck : ∀ x, x ≠ 4 → x ≠ 5 → x ≠ 14 → x ≠ 1 → C' x = C x) : RR np T P C' v' ns nc nl (nq + 1) nd fo pc := by
  obtain ⟨⟨⟨a1, a2, a3, a4, a5, a6, b1, b2', b3, b4, b5, b6, b7⟩, d0, d1, d2, d3, d4, d5, d6, d7, d8, tm, t1, t2⟩, hS, hCh, hL, hP, hB, hG, k1, k2, k3, k4, k5, k6, k7, k8⟩ := h
  have hlt : ∀ p, p < nq → v' 4 p = v 4 p := fun p hp => v4 p (by omega)
  have hrd : ∀ p, p < nq → rnd v' p = rnd v p := fun p hp => by unfold rnd; rw [hlt p hp]
  have hrn : rnd v' nq = 0 := by unfold rnd; rw [q6]; rfl
  refine ⟨⟨⟨?_, ?_, ?_, ?_, v6, ?_, b1, b2', b3, b4, b5, by omega, by omega⟩, ?_, ?_, ?_, ?_, ?_, ?_, c4, ?_, d8, tm, ?_, t2⟩, fun s' hs' => ?_, ?_, hL.of (vk 3 (by decide) (by decide) (by decide)) (ck 17 (by decide) (by decide) (by decide) (by decide)), fun p hp => ?_, fun k hk => ?_, fun i hi => ?_, ?_, ?_, ?_, ?_, fun c hc => ?_, fun x hx => ?_, ?_, ?_⟩
  · rw [v6' 0 (by decide)]; exact a1
  · rw [v6' 1 (by decide)]; exact a2
  · rw [v6' 2 (by decide)]; exact a3
  · rw [v6' 3 (by decide)]; exact a4
  · rw [v6' 5 (by decide)]; exact a6
  · rw [c4' 0 (by decide), v6' 6 (by decide)]; exact d0
  · rw [c4' 1 (by decide)]; exact d1
  · rw [c4' 2 (by decide)]; exact d2
  · rw [c4' 3 (by decide)]; exact d3
  · rw [c4' 4 (by decide)]; exact d4
  · rw [c4' 5 (by decide)]; exact d5
  · rw [c4' 7 (by decide)]; exact d7
  · rw [v6' 6 (by decide)]; exact t1
  · by_cases e : s' = s
    · subst e
      obtain ⟨pl, w0, s1, s2, s3, s4, s5, s6, s7, s8, s9, s10⟩ := hS s' hs'
      have hw0 : w0 = w := nI_inj (s4.symm.trans hw) (by omega) (by omega)
      subst hw0
      refine ⟨pl, w0 + 1, by rw [v10]; exact s1, s2, s3, v11, by omega, by rw [c50]; exact s6, c51, by rw [c52, v12]; exact s8, fun j hj => ?_, fun i j hij hj => ?_⟩
      · by_cases ej : j = w0
        · subst ej
          exact ⟨by rw [c14w, v1w], nq, by omega, v1w, q4, q5⟩
        · obtain ⟨m1, p, m2, m3, m4, m5⟩ := s9 j (by omega)
          rw [c14j j (by omega), v1j j (by omega)]
          exact ⟨m1, p, by omega, m3, by rw [hlt p m2]; exact m4, by rw [hlt p m2]; exact m5⟩
      · by_cases ej : j = w0
        · subst ej
          obtain ⟨m1, p, m2, m3, -⟩ := s9 i hij
          rw [v1w, v1j i hij, m3]
          exact nI_ne (by omega) (by omega) (by omega)
        · rw [v1j i (by omega), v1j j (by omega)]
          exact s10 i j hij (by omega)
    · rw [v1 s' e, c5 s' e, c14 s' e]
      obtain ⟨pl, w', e1, e2, e3, e4, e5, e6, e7, e8, e9, e10⟩ := hS s' hs'
      refine ⟨pl, w', e1, e2, e3, e4, e5, e6, e7, e8, fun j hj => ?_, e10⟩
      obtain ⟨n1, p, n2, n3, n4, n5⟩ := e9 j hj
      exact ⟨n1, p, by omega, n3, by rw [hlt p n2]; exact n4, by rw [hlt p n2]; exact n5⟩
  · unfold RCh at *; rw [vk 2 (by decide) (by decide) (by decide), ck 0 (by decide) (by decide) (by decide) (by decide)]; exact hCh
  · by_cases e : p = nq
    · subst e
      exact ⟨fun j hj _ => c1n j hj, ⟨0, q6, by omega⟩, Or.inl ⟨q4, q10, c1n 5 (by decide), s, hs, q5⟩⟩
    · rw [v4 p e, c1 p e, vk 0 (by decide) (by decide) (by decide)]
      exact hP p (by omega)
  · rw [vk 0 (by decide) (by decide) (by decide), ck 19 (by decide) (by decide) (by decide) (by decide)]
    obtain ⟨m1, m2⟩ := hB k hk
    refine ⟨m1, ?_⟩
    rcases m2 with m2 | ⟨p, n1, n2, n3, n4⟩
    · exact Or.inl m2
    · exact Or.inr ⟨p, by omega, n2, by rw [hlt p n1]; exact n3, by rw [hlt p n1]; exact n4⟩
  · rw [vk 5 (by decide) (by decide) (by decide), ck 20 (by decide) (by decide) (by decide) (by decide)]
    obtain ⟨n1, p, n2, n3, n4⟩ := hG i hi
    exact ⟨n1, p, by omega, n3, by rw [hlt p n2]; exact n4⟩
  · rw [cn, if_neg (by rw [q4]; decide), cn_congr (P := fun p => v 4 p 4 = 2) (fun p hp => by rw [hlt p hp])]; exact k1
  · have e1 : sm (fun p => b2 (v' 4 p 4 = 0)) nq = sm (fun p => b2 (v 4 p 4 = 0)) nq := sm_congr (fun p hp => b2_cg (by rw [hlt p hp]))
    have e2 : sm (fun s => v' 1 s 1) ns = sm (fun s => v 1 s 1) ns + (v' 1 s 1 - v 1 s 1) := sm_one s hs (fun j _ hj => by show v' 1 j 1 = v 1 j 1; rw [v1 j hj])
    rw [sm, e1, e2, k2, b2_t q4, v11, hw, ← nI_1]
    grind
  · have e1 : sm (fun p => b2 (v' 4 p 4 = 1)) nq = sm (fun p => b2 (v 4 p 4 = 1)) nq := sm_congr (fun p hp => b2_cg (by rw [hlt p hp]))
    rw [sm, e1, k3, b2_f (by rw [q4]; decide), ck 19 (by decide) (by decide) (by decide) (by decide)]
    grind
  · rw [vk 2 (by decide) (by decide) (by decide)]; exact k4
  · have e1 : sm (fun p => b2 (v' 4 p 4 = 2 ∧ v' 4 p 5 = nI c)) nq = sm (fun p => b2 (v 4 p 4 = 2 ∧ v 4 p 5 = nI c)) nq := sm_congr (fun p hp => b2_cg (by rw [hlt p hp]))
    rw [sm, e1, vk 2 (by decide) (by decide) (by decide), k5 c hc, b2_f (fun z => by have := z.1; rw [q4] at this; exact absurd this (by decide))]
    grind
  · have e1 : sm (fun p => b2 (v' 4 p 10 = nI x)) nq = sm (fun p => b2 (v 4 p 10 = nI x)) nq := sm_congr (fun p hp => b2_cg (by rw [hlt p hp]))
    rw [sm, e1, ck 21 (by decide) (by decide) (by decide) (by decide), k6 x hx, b2_f (by rw [q10]; exact fun z => nI_m1 (by omega) z.symm)]
    grind
  · have e1 : sm (fun p => rnd v' p) nq = sm (fun p => rnd v p) nq := sm_congr (fun p hp => hrd p hp)
    rw [sm, e1, hrn, c4' 8 (by decide), k7]
    grind
  · have e1 : sm (fun p => if v' 4 p 4 = 2 then rnd v' p else 0) nq = sm (fun p => if v 4 p 4 = 2 then rnd v p else 0) nq := sm_congr (fun p hp => by
      show (if v' 4 p 4 = 2 then rnd v' p else 0) = if v 4 p 4 = 2 then rnd v p else 0
      rw [hrd p hp, hlt p hp])
    have e2 : sm (fun i => rnd v' (v' 5 0 i).toNatClampNeg) nd = sm (fun i => rnd v (v 5 0 i).toNatClampNeg) nd := sm_congr (fun i hi => by
      show rnd v' (v' 5 0 i).toNatClampNeg = rnd v (v 5 0 i).toNatClampNeg
      obtain ⟨-, p, n2, n3, -⟩ := hG i hi
      rw [vk 5 (by decide) (by decide) (by decide), n3, nI_clamp (by omega), hrd p n2])
    rw [sm, e1, e2, k8, if_neg (by rw [q4]; decide)]
    grind
end GRO
