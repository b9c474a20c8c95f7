theorem ats_ne {v : Vw} : ∀ {m k x i j : Nat}, ¬ (x = 4 ∧ j = 5) → ats v m k x i j = v x i j := by
  intro m
  induction m generalizing v with
  | zero => intro k x i j h; rfl
  | succ m ih =>
    intro k x i j h
    rw [ats, ih h]
    by_cases hc : v 0 0 k < 0
    · rw [if_pos hc]
    · rw [if_neg hc, us_ne (by omega)]
theorem ats_no {v : Vw} {p : Nat} : ∀ {m k : Nat}, (∀ k', k ≤ k' → k' < k + m → v 0 0 k' < 0 ∨ (v 0 0 k').toNatClampNeg ≠ p) → ats v m k 4 p 5 = v 4 p 5 := by
  intro m
  induction m generalizing v with
  | zero => intro k h; rfl
  | succ m ih =>
    intro k h
    rw [ats]
    by_cases hc : v 0 0 k < 0
    · rw [if_pos hc]
      exact ih (fun k' h1 h2 => h k' (by omega) (by omega))
    · rw [if_neg hc, ih (fun k' h1 h2 => ?_)]
      · refine us_ne (fun z => ?_)
        rcases h k (Nat.le_refl _) (by omega) with h' | h'
        · exact hc h'
        · exact h' z.2.1.symm
      · rw [us_ne (by omega)]
        exact h k' (by omega) (by omega)
theorem ats_yes {v : Vw} {p : Nat} (hp : p < 60) : ∀ {m k k' : Nat}, k ≤ k' → k' < k + m → v 0 0 k' = nI p → (∀ k'', k' < k'' → k'' < k + m → v 0 0 k'' < 0 ∨ (v 0 0 k'').toNatClampNeg ≠ p) → ats v m k 4 p 5 = nI k' := by
  intro m
  induction m generalizing v with
  | zero => intro k k' h1 h2; omega
  | succ m ih =>
    intro k k' h1 h2 h3 h4
    rw [ats]
    by_cases e : k' = k
    · subst e
      rw [h3, if_neg (nI_pos (by omega)), nI_clamp (by omega), ats_no (fun k'' g1 g2 => ?_), us_self]
      rw [us_ne (by omega)]
      exact h4 k'' (by omega) (by omega)
    · by_cases hc : v 0 0 k < 0
      · rw [if_pos hc]
        exact ih (by omega) (by omega) h3 (fun k'' g1 g2 => h4 k'' g1 (by omega))
      · rw [if_neg hc]
        refine ih (by omega) (by omega) (by rw [us_ne (by omega)]; exact h3) (fun k'' g1 g2 => ?_)
        rw [us_ne (by omega)]
        exact h4 k'' g1 (by omega)
def prv (pc k : Nat) : Nat := if k = 0 then pc - 1 else k - 1
def nxt (pc k : Nat) : Nat := if k + 1 = pc then 0 else k + 1
def fop (pc fo : Nat) : Nat := if 0 < fo then fo - 1 else pc - 1
theorem prv_lt {pc k : Nat} (h : 1 ≤ pc) (hk : k < pc) : prv pc k < pc := by unfold prv; split <;> omega
theorem nxt_lt {pc k : Nat} (hk : k < pc) : nxt pc k < pc := by unfold nxt; split <;> omega
theorem prv_nxt {pc k : Nat} (hk : k < pc) : prv pc (nxt pc k) = k := by
  unfold prv nxt
  by_cases h : k + 1 = pc
  · rw [if_pos h, if_pos rfl]; omega
  · rw [if_neg h, if_neg (by omega)]; omega
theorem nxt_prv {pc k : Nat} (hk : k < pc) : nxt pc (prv pc k) = k := by
  unfold prv nxt
  by_cases h : k = 0
  · rw [if_pos h, if_pos (by omega)]; omega
  · rw [if_neg h, if_neg (by omega)]; omega
theorem cri_fop {pc fo k : Nat} (hf : fo < pc) (hk : k < pc) : cri pc (fop pc fo) k = cri pc fo (prv pc k) := by
  unfold cri fop prv
  by_cases h1 : 0 < fo
  · by_cases h2 : k = 0
    · rw [if_pos h1, if_pos h2, if_pos (by omega), if_neg (by omega)]; omega
    · rw [if_pos h1, if_neg h2]
      by_cases h3 : fo - 1 + k < pc
      · rw [if_pos h3, if_pos (by omega)]; omega
      · rw [if_neg h3, if_neg (by omega)]; omega
  · by_cases h2 : k = 0
    · rw [if_neg h1, if_pos h2, if_pos (by omega), if_pos (by omega)]; omega
    · rw [if_neg h1, if_neg h2, if_neg (by omega), if_pos (by omega)]; omega
theorem trn_ne {v : Vw} {pc x i j : Nat} (h : ¬ (x = 4 ∧ j = 5)) (h0 : ¬ (x = 0 ∧ i = 0 ∧ j < pc)) (h1 : 1 ≤ pc) : trn v pc x i j = v x i j := by
  unfold trn
  rw [ats_ne h, us_ne (by omega), rot_ne (by omega)]
theorem trn_0 {v : Vw} {pc k : Nat} (hk : k < pc) : trn v pc 0 0 k = v 0 0 (prv pc k) := by
  unfold trn prv
  rw [ats_ne (by omega)]
  by_cases h : k = 0
  · subst h; rw [us_self, if_pos rfl]
  · rw [us_ne (by omega), if_neg h, rot_at (by omega) (by omega)]
theorem trn_w {v : Vw} {pc k : Nat} (hk : k < pc) : us (rot v (pc - 1)) 0 0 0 (v 0 0 (pc - 1)) 0 0 k = v 0 0 (prv pc k) := by
  rw [← trn_0 (v := v) hk]
  unfold trn
  rw [ats_ne (by omega)]
section RR2
variable {np T : Nat} {P C C' v v' : Vw} {ns nc nl nq nd fo pc : Nat}
/-- the belt turns -/
theorem RR_tn (h : RR np T P C v ns nc nl nq nd fo pc) : RR np T P (us C 4 0 2 (nI (fop pc fo))) (trn v pc) ns nc nl nq nd (fop pc fo) pc := by
  obtain ⟨hN, hS, hCh, hL, hP, hB, hG, hK⟩ := h
  obtain ⟨⟨a1, a2, a3, a4, a5, a6, b1, b2', b3, b4, b5, b6, b7⟩, d0, d1, d2, d3, d4, d5, d6, d7, d8, tm, t1, t2⟩ := id hN
  obtain ⟨k1, k2, k3, k4, k5, k6, k7, k8⟩ := hK
  have e0 : ∀ x, x ≠ 0 → x ≠ 4 → trn v pc x = v x := fun x h0 h4 => by funext i j; exact trn_ne (by omega) (by omega) (by omega)
  have e4 : ∀ p j, j ≠ 5 → trn v pc 4 p j = v 4 p j := fun p j hj => trn_ne (by omega) (by omega) (by omega)
  have c0 : ∀ x, x ≠ 4 → us C 4 0 2 (nI (fop pc fo)) x = C x := fun x hx => by funext i j; exact us_ne (by omega)
  have c4 : ∀ j, j ≠ 2 → us C 4 0 2 (nI (fop pc fo)) 4 0 j = C 4 0 j := fun j hj => us_ne (by omega)
  have hent : ∀ k, k < pc → v 0 0 k = -1 ∨ ∃ p, p < nq ∧ v 0 0 k = nI p ∧ v 4 p 4 = 1 ∧ v 4 p 5 = nI k := fun k hk => (hB k hk).2
  have hno : ∀ p, p < nq → v 4 p 4 ≠ 1 → trn v pc 4 p 5 = v 4 p 5 := fun p hp h1 => by
    unfold trn
    rw [ats_no (fun k' g1 g2 => ?_), us_ne (by omega), rot_ne (by omega)]
    rw [trn_w (by omega)]
    rcases hent (prv pc k') (prv_lt (by omega) (by omega)) with z | ⟨p', m1, m2, m3, m4⟩
    · exact Or.inl (by rw [z]; decide)
    · refine Or.inr (fun z => h1 ?_)
      rw [m2, nI_clamp (by omega)] at z
      subst z
      exact m3
  have hyes : ∀ p k, p < nq → k < pc → v 0 0 k = nI p → trn v pc 4 p 5 = nI (nxt pc k) := fun p k hp hk hv => by
    unfold trn
    refine ats_yes (by omega) (Nat.zero_le _) (by have := nxt_lt hk; omega) (by rw [trn_w (nxt_lt hk), prv_nxt hk]; exact hv) (fun k'' g1 g2 => ?_)
    rw [trn_w (by omega)]
    rcases hent (prv pc k'') (prv_lt (by omega) (by omega)) with z | ⟨p', m1, m2, m3, m4⟩
    · exact Or.inl (by rw [z]; decide)
    · refine Or.inr (fun z => ?_)
      rw [m2, nI_clamp (by omega)] at z
      subst z
      rcases hent k hk with z | ⟨p2, n1, n2, n3, n4⟩
      · rw [hv] at z; exact nI_m1 (by omega) z
      · have : p2 = p' := nI_inj (n2.symm.trans hv) (by omega) (by omega)
        subst this
        have hpk : prv pc k'' = k := nI_inj (m4.symm.trans n4) (by have := prv_lt (pc := pc) (k := k'') (by omega) (by omega); omega) (by omega)
        have : k'' = nxt pc k := by rw [← hpk, nxt_prv (by omega)]
        omega
  have hfl : fop pc fo < pc := by unfold fop; split <;> omega
  have hrd : ∀ p, rnd (trn v pc) p = rnd v p := fun p => by unfold rnd; rw [e4 p 6 (by decide)]
  refine ⟨⟨?_, ?_, ?_, ?_, ?_, ?_, ?_, ?_, ?_, hfl, tm, ?_, t2⟩, ?_, ?_, hL.of (e0 3 (by decide) (by decide)) (c0 17 (by decide)), ?_, ?_, ?_, ?_⟩
  · unfold VN; rw [e0 6 (by decide) (by decide)]; exact hN.1
  · rw [c4 0 (by decide), e0 6 (by decide) (by decide)]; exact d0
  · rw [c4 1 (by decide)]; exact d1
  · rw [us_self]
  · rw [c4 3 (by decide)]; exact d3
  · rw [c4 4 (by decide)]; exact d4
  · rw [c4 5 (by decide)]; exact d5
  · rw [c4 6 (by decide)]; exact d6
  · rw [c4 7 (by decide)]; exact d7
  · rw [e0 6 (by decide) (by decide)]; exact t1
  · intro s hs
    obtain ⟨pl, w, s1, s2, s3, s4, s5, s6, s7, s8, s9, s10⟩ := hS s hs
    rw [e0 1 (by decide) (by decide), c0 5 (by decide), c0 14 (by decide)]
    refine ⟨pl, w, s1, s2, s3, s4, s5, s6, s7, s8, fun j hj => ?_, s10⟩
    obtain ⟨m1, p, m2, m3, m4, m5⟩ := s9 j hj
    exact ⟨m1, p, m2, m3, by rw [e4 p 4 (by decide)]; exact m4, by rw [hno p m2 (by rw [m4]; decide)]; exact m5⟩
  · unfold RCh at *; rw [e0 2 (by decide) (by decide), c0 0 (by decide)]; exact hCh
  · intro p hp
    obtain ⟨n1, n2, n3⟩ := hP p hp
    rw [c0 1 (by decide), e4 p 4 (by decide), e4 p 6 (by decide), e4 p 10 (by decide)]
    refine ⟨fun j hj h5 => by rw [e4 p j h5]; exact n1 j hj h5, n2, ?_⟩
    rcases n3 with ⟨z1, z2, z3, z4⟩ | ⟨z1, z2, k, m3, m4, m5, m6⟩ | ⟨z1, z2, z3⟩
    · refine Or.inl ⟨z1, z2, ?_⟩
      rw [hno p hp (by rw [z1]; decide)]
      exact ⟨z3, z4⟩
    · refine Or.inr (Or.inl ⟨z1, z2, nxt pc k, nxt_lt m3, hyes p k hp m3 m5, ?_, ?_⟩)
      · rw [trn_0 (nxt_lt m3), prv_nxt m3]; exact m5
      · rw [cri_fop d8 (nxt_lt m3), prv_nxt m3]; exact m6
    · refine Or.inr (Or.inr ⟨z1, ?_⟩)
      rw [hno p hp (by rw [z1]; decide)]
      exact ⟨z2, z3⟩
  · intro k hk
    rw [c0 19 (by decide), cri_fop d8 hk, trn_0 hk]
    have hpl := prv_lt (pc := pc) (k := k) (by omega) hk
    obtain ⟨n1, n2⟩ := hB (prv pc k) hpl
    refine ⟨n1, ?_⟩
    rcases n2 with z | ⟨p, m1, m2, m3, m4⟩
    · exact Or.inl z
    · refine Or.inr ⟨p, m1, m2, by rw [e4 p 4 (by decide)]; exact m3, ?_⟩
      rw [hyes p (prv pc k) m1 hpl m2, nxt_prv hk]
  · intro i hi
    rw [e0 5 (by decide) (by decide), c0 20 (by decide)]
    obtain ⟨n1, p, n2, n3, n4⟩ := hG i hi
    exact ⟨n1, p, n2, n3, by rw [e4 p 4 (by decide)]; exact n4⟩
  · have h4 : ∀ p, trn v pc 4 p 4 = v 4 p 4 := fun p => e4 p 4 (by decide)
    have h10 : ∀ p, trn v pc 4 p 10 = v 4 p 10 := fun p => e4 p 10 (by decide)
    refine ⟨?_, ?_, ?_, ?_, ?_, ?_, ?_, ?_⟩
    · simp only [h4]; exact k1
    · rw [e0 1 (by decide) (by decide)]; simp only [h4]; exact k2
    · rw [c0 19 (by decide)]; simp only [h4]; exact k3
    · rw [e0 2 (by decide) (by decide)]; exact k4
    · intro c hc
      rw [e0 2 (by decide) (by decide), k5 c hc]
      refine sm_congr (fun p hp => b2_cg ?_)
      rw [h4]
      by_cases z : v 4 p 4 = 2
      · rw [hno p hp (by rw [z]; decide)]
      · exact ⟨fun y => absurd y.1 z, fun y => absurd y.1 z⟩
    · rw [c0 21 (by decide)]; simp only [h10]; exact k6
    · rw [c4 8 (by decide)]; simp only [hrd]; exact k7
    · rw [e0 5 (by decide) (by decide)]; simp only [hrd, h4]; exact k8
end RR2
