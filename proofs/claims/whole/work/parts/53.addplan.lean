section AP
variable {np fu T : Nat} {S Z : S4}
theorem PM.pl {P P' v : Vw} {i p : Nat} (h : PM P v i p) (hp : ∀ k j, P' k i j = P k i j) : PM P' v i p := by
  unfold PM at *
  simp only [hp]
  exact h
theorem RR.cs {P P' C C' v : Vw} {ns nc nl nq nd fo pc : Nat} (h : RR np T P C v ns nc nl nq nd fo pc) (hc : ∀ k, stk k = true → C' k = C k) (hp : ∀ k i j, i < np → P' k i j = P k i j) : RR np T P' C' v ns nc nl nq nd fo pc := by
  obtain ⟨r1, r2, r3, r4, r5, r6, r7, r8⟩ := h
  refine ⟨?_, ?_, ?_, ⟨fun p hpl => ?_, r4.2⟩, ?_, ?_, ?_, ?_⟩
  · unfold RN at *; rw [hc 4 (by decide)]; exact r1
  · unfold RSt at *; rw [hc 5 (by decide), hc 14 (by decide)]; exact r2
  · unfold RCh at *; rw [hc 0 (by decide)]; exact r3
  · obtain ⟨g1, g2, i, g3, g4, g5⟩ := r4.1 p hpl
    exact ⟨g1, g2, i, g3, by rw [hc 17 (by decide)]; exact g4, g5.pl (fun k j => hp k i j g3)⟩
  · unfold RPa at *; rw [hc 1 (by decide)]; exact r5
  · unfold RBe at *; rw [hc 19 (by decide)]; exact r6
  · unfold RLe at *; rw [hc 20 (by decide)]; exact r7
  · unfold RCo at *; rw [hc 19 (by decide), hc 21 (by decide), hc 4 (by decide)]; exact r8
theorem RR_pl {P P' C C' v v' : Vw} {np' ns nc nl nl' nq nd fo pc : Nat} (h : RR np T P C v ns nc nl nq nd fo pc) (hP : RPl P' C' v' np' nl' nc) (hl' : nl' ≤ 5) (v6 : v' 6 0 3 = nI nl') (v6' : ∀ j, j ≠ 3 → v' 6 0 j = v 6 0 j) (vk : ∀ x, x ≠ 3 → x ≠ 6 → v' x = v x) (c45 : C' 4 0 5 = nI nl') (c4' : ∀ j, j ≠ 5 → C' 4 0 j = C 4 0 j) (ck : ∀ x, x ≠ 4 → x ≠ 17 → stk x = true → C' x = C x) : RR np' T P' C' v' ns nc nl' nq nd fo pc := by
  obtain ⟨⟨⟨a1, a2, a3, a4, a5, a6, b1, b2', b3, b4, b5, b6, b7⟩, d0, d1, d2, d3, d4, d5, d6, d7, d8, tm, t1, t2⟩, hS, hCh, hL, hPa, hB, hG, hK⟩ := h
  refine ⟨⟨⟨?_, ?_, ?_, v6, ?_, ?_, b1, b2', b3, b4, hl', b6, b7⟩, ?_, ?_, ?_, ?_, ?_, c45, ?_, ?_, d8, tm, ?_, t2⟩, ?_, ?_, hP, ?_, ?_, ?_, ?_⟩
  · rw [v6' 0 (by decide)]; exact a1
  · rw [v6' 1 (by decide)]; exact a2
  · rw [v6' 2 (by decide)]; exact a3
  · rw [v6' 4 (by decide)]; exact a5
  · rw [v6' 5 (by decide)]; exact a6
  · rw [c4' 0 (by decide), v6' 6 (by decide)]; exact d0
  · rw [c4' 1 (by decide)]; exact d1
  · rw [c4' 2 (by decide)]; exact d2
  · rw [c4' 3 (by decide)]; exact d3
  · rw [c4' 4 (by decide)]; exact d4
  · rw [c4' 6 (by decide)]; exact d6
  · rw [c4' 7 (by decide)]; exact d7
  · rw [v6' 6 (by decide)]; exact t1
  · unfold RSt at *; rw [vk 1 (by decide) (by decide), vk 4 (by decide) (by decide), ck 5 (by decide) (by decide) (by decide), ck 14 (by decide) (by decide) (by decide)]; exact hS
  · unfold RCh at *; rw [vk 2 (by decide) (by decide), ck 0 (by decide) (by decide) (by decide)]; exact hCh
  · unfold RPa at *; rw [vk 4 (by decide) (by decide), vk 0 (by decide) (by decide), ck 1 (by decide) (by decide) (by decide)]; exact hPa
  · unfold RBe at *; rw [vk 0 (by decide) (by decide), vk 4 (by decide) (by decide), ck 19 (by decide) (by decide) (by decide)]; exact hB
  · unfold RLe at *; rw [vk 5 (by decide) (by decide), vk 4 (by decide) (by decide), ck 20 (by decide) (by decide) (by decide)]; exact hG
  · unfold RCo rnd at *; rw [vk 1 (by decide) (by decide), vk 2 (by decide) (by decide), vk 4 (by decide) (by decide), vk 5 (by decide) (by decide), ck 19 (by decide) (by decide) (by decide), ck 21 (by decide) (by decide) (by decide), c4' 8 (by decide)]; exact hK
theorem RO.sp {S S' : S4} {t : Nat} {v : Vw} (h : RO np T S t v) (hs : ∀ k a w, stk k = true → S' k t a w = S k t a w) (hp : ∀ k a w, (k = 2 ∨ (10 ≤ k ∧ k ≤ 13)) → a < np → S' k 0 a w = S k 0 a w) : RO (np + 1) T S' t v := by
  obtain ⟨ns, nc, nl, nq, nd, fo, pc, hR⟩ := h
  refine RO.mono ⟨ns, nc, nl, nq, nd, fo, pc, hR.cs (fun k hk => ?_) (fun k i j hi => ?_)⟩ (by omega) (Nat.le_refl _)
  · funext a w; exact hs k a w hk
  · unfold pln
    by_cases hk : k = 2 ∨ (10 ≤ k ∧ k ≤ 13)
    · rw [if_pos hk, if_pos hk, hp k i j hk hi]
    · rw [if_neg hk, if_neg hk]
/-- a reader, and the input that is empty afterwards -/
theorem GG.rd {S' Z' : S4} (h : GG np T S Z) (hS : ∀ k t a w, ¬ ((k = 2 ∨ k = 3 ∨ (10 ≤ k ∧ k ≤ 13)) ∧ a = np) → ¬ (k = 6 ∧ w = 8) → S' k t a w = S k t a w) (hS8 : S' 6 0 0 8 = nI 0) (hZ : ∀ k t a w, k ≠ 31 → ¬ (k = 7 ∧ (w = 0 ∨ w = 16 ∨ w = 17)) → Z' k t a w = Z k t a w) (hZ16 : Z' 7 0 0 16 = nI 0) : GG (np + 1) T S' Z' := by
  obtain ⟨h1, ⟨pn, pe, a1, a2, a3, a4, a5, a6⟩, ⟨b1, b2⟩, h4, ⟨w0, w1, w2, w3, wq, w4⟩⟩ := h
  have st : ∀ t v, RO np T S t v → RO (np + 1) T S' t v := fun t v hh => hh.sp (fun k a w hk => hS k t a w (by simp only [stk, decide_eq_true_eq] at hk; omega) (by simp only [stk, decide_eq_true_eq] at hk; omega)) (fun k a w hk ha => hS k 0 a w (by omega) (by omega))
  have hl : live Z' = live Z := live_of (fun k j g1 g2 => hZ k 0 0 j (by omega) (by omega)) (fun j g1 g2 => hZ 7 0 0 j (by omega) (by omega))
  have rk : ∀ a o, a ≠ 31 → a ≠ 7 → rowv Z' a o = rowv Z a o := fun a o e1 e2 => rowv_k (by funext t i j; exact hZ a t i j e1 (by omega))
  refine ⟨by rw [hl]; exact st _ _ h1, ⟨pn, pe, ?_, ?_, a3, ?_, a5, fun j hj => ?_⟩, ⟨?_, ?_⟩, ⟨0, by decide, hS8, hZ16, fun j hj => absurd hj (by omega)⟩, ⟨w0, w1, ?_, ?_, ?_, fun j hj => ?_⟩⟩
  · rw [hS 6 0 0 4 (by omega) (by omega)]; exact a1
  · rw [hZ 7 0 0 21 (by omega) (by omega)]; exact a2
  · rw [hS 6 0 0 5 (by omega) (by omega)]; exact a4
  · rw [rk 33 _ (by decide) (by decide)]; exact st _ _ (a6 j hj)
  · rw [hS 6 0 0 6 (by omega) (by omega), hZ 7 0 0 24 (by omega) (by omega)]; exact b1
  · rw [hS 6 0 0 6 (by omega) (by omega), rk 34 _ (by decide) (by decide)]
    rcases b2 with b2 | ⟨b2, b3⟩
    · exact Or.inl b2
    · exact Or.inr ⟨b2, st _ _ b3⟩
  · rw [hS 8 0 0 0 (by omega) (by omega)]; exact w2
  · rw [hZ 7 0 0 26 (by omega) (by omega)]; exact w3
  · rw [hS 9 0 0 200 (by omega) (by omega)]; exact wq
  · rw [hS 9 0 0 j (by omega) (by omega), hZ 35 0 0 j (by omega) (by omega)]
    exact w4 j hj
theorem new_row {i nc p : Nat} {v' : Vw} (hc8 : nc ≤ 8) (hD : PD S Z i) (hok : (∃ e, e < nc ∧ Z 31 0 0 2 = nI e) ∧ ∀ w, w < (Z 31 0 0 1).toNatClampNeg → okr Z nc w) (hv : ∀ w, w < 52 → v' 3 p w = Z 31 0 0 w) : (∃ m c, VP v' nc p m c) ∧ PW v' p ∧ PM (pln S) v' i p := by
  obtain ⟨t, R, e, b, ht, r1, r8, he, hb, s0, z0, s1, z1, s2, z2, s3, z3, hq⟩ := hD
  obtain ⟨⟨e', he', hz2⟩, hok⟩ := hok
  have hee : e' = e := nI_inj (hz2.symm.trans z2) (by omega) (by omega)
  subst hee
  rw [z1, nI_clamp (by omega)] at hok
  have hR : (v' 3 p 1).toNatClampNeg = R := by rw [hv 1 (by decide), z1]; exact nI_clamp (by omega)
  refine ⟨⟨R, e', by rw [hv 1 (by decide)]; exact z1, r8, by rw [hv 2 (by decide)]; exact z2, he', fun r hr => ?_⟩, ⟨⟨t, ht, by rw [hv 0 (by decide)]; exact z0⟩, ⟨b, hb, by rw [hv 3 (by decide)]; exact z3⟩, by rw [hR]; exact r1, fun r hr => ?_⟩, ⟨?_, ?_, ?_, ?_, fun r hr => ?_⟩⟩
  · obtain ⟨a, b', n, h1, h2, h3, h4, h5, h6, h7, h8, h9, h10, h11⟩ := hq r hr
    obtain ⟨-, ho⟩ := hok r hr
    rw [h10, nI_clamp (by omega)] at ho
    refine ⟨n, by rw [hv _ (by omega)]; exact h10, h4, fun k hk => ?_⟩
    rw [hv _ (by omega)]
    exact ho k (Nat.zero_le _) hk
  · rw [hR] at hr
    obtain ⟨a, b', n, h1, h2, h3, h4, h5, h6, h7, h8, h9, h10, h11⟩ := hq r hr
    obtain ⟨⟨a0, b0, g1, g2, g3, g4⟩, -⟩ := hok r hr
    exact ⟨a0, b0, g1, g2, by rw [hv _ (by omega)]; exact g3, by rw [hv _ (by omega)]; exact g4, by rw [hv _ (by omega), h10, nI_clamp (by omega)]; exact h3⟩
  · rw [← rk2 S, s0, hv 0 (by decide), z0]
  · rw [← rk2 S, s1, hv 1 (by decide), z1]
  · rw [← rk2 S, s2, hv 2 (by decide), z2]
  · rw [← rk2 S, s3, hv 3 (by decide), z3]
  · rw [hR] at hr
    obtain ⟨a, b', n, h1, h2, h3, h4, h5, h6, h7, h8, h9, h10, h11⟩ := hq r hr
    refine ⟨by rw [← rk10 S, h5, hv _ (by omega), h6], by rw [← rk11 S, h7, hv _ (by omega), h8], by rw [← rk12 S, h9, hv _ (by omega), h10], fun k hk => ?_⟩
    rw [hv _ (by omega), h10, nI_clamp (by omega)] at hk
    obtain ⟨c, c1, c2, c3⟩ := h11 k hk
    rw [← rk13 S, c2, hv _ (by omega), c3]
/-- what the class' addPlan makes: a reader and its plan, number np -/
def newR (np : Nat) (len : Int32) (S : S4) : S4 := w4 (w4 (w4 (w4 (w4 (w4 S 2 0 np (fun j => if j = 3 then 3 else 0)) 10 0 np (fun _ => 0)) 11 0 np (fun _ => 0)) 12 0 np (fun _ => 0)) 13 0 np (fun _ => 0)) 3 0 np (fun j => if j = 3 then len else 0)
def s_X6_addPlan (np : Nat) (fu : Nat) (S : S4) : Option ((Int32 × S4) ⊕ (Nat × S4)) := (s_X3_readPlan fu np (u4 (newR np (if 80 < S 6 0 0 8 then 80 else S 6 0 0 8) S) 6 0 0 8 0)).bind fun q => if q.1 = 0 then some (.inl (-100 - q.2 3 0 np 1, q.2)) else (s_X2_isPossible fu np (q.2 4 0 0 4) q.2).bind fun b => if b = 0 then some (.inr (3, q.2)) else ((if 5 ≤ q.2 4 0 0 5 then s_X4_hasPlanFrom (np + 1) fu 0 (q.2 2 0 np 0) q.2 else some 1)).bind fun h => if h = 0 then some (.inr (2, q.2)) else (s_X6_remember (np + 1) fu q.2).bind fun Z5 => (s_X4_putPlan (np + 1) fu 0 np Z5).bind fun Z6 => some (.inl (Z6 4 0 0 5, Z6))
theorem newR_ne {len : Int32} {k t a w : Nat} (h : ¬ ((k = 2 ∨ k = 3 ∨ (10 ≤ k ∧ k ≤ 13)) ∧ a = np)) : newR np len S k t a w = S k t a w := by
  unfold newR
  rw [w4_ne (by omega), w4_ne (by omega), w4_ne (by omega), w4_ne (by omega), w4_ne (by omega), w4_ne (by omega)]
theorem L42_go {p nl : Nat} {f0 : Int32} (h3 : live Z 6 0 3 = nI nl) (h5 : nl ≤ 5) (hf0 : Z 31 0 0 0 = f0) (hp : p ≤ nl) (hlt : ∀ j, j < p → live Z 3 j 0 < f0) : ∀ (d k f : Nat), k + d = p → d < f → s_X7_addPlan_L42 fu f (nI k) Z = s_X7_addPlan_L42 fu (f - d) (nI p) Z := by
  intro d
  induction d with
  | zero =>
    intro k f hk hf
    obtain rfl : k = p := (by omega)
    rfl
  | succ d ih =>
    intro k f hk hf
    obtain ⟨f, rfl⟩ : ∃ g, f = g + 1 := ⟨f - 1, by omega⟩
    rw [s_X7_addPlan_L42, rd_n3 Z, h3, if_neg (nI_ge (by omega) (by omega)), q_ofPlan (by omega) (by decide), bd_s, gd_t (show inb (0 : Int32) 52 from inb_nI (n := 0) (by decide) (by decide)), show Z 31 0 0 (0 : Int32).toNatClampNeg = f0 from hf0, if_neg (Int32.not_le.mpr (hlt k (by omega))), nI_1, show f + 1 - (d + 1) = f - d by omega]
    exact ih (k + 1) f (by omega) (by omega)
end AP
