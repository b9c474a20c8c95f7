section BU
variable {np fu T : Nat} {S Z : S4}
theorem RR_new {P C v : Vw} {pc : Nat} (h12 : 12 ≤ pc) (h30 : pc ≤ 30) (v60 : v 6 0 0 = nI pc) (v6 : ∀ j, 1 ≤ j → j < 7 → v 6 0 j = 0) (v0 : ∀ k, k < pc → v 0 0 k = -1) (c41 : C 4 0 1 = nI pc) (c4 : ∀ j, j ≠ 1 → j < 9 → C 4 0 j = 0) (c19 : ∀ k, k < pc → C 19 0 k = -1) (c21 : ∀ w, w < 4 → C 21 0 w = 0) : RR np T P C v 0 0 0 0 0 0 pc := by
  refine ⟨⟨⟨v60, v6 1 (by decide) (by decide), v6 2 (by decide) (by decide), v6 3 (by decide) (by decide), v6 4 (by decide) (by decide), v6 5 (by decide) (by decide), h12, h30, by decide, by decide, by decide, by decide, by decide⟩, ?_, c41, c4 2 (by decide) (by decide), c4 3 (by decide) (by decide), c4 4 (by decide) (by decide), c4 5 (by decide) (by decide), c4 6 (by decide) (by decide), c4 7 (by decide) (by decide), by omega, 0, v6 6 (by decide) (by decide), by omega⟩, fun s hs => absurd hs (by omega), fun c hc => absurd hc (by omega), ⟨fun p hp => absurd hp (by omega), fun a b _ hb => absurd hb (by omega)⟩, fun p hp => absurd hp (by omega), fun k hk => ?_, fun i hi => absurd hi (by omega), rfl, rfl, ?_, rfl, fun c hc => absurd hc (by omega), fun w hw => c21 w hw, c4 8 (by decide) (by decide), rfl⟩
  · rw [c4 0 (by decide) (by decide), v6 6 (by decide) (by decide)]
  · have := cri_lt (pc := pc) (fo := 0) (k := k) (by omega) hk
    rw [c19 _ this, v0 k hk]
    exact ⟨rfl, Or.inl rfl⟩
  · exact (sm_zero (fun k hk => b2_f (fun z => z (c19 k hk)))).symm
theorem fill_L {k t i n : Nat} {x : Int32} (hn : n < 2 ^ 31) {S0 : S4} : ∀ (d j f : Nat) (S : S4), j + d = n → d < f → FA k t i S0 S → (∀ w, w < j → S k t i w = x) → (∀ w, n ≤ w → S k t i w = S0 k t i w) → ∃ S', s_JA_fill_L5 fu k t i n x f (nI j) (nI n) S = some S' ∧ FA k t i S0 S' ∧ (∀ w, w < n → S' k t i w = x) ∧ ∀ w, n ≤ w → S' k t i w = S0 k t i w := by
  intro d
  induction d with
  | zero =>
    intro j f S hj hf h1 h2 h3
    obtain ⟨f, rfl⟩ : ∃ g, f = g + 1 := ⟨f - 1, by omega⟩
    obtain rfl : j = n := by omega
    rw [s_JA_fill_L5, if_pos (nI_le (by omega) (by omega))]
    exact ⟨S, rfl, h1, h2, h3⟩
  | succ d ih =>
    intro j f S hj hf h1 h2 h3
    obtain ⟨f, rfl⟩ : ∃ g, f = g + 1 := ⟨f - 1, by omega⟩
    rw [s_JA_fill_L5, if_neg (nI_ge (by omega) (by omega)), gd_t (inb_nI (by omega) (by omega)), nI_clamp (by omega), sv_e, nI_1]
    refine ih (j + 1) f _ (by omega) (by omega) (h1.trans (FA.putu rfl)) (fun w hw => ?_) (fun w hw => ?_)
    · rw [u4_app]
      by_cases e : w = j
      · rw [if_pos ⟨rfl, rfl, rfl, e⟩]
      · rw [if_neg (fun z => e z.2.2.2)]; exact h2 w (by omega)
    · rw [u4_app, if_neg (by omega)]; exact h3 w hw
theorem k_fill {k t i n : Nat} {x : Int32} (hn : n < 2 ^ 31) (hf : n < fu) : ∃ S', s_JA_fill fu k t i n x S = some S' ∧ FA k t i S S' ∧ ∀ w, w < n → S' k t i w = x := by
  obtain ⟨S', e1, e2, e3, -⟩ := fill_L (fu := fu) (k := k) (t := t) (i := i) (n := n) (x := x) hn (S0 := S) n 0 fu S (by omega) (by omega) (FA.refl _ _ _ _) (fun w hw => absurd hw (by omega)) (fun _ _ => rfl)
  exact ⟨S', e1, e2, e3⟩
theorem k_reset {t pc : Nat} (hf : 60 < fu) : ∃ S', s_X4_reset fu t (nI pc) S = some S' ∧ FS t S S' ∧ cls S' t 4 0 1 = nI pc ∧ (∀ j, j ≠ 1 → j < 9 → cls S' t 4 0 j = 0) ∧ (∀ k, k < 30 → cls S' t 19 0 k = -1) ∧ ∀ w, w < 4 → cls S' t 21 0 w = 0 := by
  unfold s_X4_reset
  rw [sv_e, sv_e, sv_e, sv_e, sv_e, sv_e, sv_e, sv_e, sv_e]
  generalize hY : u4 (u4 (u4 (u4 (u4 (u4 (u4 (u4 (u4 S 4 t 0 1 (nI pc)) 4 t 0 0 0) 4 t 0 2 0) 4 t 0 3 0) 4 t 0 4 0) 4 t 0 5 0) 4 t 0 6 0) 4 t 0 7 0) 4 t 0 8 0 = Y
  have yF : FS t S Y := by
    rw [← hY]
    exact ((((((((FS.putu rfl (by decide)).trans (FS.putu rfl (by decide))).trans (FS.putu rfl (by decide))).trans (FS.putu rfl (by decide))).trans (FS.putu rfl (by decide))).trans (FS.putu rfl (by decide))).trans (FS.putu rfl (by decide))).trans (FS.putu rfl (by decide))).trans (FS.putu rfl (by decide))
  have yC : cls Y t = us (us (us (us (us (us (us (us (us (cls S t) 4 0 1 (nI pc)) 4 0 0 0) 4 0 2 0) 4 0 3 0) 4 0 4 0) 4 0 5 0) 4 0 6 0) 4 0 7 0) 4 0 8 0 := by rw [← hY, cls_u, cls_u, cls_u, cls_u, cls_u, cls_u, cls_u, cls_u, cls_u]
  obtain ⟨S1, a1, a2, a3⟩ := k_fill (S := Y) (fu := fu) (k := 19) (t := t) (i := 0) (n := 30) (x := -1) (by decide) (by omega)
  obtain ⟨S2, c1, c2, c3⟩ := k_fill (S := S1) (fu := fu) (k := 21) (t := t) (i := 0) (n := 4) (x := 0) (by decide) (by omega)
  rw [a1, bd_s, c1, bd_s]
  have e4 : ∀ j, cls S2 t 4 0 j = cls Y t 4 0 j := fun j => by
    show S2 4 t 0 j = Y 4 t 0 j
    rw [c2 4 t 0 (by omega), a2 4 t 0 (by omega)]
  refine ⟨S2, rfl, (yF.trans (a2.fs (by decide))).trans (c2.fs (by decide)), ?_, fun j h1 h9 => ?_, fun k hk => ?_, fun w hw => c3 w hw⟩
  · rw [e4, yC]; simp [us_app]
  · rw [e4, yC]
    rcases (by omega : j = 0 ∨ j = 2 ∨ j = 3 ∨ j = 4 ∨ j = 5 ∨ j = 6 ∨ j = 7 ∨ j = 8) with rfl | rfl | rfl | rfl | rfl | rfl | rfl | rfl <;> simp [us_app]
  · show S2 19 t 0 k = -1
    rw [c2 19 t 0 (by omega)]
    exact a3 k hk
theorem r_empties_L : ∀ (d j f : Nat) (Z0 Z : S4), j + d = 30 → d < f → (∀ k i w, ¬ (k = 0) → live Z k i w = live Z0 k i w) → FV Z0 Z → (∀ w, w < j → live Z 0 0 w = -1) → ∃ Z', s_X7_empties_L2 fu f (nI j) Z = some Z' ∧ FV Z0 Z' ∧ live Z' 6 0 0 = live Z0 6 0 0 ∧ (∀ w, 1 ≤ w → w < 7 → live Z' 6 0 w = 0) ∧ ∀ w, w < 30 → live Z' 0 0 w = -1 := by
  intro d
  induction d with
  | zero =>
    intro j f Z0 Z hj hf h1 h2 h3
    obtain ⟨f, rfl⟩ : ∃ g, f = g + 1 := ⟨f - 1, by omega⟩
    obtain rfl : j = 30 := by omega
    rw [s_X7_empties_L2, if_pos (by decide), sv_e, sv_e, sv_e, sv_e, sv_e, sv_e]
    have l1 : ∀ Y x, live (u4 Y 7 0 0 8 x) = us (live Y) 6 0 1 x := fun Y x => live_u7 (w := 1) (by decide)
    have l2 : ∀ Y x, live (u4 Y 7 0 0 9 x) = us (live Y) 6 0 2 x := fun Y x => live_u7 (w := 2) (by decide)
    have l3 : ∀ Y x, live (u4 Y 7 0 0 10 x) = us (live Y) 6 0 3 x := fun Y x => live_u7 (w := 3) (by decide)
    have l4 : ∀ Y x, live (u4 Y 7 0 0 11 x) = us (live Y) 6 0 4 x := fun Y x => live_u7 (w := 4) (by decide)
    have l5 : ∀ Y x, live (u4 Y 7 0 0 12 x) = us (live Y) 6 0 5 x := fun Y x => live_u7 (w := 5) (by decide)
    have l6 : ∀ Y x, live (u4 Y 7 0 0 13 x) = us (live Y) 6 0 6 x := fun Y x => live_u7 (w := 6) (by decide)
    refine ⟨_, rfl, ((((((h2.trans (FV.putu rfl rfl)).trans (FV.putu rfl rfl)).trans (FV.putu rfl rfl)).trans (FV.putu rfl rfl)).trans (FV.putu rfl rfl)).trans (FV.putu rfl rfl)), ?_, fun w g1 g2 => ?_, fun w hw => ?_⟩
    · rw [l6, l5, l4, l3, l2, l1, ← h1 6 0 0 (by decide)]; simp [us_app]
    · rw [l6, l5, l4, l3, l2, l1]
      rcases (by omega : w = 1 ∨ w = 2 ∨ w = 3 ∨ w = 4 ∨ w = 5 ∨ w = 6) with rfl | rfl | rfl | rfl | rfl | rfl <;> simp [us_app]
    · rw [l6, l5, l4, l3, l2, l1, us_nk (by decide), us_nk (by decide), us_nk (by decide), us_nk (by decide), us_nk (by decide), us_nk (by decide)]
      exact h3 w hw
  | succ d ih =>
    intro j f Z0 Z hj hf h1 h2 h3
    obtain ⟨f, rfl⟩ : ∃ g, f = g + 1 := ⟨f - 1, by omega⟩
    have e : live (u4 Z 24 0 0 j (-1)) = us (live Z) 0 0 j (-1) := live_zb (by omega)
    rw [s_X7_empties_L2, if_neg (show ¬ (30 : Int32) ≤ nI j from nI_ge (b := 30) (by omega) (by decide)), gd_t (inb_nI (by omega) (by decide)), nI_clamp (by omega), sv_e, nI_1]
    refine ih (j + 1) f Z0 _ (by omega) (by omega) (fun k i w hk => ?_) (h2.trans (FV.putu rfl rfl)) (fun w hw => ?_)
    · rw [e, us_nk hk]; exact h1 k i w hk
    · rw [e]
      by_cases e2 : w = j
      · subst e2; rw [us_self]
      · rw [us_nj e2]; exact h3 w (by omega)
theorem pr_build {p : Int32} (h : GG np T S Z) (hf : 9600 < fu) : PR np T S (s_X6_build fu p S) (s_X7_build fu p Z) [(1, 1)] := by
  obtain ⟨⟨ns, nc, nl, nq, nd, fo, pc, hR⟩, ⟨pn, pe, a1, a2, a3, a4, a5, a6⟩, ⟨b1, b2⟩, h4, h5⟩ := id h
  unfold s_X6_build s_X7_build
  rw [p_isBetween, bd_s, b2_if]
  by_cases h1 : p < 12
  · rw [if_pos h1, if_neg (fun z => absurd h1 (Int32.not_lt.mpr z.1))]
    exact PR.fail h (by simp)
  · rw [if_neg h1]
    by_cases h2 : p ≤ 30
    · obtain ⟨n, hn, rfl⟩ := what_cases (n := 30) (by decide) ⟨Int32.le_trans (by decide) (Int32.not_lt.mp h1), h2⟩
      have hn12 : 12 ≤ n := (nI_leI (a := 12) (b := n) (by decide) (by omega)).mp (Int32.not_lt.mp h1)
      obtain ⟨S1, s1, s2, s3, s4, s5, s6⟩ := k_reset (S := S) (fu := fu) (t := 0) (pc := n) (by omega)
      obtain ⟨Z1, z1, z2, z3, z4, z5⟩ := r_empties_L (fu := fu) 30 0 fu (u4 Z 7 0 0 0 0) (u4 Z 7 0 0 0 0) (by omega) (by omega) (fun _ _ _ _ => rfl) (FV.refl _) (fun w hw => absurd hw (by omega))
      have z1' : s_X7_empties fu (u4 Z 7 0 0 0 0) = some Z1 := z1
      rw [if_pos h2, if_pos ⟨Int32.not_lt.mp h1, h2⟩, s1, bd_s, k_forget, bd_s, sv_e, z1', bd_s, sv_e, sv_e, show S 4 0 0 6 = nI nq from hR.1.2.2.2.2.2.2.2.1, rd_n4 (u4 Z 7 0 0 0 0), live_th, hR.1.1.2.2.2.2.1]
      have x6 : S1 6 = S 6 := by funext t; exact s2 6 t (by simp [stk])
      have st : ∀ t v, t ≠ 0 → RO np T S t v → RO np T S1 t v := fun t v ht hh => hh.of (pln_fs s2) (by
        funext k i j
        exact congrFun (congrFun (s2 k t (fun z => ht z.2)) i) j) rfl
      have ck : ∀ k, k ≠ 6 → ¬ stk k = true → u4 S1 6 0 0 4 0 k = S k := fun k hk hs => by
        funext t i j
        rw [u4_app, if_neg (fun z => hk z.1)]
        exact congrFun (congrFun (s2 k t (fun z => hs z.1)) i) j
      have c6 : ∀ j, j ≠ 4 → u4 S1 6 0 0 4 0 6 0 0 j = S 6 0 0 j := fun j e => by rw [u4_app, if_neg (by omega), x6]
      have hl : live (u4 (u4 Z1 7 0 0 7 (nI n)) 7 0 0 21 0) = us (live Z1) 6 0 0 (nI n) := by
        rw [live_un (by decide) (by decide)]
        exact live_u7 (w := 0) (by decide)
      have hK : ∀ k t i j, ¬ flk k j = true → ¬ (k = 7 ∧ (j = 0 ∨ j = 21)) → u4 (u4 Z1 7 0 0 7 (nI n)) 7 0 0 21 0 k t i j = Z k t i j := fun k t i j hk h7 => by
        have hk7 : ¬ (k = 7 ∧ j = 7) := fun z => hk (by rw [z.1, z.2]; decide)
        rw [u4_app, if_neg (by omega), u4_app, if_neg (by omega), z2 k t i j hk, u4_app, if_neg (by omega)]
      refine ⟨_, _, nI nq, _, rfl, rfl, Or.inl ⟨rfl, ?_⟩, ⟨?_, ⟨0, pe, ?_, ?_, by decide, ?_, a5, fun j hj => absurd hj (by omega)⟩, ⟨?_, ?_⟩, ?_, ?_⟩, (FC.fs s2).trans (FC.putu (by decide))⟩
      · rw [u4_app, if_neg (by omega), u4_app, if_neg (by omega), z2 7 0 0 0 (by decide), th_0]
      · rw [hl]
        refine RO.s6 ⟨0, 0, 0, 0, 0, 0, n, RR_new hn12 hn (us_self _ _ _ _ _) (fun j g1 g2 => ?_) (fun k hk => ?_) s3 s4 (fun k hk => s5 k (by omega)) s6⟩
        · rw [us_nj (by omega)]; exact z4 j g1 g2
        · rw [us_nk (by decide)]; exact z5 k (by omega)
      · rw [u4_app, if_pos ⟨rfl, rfl, rfl, rfl⟩]; rfl
      · rw [u4_app, if_pos ⟨rfl, rfl, rfl, rfl⟩]; rfl
      · rw [c6 5 (by decide)]; exact a4
      · rw [c6 6 (by decide), hK 7 0 0 24 (by decide) (by omega)]; exact b1
      · rw [c6 6 (by decide), rowv_k (show u4 (u4 Z1 7 0 0 7 (nI n)) 7 0 0 21 0 34 = Z 34 from by funext t i j; exact hK 34 t i j (by simp [flk]) (by omega))]
        rcases b2 with b2 | ⟨b2, b3⟩
        · exact Or.inl b2
        · exact Or.inr ⟨b2, (st 2 _ (by decide) b3).s6⟩
      · unfold GT at *
        rw [c6 8 (by decide), ck 23 (by decide) (by simp [stk]), show u4 (u4 Z1 7 0 0 7 (nI n)) 7 0 0 21 0 30 = Z 30 from by funext t i j; exact hK 30 t i j (by simp [flk]) (by omega), hK 7 0 0 16 (by decide) (by omega)]
        exact h4
      · unfold GW GWt at *
        rw [ck 8 (by decide) (by simp [stk]), ck 9 (by decide) (by simp [stk]), show u4 (u4 Z1 7 0 0 7 (nI n)) 7 0 0 21 0 35 = Z 35 from by funext t i j; exact hK 35 t i j (by simp [flk]) (by omega), hK 7 0 0 26 (by decide) (by omega)]
        exact h5
    · rw [if_neg h2, if_neg (fun z => h2 z.2)]
      exact PR.fail h (by simp)
end BU
