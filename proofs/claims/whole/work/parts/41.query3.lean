section QP
variable {np fu T : Nat} {S Z : S4}
theorem k_dwr_L {i p m : Nat} {v : Vw} (hM : PM (pln S) v i p) (hm : v 3 p 1 = nI m) (h8 : m ≤ 8) (hf : 8 < fu) : ∀ (d k f : Nat), k + d = 100 → d < f → s_X2_destinationsWithoutRule_L4 fu i S f (sm (fun x => b2 (rul v p (nI x) m 0 = none)) k) (nI k) = some (sm (fun x => b2 (rul v p (nI x) m 0 = none)) 100) := by
  intro d
  induction d with
  | zero =>
    intro k f hk hf'
    obtain ⟨f, rfl⟩ : ∃ g, f = g + 1 := ⟨f - 1, by omega⟩
    obtain rfl : k = 100 := by omega
    rw [s_X2_destinationsWithoutRule_L4, if_pos (by decide)]
  | succ d ih =>
    intro k f hk hf'
    obtain ⟨f, rfl⟩ : ∃ g, f = g + 1 := ⟨f - 1, by omega⟩
    have h9 := ih (k + 1) f (by omega) (by omega)
    rw [sm] at h9
    rw [s_X2_destinationsWithoutRule_L4, if_neg (show ¬ (100 : Int32) ≤ nI k from nI_ge (b := 100) (by omega) (by decide)), k_ruleOf hM hm h8 hf, bd_s, nI_1]
    cases hr : rul v p (nI k) m 0 with
    | none =>
      rw [b2_t hr] at h9
      rw [show cd none = (-1 : Int32) from rfl, if_pos rfl]
      exact h9
    | some r =>
      have hrl := rul_lt hr
      rw [b2_f (by rw [hr]; intro z; cases z), show ∀ y : Int32, y + 0 = y from fun y => by grind] at h9
      rw [show cd (some r) = nI r from rfl, if_neg (nI_m1 (by omega))]
      exact h9
theorem r_dwr_L {p m : Nat} {w : Int32} {Z : S4} (hp : p < 5) (hm : live Z 3 p 1 = nI m) (h8 : m ≤ 8) (hf : 8 < fu) : ∀ (d k f : Nat), k + d = 100 → d < f → s_X7_plan_L51 fu (nI p) w f (sm (fun x => b2 (rul (live Z) p (nI x) m 0 = none)) k) (nI k) Z = some (sm (fun x => b2 (rul (live Z) p (nI x) m 0 = none)) 100, Z) := by
  intro d
  induction d with
  | zero =>
    intro k f hk hf'
    obtain ⟨f, rfl⟩ : ∃ g, f = g + 1 := ⟨f - 1, by omega⟩
    obtain rfl : k = 100 := by omega
    rw [s_X7_plan_L51, if_pos (by decide)]
  | succ d ih =>
    intro k f hk hf'
    obtain ⟨f, rfl⟩ : ∃ g, f = g + 1 := ⟨f - 1, by omega⟩
    have h9 := ih (k + 1) f (by omega) (by omega)
    rw [sm] at h9
    rw [s_X7_plan_L51, if_neg (show ¬ (100 : Int32) ≤ nI k from nI_ge (b := 100) (by omega) (by decide)), r_ruleFor hp hm h8 hf, bd_s, nI_1]
    cases hr : rul (live Z) p (nI k) m 0 with
    | none =>
      rw [b2_t hr] at h9
      rw [show cd none = (-1 : Int32) from rfl, if_neg (by decide), bd_s]
      exact h9
    | some r =>
      have hrl := rul_lt hr
      rw [b2_f (by rw [hr]; intro z; cases z)] at h9
      rw [show cd (some r) = nI r from rfl, if_pos (nI_pos' (by omega)), bd_s]
      exact h9
theorem pr_plan {p w : Int32} (h : GG np T S Z) (hnp : np < 2 ^ 31) (hf : 100 < fu) : PR np T S (s_X6_plan np fu p w S) (s_X7_plan fu p w Z) [(5, 1), (1, 2)] := by
  obtain ⟨⟨ns, nc, nl, nq, nd, fo, pc, hR⟩, -⟩ := id h
  obtain ⟨⟨⟨a1, a2, a3, a4, a5, a6, b1, b2', b3, b4, b5, b6, b7⟩, d0, d1, d2, d3, d4, d5, d6, d7, d8, -⟩, hS, hCh, hL, hP, hB, hG, hK⟩ := id hR
  unfold s_X6_plan s_X7_plan s_X7_isPlan
  rw [show S 4 0 0 5 = nI nl from d5, rd_n3 Z, a4]
  rcases pk_ix p (n := nl) (by omega) with hx | hx | ⟨q, hq, rfl⟩
  · rw [rq_bad (Or.inl hx), tb_ir, isX_bad (Or.inl hx), bd_s, if_pos rfl]
    exact PR.fail h (by simp)
  · rw [rq_bad (Or.inr hx), tb_ir, isX_bad (Or.inr hx), bd_s, if_pos rfl]
    exact PR.fail h (by simp)
  · rw [rq_ok hq (by omega), tb_il, isX_ok hq (by omega), bd_s, if_neg (show ¬ (1 : Int32) = 0 by decide), p_isBetween, bd_s, b2_if]
    by_cases hw : 0 ≤ w ∧ w ≤ 4
    · obtain ⟨⟨m, x, hm, hm8, -⟩, -, i, hi, hi17, hM⟩ := hL.1 q hq
      rw [rw_ok hw, tb_il, if_pos hw, gd_t (inb_nI (by omega) (by decide)), nI_clamp (by omega), sv_e, show S 17 0 0 q = nI i from hi17, pcd_nI (by omega), if_neg (by intro z; cases z), bd_s, gd_t hi, rk2 S, rk2 S, rk2 S, rk2 S, hM.1, hM.2.1, hM.2.2.1, hM.2.2.2.1]
      obtain ⟨j, hj, rfl⟩ := what_cases (n := 4) (by decide) hw
      rcases (by omega : j = 0 ∨ j = 1 ∨ j = 2 ∨ j = 3 ∨ j = 4) with rfl | rfl | rfl | rfl | rfl
      · rw [if_pos (by decide), if_neg (by decide), n_ofPlan (by omega) (by decide), bd_s, live_th]
        exact PR.ok h
      · rw [if_neg (by decide), if_pos (by decide), if_neg (by decide), n_ofPlan (by omega) (by decide), bd_s, live_th]
        exact PR.ok h
      · rw [if_neg (by decide), if_neg (by decide), if_pos (by decide), if_neg (by decide), n_ofPlan (by omega) (by decide), bd_s, live_th]
        exact PR.ok h
      · rw [if_neg (by decide), if_neg (by decide), if_neg (by decide), if_pos (by decide), if_neg (by decide), n_ofPlan (by omega) (by decide), bd_s, live_th]
        exact PR.ok h
      · have e1 : s_X2_destinationsWithoutRule fu i S = some (sm (fun x => b2 (rul (live Z) q (nI x) m 0 = none)) 100) := k_dwr_L hM hm hm8 (by omega) 100 0 fu (by omega) (by omega)
        have e2 := r_dwr_L (Z := u4 Z 7 0 0 0 0) (fu := fu) (p := q) (m := m) (w := nI 4) (by omega) (by rw [live_th]; exact hm) hm8 (by omega) 100 0 fu (by omega) (by omega)
        rw [live_th] at e2
        have e3 : s_X7_plan_L51 fu (nI q) (nI 4) fu 0 0 (u4 Z 7 0 0 0 0) = some (sm (fun x => b2 (rul (live Z) q (nI x) m 0 = none)) 100, u4 Z 7 0 0 0 0) := e2
        rw [if_neg (by decide), if_neg (by decide), if_neg (by decide), if_neg (by decide), e1, bd_s, if_pos (by decide), e3]
        exact PR.ok h
    · rw [rw_bad hw, tb_ir, if_neg hw]
      exact PR.fail h (by simp)
theorem pr_route {p1 p2 p3 : Int32} (h : GG np T S Z) (hnp : np < 2 ^ 31) (hf : 100 < fu) : PR np T S (s_X6_route np fu p1 p2 p3 S) (s_X7_route fu p1 p2 p3 Z) [(1, 1), (2, 2), (4, 3)] := by
  obtain ⟨⟨ns, nc, nl, nq, nd, fo, pc, hR⟩, -⟩ := id h
  obtain ⟨⟨⟨a1, a2, a3, a4, a5, a6, b1, b2', b3, b4, b5, b6, b7⟩, d0, d1, d2, d3, d4, d5, d6, d7, d8, -⟩, hS, hCh, hL, hP, hB, hG, hK⟩ := id hR
  unfold s_X6_route s_X7_route
  by_cases h1 : p1 < 0
  · rw [if_pos h1, if_pos h1]
    exact PR.fail h (by simp)
  · rw [if_neg h1, if_neg h1, k_isIn, bd_s, b2_if, p_isBetween, bd_s, b2_if]
    by_cases h2 : 0 ≤ p2 ∧ p2 ≤ 99
    · obtain ⟨k1, k2⟩ := k_planOf (S := S) (t := 0) (np := np) (fu := fu) (tick := p1) d5 b5 hnp (fun p hp => (hL.1 p hp).2.2) hL.2 (by omega)
      rw [if_pos h2, if_pos h2, r_planOf a4 b5 (by omega), bd_s]
      cases hpo : pof (live Z) p1 nl with
      | none =>
        rw [k1 hpo, bd_s, if_pos rfl, show cd none = (-1 : Int32) from rfl, if_neg (by decide)]
        exact PR.fail h (by simp)
      | some p =>
        have hpl := pof_lt hpo
        obtain ⟨i, hi, e1, hM⟩ := k2 p hpo
        obtain ⟨m, x, hm, hm8, hx, hcc, hrr⟩ := (hL.1 p hpl).1
        rw [e1, bd_s, if_neg (by intro z; cases z), bd_s, gd_t hi, k_ruleOf hM hm hm8 (by omega), bd_s, show cd (some p) = nI p from rfl, if_pos (nI_pos' (by omega)), r_ruleFor (by omega) hm hm8 (by omega), bd_s]
        cases hr : rul (live Z) p p2 m 0 with
        | none =>
          rw [show cd none = (-1 : Int32) from rfl, if_pos rfl, if_pos (by decide)]
          exact PR.fail h (by simp)
        | some r =>
          have hrl := rul_lt hr
          obtain ⟨n, hVR⟩ := hrr r (by omega)
          have hn3 := hVR.2.1
          have gg := hM.2.2.2.2
          rw [hm, nI_clamp (by omega)] at gg
          obtain ⟨-, -, e3, -⟩ := gg r (by omega)
          rw [show cd (some r) = nI r from rfl, if_neg (nI_m1 (by omega)), if_neg (nI_pos (by omega)), q_ofRule (by omega) (by omega) (by decide), bd_s, p_isBetween, bd_s, b2_if, hVR.1]
          have e12 : S 12 0 i (nI r).toNatClampNeg = nI n := by rw [nI_clamp (by omega), rk12 S, e3, hVR.1]
          by_cases h3 : p3 < -1
          · rw [if_pos h3, if_neg (fun z => absurd h3 (Int32.not_lt.mpr z.1))]
            exact PR.fail h (by simp)
          · rw [if_neg h3, gd_t (inb_nI (by omega) (by decide)), e12]
            by_cases h4 : p3 = -1
            · subst h4
              rw [if_pos (show (-1 : Int32) < nI n from by have := nI_pos' (n := n) (by omega); grind), if_pos rfl, gd_t (inb_nI (by omega) (by decide)), if_pos (show (-1 : Int32) ≤ -1 ∧ (-1 : Int32) ≤ nI n - 1 from ⟨by decide, by
                cases n with
                | zero => decide
                | succ n => rw [nI_pred]; have := nI_pos' (n := n) (by omega); grind⟩), sv_e, if_neg (by decide), bd_s, q_ofRule (by omega) (by omega) (by decide), bd_s, live_th, hVR.1]
              exact PR.ok h
            · have h0 : ¬ p3 < 0 := by grind
              rcases pk_ix p3 (n := n) (by omega) with hx | hx | ⟨k, hk, rfl⟩
              · exact absurd hx h0
              · rw [if_neg (Int32.not_lt.mpr hx), if_neg (fun z => by
                  obtain ⟨z1, z2⟩ := z
                  by_cases hz : n = 0
                  · subst hz
                    have : nI 0 - 1 = (-1 : Int32) := by decide
                    rw [this] at z2
                    exact h4 (Int32.le_antisymm z2 z1)
                  · rw [show nI n - 1 = nI (n - 1) from pk_sub (a := n) (b := 1) (by omega)] at z2
                    obtain ⟨j, hj, rfl⟩ := what_cases (n := n - 1) (by omega) ⟨Int32.not_lt.mp h0, z2⟩
                    have := (nI_leI (a := n) (b := j) (by omega) (by omega)).mp hx
                    omega)]
                exact PR.fail h (by simp)
              · rw [if_pos (nI_lt hk (by omega)), if_neg h4, k_chuteIn hM hm hm8 (by omega) hVR hk, bd_s, if_pos ⟨Int32.not_lt.mp h3, by rw [show nI n - 1 = nI (n - 1) from pk_sub (a := n) (b := 1) (by omega)]; exact nI_le (by omega) (by omega)⟩, sv_e, if_pos (nI_pos' (by omega)), bd_s, show (3 : Int32) + nI k = nI (3 + k) from nI_add 3 k, n_ofRule (by omega) (by omega) (by omega), bd_s, live_th]
                exact PR.ok h
    · rw [if_neg h2, if_neg h2]
      exact PR.fail h (by simp)
end QP
