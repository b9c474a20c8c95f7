section AS
variable {np fu T : Nat} {S Z : S4}
theorem pr_addPlan (hnp : np + 1 < 2 ^ 31) (hf : 9600 < fu) (h : GG np T S Z) : PR (np + 1) T S (s_X6_addPlan np fu S) (s_X7_addPlan fu Z) [(3, 1), (2, 2)] := by
  obtain ⟨-, -, -, ⟨len, l80, t1, t2, t3⟩, -⟩ := id h
  unfold s_X6_addPlan s_X7_addPlan
  rw [t1, if_neg (show ¬ (80 : Int32) < nI len from nI_nlt (a := 80) l80 (by decide))]
  generalize hS1 : u4 (newR np (nI len) S) 6 0 0 8 0 = S1
  have f1 : ∀ k t a w, ¬ ((k = 2 ∨ k = 3 ∨ (10 ≤ k ∧ k ≤ 13)) ∧ a = np) → ¬ (k = 6 ∧ w = 8) → S1 k t a w = S k t a w := fun k t a w g1 g2 => by
    rw [← hS1, u4_app, if_neg (by omega), newR_ne g1]
  have f8 : S1 6 0 0 8 = nI 0 := by rw [← hS1, u4_app, if_pos ⟨rfl, rfl, rfl, rfl⟩]; rfl
  have n31 : S1 3 0 np 1 = nI 0 := by rw [← hS1, u4_app, if_neg (by omega), newR, w4_self]; rfl
  have n33 : S1 3 0 np 3 = nI len := by rw [← hS1, u4_app, if_neg (by omega), newR, w4_self]; rfl
  have n2 : ∀ j, S1 2 0 np j = if j = 3 then 3 else 0 := fun j => by
    rw [← hS1, u4_app, if_neg (by omega), newR, w4_ne (by omega), w4_ne (by omega), w4_ne (by omega), w4_ne (by omega), w4_ne (by omega), w4_self]
  have n12 : ∀ w, w < 8 → S1 12 0 np w = nI 0 := fun w _ => by
    rw [← hS1, u4_app, if_neg (by omega), newR, w4_ne (by omega), w4_ne (by omega), w4_self]; rfl
  have hT : TX S1 (wat Z 0) np len 0 := ⟨n31, n33, by unfold wat; rw [u4_app, if_pos ⟨rfl, rfl, rfl, rfl⟩], by unfold wat; rw [u4_app, if_neg (by omega)]; exact t2, Nat.zero_le _, l80, fun j hj => by unfold wat; rw [f1 23 0 0 j (by omega) (by omega), u4_app, if_neg (by omega)]; exact t3 j hj⟩
  obtain ⟨x, S2, Z2, a', s1, z1, g1, g2, g3, hSP, hZP, hx⟩ := t_plan (fu := fu) (i := np) (len := len) (by omega) hT (n2 1) (n2 3) n12
  rw [s1, z1, bd_s, bd_s, sv_e, sv_e]
  show PR (np + 1) T S (if x = 0 then some (.inl (-100 - S2 3 0 np 1, S2)) else (s_X2_isPossible fu np (S2 4 0 0 4) S2).bind fun b => if b = 0 then some (.inr (3, S2)) else ((if (5 : Int32) ≤ S2 4 0 0 5 then s_X4_hasPlanFrom (np + 1) fu 0 (S2 2 0 np 0) S2 else some 1)).bind fun h => if h = 0 then some (.inr (2, S2)) else (s_X6_remember (np + 1) fu S2).bind fun Z5 => (s_X4_putPlan (np + 1) fu 0 np Z5).bind fun Z6 => some (.inl (Z6 4 0 0 5, Z6))) (if x = 0 then some (((-100 : Int32) - (u4 (u4 Z2 7 0 0 16 (0 : Int32)) 7 0 0 0 (0 : Int32) 7 0 0 17)), (u4 (u4 Z2 7 0 0 16 (0 : Int32)) 7 0 0 0 (0 : Int32))) else (s_X7_isPossible fu (u4 (u4 Z2 7 0 0 16 (0 : Int32)) 7 0 0 0 (0 : Int32))).bind fun q5 => (if q5 = 0 then (s_X7_fails (1 : Int32) (u4 (u4 Z2 7 0 0 16 (0 : Int32)) 7 0 0 0 (0 : Int32))).bind fun q104 => some (q104.1, q104.2) else s_X7_addPlan_L42 fu fu (0 : Int32) (u4 (u4 Z2 7 0 0 16 (0 : Int32)) 7 0 0 0 (0 : Int32)))) [(3, 1), (2, 2)]
  generalize hZ3 : u4 (u4 Z2 7 0 0 16 (0 : Int32)) 7 0 0 0 (0 : Int32) = Z3
  have z30 : Z3 7 0 0 0 = 0 := by rw [← hZ3, u4_app, if_pos ⟨rfl, rfl, rfl, rfl⟩]
  have z3k : ∀ k t a w, ¬ (k = 7 ∧ (w = 0 ∨ w = 16)) → Z3 k t a w = Z2 k t a w := fun k t a w hn => by
    rw [← hZ3, u4_app, if_neg (by omega), u4_app, if_neg (by omega)]
  have hG : GG (np + 1) T S2 Z3 := by
    refine h.rd (fun k t a w h1 h2 => ?_) ?_ (fun k t a w h1 h2 => ?_) ?_
    · rw [hSP k t a w h1, f1 k t a w h1 h2]
    · rw [hSP 6 0 0 8 (by omega)]; exact f8
    · rw [z3k k t a w (by omega), hZP k t a w (by omega) h1]
    · rw [← hZ3, u4_app, if_neg (by omega), u4_app, if_pos ⟨rfl, rfl, rfl, rfl⟩]; rfl
  have hC : FC S S2 := fun k hk => by
    funext t a w
    have e : ¬ (k = 2 ∨ k = 3 ∨ (10 ≤ k ∧ k ≤ 13)) ∧ k ≠ 6 := by
      simp only [mdk, decide_eq_true_eq] at hk
      omega
    rw [hSP k t a w (fun z => e.1 z.1), f1 k t a w (fun z => e.1 z.1) (fun z => e.2 z.1)]
  rcases hx with rfl | ⟨rfl, hD⟩
  · rw [if_pos rfl, if_pos rfl, g1, z3k 7 0 0 17 (by omega), g2]
    exact ⟨_, S2, _, Z3, rfl, rfl, Or.inl ⟨rfl, z30⟩, hG, hC⟩
  · rw [if_neg (show ¬ (1 : Int32) = 0 by decide), if_neg (show ¬ (1 : Int32) = 0 by decide)]
    have hD3 : PD S2 Z3 np := hD.z (by funext t a w; exact z3k 31 t a w (by omega))
    clear hD
    obtain ⟨⟨ns, nc, nl, nq, nd, fo, pc, hR⟩, -⟩ := id hG
    have hnl : nl ≤ 5 := hR.1.1.2.2.2.2.2.2.2.2.2.2.1
    have hnc : nc ≤ 8 := hR.1.1.2.2.2.2.2.2.2.2.2.1
    have hl3 : live Z3 6 0 3 = nI nl := hR.1.1.2.2.2.1
    have h45 : cls S2 0 4 0 5 = nI nl := hR.1.2.2.2.2.2.2.1
    have hpl : ∀ p, p < nl → ∃ i, i < np + 1 ∧ cls S2 0 17 0 p = nI i ∧ PM (pln S2) (live Z3) i p := fun p hp => (hR.2.2.2.1.1 p hp).2.2
    have hso : ∀ a b, a < b → b < nl → live Z3 3 a 0 < live Z3 3 b 0 := hR.2.2.2.1.2
    obtain ⟨b, b1, b2, b3⟩ := t_possible (fu := fu) (by omega) hD3 hR.1.1.2.2.1 hnc
    rw [show S2 4 0 0 4 = nI nc from hR.1.2.2.2.2.2.1, b1, b2, bd_s, bd_s]
    rcases b3 with rfl | ⟨rfl, hok⟩
    · rw [if_pos rfl, if_pos rfl]
      exact (PR.fail hG (by simp)).fc hC
    · rw [if_neg (show ¬ (1 : Int32) = 0 by decide), if_neg (show ¬ (1 : Int32) = 0 by decide), show S2 4 0 0 5 = nI nl from h45]
      generalize hff : Z3 31 0 0 0 = f
      have e0 : S2 2 0 np 0 = f := by
        obtain ⟨t, R, e, b, ht, r1, r8, he, hb, x0, y0, -⟩ := hD3
        rw [x0, ← hff, y0]
      obtain ⟨k1, k2⟩ := k_hasPlanFrom (np := np + 1) (fu := fu) (f := f) h45 hnl hnp hpl hso (by omega)
      have i0 : inb (0 : Int32) 52 := inb_nI (n := 0) (by decide) (by decide)
      have hz31 : Z3 31 0 0 (0 : Int32).toNatClampNeg = f := hff
      rw [e0]
      -- the first place whose plan is not earlier
      have hit : ∀ q, pof (live Z3) f nl = some q → live Z3 3 q 0 = f → PR (np + 1) T S ((if (5 : Int32) ≤ nI nl then s_X4_hasPlanFrom (np + 1) fu 0 f S2 else some 1).bind fun h => if h = 0 then some (.inr (2, S2)) else (s_X6_remember (np + 1) fu S2).bind fun Z5 => (s_X4_putPlan (np + 1) fu 0 np Z5).bind fun Z6 => some (.inl (Z6 4 0 0 5, Z6))) (s_X7_addPlan_L42 fu fu 0 Z3) [(3, 1), (2, 2)] := by
        intro q hq hqf
        have hql := pof_lt hq
        have e1 : (if (5 : Int32) ≤ nI nl then s_X4_hasPlanFrom (np + 1) fu 0 f S2 else some 1) = some 1 := by
          rw [k2 q hq, if_pos hqf]; split <;> rfl
        have go := L42_go (fu := fu) (p := q) (f0 := f) hl3 hnl hff (by omega) (fun j hj => by rw [← hqf]; exact hso j q hj hql) q 0 fu (by omega) (by omega)
        have go' : s_X7_addPlan_L42 fu fu 0 Z3 = _ := go
        obtain ⟨g, hg⟩ : ∃ g, fu - q = g + 1 := ⟨fu - q - 1, by omega⟩
        rw [e1, bd_s, if_neg (show ¬ (1 : Int32) = 0 by decide), go', hg, s_X7_addPlan_L42, rd_n3 Z3, hl3, if_neg (nI_ge hql (by omega)), q_ofPlan (by omega) (by decide), bd_s, gd_t i0, hz31, show live Z3 3 q 0 = f from hqf, if_pos (show f ≤ f by grind), if_neg (nI_ge hql (by omega)), bd_s, gd_t i0, if_pos rfl, bd_s, if_neg (show ¬ (1 : Int32) = 0 by decide)]
        exact (put_hit hG hnp hf (Nat.lt_succ_self _) hR hD3 hok hff hq hqf z30).fc hC
      have miss : ∀ p, pofc (pof (live Z3) f nl) = p → p ≤ nl → (∀ q, pof (live Z3) f nl = some q → live Z3 3 q 0 ≠ f) → (∀ j, j < p → live Z3 3 j 0 < f) → (∀ j, p ≤ j → j < nl → f < live Z3 3 j 0) → PR (np + 1) T S ((if (5 : Int32) ≤ nI nl then s_X4_hasPlanFrom (np + 1) fu 0 f S2 else some 1).bind fun h => if h = 0 then some (.inr (2, S2)) else (s_X6_remember (np + 1) fu S2).bind fun Z5 => (s_X4_putPlan (np + 1) fu 0 np Z5).bind fun Z6 => some (.inl (Z6 4 0 0 5, Z6))) (s_X7_addPlan_L42 fu fu 0 Z3) [(3, 1), (2, 2)] := by
        intro p hp hpn hne hlo hhi
        have h0 : s_X4_hasPlanFrom (np + 1) fu 0 f S2 = some 0 := by
          cases e : pof (live Z3) f nl with
          | none => exact k1 e
          | some q => rw [k2 q e, if_neg (hne q e)]
        have go := L42_go (fu := fu) (p := p) (f0 := f) hl3 hnl hff hpn hlo p 0 fu (by omega) (by omega)
        have go' : s_X7_addPlan_L42 fu fu 0 Z3 = _ := go
        obtain ⟨g, hg⟩ : ∃ g, fu - p = g + 1 := ⟨fu - p - 1, by omega⟩
        have here : s_X7_addPlan_L42 fu (g + 1) (nI p) Z3 = (if nI nl = (5 : Int32) then (s_X7_fails (2 : Int32) Z3).bind fun q50 => some (q50.1, q50.2) else (s_X7_remembers fu Z3).bind fun Z32 => s_X7_addPlan_L137 fu fu (nI p) (((52 : Int32) * (Z32 7 0 0 10)) - (1 : Int32)) Z32) := by
          rw [s_X7_addPlan_L42, rd_n3 Z3, hl3]
          by_cases e : p = nl
          · rw [if_pos (nI_le (by omega) (by omega)), if_pos (nI_le (by omega) (by omega)), bd_s, if_pos rfl]
            rfl
          · have hh := hhi p (Nat.le_refl _) (by omega)
            rw [if_neg (nI_ge (by omega) (by omega)), q_ofPlan (by omega) (by decide), bd_s, gd_t i0, hz31, if_pos (show f ≤ live Z3 3 p 0 by grind), if_neg (nI_ge (by omega) (by omega)), bd_s, gd_t i0, if_neg (show ¬ live Z3 3 p 0 = f by grind), bd_s, if_pos rfl]
            rfl
        rw [h0, go', hg, here]
        by_cases e5 : nl = 5
        · subst e5
          rw [if_pos (show (5 : Int32) ≤ nI 5 by decide), bd_s, if_pos rfl, if_pos (show nI 5 = (5 : Int32) from rfl)]
          exact (PR.fail hG (by simp)).fc hC
        · rw [if_neg (show ¬ (5 : Int32) ≤ nI nl from nI_ge (b := 5) (by omega) (by decide)), bd_s, if_neg (show ¬ (1 : Int32) = 0 by decide), if_neg (show ¬ nI nl = (5 : Int32) from fun z => e5 (nI_inj (b := 5) z (by omega) (by decide)))]
          exact (put_miss hG hnp hf (Nat.lt_succ_self _) hR hD3 hok hff hp hne hpn (by omega) hlo hhi z30).fc hC
      cases e : pof (live Z3) f nl with
      | none => exact miss 0 (by rw [e]; rfl) (Nat.zero_le _) (fun q hq => by rw [e] at hq; cases hq) (fun j hj => absurd hj (by omega)) (fun j _ hj => pof_none e j hj)
      | some q =>
        obtain ⟨h1, h2⟩ := pof_some e
        have hql := pof_lt e
        by_cases hqf : live Z3 3 q 0 = f
        · exact hit q e hqf
        · refine miss (q + 1) (by rw [e]; rfl) (by omega) (fun q' hq => by rw [e] at hq; cases hq; exact hqf) (fun j hj => ?_) (fun j g1 g2 => h2 j (by omega) g2)
          by_cases ej : j = q
          · subst ej; grind
          · have := hso j q (by omega) hql; grind
end AS
