section QR
variable {np fu T : Nat} {S Z : S4}
theorem pr_chute {p w : Int32} (h : GG np T S Z) (hf : 60 < fu) : PR np T S (s_X6_chute fu p w S) (s_X7_chute fu p w Z) [(5, 1), (1, 2)] := by
  obtain ⟨⟨ns, nc, nl, nq, nd, fo, pc, hR⟩, -⟩ := id h
  obtain ⟨⟨⟨a1, a2, a3, a4, a5, a6, b1, b2', b3, b4, b5, b6, b7⟩, d0, d1, d2, d3, d4, d5, d6, d7, d8, -⟩, hS, hCh, hL, hP, hB, hG, hK⟩ := id hR
  unfold s_X6_chute s_X7_chute s_X7_isChute
  rw [show S 4 0 0 4 = nI nc from d4, rd_n2 Z, a3]
  rcases pk_ix p (n := nc) (by omega) with hx | hx | ⟨c, hc, rfl⟩
  · rw [rq_bad (Or.inl hx), tb_ir, isX_bad (Or.inl hx), bd_s, if_pos rfl]
    exact PR.fail h (by simp)
  · rw [rq_bad (Or.inr hx), tb_ir, isX_bad (Or.inr hx), bd_s, if_pos rfl]
    exact PR.fail h (by simp)
  · rw [rq_ok hc (by omega), tb_il, isX_ok hc (by omega), bd_s, if_neg (by decide), p_isBetween, bd_s, b2_if]
    by_cases hw : 0 ≤ w ∧ w ≤ 11
    · rw [rw_ok hw, tb_il, if_pos hw, gd_t (inb_nI (by omega) (by decide)), nI_clamp (by omega), sv_e]
      obtain ⟨g1, -, -, -, g9, -⟩ := hCh c hc
      obtain ⟨j, hj, rfl⟩ := what_cases (n := 11) (by decide) hw
      have gv : ∀ j, j < 15 → S 0 0 c j = live Z 2 c j := g1
      have g4 : ∀ j, nI j + (4 : Int32) = nI (j + 4) := fun j => nI_add j 4
      rcases (by omega : j = 0 ∨ j = 1 ∨ j = 2 ∨ j = 3 ∨ j = 4 ∨ j = 5 ∨ j = 6 ∨ j = 7 ∨ j = 8 ∨ j = 9 ∨ j = 10 ∨ j = 11) with rfl | rfl | rfl | rfl | rfl | rfl | rfl | rfl | rfl | rfl | rfl | rfl
      · rw [if_pos (by decide), if_pos (by decide), q_ofChute (by omega) (by decide), bd_s, live_th, gv 0 (by decide)]
        exact PR.ok h
      · rw [if_neg (by decide), if_pos (by decide), if_neg (by decide), if_pos (by decide), q_ofChute (by omega) (by decide), bd_s, live_th, gv 6 (by decide)]
        exact PR.ok h
      · rw [if_neg (by decide), if_neg (by decide), if_pos (by decide), if_neg (by decide), if_neg (by decide), if_pos (by decide), q_ofChute (by omega) (by decide), bd_s, live_th, gv 7 (by decide)]
        exact PR.ok h
      · rw [if_neg (by decide), if_neg (by decide), if_neg (by decide), if_pos (by decide), if_neg (by decide), if_neg (by decide), if_neg (by decide), if_pos (by decide), q_ofChute (by omega) (by decide), bd_s, live_th, gv 8 (by decide)]
        exact PR.ok h
      · rw [if_neg (by decide), if_neg (by decide), if_neg (by decide), if_neg (by decide), if_pos (by decide), gv 9 (by decide)]
        have e0 : (if live Z 2 c 9 = 0 then some (Sum.inl ((0 : Int32), S)) else some (.inl (1, S)) : Option ((Int32 × S4) ⊕ (Nat × S4))) = some (.inl (live Z 2 c 9, S)) := by
          rcases g9 with g9 | g9
          · rw [g9, if_pos rfl]
          · rw [g9, if_neg (by decide)]
        rw [e0, if_neg (by decide), if_neg (by decide), if_neg (by decide), if_neg (by decide), if_pos (by decide), q_ofChute (by omega) (by decide), bd_s, live_th]
        exact PR.ok h
      · rw [if_neg (by decide), if_neg (by decide), if_neg (by decide), if_neg (by decide), if_neg (by decide), if_pos (by decide), if_neg (by decide), if_neg (by decide), if_neg (by decide), if_neg (by decide), if_neg (by decide), if_pos (by decide), k_isUsable g1, bd_s, b2_if, r_isUsable (by omega), bd_s, b2_if, live_th]
        by_cases u : usbl (live Z) c
        · rw [if_pos u, if_pos u]; exact PR.ok h
        · rw [if_neg u, if_neg u]; exact PR.ok h
      · rw [if_neg (by decide), if_neg (by decide), if_neg (by decide), if_neg (by decide), if_neg (by decide), if_neg (by decide), if_pos (by decide), if_neg (by decide), if_neg (by decide), if_neg (by decide), if_neg (by decide), if_neg (by decide), if_neg (by decide), if_pos (by decide), g4, n_ofChute (by omega) (by decide), bd_s, live_th, gv 10 (by decide)]
        exact PR.ok h
      · rw [if_neg (by decide), if_neg (by decide), if_neg (by decide), if_neg (by decide), if_neg (by decide), if_neg (by decide), if_neg (by decide), if_pos (by decide), if_neg (by decide), if_neg (by decide), if_neg (by decide), if_neg (by decide), if_neg (by decide), if_neg (by decide), if_neg (by decide), if_pos (by decide), g4, n_ofChute (by omega) (by decide), bd_s, live_th, gv 11 (by decide)]
        exact PR.ok h
      · rw [if_neg (by decide), if_neg (by decide), if_neg (by decide), if_neg (by decide), if_neg (by decide), if_neg (by decide), if_neg (by decide), if_neg (by decide), if_pos (by decide), if_neg (by decide), if_neg (by decide), if_neg (by decide), if_neg (by decide), if_neg (by decide), if_neg (by decide), if_neg (by decide), if_neg (by decide), if_pos (by decide), g4, n_ofChute (by omega) (by decide), bd_s, live_th, gv 12 (by decide)]
        exact PR.ok h
      · rw [if_neg (by decide), if_neg (by decide), if_neg (by decide), if_neg (by decide), if_neg (by decide), if_neg (by decide), if_neg (by decide), if_neg (by decide), if_neg (by decide), if_pos (by decide), if_neg (by decide), if_neg (by decide), if_neg (by decide), if_neg (by decide), if_neg (by decide), if_neg (by decide), if_neg (by decide), if_neg (by decide), if_neg (by decide), if_pos (by decide), g4, n_ofChute (by omega) (by decide), bd_s, live_th, gv 13 (by decide)]
        exact PR.ok h
      · rw [if_neg (by decide), if_neg (by decide), if_neg (by decide), if_neg (by decide), if_neg (by decide), if_neg (by decide), if_neg (by decide), if_neg (by decide), if_neg (by decide), if_neg (by decide), if_pos (by decide), if_neg (by decide), if_neg (by decide), if_neg (by decide), if_neg (by decide), if_neg (by decide), if_neg (by decide), if_neg (by decide), if_neg (by decide), if_neg (by decide), if_neg (by decide), if_pos (by decide), g4, n_ofChute (by omega) (by decide), bd_s, live_th, gv 14 (by decide)]
        exact PR.ok h
      · have e1 : s_X4_parcelsAimedAt fu 0 (nI c) S = some (sm (fun p => b2 (live Z 4 p 7 = nI c)) nq) := k_aimed_L d6 b6 (fun p hp => (hP p hp).1 7 (by decide) (by decide)) nq 0 fu (by omega) (by omega)
        have e2 : s_X7_aimedAt fu (nI c) (u4 Z 7 0 0 0 0) = some (sm (fun p => b2 (live (u4 Z 7 0 0 0 0) 4 p 7 = nI c)) nq) := r_aimed_L (by rw [live_th]; exact a5) b6 nq 0 fu (by omega) (by omega)
        rw [live_th] at e2
        rw [if_neg (by decide), if_neg (by decide), if_neg (by decide), if_neg (by decide), if_neg (by decide), if_neg (by decide), if_neg (by decide), if_neg (by decide), if_neg (by decide), if_neg (by decide), if_neg (by decide), e1, bd_s, if_neg (by decide), if_neg (by decide), if_neg (by decide), if_neg (by decide), if_neg (by decide), if_neg (by decide), if_neg (by decide), if_neg (by decide), if_neg (by decide), if_neg (by decide), if_neg (by decide), if_pos (by decide), e2, bd_s]
        exact PR.ok h
    · rw [rw_bad hw, tb_ir, if_neg hw]
      exact PR.fail h (by simp)
theorem pr_count {w : Int32} (h : GG np T S Z) (hT : T < 2 ^ 31) (hf : 60 < fu) : PR np T S (s_X6_count fu w S) (s_X7_count fu w Z) [(1, 1)] := by
  obtain ⟨⟨ns, nc, nl, nq, nd, fo, pc, hR⟩, -⟩ := id h
  obtain ⟨⟨⟨a1, a2, a3, a4, a5, a6, b1, b2', b3, b4, b5, b6, b7⟩, d0, d1, d2, d3, d4, d5, d6, d7, d8, -⟩, hS, hCh, hL, hP, hB, hG, k1, k2, k3, k4, k5, k6, k7, k8⟩ := id hR
  unfold s_X6_count s_X7_count
  rw [p_isBetween, bd_s, b2_if]
  by_cases hw : 0 ≤ w ∧ w ≤ 16
  · rw [rw_ok hw, tb_il, if_pos hw, sv_e]
    obtain ⟨j, hj, rfl⟩ := what_cases (n := 16) (by decide) hw
    have lt : live (u4 Z 7 0 0 0 0) = live Z := live_th
    have c6 : live (u4 Z 7 0 0 0 0) 6 0 4 = nI nq := by rw [lt]; exact a5
    have fin : ∀ (A : Option ((Int32 × S4) ⊕ (Nat × S4))) (B : Option (Int32 × S4)) (x : Int32), A = some (.inl (x, S)) → B = some (x, u4 Z 7 0 0 0 0) → PR np T S A B [(1, 1)] := fun A B x hA hB => by rw [hA, hB]; exact PR.ok h
    have wi : ∀ (w : Nat) (x : Int32), w < 12 → s_X7_parcelsWith fu (nI w) x (u4 Z 7 0 0 0 0) = some (sm (fun p => b2 (live Z 4 p w = x)) nq) := fun w x hw => by rw [← lt]; exact r_with c6 b6 hw hf
    have csum : ∀ (w : Nat), w < 15 → s_X7_sumOfChutes fu (nI w) (u4 Z 7 0 0 0 0) = some (sm (fun c => live Z 2 c w) nc) := fun w hw => by rw [← lt]; exact r_chsum (by rw [lt]; exact a3) b4 hw hf
    have krn : ∀ p, p < nq → s_X1_rounds 0 p S = some (rnd (live Z) p) := fun p hp => k_rnd ((hP p hp).1 6 (by decide) (by decide)) (hP p hp).2.1 hT
    rcases (by omega : j = 0 ∨ j = 1 ∨ j = 2 ∨ j = 3 ∨ j = 4 ∨ j = 5 ∨ j = 6 ∨ j = 7 ∨ j = 8 ∨ j = 9 ∨ j = 10 ∨ j = 11 ∨ j = 12 ∨ j = 13 ∨ j = 14 ∨ j = 15 ∨ j = 16) with rfl | rfl | rfl | rfl | rfl | rfl | rfl | rfl | rfl | rfl | rfl | rfl | rfl | rfl | rfl | rfl | rfl
    · exact fin _ _ (live Z 6 0 6) (by rw [if_pos (by decide), show S 4 0 0 0 = live Z 6 0 6 from d0]) (by rw [if_pos (by decide), rd_n6 (u4 Z 7 0 0 0 0), lt])
    · exact fin _ _ (nI pc) (by rw [if_neg (by decide), if_pos (by decide), show S 4 0 0 1 = nI pc from d1]) (by rw [if_neg (by decide), if_pos (by decide), rd_n0 (u4 Z 7 0 0 0 0), lt, a1])
    · exact fin _ _ (nI ns) (by rw [if_neg (by decide), if_neg (by decide), if_pos (by decide), show S 4 0 0 3 = nI ns from d3]) (by rw [if_neg (by decide), if_neg (by decide), if_pos (by decide), rd_n1 (u4 Z 7 0 0 0 0), lt, a2])
    · exact fin _ _ (nI nc) (by rw [if_neg (by decide), if_neg (by decide), if_neg (by decide), if_pos (by decide), show S 4 0 0 4 = nI nc from d4]) (by rw [if_neg (by decide), if_neg (by decide), if_neg (by decide), if_pos (by decide), rd_n2 (u4 Z 7 0 0 0 0), lt, a3])
    · exact fin _ _ (nI nl) (by rw [if_neg (by decide), if_neg (by decide), if_neg (by decide), if_neg (by decide), if_pos (by decide), show S 4 0 0 5 = nI nl from d5]) (by rw [if_neg (by decide), if_neg (by decide), if_neg (by decide), if_neg (by decide), if_pos (by decide), rd_n3 (u4 Z 7 0 0 0 0), lt, a4])
    · exact fin _ _ (nI nq) (by rw [if_neg (by decide), if_neg (by decide), if_neg (by decide), if_neg (by decide), if_neg (by decide), if_pos (by decide), show S 4 0 0 6 = nI nq from d6]) (by rw [if_neg (by decide), if_neg (by decide), if_neg (by decide), if_neg (by decide), if_neg (by decide), if_pos (by decide), rd_n4 (u4 Z 7 0 0 0 0), lt, a5])
    · refine fin _ _ (sm (fun s => live Z 1 s 1) ns) ?_ ?_
      · rw [if_neg (by decide), if_neg (by decide), if_neg (by decide), if_neg (by decide), if_neg (by decide), if_neg (by decide), if_pos (by decide), k_wait (v := live Z) d3 b3 (fun s hs => by obtain ⟨pl, w, -, -, -, e1, -, -, e2, -⟩ := hS s hs; rw [e2, e1]) hf, bd_s]
      · rw [if_neg (by decide), if_neg (by decide), if_neg (by decide), if_neg (by decide), if_neg (by decide), if_neg (by decide), if_pos (by decide), show nI 6 - (6 : Int32) = 0 from by decide, show (4 : Int32) = nI 4 from rfl, wi 4 0 (by decide), bd_s, k2]
    · refine fin _ _ (sm (fun k => b2 (¬ cls S 0 19 0 k = -1)) pc) ?_ ?_
      · rw [if_neg (by decide), if_neg (by decide), if_neg (by decide), if_neg (by decide), if_neg (by decide), if_neg (by decide), if_neg (by decide), if_pos (by decide), k_loop d1 b2' hf, bd_s]
      · rw [if_neg (by decide), if_neg (by decide), if_neg (by decide), if_neg (by decide), if_neg (by decide), if_neg (by decide), if_neg (by decide), if_pos (by decide), show nI 7 - (6 : Int32) = 1 from by decide, show (4 : Int32) = nI 4 from rfl, wi 4 1 (by decide), bd_s, k3]
    · refine fin _ _ (nI nd) ?_ ?_
      · rw [if_neg (by decide), if_neg (by decide), if_neg (by decide), if_neg (by decide), if_neg (by decide), if_neg (by decide), if_neg (by decide), if_neg (by decide), if_pos (by decide), show S 4 0 0 7 = nI nd from d7]
      · rw [if_neg (by decide), if_neg (by decide), if_neg (by decide), if_neg (by decide), if_neg (by decide), if_neg (by decide), if_neg (by decide), if_neg (by decide), if_pos (by decide), show nI 8 - (6 : Int32) = 2 from by decide, show (4 : Int32) = nI 4 from rfl, wi 4 2 (by decide), bd_s, cn_sm, k1]
    · refine fin _ _ (sm (fun p => b2 (live Z 4 p 10 = nI 0)) nq) ?_ ?_
      · rw [if_neg (by decide), if_neg (by decide), if_neg (by decide), if_neg (by decide), if_neg (by decide), if_neg (by decide), if_neg (by decide), if_neg (by decide), if_neg (by decide), if_pos (by decide), gd_t (show inb (0 : Int32) 4 from inb_nI (n := 0) (by decide) (by decide)), show S 21 0 0 (0 : Int32).toNatClampNeg = _ from k6 0 (by decide)]
      · rw [if_neg (by decide), if_neg (by decide), if_neg (by decide), if_neg (by decide), if_neg (by decide), if_neg (by decide), if_neg (by decide), if_neg (by decide), if_neg (by decide), if_pos (by decide), show nI 9 - (9 : Int32) = nI 0 from by decide, show (10 : Int32) = nI 10 from rfl, wi 10 (nI 0) (by decide), bd_s]
    · refine fin _ _ (sm (fun p => b2 (live Z 4 p 10 = nI 1)) nq) ?_ ?_
      · rw [if_neg (by decide), if_neg (by decide), if_neg (by decide), if_neg (by decide), if_neg (by decide), if_neg (by decide), if_neg (by decide), if_neg (by decide), if_neg (by decide), if_neg (by decide), if_pos (by decide), gd_t (show inb (1 : Int32) 4 from inb_nI (n := 1) (by decide) (by decide)), show S 21 0 0 (1 : Int32).toNatClampNeg = _ from k6 1 (by decide)]
      · rw [if_neg (by decide), if_neg (by decide), if_neg (by decide), if_neg (by decide), if_neg (by decide), if_neg (by decide), if_neg (by decide), if_neg (by decide), if_neg (by decide), if_neg (by decide), if_pos (by decide), show nI 10 - (9 : Int32) = nI 1 from by decide, show (10 : Int32) = nI 10 from rfl, wi 10 (nI 1) (by decide), bd_s]
    · refine fin _ _ (sm (fun p => b2 (live Z 4 p 10 = nI 2)) nq) ?_ ?_
      · rw [if_neg (by decide), if_neg (by decide), if_neg (by decide), if_neg (by decide), if_neg (by decide), if_neg (by decide), if_neg (by decide), if_neg (by decide), if_neg (by decide), if_neg (by decide), if_neg (by decide), if_pos (by decide), gd_t (show inb (2 : Int32) 4 from inb_nI (n := 2) (by decide) (by decide)), show S 21 0 0 (2 : Int32).toNatClampNeg = _ from k6 2 (by decide)]
      · rw [if_neg (by decide), if_neg (by decide), if_neg (by decide), if_neg (by decide), if_neg (by decide), if_neg (by decide), if_neg (by decide), if_neg (by decide), if_neg (by decide), if_neg (by decide), if_neg (by decide), if_pos (by decide), show nI 11 - (9 : Int32) = nI 2 from by decide, show (10 : Int32) = nI 10 from rfl, wi 10 (nI 2) (by decide), bd_s]
    · refine fin _ _ (sm (fun p => b2 (live Z 4 p 10 = nI 3)) nq) ?_ ?_
      · rw [if_neg (by decide), if_neg (by decide), if_neg (by decide), if_neg (by decide), if_neg (by decide), if_neg (by decide), if_neg (by decide), if_neg (by decide), if_neg (by decide), if_neg (by decide), if_neg (by decide), if_neg (by decide), if_pos (by decide), gd_t (show inb (3 : Int32) 4 from inb_nI (n := 3) (by decide) (by decide)), show S 21 0 0 (3 : Int32).toNatClampNeg = _ from k6 3 (by decide)]
      · rw [if_neg (by decide), if_neg (by decide), if_neg (by decide), if_neg (by decide), if_neg (by decide), if_neg (by decide), if_neg (by decide), if_neg (by decide), if_neg (by decide), if_neg (by decide), if_neg (by decide), if_neg (by decide), if_pos (by decide), show nI 12 - (9 : Int32) = nI 3 from by decide, show (10 : Int32) = nI 10 from rfl, wi 10 (nI 3) (by decide), bd_s]
    · refine fin _ _ (sm (fun p => rnd (live Z) p) nq) ?_ ?_
      · rw [if_neg (by decide), if_neg (by decide), if_neg (by decide), if_neg (by decide), if_neg (by decide), if_neg (by decide), if_neg (by decide), if_neg (by decide), if_neg (by decide), if_neg (by decide), if_neg (by decide), if_neg (by decide), if_neg (by decide), if_pos (by decide), show S 4 0 0 8 = _ from k7]
      · have e := r_rsum_L (Z := u4 Z 7 0 0 0 0) (fu := fu) c6 b6 nq 0 fu (by omega) (by omega)
        rw [lt] at e
        have e' : s_X7_roundsOf fu 0 (u4 Z 7 0 0 0 0) = some (sm (fun p => rnd (live Z) p) nq) := e
        rw [if_neg (by decide), if_neg (by decide), if_neg (by decide), if_neg (by decide), if_neg (by decide), if_neg (by decide), if_neg (by decide), if_neg (by decide), if_neg (by decide), if_neg (by decide), if_neg (by decide), if_neg (by decide), if_neg (by decide), if_pos (by decide), if_neg (by decide), bd_s, e', bd_s]
    · refine fin _ _ (sm (fun c => live Z 2 c 12) nc) ?_ ?_
      · rw [if_neg (by decide), if_neg (by decide), if_neg (by decide), if_neg (by decide), if_neg (by decide), if_neg (by decide), if_neg (by decide), if_neg (by decide), if_neg (by decide), if_neg (by decide), if_neg (by decide), if_neg (by decide), if_neg (by decide), if_neg (by decide), if_pos (by decide), show s_X4_jamsOfChutes fu 0 S = some (sm (fun c => live Z 2 c 12) nc) from k_jams_L d4 b4 (fun c hc => (hCh c hc).1 12 (by decide)) nc 0 fu (by omega) (by omega), bd_s]
      · rw [if_neg (by decide), if_neg (by decide), if_neg (by decide), if_neg (by decide), if_neg (by decide), if_neg (by decide), if_neg (by decide), if_neg (by decide), if_neg (by decide), if_neg (by decide), if_neg (by decide), if_neg (by decide), if_neg (by decide), if_neg (by decide), if_pos (by decide), show (12 : Int32) = nI 12 from rfl, csum 12 (by decide), bd_s]
    · refine fin _ _ (sm (fun c => live Z 2 c 14) nc) ?_ ?_
      · rw [if_neg (by decide), if_neg (by decide), if_neg (by decide), if_neg (by decide), if_neg (by decide), if_neg (by decide), if_neg (by decide), if_neg (by decide), if_neg (by decide), if_neg (by decide), if_neg (by decide), if_neg (by decide), if_neg (by decide), if_neg (by decide), if_neg (by decide), if_pos (by decide), show s_X4_bagsOfChutes fu 0 S = some (sm (fun c => live Z 2 c 14) nc) from k_bags_L d4 b4 (fun c hc => (hCh c hc).1 14 (by decide)) nc 0 fu (by omega) (by omega), bd_s]
      · rw [if_neg (by decide), if_neg (by decide), if_neg (by decide), if_neg (by decide), if_neg (by decide), if_neg (by decide), if_neg (by decide), if_neg (by decide), if_neg (by decide), if_neg (by decide), if_neg (by decide), if_neg (by decide), if_neg (by decide), if_neg (by decide), if_neg (by decide), if_pos (by decide), show (14 : Int32) = nI 14 from rfl, csum 14 (by decide), bd_s]
    · refine fin _ _ (mxr (live Z) nq) ?_ ?_
      · rw [if_neg (by decide), if_neg (by decide), if_neg (by decide), if_neg (by decide), if_neg (by decide), if_neg (by decide), if_neg (by decide), if_neg (by decide), if_neg (by decide), if_neg (by decide), if_neg (by decide), if_neg (by decide), if_neg (by decide), if_neg (by decide), if_neg (by decide), if_neg (by decide), show s_X4_greatestRounds fu 0 S = some (mxr (live Z) nq) from k_great_L d6 b6 krn nq 0 fu (by omega) (by omega), bd_s]
      · have e := r_rmax_L (Z := u4 Z 7 0 0 0 0) (fu := fu) c6 b6 nq 0 fu (by omega) (by omega)
        rw [lt] at e
        have e' : s_X7_roundsOf fu 1 (u4 Z 7 0 0 0 0) = some (mxr (live Z) nq) := e
        rw [if_neg (by decide), if_neg (by decide), if_neg (by decide), if_neg (by decide), if_neg (by decide), if_neg (by decide), if_neg (by decide), if_neg (by decide), if_neg (by decide), if_neg (by decide), if_neg (by decide), if_neg (by decide), if_neg (by decide), if_neg (by decide), if_neg (by decide), if_neg (by decide), if_pos (by decide), if_pos (by decide), bd_s, e', bd_s]
  · rw [rw_bad hw, tb_ir, if_neg hw]
    exact PR.fail h (by simp)
theorem r_mean_L {Z : S4} {nd nq : Nat} (h5 : live Z 6 0 5 = nI nd) (h0 : nd ≠ 0) (hd : nd ≤ 60) (h60 : nq ≤ 60) (hG : ∀ i, i < nd → ∃ p, p < nq ∧ live Z 5 0 i = nI p) : ∀ (d k f : Nat), k + d = nd → d < f → s_X7_meanRounds_L23 fu f (sm (fun i => rnd (live Z) (live Z 5 0 i).toNatClampNeg) k) (nI k) Z = some ((sm (fun i => rnd (live Z) (live Z 5 0 i).toNatClampNeg) nd, nI nd), Z) := by
  intro d
  induction d with
  | zero =>
    intro k f hk hf
    obtain ⟨f, rfl⟩ : ∃ g, f = g + 1 := ⟨f - 1, by omega⟩
    obtain rfl : k = nd := by omega
    rw [s_X7_meanRounds_L23, rd_n5 Z, h5, if_pos (nI_le (by omega) (by omega)), gd_t (nI_ne0 (by omega) (by omega))]
  | succ d ih =>
    intro k f hk hf
    obtain ⟨f, rfl⟩ : ∃ g, f = g + 1 := ⟨f - 1, by omega⟩
    have h9 := ih (k + 1) f (by omega) (by omega)
    rw [sm] at h9
    obtain ⟨p, hp, hpv⟩ := hG k (by omega)
    rw [hpv, nI_clamp (n := p) (by omega)] at h9
    rw [s_X7_meanRounds_L23, rd_n5 Z, h5, if_neg (nI_ge (by omega) (by omega)), gd_t (inb_nI (by omega) (by decide)), nI_clamp (by omega), rd_g Z (by omega), hpv, r_rounds (by omega), bd_s, nI_1]
    exact h9
theorem pr_mean (h : GG np T S Z) (hT : T < 2 ^ 31) (hf : 60 < fu) : (s_X6_meanRounds fu S = some (.inr (6, S)) ∧ s_X7_meanRounds fu Z = some ((0, 0), u4 Z 7 0 0 0 1)) ∨ ∃ a b, s_X6_meanRounds fu S = some (.inl ((a, b), S)) ∧ s_X7_meanRounds fu Z = some ((a, b), u4 Z 7 0 0 0 0) ∧ ¬ b = 0 := by
  obtain ⟨⟨ns, nc, nl, nq, nd, fo, pc, hR⟩, -⟩ := id h
  obtain ⟨⟨⟨a1, a2, a3, a4, a5, a6, b1, b2', b3, b4, b5, b6, b7⟩, d0, d1, d2, d3, d4, d5, d6, d7, d8, -⟩, hS, hCh, hL, hP, hB, hG, k1, k2, k3, k4, k5, k6, k7, k8⟩ := id hR
  unfold s_X6_meanRounds s_X7_meanRounds
  rw [show S 4 0 0 7 = nI nd from d7, rd_n5 Z, a6]
  by_cases h0 : nd = 0
  · subst h0
    rw [if_pos (by decide), if_pos (by decide)]
    exact Or.inl ⟨rfl, rfl⟩
  · refine Or.inr ⟨sm (fun i => rnd (live Z) (live Z 5 0 i).toNatClampNeg) nd, nI nd, ?_, ?_, nI_ne0 (by omega) (by omega)⟩
    · rw [if_neg (nI_ne0 (by omega) (by omega)), show s_X4_roundsOfDropped fu 0 S = some _ from k_rdrop_L (v := live Z) d6 b6 (fun p hp => (hP p hp).1 4 (by decide) (by decide)) (fun p hp => k_rnd ((hP p hp).1 6 (by decide) (by decide)) (hP p hp).2.1 hT) nq 0 fu (by omega) (by omega), bd_s, gd_t (nI_ne0 (by omega) (by omega)), k8]
    · have e := r_mean_L (Z := u4 Z 7 0 0 0 0) (fu := fu) (nd := nd) (nq := nq) (by rw [live_th]; exact a6) h0 (by omega) b6 (fun i hi => by rw [live_th]; obtain ⟨-, p, e1, e2, -⟩ := hG i hi; exact ⟨p, e1, e2⟩) nd 0 fu (by omega) (by omega)
      rw [live_th] at e
      rw [if_neg (nI_ne0 (by omega) (by omega)), sv_e]
      exact e
theorem r_audit_L19 {Z : S4} {nq c : Nat} {K : Int32 → S4 → Option (Int32 × S4)} (h4 : live Z 6 0 4 = nI nq) (h60 : nq ≤ 60) (hc : c < 8) (h11 : live Z 2 c 11 = sm (fun p => b2 (live Z 4 p 4 = 2 ∧ live Z 4 p 5 = nI c)) nq) : ∀ (d k f : Nat), k + d = nq → d < f → s_X7_audit_L19 fu K f (nI c) (sm (fun p => b2 (live Z 4 p 4 = 2 ∧ live Z 4 p 5 = nI c)) k) (nI k) Z = K (nI (c + 1)) Z := by
  intro d
  induction d with
  | zero =>
    intro k f hk hf
    obtain ⟨f, rfl⟩ : ∃ g, f = g + 1 := ⟨f - 1, by omega⟩
    obtain rfl : k = nq := by omega
    rw [s_X7_audit_L19, rd_n4 Z, h4, if_pos (nI_le (by omega) (by omega)), q_ofChute hc (by decide), bd_s, h11, if_pos rfl, nI_1]
  | succ d ih =>
    intro k f hk hf
    obtain ⟨f, rfl⟩ : ∃ g, f = g + 1 := ⟨f - 1, by omega⟩
    have h9 := ih (k + 1) f (by omega) (by omega)
    rw [sm] at h9
    have e : (if live Z 4 k 4 = 2 then (s_X7_ofParcel (nI k) 5 Z).bind fun q17 => if q17 = nI c then some (1 : Int32) else some 0 else some 0) = some (b2 (live Z 4 k 4 = 2 ∧ live Z 4 k 5 = nI c)) := by
      by_cases h : live Z 4 k 4 = 2
      · rw [if_pos h, q_ofParcel (by omega) (by decide), bd_s]
        by_cases h5 : live Z 4 k 5 = nI c
        · rw [if_pos h5, b2_t ⟨h, h5⟩]
        · rw [if_neg h5, b2_f (fun z => h5 z.2)]
      · rw [if_neg h, b2_f (fun z => h z.1)]
    rw [s_X7_audit_L19, rd_n4 Z, h4, if_neg (nI_ge (by omega) (by omega)), q_ofParcel (by omega) (by decide), bd_s, e, bd_s, nI_1]
    exact h9
theorem pr_audit (h : GG np T S Z) (hT : T < 2 ^ 31) (hf : 60 < fu) : s_X6_audit fu S = some 1 ∧ s_X7_audit fu Z = some (1, u4 Z 7 0 0 0 0) := by
  obtain ⟨⟨ns, nc, nl, nq, nd, fo, pc, hR⟩, -⟩ := id h
  obtain ⟨⟨⟨a1, a2, a3, a4, a5, a6, b1, b2', b3, b4, b5, b6, b7⟩, d0, d1, d2, d3, d4, d5, d6, d7, d8, -⟩, hS, hCh, hL, hP, hB, hG, k1, k2, k3, k4, k5, k6, k7, k8⟩ := id hR
  have h3 := sum_three (f := fun p => live Z 4 p 4) (n := nq) (fun p hp => by
    rcases (hP p hp).2.2 with ⟨z, -⟩ | ⟨z, -⟩ | ⟨z, -⟩
    · exact Or.inl z
    · exact Or.inr (Or.inl z)
    · exact Or.inr (Or.inr z))
  have h2 : sm (fun p => b2 (live Z 4 p 4 = 2)) nq = nI nd := by rw [cn_sm, k1]
  have hP4 : ∀ p, p < nq → cls S 0 1 p 4 = live Z 4 p 4 := fun p hp => (hP p hp).1 4 (by decide) (by decide)
  constructor
  · unfold s_X6_audit
    rw [k_are d6 b6 hP4 hf, bd_s, k_wait (v := live Z) d3 b3 (fun s hs => by obtain ⟨pl, w, -, -, -, e1, -, -, e2, -⟩ := hS s hs; rw [e2, e1]) hf, bd_s, if_pos k2, k_are d6 b6 hP4 hf, bd_s, k_loop d1 b2' hf, bd_s, if_pos k3, k_are d6 b6 hP4 hf, bd_s, show S 4 0 0 7 = nI nd from d7, if_pos h2, bd_s, bd_s, show S 4 0 0 6 = nI nq from d6, if_pos (by rw [← k2, ← k3, ← h2]; exact h3)]
    have e1 : s_X4_chutesAgree fu 0 S = some 1 := k_cagree_L (v := live Z) d4 b4 d6 b6 (fun p hp => ⟨hP4 p hp, fun z => by
      rcases (hP p hp).2.2 with ⟨y, -⟩ | ⟨y, -⟩ | ⟨-, y, -⟩
      · rw [z] at y; exact absurd y (by decide)
      · rw [z] at y; exact absurd y (by decide)
      · exact y⟩) (fun c hc => ((hCh c hc).1 11 (by decide)).trans (k5 c hc)) hf nc 0 fu (by omega) (by omega)
    have e2 : s_X4_verdictsAgree fu 0 S = some 1 := k_vagree_L (v := live Z) d6 b6 (fun p hp => (hP p hp).1 10 (by decide) (by decide)) k6 hf 4 0 fu (by omega) (by omega)
    have e3 : s_X4_roundsAgree fu 0 S = some 1 := k_ragree_L (v := live Z) d6 b6 (fun p hp => k_rnd ((hP p hp).1 6 (by decide) (by decide)) (hP p hp).2.1 hT) k7 nq 0 fu (by omega) (by omega)
    rw [e1, bd_s, if_neg (by decide), e2, bd_s, if_neg (by decide), e3, bd_s, if_neg (by decide)]
  · unfold s_X7_audit
    rw [sv_e]
    have lt : live (u4 Z 7 0 0 0 0) = live Z := live_th
    have key : ∀ (d c f : Nat), c + d = nc → d < f → s_X7_audit_L7 fu f (nI c) (u4 Z 7 0 0 0 0) = some (1, u4 Z 7 0 0 0 0) := by
      intro d
      induction d with
      | zero =>
        intro c f hc hf'
        obtain ⟨f, rfl⟩ : ∃ g, f = g + 1 := ⟨f - 1, by omega⟩
        have c6 : live (u4 Z 7 0 0 0 0) 6 0 4 = nI nq := by rw [lt]; exact a5
        have wi : ∀ (x : Int32), s_X7_parcelsWith fu (nI 4) x (u4 Z 7 0 0 0 0) = some (sm (fun p => b2 (live Z 4 p 4 = x)) nq) := fun x => by rw [← lt]; exact r_with c6 b6 (by decide) hf
        have cs : s_X7_sumOfChutes fu (nI 11) (u4 Z 7 0 0 0 0) = some (nI nd) := by rw [r_chsum (by rw [lt]; exact a3) b4 (by decide) hf, lt, k4]
        rw [s_X7_audit_L7, rd_n2 (u4 Z 7 0 0 0 0), lt, a3, if_pos (nI_le (by omega) (by omega)), show (11 : Int32) = nI 11 from rfl, cs, bd_s, rd_n5 (u4 Z 7 0 0 0 0), lt, a6, if_pos rfl, show (4 : Int32) = nI 4 from rfl, wi 0, bd_s, wi 1, bd_s, wi 2, bd_s, rd_n4 (u4 Z 7 0 0 0 0), lt, a5, if_pos h3]
      | succ d ih =>
        intro c f hc hf'
        obtain ⟨f, rfl⟩ : ∃ g, f = g + 1 := ⟨f - 1, by omega⟩
        have e := r_audit_L19 (Z := u4 Z 7 0 0 0 0) (fu := fu) (nq := nq) (c := c) (K := fun a1 a => s_X7_audit_L7 fu f a1 a) (by rw [lt]; exact a5) b6 (by omega) (by rw [lt]; exact k5 c (by omega)) nq 0 fu (by omega) (by omega)
        rw [s_X7_audit_L7, rd_n2 (u4 Z 7 0 0 0 0), lt, a3, if_neg (nI_ge (by omega) (by omega))]
        exact e.trans (ih (c + 1) f (by omega) (by omega))
    exact key nc 0 fu (by omega) (by omega)
end QR
