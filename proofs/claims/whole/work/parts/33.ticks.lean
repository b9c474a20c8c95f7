/-! a tick, both sides -/
def RE (np T : Nat) (S : S4) (t : Nat) (Z : S4) (ns nc nl nq pc : Nat) : Prop := ∃ nd fo, RR np T (pln S) (cls S t) (live Z) ns nc nl nq nd fo pc
section TT
variable {np fu T t ns nc nl nq pc : Nat}
theorem t_loads (hf : 10 < fu) : ∀ (d s f f' : Nat) (S Z : S4), s + d = ns → d < f → d < f' → RE np T S t Z ns nc nl nq pc → ∃ S' Z', s_X4_passTick_L144 np fu t f (nI s) S = some S' ∧ s_X7_ticks_L105 fu f' (nI s) Z = some Z' ∧ RE np T S' t Z' ns nc nl nq pc := by
  intro d
  induction d with
  | zero =>
    intro s f f' S Z hs hf1 hf2 h
    obtain ⟨f, rfl⟩ : ∃ g, f = g + 1 := ⟨f - 1, by omega⟩
    obtain ⟨f', rfl⟩ : ∃ g, f' = g + 1 := ⟨f' - 1, by omega⟩
    obtain ⟨nd, fo, hR⟩ := id h
    have hN := hR.1
    have h3 := hN.1.2.2.2.2.2.2.2.2.1
    rw [s_X4_passTick_L144, s_X7_ticks_L105, show S 4 t 0 3 = nI ns from hN.2.2.2.2.1, rd_n1 Z, hN.1.2.1, if_pos (nI_le (by omega) (by omega)), if_pos (nI_le (by omega) (by omega))]
    exact ⟨S, Z, rfl, rfl, h⟩
  | succ d ih =>
    intro s f f' S Z hs hf1 hf2 h
    obtain ⟨f, rfl⟩ : ∃ g, f = g + 1 := ⟨f - 1, by omega⟩
    obtain ⟨f', rfl⟩ : ∃ g, f' = g + 1 := ⟨f' - 1, by omega⟩
    obtain ⟨nd, fo, hR⟩ := id h
    have hN := hR.1
    have h3 := hN.1.2.2.2.2.2.2.2.2.1
    obtain ⟨S1, Z1, e1, e2, e3⟩ := t_load (fu := fu) (s := s) (by omega) hR hf
    rw [s_X4_passTick_L144, s_X7_ticks_L105, show S 4 t 0 3 = nI ns from hN.2.2.2.2.1, rd_n1 Z, hN.1.2.1, if_neg (nI_ge (by omega) (by omega)), if_neg (nI_ge (by omega) (by omega)), gd_t (inb_nI (by omega) (by decide)), nI_clamp (by omega), e1, bd_s, e2, bd_s, nI_1]
    exact ih (s + 1) f f' S1 Z1 (by omega) (by omega) (by omega) ⟨nd, fo, e3⟩
theorem t_tries (hT : T < 2 ^ 31) (hnp : np < 2 ^ 31) (hf : 10 < fu) : ∀ (d c f f' : Nat) (S Z : S4), c + d = nc → d < f → d < f' → RE np T S t Z ns nc nl nq pc → ∃ S' Z', s_X4_passTick_L87 np fu t f (nI c) S = some S' ∧ s_X7_ticks_L56 fu f' (nI c) Z = some Z' ∧ RE np T S' t Z' ns nc nl nq pc := by
  intro d
  induction d with
  | zero =>
    intro c f f' S Z hs hf1 hf2 h
    obtain ⟨f, rfl⟩ : ∃ g, f = g + 1 := ⟨f - 1, by omega⟩
    obtain ⟨f', rfl⟩ : ∃ g, f' = g + 1 := ⟨f' - 1, by omega⟩
    obtain ⟨nd, fo, hR⟩ := id h
    have hN := hR.1
    have h8 := hN.1.2.2.2.2.2.2.2.2.2.1
    have h3 := hN.1.2.2.2.2.2.2.2.2.1
    rw [s_X4_passTick_L87, s_X7_ticks_L56, show S 4 t 0 4 = nI nc from hN.2.2.2.2.2.1, rd_n2 Z, hN.1.2.2.1, if_pos (nI_le (by omega) (by omega)), if_pos (nI_le (by omega) (by omega))]
    exact t_loads hf ns 0 fu fu S Z (by omega) (by omega) (by omega) h
  | succ d ih =>
    intro c f f' S Z hs hf1 hf2 h
    obtain ⟨f, rfl⟩ : ∃ g, f = g + 1 := ⟨f - 1, by omega⟩
    obtain ⟨f', rfl⟩ : ∃ g, f' = g + 1 := ⟨f' - 1, by omega⟩
    obtain ⟨nd, fo, hR⟩ := id h
    have hN := hR.1
    have h8 := hN.1.2.2.2.2.2.2.2.2.2.1
    have h60 := hN.1.2.2.2.2.2.2.2.2.2.2.2.1
    have h30 := hN.1.2.2.2.2.2.2.2.1
    have hfo := hN.2.2.2.2.2.2.2.2.2.1
    obtain ⟨hE, ⟨k, hk, hk1, hk2⟩, -⟩ := hR.2.2.1 c (by omega)
    obtain ⟨hB1, hB2⟩ := hR.2.2.2.2.2.1 k hk2
    rw [s_X4_passTick_L87, s_X7_ticks_L56, show S 4 t 0 4 = nI nc from hN.2.2.2.2.2.1, rd_n2 Z, hN.1.2.2.1, if_neg (nI_ge (by omega) (by omega)), if_neg (nI_ge (by omega) (by omega)), gd_t (inb_nI (by omega) (by decide)), nI_clamp (n := c) (by omega), show S 0 t c 0 = nI k from (hE 0 (by decide)).trans hk, k_parcelAt hN.2.2.1 hN.2.2.2.1 hk2 hfo h30, bd_s, hB1, q_ofChute (by omega) (by decide), bd_s, hk, gd_t (inb_nI (by omega) (by decide)), nI_clamp (n := k) (by omega), rd_b Z (by omega), nI_1]
    rcases hB2 with z | ⟨q, m1, m2, m3, m4⟩
    · rw [z, isP_no, bd_s, if_pos rfl, if_pos (by decide)]
      exact ih (c + 1) f f' S Z (by omega) (by omega) (by omega) h
    · have hp7 : cls S t 1 q 7 = live Z 4 q 7 := (hR.2.2.2.2.1 q m1).1 7 (by decide) (by decide)
      rw [m2, isP_yes hN.2.2.2.2.2.2.2.1 h60 m1, bd_s, if_neg (by decide), if_neg (nI_pos (by omega)), gd_t (inb_nI (by omega) (by decide)), nI_clamp (n := q) (by omega), show S 1 t q 7 = live Z 4 q 7 from hp7, q_ofParcel (by omega) (by decide), bd_s]
      by_cases g : live Z 4 q 7 = nI c
      · obtain ⟨S1, Z1, nd', e1, e2, e3⟩ := t_try (fu := fu) (c := c) m1 (by omega) hk2 hk hR m2 hT hnp (by omega)
        rw [if_pos g, if_pos g, e1, bd_s, e2, bd_s]
        exact ih (c + 1) f f' S1 Z1 (by omega) (by omega) (by omega) ⟨nd', fo, e3⟩
      · rw [if_neg g, if_neg g]
        exact ih (c + 1) f f' S Z (by omega) (by omega) (by omega) h
theorem t_chutes (hT : T + 1 < 2 ^ 31) (hnp : np < 2 ^ 31) (hf : 30 < fu) : ∀ (d c f f' : Nat) (S Z : S4), c + d = nc → d < f → d < f' → RE np T S t Z ns nc nl nq pc → ∃ S' Z', s_X4_passTick_L12 np fu t f (nI c) S = some S' ∧ s_X7_ticks_L12 fu f' (nI c) Z = some Z' ∧ RE np (T + 1) S' t Z' ns nc nl nq pc := by
  intro d
  induction d with
  | zero =>
    intro c f f' S Z hs hf1 hf2 h
    obtain ⟨f, rfl⟩ : ∃ g, f = g + 1 := ⟨f - 1, by omega⟩
    obtain ⟨f', rfl⟩ : ∃ g, f' = g + 1 := ⟨f' - 1, by omega⟩
    obtain ⟨nd, fo, hR⟩ := id h
    have hN := hR.1
    have h8 := hN.1.2.2.2.2.2.2.2.2.2.1
    have h60 := hN.1.2.2.2.2.2.2.2.2.2.2.2.1
    have h30 := hN.1.2.2.2.2.2.2.2.1
    have h12 := hN.1.2.2.2.2.2.2.1
    have hfo := hN.2.2.2.2.2.2.2.2.2.1
    have hent : ∀ j, j < pc → live Z 0 0 j = -1 ∨ ∃ p, p < 60 ∧ live Z 0 0 j = nI p := fun j hj => by
      rcases (hR.2.2.2.2.2.1 j hj).2 with z | ⟨p, m1, m2, -⟩
      · exact Or.inl z
      · exact Or.inr ⟨p, by omega, m2⟩
    obtain ⟨Z1, z1, z2⟩ := r_turns (fu := fu) h30 (by omega) hN.1.1 hent hf
    have efo : (if S 4 t 0 2 ≤ 0 then some (S 4 t 0 1 - 1) else some (S 4 t 0 2 - 1)) = some (nI (fop pc fo)) := by
      unfold fop
      rw [show S 4 t 0 2 = nI fo from hN.2.2.2.1, show S 4 t 0 1 = nI pc from hN.2.2.1]
      by_cases hz : 0 < fo
      · rw [if_neg (nI_nle hz (by omega)), if_pos hz, show nI fo - 1 = nI (fo - 1) from pk_sub (a := fo) (b := 1) hz]
      · rw [if_pos (show nI fo ≤ 0 from nI_le (b := 0) (by omega) (by decide)), if_neg hz, show nI pc - 1 = nI (pc - 1) from pk_sub (a := pc) (b := 1) (by omega)]
    have hR1 : RR np T (pln (u4 S 4 t 0 2 (nI (fop pc fo)))) (cls (u4 S 4 t 0 2 (nI (fop pc fo))) t) (live Z1) ns nc nl nq nd (fop pc fo) pc := by
      rw [pln_u (by decide), cls_u, z2]
      exact RR_tn hR
    have hmono : ∀ {a b : Vw} {P : Vw} {nd fo : Nat}, RR np T P a b ns nc nl nq nd fo pc → RR np (T + 1) P a b ns nc nl nq nd fo pc := fun {a b P nd fo} hh => by
      obtain ⟨⟨g0, g1, g2, g3, g4, g5, g6, g7, g8, g9, tm, g10, g11⟩, k1, k2, k3, k4, k5⟩ := hh
      exact ⟨⟨g0, g1, g2, g3, g4, g5, g6, g7, g8, g9, tm, g10, by omega⟩, k1, k2, k3, fun p hp => by obtain ⟨q1, ⟨sc, q2, q3⟩, q4⟩ := k4 p hp; exact ⟨q1, ⟨sc, q2, by omega⟩, q4⟩, k5⟩
    rw [s_X4_passTick_L12, s_X7_ticks_L12, show S 4 t 0 4 = nI nc from hN.2.2.2.2.2.1, rd_n2 Z, hN.1.2.2.1, if_pos (nI_le (by omega) (by omega)), if_pos (nI_le (by omega) (by omega)), efo, bd_s, sv_e, z1, bd_s]
    have hfl : fop pc fo < pc := by unfold fop; split <;> omega
    have epa : s_X4_parcelAt t 0 (u4 S 4 t 0 2 (nI (fop pc fo))) = some (live Z1 0 0 0) := (k_parcelAt (k := 0) hR1.1.2.2.1 hR1.1.2.2.2.1 (show 0 < pc by omega) hfl h30).trans (by rw [(hR1.2.2.2.2.2.1 0 (by omega)).1])
    have e0 : Z1 24 0 0 (0 : Int32).toNatClampNeg = live Z1 0 0 0 := rd_b Z1 (j := 0) (by omega)
    rw [epa, bd_s, gd_t (show inb (0 : Int32) 30 from inb_nI (n := 0) (by decide) (by decide)), e0]
    rcases (hR1.2.2.2.2.2.1 0 (by omega)).2 with z | ⟨q, m1, m2, m3, m4⟩
    · rw [z, isP_no, bd_s, if_pos rfl, if_pos (by decide)]
      exact t_tries hT hnp (by omega) nc 0 fu fu _ Z1 (by omega) (by omega) (by omega) ⟨nd, fop pc fo, hmono hR1⟩
    · rw [m2, isP_yes hR1.1.2.2.2.2.2.2.2.1 h60 m1, bd_s, if_neg (by decide), if_neg (nI_pos (by omega)), gd_t (inb_nI (by omega) (by decide)), gd_t (show inb (0 : Int32) 30 from inb_nI (n := 0) (by decide) (by decide)), nI_clamp (n := q) (by omega)]
      obtain ⟨S2, Z2, e1, e2, e3⟩ := t_scan (fu := fu) m1 hR1 m3 hT hnp (by omega)
      rw [e1, bd_s, e2, bd_s]
      exact t_tries hT hnp (by omega) nc 0 fu fu S2 Z2 (by omega) (by omega) (by omega) ⟨nd, fop pc fo, e3⟩
  | succ d ih =>
    intro c f f' S Z hs hf1 hf2 h
    obtain ⟨f, rfl⟩ : ∃ g, f = g + 1 := ⟨f - 1, by omega⟩
    obtain ⟨f', rfl⟩ : ∃ g, f' = g + 1 := ⟨f' - 1, by omega⟩
    obtain ⟨nd, fo, hR⟩ := id h
    have hN := hR.1
    have h8 := hN.1.2.2.2.2.2.2.2.2.2.1
    obtain ⟨S1, Z1, e1, e2, e3⟩ := t_chute (c := c) (by omega) hR
    rw [s_X4_passTick_L12, s_X7_ticks_L12, show S 4 t 0 4 = nI nc from hN.2.2.2.2.2.1, rd_n2 Z, hN.1.2.2.1, if_neg (nI_ge (by omega) (by omega)), if_neg (nI_ge (by omega) (by omega)), gd_t (inb_nI (by omega) (by decide)), nI_clamp (by omega), e1, bd_s, e2, bd_s, nI_1]
    exact ih (c + 1) f f' S1 Z1 (by omega) (by omega) (by omega) ⟨nd, fo, e3⟩
theorem t_tick {S Z : S4} (hT : T + 2 < 2 ^ 31) (hnp : np < 2 ^ 31) (hf : 30 < fu) (h : RE np T S t Z ns nc nl nq pc) : ∃ S' Z', s_X4_passTick np fu t S = some S' ∧ s_X7_ticks fu Z = some Z' ∧ RE np (T + 2) S' t Z' ns nc nl nq pc := by
  obtain ⟨nd, fo, hR⟩ := id h
  have h8 := hR.1.1.2.2.2.2.2.2.2.2.2.1
  unfold s_X4_passTick s_X7_ticks
  rw [sv_e, sv_e]
  refine t_chutes (T := T + 1) (by omega) hnp hf nc 0 fu fu _ _ (by omega) (by omega) (by omega) ⟨nd, fo, ?_⟩
  rw [pln_u (by decide), cls_u, show live (u4 Z 7 0 0 13 (Z 7 0 0 13 + 1)) = us (live Z) 6 0 6 (live Z 6 0 6 + 1) from by rw [rd_n6 Z]; exact live_u7 (w := 6) (by decide)]
  exact RR_time hR (by omega)
end TT
