/-! the pairs: methods that change -/
section MU
variable {np fu T : Nat} {S Z : S4}
theorem fk_th {c : Int32} : FK Z (u4 Z 7 0 0 0 c) := FK.putu ⟨by decide, by decide, by decide, by decide, fun _ => ⟨by decide, by decide, by decide, by decide⟩⟩
/-- after both have remembered: the numbers of the state that is now stay -/
theorem t_rem {ns nc nl nq nd fo pc : Nat} (h : GG np T S Z) (hR : RR np T (pln S) (cls S 0) (live Z) ns nc nl nq nd fo pc) (hnp : np < 2 ^ 31) (hf : 9600 < fu) : ∃ S' Z', s_X6_remember np fu S = some S' ∧ s_X7_remembers fu (u4 Z 7 0 0 0 0) = some Z' ∧ GG np T S' Z' ∧ FC S S' ∧ RR np T (pln S') (cls S' 0) (live Z') ns nc nl nq nd fo pc ∧ Z' 7 0 0 0 = 0 ∧ (∀ k i j, k ≠ 6 → S' k 0 i j = S k 0 i j) ∧ live Z' = live Z := by
  obtain ⟨S', Z', e1, e2, e3, e4, e5, e6, e7, e8, -⟩ := t_remember (fu := fu) h.th hnp hf
  refine ⟨S', Z', e1, e2, e3, e4, ?_, by rw [e8, th_0], fun k i j hk => congrFun (congrFun (e5 k hk) i) j, by rw [e7, live_th]⟩
  rw [e6, e7, live_th]
  exact hR.c6 e5
theorem pr_setClosed {p x : Int32} (h : GG np T S Z) (hx : isB x) (hnp : np < 2 ^ 31) (hf : 9600 < fu) : PR np T S (s_X6_setClosed np fu p x S) (s_X7_setClosed fu p x Z) [(5, 1)] := by
  obtain ⟨⟨ns, nc, nl, nq, nd, fo, pc, hR⟩, -⟩ := id h
  have a3 := hR.1.1.2.2.1
  have b4 := hR.1.1.2.2.2.2.2.2.2.2.2.1
  have d4 := hR.1.2.2.2.2.2.1
  unfold s_X6_setClosed s_X7_setClosed s_X7_isChute
  rw [show S 4 0 0 4 = nI nc from d4, rd_n2 Z, a3]
  have bad : (p < 0 ∨ nI nc ≤ p) → PR np T S (s_X6_setClosed np fu p x S) (s_X7_setClosed fu p x Z) [(5, 1)] := fun hp => by
    unfold s_X6_setClosed s_X7_setClosed s_X7_isChute
    rw [show S 4 0 0 4 = nI nc from d4, rd_n2 Z, a3, rq_bad hp, tb_ir, isX_bad hp, bd_s, if_pos rfl, bd_s, sv_e, th_0, if_neg (by decide)]
    exact ⟨_, S, 0, u4 Z 7 0 0 0 1, rfl, rfl, Or.inr ⟨5, 1, rfl, by simp, th_0⟩, h.th, FC.refl S⟩
  rcases pk_ix p (n := nc) (by omega) with hp | hp | ⟨c, hc, rfl⟩
  · have := bad (Or.inl hp)
    unfold s_X6_setClosed s_X7_setClosed s_X7_isChute at this
    rw [show S 4 0 0 4 = nI nc from d4, rd_n2 Z, a3] at this
    exact this
  · have := bad (Or.inr hp)
    unfold s_X6_setClosed s_X7_setClosed s_X7_isChute at this
    rw [show S 4 0 0 4 = nI nc from d4, rd_n2 Z, a3] at this
    exact this
  · obtain ⟨S1, Z1, e1, e2, e3, e4, e5, e6, e7, e8⟩ := t_rem (fu := fu) h hR hnp hf
    obtain ⟨g1, -, g8, -, g9, -⟩ := e5.2.2.1 c hc
    have gv : S1 0 0 c 9 = live Z1 2 c 9 := g1 9 (by decide)
    have hx2 : (if x = 0 then some (0 : Int32) else some 1) = some x := by
      rcases hx with hx | hx
      · rw [hx]; rfl
      · rw [hx]; rfl
    have hc2 : (if live Z1 2 c 9 = 1 then some (1 : Int32) else some 0) = some (live Z1 2 c 9) := by
      rcases g9 with g9 | g9
      · rw [g9]; rfl
      · rw [g9]; rfl
    rw [rq_ok hc (by omega), tb_il, isX_ok hc (by omega), bd_s, if_neg (by decide), bd_s, sv_e, th_0, if_pos (by decide), e1, bd_s, e2, bd_s, gd_t (inb_nI (by omega) (by decide)), gd_t (inb_nI (by omega) (by decide)), gd_t hx, nI_clamp (by omega), sv_e, gv, gd_t g9, q_ofChute (by omega) (by decide), bd_s, hc2, bd_s, hx2, bd_s, q_setsChute (by omega) (by decide), bd_s, gd_t g9]
    refine ⟨_, u4 S1 0 0 c 9 x, live Z1 2 c 9, zc Z1 c 9 x, rfl, rfl, Or.inl ⟨rfl, ?_⟩, ?_, e4.trans (FC.putu (by decide))⟩
    · unfold zc
      rw [u4_app, if_neg (by omega)]
      exact e6
    · refine e3.now (FS.putu rfl (by decide)) (FK.putu ⟨by decide, by decide, by decide, by decide, fun z => absurd z (by decide)⟩) ⟨ns, nc, nl, nq, nd, fo, pc, ?_⟩ (Nat.le_refl _)
      rw [pln_u (by decide), cls_u, live_zc (by omega) (by decide)]
      refine RR_ch hc e5 (fun k i j hn => us_ne (by omega)) (fun k i j hn => us_ne (by omega)) (fun j hj => ?_) (us_nj (by decide)) (us_nj (by decide)) (by rw [us_nj (by decide)]; exact g8) (us_nj (by decide)) (by rw [us_self]; exact hx) (us_nj (by decide))
      by_cases e : j = 9
      · subst e; rw [us_self, us_self]
      · rw [us_nj e, us_nj e]; exact g1 j hj
theorem pr_clear {p : Int32} (h : GG np T S Z) (hnp : np < 2 ^ 31) (hf : 9600 < fu) : PR np T S (s_X6_clear np fu p S) (s_X7_clear fu p Z) [(5, 1), (2, 2)] := by
  obtain ⟨⟨ns, nc, nl, nq, nd, fo, pc, hR⟩, -⟩ := id h
  have a3 := hR.1.1.2.2.1
  have b4 := hR.1.1.2.2.2.2.2.2.2.2.2.1
  have d4 := hR.1.2.2.2.2.2.1
  unfold s_X6_clear s_X7_clear s_X7_isChute
  rw [show S 4 0 0 4 = nI nc from d4, rd_n2 Z, a3]
  rcases pk_ix p (n := nc) (by omega) with hp | hp | ⟨c, hc, rfl⟩
  · rw [rq_bad (Or.inl hp), tb_ir, isX_bad (Or.inl hp), bd_s, if_pos rfl]
    exact PR.fail h (by simp)
  · rw [rq_bad (Or.inr hp), tb_ir, isX_bad (Or.inr hp), bd_s, if_pos rfl]
    exact PR.fail h (by simp)
  · have g0 : S 0 0 c 7 = live Z 2 c 7 := (hR.2.2.1 c hc).1 7 (by decide)
    rw [rq_ok hc (by omega), tb_il, isX_ok hc (by omega), bd_s, if_neg (show ¬ (1 : Int32) = 0 by decide), gd_t (inb_nI (by omega) (by decide)), show S 0 0 (nI c).toNatClampNeg 7 = live Z 2 c 7 from by rw [nI_clamp (by omega)]; exact g0, q_ofChute (by omega) (by decide), bd_s]
    by_cases hj : live Z 2 c 7 = 0
    · rw [if_pos hj, if_pos hj]
      exact PR.fail h (by simp)
    · obtain ⟨S1, Z1, e1, e2, e3, e4, e5, e6, e7, e8⟩ := t_rem (fu := fu) h hR hnp hf
      obtain ⟨g1, -, g8, -, g9, -⟩ := e5.2.2.1 c hc
      rw [if_neg hj, if_neg hj, sv_e, e1, bd_s, e2, bd_s, gd_t (inb_nI (by omega) (by decide)), nI_clamp (by omega), sv_e, q_ofChute (by omega) (by decide), bd_s, q_setsChute (by omega) (by decide), bd_s, e8]
      refine ⟨_, u4 S1 0 0 c 7 0, live Z 2 c 7, zc Z1 c 7 0, rfl, rfl, Or.inl ⟨rfl, ?_⟩, ?_, e4.trans (FC.putu (by decide))⟩
      · unfold zc
        rw [u4_app, if_neg (by omega)]
        exact e6
      · refine e3.now (FS.putu rfl (by decide)) (FK.putu ⟨by decide, by decide, by decide, by decide, fun z => absurd z (by decide)⟩) ⟨ns, nc, nl, nq, nd, fo, pc, ?_⟩ (Nat.le_refl _)
        rw [pln_u (by decide), cls_u, live_zc (by omega) (by decide)]
        refine RR_ch hc e5 (fun k i j hn => us_ne (by omega)) (fun k i j hn => us_ne (by omega)) (fun j hj => ?_) (us_nj (by decide)) (us_nj (by decide)) (by rw [us_nj (by decide)]; exact g8) (us_nj (by decide)) (by rw [us_nj (by decide)]; exact g9) (us_nj (by decide))
        by_cases e : j = 7
        · subst e; rw [us_self, us_self]
        · rw [us_nj e, us_nj e]; exact g1 j hj
theorem RE.ro {t ns nc nl nq pc : Nat} (h : RE np T S t Z ns nc nl nq pc) : RO np T S t (live Z) := by
  obtain ⟨nd, fo, h⟩ := h
  exact ⟨ns, nc, nl, nq, nd, fo, pc, h⟩
theorem run_L {x : Nat} {nd0 ns nc nl nq pc : Nat} (hx : x ≤ 100) (hT : T + 200 < 2 ^ 31) (hnp : np < 2 ^ 31) (hf : 30 < fu) (S0 Z0 : S4) : ∀ (d k f f' : Nat) (S Z : S4), k + d = x → d < f → d < f' → RE np (T + 2 * k) S 0 Z ns nc nl nq pc → FS 0 S0 S → FV Z0 Z → ∃ S' Z' b, s_X6_run_L20 np fu (nI x) f (nI nd0) (nI k) S = some (.inl (b, S')) ∧ s_X7_run_L32 fu (nI x) f' (nI nd0) (nI k) Z = some (b, Z') ∧ RE np (T + 2 * x) S' 0 Z' ns nc nl nq pc ∧ FS 0 S0 S' ∧ FV Z0 Z' := by
  intro d
  induction d with
  | zero =>
    intro k f f' S Z hk hf1 hf2 h h1 h2
    obtain ⟨f, rfl⟩ : ∃ g, f = g + 1 := ⟨f - 1, by omega⟩
    obtain ⟨f', rfl⟩ : ∃ g, f' = g + 1 := ⟨f' - 1, by omega⟩
    obtain rfl : k = x := by omega
    obtain ⟨nd, fo, hR⟩ := id h
    rw [s_X6_run_L20, s_X7_run_L32, if_pos (nI_le (by omega) (by omega)), if_pos (nI_le (by omega) (by omega)), show S 4 0 0 7 = nI nd from hR.1.2.2.2.2.2.2.2.2.1, rd_n5 Z, hR.1.1.2.2.2.2.2.1]
    exact ⟨S, Z, _, rfl, rfl, h, h1, h2⟩
  | succ d ih =>
    intro k f f' S Z hk hf1 hf2 h h1 h2
    obtain ⟨f, rfl⟩ : ∃ g, f = g + 1 := ⟨f - 1, by omega⟩
    obtain ⟨f', rfl⟩ : ∃ g, f' = g + 1 := ⟨f' - 1, by omega⟩
    obtain ⟨S1, Z1, e1, e2, e3⟩ := t_tick (fu := fu) (by omega) hnp hf h
    rw [s_X6_run_L20, s_X7_run_L32, if_neg (nI_ge (by omega) (by omega)), if_neg (nI_ge (by omega) (by omega)), e1, bd_s, e2, bd_s, nI_1]
    exact ih (k + 1) f f' S1 Z1 (by omega) (by omega) (by omega) (by rw [show T + 2 * (k + 1) = T + 2 * k + 2 by omega]; exact e3) (h1.trans (fr_X4_passTick e1)) (h2.trans (fl_X7_ticks e2))
theorem pr_run {p : Int32} (h : GG np T S Z) (hT : T + 200 < 2 ^ 31) (hnp : np < 2 ^ 31) (hf : 9600 < fu) : PR np (T + 200) S (s_X6_run np fu p S) (s_X7_run fu p Z) [(1, 1)] := by
  obtain ⟨⟨ns, nc, nl, nq, nd, fo, pc, hR⟩, -⟩ := id h
  have up : ∀ {S Z : S4}, GG np T S Z → GG np (T + 200) S Z := fun hh => hh.now (FS.refl 0 _) (FK.refl _) (hh.1.mono (Nat.le_refl _) (by omega)) (by omega)
  unfold s_X6_run s_X7_run
  rw [p_isBetween, bd_s, b2_if]
  by_cases hw : 1 ≤ p ∧ p ≤ 100
  · obtain ⟨x, hx, rfl⟩ := what_cases (n := 100) (by decide) ⟨Int32.le_trans (by decide) hw.1, hw.2⟩
    obtain ⟨S1, Z1, e1, e2, e3, e4, e5, e6, e7, e8⟩ := t_rem (fu := fu) h hR hnp hf
    rw [rt_ok hw, tb_il, if_pos hw, sv_e, e1, bd_s, e2, bd_s, show S1 4 0 0 7 = nI nd from e5.1.2.2.2.2.2.2.2.2.1, rd_n5 Z1, e5.1.1.2.2.2.2.2.1]
    obtain ⟨S2, Z2, b, r1, r2, r3, r4, r5⟩ := run_L (x := x) (nd0 := nd) (fu := fu) hx hT hnp (by omega) S1 Z1 x 0 fu fu S1 Z1 (by omega) (by omega) (by omega) ⟨nd, fo, e5⟩ (FS.refl 0 S1) (FV.refl Z1)
    have r1' : s_X6_run_L20 np fu (nI x) fu (nI nd) 0 S1 = _ := r1
    have r2' : s_X7_run_L32 fu (nI x) fu (nI nd) 0 Z1 = _ := r2
    rw [r1', r2']
    refine ⟨_, S2, b, Z2, rfl, rfl, Or.inl ⟨rfl, ?_⟩, ?_, e4.trans (FC.fs r4)⟩
    · rw [r5 7 0 0 0 (by decide)]; exact e6
    · exact (up e3).now r4 (FK.fv r5) (r3.ro.mono (Nat.le_refl _) (by omega)) (Nat.le_refl _)
  · rw [rt_bad hw, tb_ir, if_neg hw]
    exact PR.fail (up h) (by simp)
/-- only the state of the look ahead changes -/
theorem GG.ah {S' Z' : S4} (h : GG np T S Z) (hS : FS 1 S S') (hZ : FK Z Z') (hl : live Z' = live Z) : GG np T S' Z' := by
  obtain ⟨h1, ⟨pn, pe, a1, a2, a3, a4, a5, a6⟩, ⟨b1, b2⟩, h4, h5⟩ := h
  have s6 : S' 6 = S 6 := by funext t; exact hS 6 t (by simp [stk])
  have s23 : S' 23 = S 23 := by funext t; exact hS 23 t (by simp [stk])
  have s8 : S' 8 = S 8 := by funext t; exact hS 8 t (by simp [stk])
  have s9 : S' 9 = S 9 := by funext t; exact hS 9 t (by simp [stk])
  have st : ∀ t, t ≠ 1 → cls S' t = cls S t := fun t ht => by
    funext k i j
    exact congrFun (congrFun (hS k t (fun z => ht z.2)) i) j
  refine ⟨h1.of (pln_fs hS) (st 0 (by decide)) hl, ⟨pn, pe, by rw [s6]; exact a1, by rw [hZ.2.2.2.2.2.1]; exact a2, a3, by rw [s6]; exact a4, a5, fun j hj => ?_⟩, ⟨by rw [s6, hZ.2.2.2.2.2.2.1]; exact b1, ?_⟩, hZ.gt h4 (by rw [s6]) s23, hZ.gw h5 s8 s9⟩
  · exact (a6 j hj).of (pln_fs hS) (st _ (by omega)) (rowv_k hZ.2.1)
  · rw [s6]
    rcases b2 with b2 | ⟨b2, b3⟩
    · exact Or.inl b2
    · exact Or.inr ⟨b2, b3.of (pln_fs hS) (st _ (by decide)) (rowv_k hZ.2.2.1)⟩
theorem FK.sv {a o m : Nat} {Y : S4} (h : SV Z a o m Y) (ha : a ≠ 30 ∧ a ≠ 33 ∧ a ≠ 34 ∧ a ≠ 35 ∧ a ≠ 7) : FK Z Y := by
  obtain ⟨-, -, h3, -, -⟩ := h
  refine ⟨?_, ?_, ?_, ?_, ?_, ?_, ?_, ?_⟩
  · funext t i j; exact h3 30 t i j (by omega) (by omega)
  · funext t i j; exact h3 33 t i j (by omega) (by omega)
  · funext t i j; exact h3 34 t i j (by omega) (by omega)
  · funext t i j; exact h3 35 t i j (by omega) (by omega)
  · exact h3 7 0 0 16 (by omega) (by omega)
  · exact h3 7 0 0 21 (by omega) (by omega)
  · exact h3 7 0 0 24 (by omega) (by omega)
  · exact h3 7 0 0 26 (by omega) (by omega)
theorem FK.ld {a o m : Nat} {Y : S4} (h : LD Z a o m Y) : FK Z Y := by
  obtain ⟨-, -, h3, h4, -⟩ := h
  refine ⟨?_, ?_, ?_, ?_, ?_, ?_, ?_, ?_⟩
  · funext t i j; exact h3 30 t i j (by omega) (by omega)
  · funext t i j; exact h3 33 t i j (by omega) (by omega)
  · funext t i j; exact h3 34 t i j (by omega) (by omega)
  · funext t i j; exact h3 35 t i j (by omega) (by omega)
  · exact h4 16 (by omega)
  · exact h4 21 (by omega)
  · exact h4 24 (by omega)
  · exact h4 26 (by omega)
theorem live_sv {a o m : Nat} {Y : S4} (h : SV Z a o m Y) (ha : ¬ (24 ≤ a ∧ a < 30)) (h7 : a ≠ 7) : live Y = live Z :=
  live_of (fun k j _ _ => h.2.2.1 k 0 0 j (by omega) (by omega)) (fun j _ _ => h.2.2.1 7 0 0 j (by omega) (by omega))
/-- the reference looks ahead and comes back: a row that was kept -/
theorem ah_back {Y Y1 : S4} (hk : SV Z 32 0 1236 Y) (hv : FV Y Y1) {c : Int32} (hf : 720 < fu) : ∃ Z', s_X7_handsAll fu 32 0 0 1360 0 0 (u4 Y1 7 0 0 0 c) = some Z' ∧ live Z' = live Z ∧ FK Z Z' ∧ Z' 7 0 0 0 = c := by
  obtain ⟨Z', z1, z2⟩ := r_back (Z := u4 Y1 7 0 0 0 c) (fu := fu) (a := 32) (ln2 := 1360) (o := 0) (by decide) (by decide) (by decide) (by decide) hf
  refine ⟨Z', z1, ?_, ?_, ?_⟩
  · have e1 : rowv (u4 Y1 7 0 0 0 c) 32 0 = live Z' := rowv_of (fun j hj => (z2.2.2.2.2 j hj).symm)
    have e2 : rowv Y 32 0 = live Z := rowv_of (fun j hj => hk.2.2.2.2 j hj)
    rw [← e1, ← e2, rowv_u (by decide)]
    exact rowv_cg (fun j _ _ => hv 32 0 0 j (by simp [flk]))
  · exact ((FK.sv hk (by decide)).trans (FK.fv hv)).trans (fk_th.trans (FK.ld z2))
  · rw [z2.2.2.2.1 0 (by omega), th_0]
theorem fore_L {q x : Nat} {y : Int32} {ns nc nl nq pc : Nat} (hq : q < nq) (hx : x ≤ 200) (hT : T + 400 < 2 ^ 31) (hnp : np < 2 ^ 31) (hf : 720 < fu) (S0 Z0 Y0 : S4) (hk : SV Z0 32 0 1236 Y0) : ∀ (d k f f' : Nat) (S Z : S4), k + d = x → d < f → d < f' → RE np (T + 2 * k) S 1 Z ns nc nl nq pc → FS 1 S0 S → FV Y0 Z → ∃ S' Z' b r, s_X6_foresee_L43 np fu (nI q) (nI x) y f (nI k) S = some r ∧ s_X7_foresee_L44 fu (nI q) (nI x) y f' (nI k) Z = some (b, Z') ∧ ((r = .inl (b, S') ∧ Z' 7 0 0 0 = 0) ∨ (r = .inr (4, S') ∧ Z' 7 0 0 0 = 3)) ∧ FS 1 S0 S' ∧ live Z' = live Z0 ∧ FK Z0 Z' := by
  intro d
  induction d with
  | zero =>
    intro k f f' S Z hk' hf1 hf2 h h1 h2
    obtain ⟨f, rfl⟩ : ∃ g, f = g + 1 := ⟨f - 1, by omega⟩
    obtain ⟨f', rfl⟩ : ∃ g, f' = g + 1 := ⟨f' - 1, by omega⟩
    obtain rfl : k = x := by omega
    obtain ⟨nd, fo, hR⟩ := id h
    have h60 := hR.1.1.2.2.2.2.2.2.2.2.2.2.2.1
    obtain ⟨g1, -, g3⟩ := hR.2.2.2.2.1 q hq
    rw [s_X6_foresee_L43, s_X7_foresee_L44, if_pos (nI_le (by omega) (by omega)), if_pos (nI_le (by omega) (by omega)), nI_clamp (n := q) (by omega), show S 1 1 q 4 = live Z 4 q 4 from g1 4 (by decide) (by decide), q_ofParcel (by omega) (by decide), bd_s]
    by_cases h4 : live Z 4 q 4 = 2
    · have g5 : S 1 1 q 5 = live Z 4 q 5 := by
        rcases g3 with ⟨z, -⟩ | ⟨z, -⟩ | ⟨-, z, -⟩
        · rw [h4] at z; exact absurd z (by decide)
        · rw [h4] at z; exact absurd z (by decide)
        · exact z
      rw [if_pos h4, if_pos h4, bd_s, sv_e, th_0, if_pos (show (0 : Int32) ≤ 0 by decide), g5, show S 1 1 q 9 = live Z 4 q 9 from g1 9 (by decide) (by decide)]
      obtain ⟨Z', z1, z2, z3, z4⟩ := ah_back (c := 0) hk h2 hf
      by_cases hy : y = 0
      · rw [if_pos hy, if_pos hy, q_ofParcel (by omega) (by decide), bd_s, bd_s, live_th, z1, bd_s]
        exact ⟨S, Z', _, _, rfl, rfl, Or.inl ⟨rfl, z4⟩, h1, z2, z3⟩
      · rw [if_neg hy, if_neg hy, q_ofParcel (by omega) (by decide), bd_s, bd_s, live_th, z1, bd_s]
        exact ⟨S, Z', _, _, rfl, rfl, Or.inl ⟨rfl, z4⟩, h1, z2, z3⟩
    · rw [if_neg h4, if_neg h4, bd_s, sv_e, th_0, if_neg (by decide), bd_s]
      obtain ⟨Z', z1, z2, z3, z4⟩ := ah_back (c := 3) hk h2 hf
      rw [z1, bd_s]
      exact ⟨S, Z', _, _, rfl, rfl, Or.inr ⟨rfl, z4⟩, h1, z2, z3⟩
  | succ d ih =>
    intro k f f' S Z hk' hf1 hf2 h h1 h2
    obtain ⟨f, rfl⟩ : ∃ g, f = g + 1 := ⟨f - 1, by omega⟩
    obtain ⟨f', rfl⟩ : ∃ g, f' = g + 1 := ⟨f' - 1, by omega⟩
    obtain ⟨nd, fo, hR⟩ := id h
    have h60 := hR.1.1.2.2.2.2.2.2.2.2.2.2.2.1
    obtain ⟨g1, -, g3⟩ := hR.2.2.2.2.1 q hq
    rw [s_X6_foresee_L43, s_X7_foresee_L44, if_neg (nI_ge (by omega) (by omega)), if_neg (nI_ge (by omega) (by omega)), nI_clamp (n := q) (by omega), show S 1 1 q 4 = live Z 4 q 4 from g1 4 (by decide) (by decide), q_ofParcel (by omega) (by decide), bd_s]
    by_cases h4 : live Z 4 q 4 = 2
    · have g5 : S 1 1 q 5 = live Z 4 q 5 := by
        rcases g3 with ⟨z, -⟩ | ⟨z, -⟩ | ⟨-, z, -⟩
        · rw [h4] at z; exact absurd z (by decide)
        · rw [h4] at z; exact absurd z (by decide)
        · exact z
      rw [if_pos h4, if_pos h4, if_pos h4, bd_s, if_pos h4, bd_s, sv_e, th_0, if_pos (show (0 : Int32) ≤ 0 by decide), g5, show S 1 1 q 9 = live Z 4 q 9 from g1 9 (by decide) (by decide)]
      obtain ⟨Z', z1, z2, z3, z4⟩ := ah_back (c := 0) hk h2 hf
      by_cases hy : y = 0
      · rw [if_pos hy, if_pos hy, q_ofParcel (by omega) (by decide), bd_s, bd_s, live_th, z1, bd_s]
        exact ⟨S, Z', _, _, rfl, rfl, Or.inl ⟨rfl, z4⟩, h1, z2, z3⟩
      · rw [if_neg hy, if_neg hy, q_ofParcel (by omega) (by decide), bd_s, bd_s, live_th, z1, bd_s]
        exact ⟨S, Z', _, _, rfl, rfl, Or.inl ⟨rfl, z4⟩, h1, z2, z3⟩
    · obtain ⟨S1, Z1, e1, e2, e3⟩ := t_tick (fu := fu) (by omega) hnp (by omega) h
      rw [if_neg h4, if_neg h4, e1, bd_s, e2, bd_s, nI_1]
      exact ih (k + 1) f f' S1 Z1 (by omega) (by omega) (by omega) (by rw [show T + 2 * (k + 1) = T + 2 * k + 2 by omega]; exact e3) (h1.trans (fr_X4_passTick e1)) (h2.trans (fl_X7_ticks e2))
theorem pr_foresee {p x y : Int32} (h : GG np T S Z) (hT : T + 400 < 2 ^ 31) (hnp : np < 2 ^ 31) (hf : 9600 < fu) : PR np T S (s_X6_foresee np fu p x y S) (s_X7_foresee fu p x y Z) [(5, 1), (1, 2), (4, 3)] := by
  obtain ⟨⟨ns, nc, nl, nq, nd, fo, pc, hR⟩, -⟩ := id h
  have a5 := hR.1.1.2.2.2.2.1
  have b6 := hR.1.1.2.2.2.2.2.2.2.2.2.2.2.1
  have d6 := hR.1.2.2.2.2.2.2.2.1
  unfold s_X6_foresee s_X7_foresee s_X7_isParcel
  rw [show S 4 0 0 6 = nI nq from d6, rd_n4 Z, a5]
  rcases pk_ix p (n := nq) (by omega) with hp | hp | ⟨q, hq, rfl⟩
  · rw [rq_bad (Or.inl hp), tb_ir, isX_bad (Or.inl hp), bd_s, if_pos rfl]
    exact PR.fail h (by simp)
  · rw [rq_bad (Or.inr hp), tb_ir, isX_bad (Or.inr hp), bd_s, if_pos rfl]
    exact PR.fail h (by simp)
  · rw [rq_ok hq (by omega), tb_il, isX_ok hq (by omega), bd_s, if_neg (show ¬ (1 : Int32) = 0 by decide), p_isBetween, bd_s, b2_if]
    by_cases hw : 1 ≤ x ∧ x ≤ 200
    · obtain ⟨n, hn, rfl⟩ := what_cases (n := 200) (by decide) ⟨Int32.le_trans (by decide) hw.1, hw.2⟩
      obtain ⟨S1, s1, s2, s3⟩ := k_copy (np := np) (fu := fu) (t := 1) (t1 := 0) (by decide) hnp (by omega) hR
      obtain ⟨Y, y1, y2⟩ := r_keep (Z := Z) (fu := fu) (a := 32) (ln2 := 1360) (o := 0) (by decide) (by decide) (by decide) (by decide) (by omega)
      have y1' : s_X7_handsAll fu 32 0 0 1360 0 1 Z = some Y := y1
      rw [rt_ok hw, tb_il, if_pos hw, s1, bd_s, y1', bd_s, gd_t (inb_nI (by omega) (by decide))]
      obtain ⟨S2, Z2, b, r, r1, r2, r3, r4, r5, r6⟩ := fore_L (x := n) (y := y) (fu := fu) (T := T) (np := np) (ns := ns) (nc := nc) (nl := nl) (pc := pc) hq hn hT hnp (by omega) S Z Y y2 n 0 fu fu S1 Y (by omega) (by omega) (by omega) ⟨nd, fo, by rw [live_sv y2 (by decide) (by decide)]; exact s3⟩ s2 (FV.refl Y)
      have r1' : s_X6_foresee_L43 np fu (nI q) (nI n) y fu 0 S1 = _ := r1
      have r2' : s_X7_foresee_L44 fu (nI q) (nI n) y fu 0 Y = _ := r2
      rw [r1', r2']
      refine ⟨r, S2, b, Z2, rfl, rfl, ?_, h.ah r4 r6 r5, FC.fs r4⟩
      rcases r3 with ⟨z1, z2⟩ | ⟨z1, z2⟩
      · exact Or.inl ⟨z1, z2⟩
      · exact Or.inr ⟨4, 3, z1, by simp, z2⟩
    · rw [rt_bad hw, tb_ir, if_neg hw]
      exact PR.fail h (by simp)
theorem r_time {Z' : S4} (h : s_X7_ticks fu Z = some Z') : live Z' 6 0 6 = live Z 6 0 6 + 1 := by
  unfold s_X7_ticks at h
  rw [sv_e] at h
  have hF := fu_s_X7_ticks_L12 _ _ _ h
  rw [← rd_n6 Z', ← rd_n6 Z, hF 7 0 0 13 (by decide), u4_app, if_pos ⟨rfl, rfl, rfl, rfl⟩]
theorem until_L {x tm : Nat} {ns nc nl nq pc : Nat} (hx : x ≤ 200) (htm : tm ≤ T) (hT : T + 400 < 2 ^ 31) (hnp : np < 2 ^ 31) (hf : 720 < fu) (S0 Z0 Y0 : S4) (hk : SV Z0 32 0 1236 Y0) (h0 : S0 4 0 0 0 = nI tm) : ∀ (d k f f' : Nat) (S Z : S4), k + d = x → d < f → d < f' → RE np (T + 2 * k) S 1 Z ns nc nl nq pc → live Z 6 0 6 = nI (tm + k) → FS 1 S0 S → FV Y0 Z → ∃ S' Z' b r, s_X6_untilEmpty_L20 np fu (nI x) f (nI k) S = some r ∧ s_X7_untilEmpty_L29 fu (nI x) f' (nI k) Z = some (b, Z') ∧ ((r = .inl (b, S') ∧ Z' 7 0 0 0 = 0) ∨ (r = .inr (4, S') ∧ Z' 7 0 0 0 = 2)) ∧ FS 1 S0 S' ∧ live Z' = live Z0 ∧ FK Z0 Z' := by
  intro d
  have fin : ∀ (k nd : Nat) (S Z : S4), k ≤ 200 → RE np (T + 2 * k) S 1 Z ns nc nl nq pc → live Z 6 0 6 = nI (tm + k) → FS 1 S0 S → FV Y0 Z → S 4 1 0 7 = nI nd → S 4 1 0 6 = nI nq → live Z 6 0 5 = nI nd → live Z 6 0 4 = nI nq → nd ≤ nq → nq ≤ 60 → ∃ S' Z' b r, ((s_X4_isEmpty 1 S).bind fun q7 => if q7 = 0 then some (.inr (4, S)) else some (.inl (S 4 1 0 0 - S 4 0 0 0, S)) : Option ((Int32 × S4) ⊕ (Nat × S4))) = some r ∧ ((if live Z 6 0 5 = live Z 6 0 4 then some (0 : Int32) else some 2).bind fun q7 => sv (u4 Z 7 0 0 0 q7) fun Z8 => (s_X7_handsAll fu 32 0 0 1360 0 0 Z8).bind fun Z10 => if Z10 7 0 0 0 ≤ 0 then some (nI k, Z10) else some (0, Z10)) = some (b, Z') ∧ ((r = .inl (b, S') ∧ Z' 7 0 0 0 = 0) ∨ (r = .inr (4, S') ∧ Z' 7 0 0 0 = 2)) ∧ FS 1 S0 S' ∧ live Z' = live Z0 ∧ FK Z0 Z' := by
    intro k nd S Z hk2 h ht h1 h2 e7 e6 v5 v4 hle h60
    have ht : S 4 1 0 0 = nI (tm + k) := by obtain ⟨nd', fo, hR⟩ := h; exact hR.1.2.1.trans ht
    unfold s_X4_isEmpty
    rw [e7, e6, v5, v4]
    have e00 : S 4 0 0 0 = nI tm := by rw [congrFun (congrFun (h1 4 0 (by decide)) 0) 0]; exact h0
    by_cases e : nI nd = nI nq
    · obtain ⟨Z', z1, z2, z3, z4⟩ := ah_back (c := 0) hk h2 hf
      rw [if_pos e, if_pos e, bd_s, bd_s, if_neg (by decide), sv_e, z1, bd_s, z4, if_pos (by decide), ht, e00, show nI (tm + k) - nI tm = nI k from by rw [pk_sub (by omega), Nat.add_sub_cancel_left]]
      exact ⟨S, Z', _, _, rfl, rfl, Or.inl ⟨rfl, z4⟩, h1, z2, z3⟩
    · obtain ⟨Z', z1, z2, z3, z4⟩ := ah_back (c := 2) hk h2 hf
      rw [if_neg e, if_neg e, bd_s, bd_s, if_pos rfl, sv_e, z1, bd_s, z4, if_neg (by decide)]
      exact ⟨S, Z', _, _, rfl, rfl, Or.inr ⟨rfl, z4⟩, h1, z2, z3⟩
  induction d with
  | zero =>
    intro k f f' S Z hk' hf1 hf2 h ht h1 h2
    obtain ⟨f, rfl⟩ : ∃ g, f = g + 1 := ⟨f - 1, by omega⟩
    obtain ⟨f', rfl⟩ : ∃ g, f' = g + 1 := ⟨f' - 1, by omega⟩
    obtain ⟨nd, fo, hR⟩ := id h
    have h60 := hR.1.1.2.2.2.2.2.2.2.2.2.2.2.1
    have hle := hR.1.1.2.2.2.2.2.2.2.2.2.2.2.2
    rw [s_X6_untilEmpty_L20, s_X7_untilEmpty_L29, if_pos (nI_le (by omega) (by omega)), if_pos (nI_le (by omega) (by omega)), rd_n5 Z, rd_n4 Z]
    exact fin k nd S Z (by omega) h ht h1 h2 hR.1.2.2.2.2.2.2.2.2.1 hR.1.2.2.2.2.2.2.2.1 hR.1.1.2.2.2.2.2.1 hR.1.1.2.2.2.2.1 hle h60
  | succ d ih =>
    intro k f f' S Z hk' hf1 hf2 h ht h1 h2
    obtain ⟨f, rfl⟩ : ∃ g, f = g + 1 := ⟨f - 1, by omega⟩
    obtain ⟨f', rfl⟩ : ∃ g, f' = g + 1 := ⟨f' - 1, by omega⟩
    obtain ⟨nd, fo, hR⟩ := id h
    have h60 := hR.1.1.2.2.2.2.2.2.2.2.2.2.2.1
    have hle := hR.1.1.2.2.2.2.2.2.2.2.2.2.2.2
    have hfin := fin k nd S Z (by omega) h ht h1 h2 hR.1.2.2.2.2.2.2.2.2.1 hR.1.2.2.2.2.2.2.2.1 hR.1.1.2.2.2.2.2.1 hR.1.1.2.2.2.2.1 hle h60
    have eE : s_X4_isEmpty 1 S = some (if nI nd = nI nq then 1 else 0) := by
      unfold s_X4_isEmpty
      rw [show S 4 1 0 7 = nI nd from hR.1.2.2.2.2.2.2.2.2.1, show S 4 1 0 6 = nI nq from hR.1.2.2.2.2.2.2.2.1]
      by_cases e : nI nd = nI nq
      · rw [if_pos e, if_pos e]
      · rw [if_neg e, if_neg e]
    rw [s_X6_untilEmpty_L20, s_X7_untilEmpty_L29, if_neg (nI_ge (by omega) (by omega)), if_neg (nI_ge (by omega) (by omega)), rd_n5 Z, rd_n4 Z]
    by_cases e : nI nd = nI nq
    · rw [eE, if_pos e, bd_s, if_neg (by decide)]
      rw [eE, if_pos e] at hfin
      rw [if_pos (show live Z 6 0 4 ≤ live Z 6 0 5 from by rw [hR.1.1.2.2.2.2.2.1, hR.1.1.2.2.2.2.1, e]; exact Int32.le_refl _)]
      exact hfin
    · obtain ⟨S1, Z1, e1, e2, e3⟩ := t_tick (fu := fu) (by omega) hnp (by omega) h
      have hne : nd ≠ nq := fun z => e (by rw [z])
      rw [eE, if_neg e, bd_s, if_pos rfl, if_neg (show ¬ live Z 6 0 4 ≤ live Z 6 0 5 from by rw [hR.1.1.2.2.2.2.2.1, hR.1.1.2.2.2.2.1]; exact nI_ge (by omega) (by omega)), e1, bd_s, e2, bd_s, nI_1]
      refine ih (k + 1) f f' S1 Z1 (by omega) (by omega) (by omega) (by rw [show T + 2 * (k + 1) = T + 2 * k + 2 by omega]; exact e3) ?_ (h1.trans (fr_X4_passTick e1)) (h2.trans (fl_X7_ticks e2))
      rw [r_time e2, ht, nI_1]
      congr 1
theorem pr_until {x : Int32} (h : GG np T S Z) (hT : T + 400 < 2 ^ 31) (hnp : np < 2 ^ 31) (hf : 9600 < fu) : PR np T S (s_X6_untilEmpty np fu x S) (s_X7_untilEmpty fu x Z) [(1, 1), (4, 2)] := by
  obtain ⟨⟨ns, nc, nl, nq, nd, fo, pc, hR⟩, -⟩ := id h
  obtain ⟨tm, t1, t2⟩ := hR.1.2.2.2.2.2.2.2.2.2.2
  unfold s_X6_untilEmpty s_X7_untilEmpty
  rw [p_isBetween, bd_s, b2_if]
  by_cases hw : 1 ≤ x ∧ x ≤ 200
  · obtain ⟨n, hn, rfl⟩ := what_cases (n := 200) (by decide) ⟨Int32.le_trans (by decide) hw.1, hw.2⟩
    obtain ⟨S1, s1, s2, s3⟩ := k_copy (np := np) (fu := fu) (t := 1) (t1 := 0) (by decide) hnp (by omega) hR
    obtain ⟨Y, y1, y2⟩ := r_keep (Z := Z) (fu := fu) (a := 32) (ln2 := 1360) (o := 0) (by decide) (by decide) (by decide) (by decide) (by omega)
    have y1' : s_X7_handsAll fu 32 0 0 1360 0 1 Z = some Y := y1
    rw [rt_ok hw, tb_il, if_pos hw, s1, bd_s, y1', bd_s]
    have hlY : live Y = live Z := live_sv y2 (by decide) (by decide)
    obtain ⟨S2, Z2, b, r, r1, r2, r3, r4, r5, r6⟩ := until_L (x := n) (tm := tm) (fu := fu) (T := T) (np := np) (ns := ns) (nc := nc) (nl := nl) (nq := nq) (pc := pc) hn t2 hT hnp (by omega) S Z Y y2 (hR.1.2.1.trans t1) n 0 fu fu S1 Y (by omega) (by omega) (by omega) ⟨nd, fo, by rw [hlY]; exact s3⟩ (by rw [hlY]; exact t1) s2 (FV.refl Y)
    have r1' : s_X6_untilEmpty_L20 np fu (nI n) fu 0 S1 = _ := r1
    have r2' : s_X7_untilEmpty_L29 fu (nI n) fu 0 Y = _ := r2
    rw [r1', r2']
    refine ⟨r, S2, b, Z2, rfl, rfl, ?_, h.ah r4 r6 r5, FC.fs r4⟩
    rcases r3 with ⟨z1, z2⟩ | ⟨z1, z2⟩
    · exact Or.inl ⟨z1, z2⟩
    · exact Or.inr ⟨4, 2, z1, by simp, z2⟩
  · rw [rt_bad hw, tb_ir, if_neg hw]
    exact PR.fail h (by simp)
end MU
