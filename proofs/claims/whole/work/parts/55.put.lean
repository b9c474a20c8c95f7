section AR
variable {np fu T : Nat} {S Z : S4}
theorem live_cell {Z Z' : S4} {k i j : Nat} (h7 : k = 6 → Z' 7 0 0 (7 + j) = Z 7 0 0 (7 + j)) (hk : k ≠ 6 → Z' (24 + k) 0 0 (ofs k i j) = Z (24 + k) 0 0 (ofs k i j)) : live Z' k i j = live Z k i j := by
  unfold live
  by_cases hv : inV k i j = true
  · rw [if_pos hv, if_pos hv]
    by_cases h6 : k = 6
    · rw [if_pos h6, if_pos h6, h7 h6]
    · rw [if_neg h6, if_neg h6, hk h6]
  · rw [if_neg hv, if_neg hv]
/-- what both puts end with -/
theorem put_tie {i p nl' : Nat} {S5 S6 Z5 Z6 : S4} {ns nc nl nq nd fo pc : Nat} (hG : GG np T S5 Z5) (hR : RR np T (pln S5) (cls S5 0) (live Z5) ns nc nl nq nd fo pc) (hFS : FS 0 S5 S6) (hc : ∀ k a w, ¬ (k = 17 ∧ a = 0) → ¬ (k = 4 ∧ a = 0 ∧ w = 5) → cls S6 0 k a w = cls S5 0 k a w) (h45 : cls S6 0 4 0 5 = nI nl') (hz : ∀ k t a w, ¬ (k = 27) → ¬ (k = 7 ∧ w = 10) → Z6 k t a w = Z5 k t a w) (h10 : Z6 7 0 0 10 = nI nl') (hl' : nl' ≤ 5) (hi : i < np) (hn : (∃ m c, VP (live Z6) nc p m c) ∧ PW (live Z6) p ∧ PM (pln S5) (live Z6) i p) (h17 : cls S6 0 17 0 p = nI i) (ho : ∀ a, a < nl' → a ≠ p → ∃ a', a' < nl ∧ (∀ w, w < 52 → live Z6 3 a w = live Z5 3 a' w) ∧ cls S6 0 17 0 a = cls S5 0 17 0 a') (hs : ∀ a b, a < b → b < nl' → live Z6 3 a 0 < live Z6 3 b 0) : GG np T S6 Z6 := by
  have e6 : ∀ j, j ≠ 3 → live Z6 6 0 j = live Z5 6 0 j := fun j hj => live_cell (fun _ => hz 7 0 0 _ (by omega) (by omega)) (fun z => absurd rfl z)
  have ek : ∀ x, x ≠ 3 → x ≠ 6 → live Z6 x = live Z5 x := fun x h3 h6 => by
    funext a w
    exact live_cell (fun z => absurd z h6) (fun _ => hz _ 0 0 _ (by omega) (by omega))
  have hR6 : RR np T (pln S6) (cls S6 0) (live Z6) ns nc nl' nq nd fo pc := by
    refine RR_pl hR ?_ hl' (by rw [← rd_n3 Z6]; exact h10) e6 ek h45 (fun j hj => hc 4 0 j (by omega) (by omega)) (fun x h4 h17 hx => by funext a w; exact hc x a w (by omega) (by omega))
    rw [pln_fs hFS]
    exact RPl_ins hR.2.2.2.1 hi hn h17 ho hs
  have f : ∀ k, k ≠ 27 → k ≠ 7 → Z6 k = Z5 k := fun k h1 h2 => by funext t a w; exact hz k t a w h1 (by omega)
  refine hG.now hFS ⟨f 30 (by decide) (by decide), f 33 (by decide) (by decide), f 34 (by decide) (by decide), f 35 (by decide) (by decide), hz 7 0 0 16 (by decide) (by decide), hz 7 0 0 21 (by decide) (by decide), hz 7 0 0 24 (by decide) (by decide), hz 7 0 0 26 (by decide) (by decide)⟩ ⟨ns, nc, nl', nq, nd, fo, pc, hR6⟩ (Nat.le_refl _)
theorem put_hit {i q : Nat} {f : Int32} {ns nc nl nq nd fo pc : Nat} {cs : List (Nat × Int32)} (h : GG np T S Z) (hnp : np < 2 ^ 31) (hf : 9600 < fu) (hi : i < np) (hR : RR np T (pln S) (cls S 0) (live Z) ns nc nl nq nd fo pc) (hD : PD S Z i) (hok : (∃ e, e < nc ∧ Z 31 0 0 2 = nI e) ∧ ∀ w, w < (Z 31 0 0 1).toNatClampNeg → okr Z nc w) (hff : Z 31 0 0 0 = f) (hq : pof (live Z) f nl = some q) (hqf : live Z 3 q 0 = f) (h0 : Z 7 0 0 0 = 0) : PR np T S ((s_X6_remember np fu S).bind fun Z5 => (s_X4_putPlan np fu 0 i Z5).bind fun Z6 => some (.inl (Z6 4 0 0 5, Z6))) ((s_X7_remembers fu Z).bind fun Z12 => s_X7_addPlan_L182 fu fu (nI q) 0 Z12) cs := by
  obtain ⟨S5, Z5, s5, z5, hG, hFC, hc, hp, hl, h7, -⟩ := t_remember h hnp hf
  obtain ⟨-, ⟨pn, pe, -, a2, a3, -⟩, -⟩ := id h
  obtain ⟨Z', z', -, z3, -⟩ := r_remembers (fu := fu) a2 a3 hf
  obtain rfl : Z' = Z5 := Option.some.inj (z'.symm.trans z5)
  have hR5 : RR np T (pln S5) (cls S5 0) (live Z') ns nc nl nq nd fo pc := by rw [hp, hl]; exact hR.c6 hc
  have hnl : nl ≤ 5 := hR.1.1.2.2.2.2.2.2.2.2.2.2.1
  have hnc : nc ≤ 8 := hR.1.1.2.2.2.2.2.2.2.2.2.1
  have h45 : cls S5 0 4 0 5 = nI nl := hR5.1.2.2.2.2.2.2.1
  have hpl : ∀ p, p < nl → ∃ i, i < np ∧ cls S5 0 17 0 p = nI i ∧ PM (pln S5) (live Z') i p := fun p hp => (hR5.2.2.2.1.1 p hp).2.2
  have hso : ∀ a b, a < b → b < nl → live Z' 3 a 0 < live Z' 3 b 0 := hR5.2.2.2.1.2
  have hql := pof_lt hq
  have e0 : S5 2 0 i 0 = f := by
    obtain ⟨t, R, e, b, ht, r1, r8, he, hb, x0, y0, -⟩ := hD
    rw [rk2 S5, hp, ← rk2 S, x0, ← hff, y0]
  have k1 : s_X4_plansUntil np fu 0 f S5 = some (nI (pofc (pof (live Z') f nl))) := k_plansUntil_L (np := np) (fu := fu) (tick := f) h45 hnl hnp hpl hso nl 0 fu (by omega) (by omega)
  have k2 := (k_hasPlanFrom (f := f) (fu := fu) h45 hnl hnp hpl hso (by omega)).2 q (by rw [hl]; exact hq)
  rw [hl, hq] at k1
  rw [hl, if_pos hqf] at k2
  rw [s5, z5, bd_s, bd_s]
  unfold s_X4_putPlan
  rw [e0, k1, k2, bd_s, bd_s, if_neg (show ¬ (1 : Int32) = 0 by decide), show pofc (some q) = q + 1 from rfl, nI_pred, gd_t (inb_nI (by omega) (by decide)), gd_t (pcd_nI (by omega)), nI_clamp (by omega), sv_e, bd_s]
  obtain ⟨Z6, y1, y2, -, y4⟩ := r_copy52 (fu := fu) (p := q) (by omega) 52 0 fu Z' (by omega) (by omega)
  have y1' : s_X7_addPlan_L182 fu fu (nI q) 0 Z' = _ := y1
  have z10 : Z' 7 0 0 10 = nI nl := by rw [rd_n3 Z']; exact hR5.1.1.2.2.2.1
  have y10 : Z6 7 0 0 10 = nI nl := by rw [y2 7 0 0 10 (by omega)]; exact z10
  rw [y1', y10]
  have c45 : ∀ y, u4 S5 17 0 0 q y 4 0 0 5 = nI nl := fun y => by rw [u4_app, if_neg (by omega)]; exact h45
  have row : ∀ a w, a < 5 → w < 52 → live Z6 3 a w = if a = q then Z 31 0 0 w else live Z' 3 a w := fun a w ha hw => by
    rw [← rd_l Z6 ha hw, ← rd_l Z' ha hw]
    by_cases e : a = q
    · subst e; rw [if_pos rfl, y4 w (Nat.zero_le _) hw, z3 31 0 0 w (by omega) (by omega)]
    · rw [if_neg e, y2 27 0 0 _ (by omega)]
  have row0 : ∀ a, a < 5 → live Z6 3 a 0 = live Z' 3 a 0 := fun a ha => by
    rw [row a 0 ha (by decide)]
    by_cases e : a = q
    · subst e; rw [if_pos rfl, hl, hqf, hff]
    · rw [if_neg e]
  have hS6 : FS 0 S5 (u4 S5 17 0 0 q (nI i)) := FS.putu rfl (by decide)
  have hnew := new_row (v' := live Z6) (p := q) hnc hD hok (fun w hw => by rw [row q w (by omega) hw, if_pos rfl])
  rw [← hp] at hnew
  refine ⟨_, _, _, Z6, rfl, rfl, Or.inl ⟨by rw [c45], by rw [y2 7 0 0 0 (by omega), h7]; exact h0⟩, ?_, fun k hk => ?_⟩
  · refine put_tie hG hR5 hS6 (fun k a w g1 g2 => ?_) (c45 _) (fun k t a w g1 g2 => y2 k t a w (by omega)) y10 hnl hi hnew ?_ (fun a ha e => ⟨a, ha, fun w hw => by rw [row a w (by omega) hw, if_neg e], ?_⟩) (fun a b g1 g2 => ?_)
    · show u4 S5 17 0 0 q (nI i) k 0 a w = S5 k 0 a w
      rw [u4_app, if_neg (by omega)]
    · show u4 S5 17 0 0 q (nI i) 17 0 0 q = nI i
      rw [u4_app, if_pos ⟨rfl, rfl, rfl, rfl⟩]
    · show u4 S5 17 0 0 q (nI i) 17 0 0 a = S5 17 0 0 a
      rw [u4_app, if_neg (by omega)]
    · rw [row0 a (by omega), row0 b (by omega)]
      exact hso a b g1 g2
  · rw [← hFC k hk]
    funext t a w
    rw [u4_app, if_neg (by rintro ⟨rfl, -⟩; exact absurd hk (by decide))]
theorem put_miss {i p : Nat} {f : Int32} {ns nc nl nq nd fo pc : Nat} {cs : List (Nat × Int32)} (h : GG np T S Z) (hnp : np < 2 ^ 31) (hf : 9600 < fu) (hi : i < np) (hR : RR np T (pln S) (cls S 0) (live Z) ns nc nl nq nd fo pc) (hD : PD S Z i) (hok : (∃ e, e < nc ∧ Z 31 0 0 2 = nI e) ∧ ∀ w, w < (Z 31 0 0 1).toNatClampNeg → okr Z nc w) (hff : Z 31 0 0 0 = f) (hq : pofc (pof (live Z) f nl) = p) (hqf : ∀ q, pof (live Z) f nl = some q → live Z 3 q 0 ≠ f) (hpn : p ≤ nl) (hn5 : nl < 5) (hlo : ∀ j, j < p → live Z 3 j 0 < f) (hhi : ∀ j, p ≤ j → j < nl → f < live Z 3 j 0) (h0 : Z 7 0 0 0 = 0) : PR np T S ((s_X6_remember np fu S).bind fun Z5 => (s_X4_putPlan np fu 0 i Z5).bind fun Z6 => some (.inl (Z6 4 0 0 5, Z6))) ((s_X7_remembers fu Z).bind fun Z12 => s_X7_addPlan_L137 fu fu (nI p) (((52 : Int32) * (Z12 7 0 0 10)) - (1 : Int32)) Z12) cs := by
  obtain ⟨S5, Z5, s5, z5, hG, hFC, hc, hp, hl, h7, -⟩ := t_remember h hnp hf
  obtain ⟨-, ⟨pn, pe, -, a2, a3, -⟩, -⟩ := id h
  obtain ⟨Z', z', -, z3, -⟩ := r_remembers (fu := fu) a2 a3 hf
  obtain rfl : Z' = Z5 := Option.some.inj (z'.symm.trans z5)
  have hR5 : RR np T (pln S5) (cls S5 0) (live Z') ns nc nl nq nd fo pc := by rw [hp, hl]; exact hR.c6 hc
  have hnl : nl ≤ 5 := by omega
  have hnc : nc ≤ 8 := hR.1.1.2.2.2.2.2.2.2.2.2.1
  have h45 : cls S5 0 4 0 5 = nI nl := hR5.1.2.2.2.2.2.2.1
  have hpl : ∀ p, p < nl → ∃ i, i < np ∧ cls S5 0 17 0 p = nI i ∧ PM (pln S5) (live Z') i p := fun p hp => (hR5.2.2.2.1.1 p hp).2.2
  have hso : ∀ a b, a < b → b < nl → live Z' 3 a 0 < live Z' 3 b 0 := hR5.2.2.2.1.2
  have e0 : S5 2 0 i 0 = f := by
    obtain ⟨t, R, e, b, ht, r1, r8, he, hb, x0, y0, -⟩ := hD
    rw [rk2 S5, hp, ← rk2 S, x0, ← hff, y0]
  have k1 : s_X4_plansUntil np fu 0 f S5 = some (nI (pofc (pof (live Z') f nl))) := k_plansUntil_L (np := np) (fu := fu) (tick := f) h45 hnl hnp hpl hso nl 0 fu (by omega) (by omega)
  have k2 : s_X4_hasPlanFrom np fu 0 f S5 = some 0 := by
    obtain ⟨g1, g2⟩ := k_hasPlanFrom (f := f) (fu := fu) h45 hnl hnp hpl hso (by omega)
    rw [hl] at g1 g2
    cases e : pof (live Z) f nl with
    | none => exact g1 e
    | some q => rw [g2 q e, if_neg (hqf q e)]
  rw [hl, hq] at k1
  have z10 : Z' 7 0 0 10 = nI nl := by rw [rd_n3 Z']; exact hR5.1.1.2.2.2.1
  rw [s5, z5, bd_s, bd_s, z10]
  unfold s_X4_putPlan
  obtain ⟨S6, x1, x2, x3, x4, x5, x6, x7⟩ := k_shift (np := np) (i := i) (p := p) (nl := nl) hpn hn5 hnp (nl - p) fu S5 S5 (by omega) (by omega) (fun q hq => by obtain ⟨x, g1, g2, -⟩ := hpl q hq; exact ⟨x, g1, g2⟩) h45 (fun _ _ _ _ _ => rfl) (fun w g1 g2 => absurd g2 (by omega))
  rw [show p + (nl - p) = nl by omega, gd_t (pcd_nI (by omega))] at x1
  rw [e0, k1, k2, bd_s, bd_s, if_pos rfl, show S5 4 0 0 5 = nI nl from h45, if_neg (show ¬ (5 : Int32) ≤ nI nl from nI_ge (b := 5) hn5 (by decide)), x1, bd_s]
  obtain ⟨Z6, y1, y3, y2, y4, y5⟩ := r_shift52 (fu := fu) (p := p) (nl := nl) hpn hn5 (by omega) (52 * nl - 52 * p) fu Z' Z' (by omega) (by omega) z10 (fun _ _ _ _ _ => rfl) (fun w g1 g2 => absurd g2 (by omega))
  rw [show (52 : Int32) * nI nl = nI (52 * p + (52 * nl - 52 * p)) from by rw [show (52 : Int32) = nI 52 from rfl, pk_mul, show 52 * p + (52 * nl - 52 * p) = 52 * nl by omega], y1]
  have row : ∀ a w, a < 5 → a ≤ nl → w < 52 → live Z6 3 a w = if a = p then Z 31 0 0 w else if a < p then live Z' 3 a w else live Z' 3 (a - 1) w := fun a w ha han hw => by
    rw [← rd_l Z6 ha hw, ← rd_l Z' ha hw, ← rd_l Z' (show a - 1 < 5 by omega) hw]
    by_cases e : a = p
    · subst e; rw [if_pos rfl, y4 w hw, z3 31 0 0 w (by omega) (by omega)]
    · rw [if_neg e]
      by_cases e2 : a < p
      · rw [if_pos e2, y2 27 0 0 _ (by omega) (by omega)]
      · rw [if_neg e2, y5 _ (by omega) (by omega), show 52 * a + w - 52 = 52 * (a - 1) + w by omega]
  have row0 : ∀ a, a ≤ nl → live Z6 3 a 0 = if a = p then f else if a < p then live Z' 3 a 0 else live Z' 3 (a - 1) 0 := fun a ha => by
    rw [row a 0 (by omega) ha (by decide), hff]
  have hnew := new_row (v' := live Z6) (p := p) hnc hD hok (fun w hw => by rw [row p w (by omega) hpn hw, if_pos rfl])
  rw [← hp] at hnew
  refine ⟨_, _, _, Z6, rfl, rfl, Or.inl ⟨by rw [show S6 4 0 0 5 = nI (nl + 1) from x4], by rw [y2 7 0 0 0 (by omega) (by omega), h7]; exact h0⟩, ?_, fun k hk => ?_⟩
  · refine put_tie hG hR5 x2 x3 x4 (fun k t a w g1 g2 => y2 k t a w (by omega) g2) y3 (by omega) hi hnew x6 (fun a ha e => ?_) (fun a b g1 g2 => ?_)
    · by_cases e2 : a < p
      · exact ⟨a, by omega, fun w hw => by rw [row a w (by omega) (by omega) hw, if_neg e, if_pos e2], x5 a e2⟩
      · exact ⟨a - 1, by omega, fun w hw => by rw [row a w (by omega) (by omega) hw, if_neg e, if_neg e2], x7 a (by omega) (by omega)⟩
    · rw [row0 a (by omega), row0 b (by omega), hl]
      rw [hl] at hso
      by_cases ea : a = p
      · rw [if_pos ea, if_neg (show ¬ b = p by omega), if_neg (show ¬ b < p by omega)]
        exact hhi (b - 1) (by omega) (by omega)
      · rw [if_neg ea]
        by_cases ea2 : a < p
        · rw [if_pos ea2]
          by_cases eb : b = p
          · rw [if_pos eb]; exact hlo a ea2
          · rw [if_neg eb]
            by_cases eb2 : b < p
            · rw [if_pos eb2]; exact hso a b g1 (by omega)
            · rw [if_neg eb2]
              have q1 := hlo a ea2
              have q2 := hhi (b - 1) (by omega) (by omega)
              grind
        · rw [if_neg ea2, if_neg (show ¬ b = p by omega), if_neg (show ¬ b < p by omega)]
          exact hso (a - 1) (b - 1) (by omega) (by omega)
  · rw [← hFC k hk]
    funext t a w
    have : ¬ (stk k = true ∧ t = 0) := fun z => by
      have z1 := z.1
      simp only [stk, mdk, decide_eq_true_eq] at z1 hk
      omega
    rw [x2 k t this]
end AR
