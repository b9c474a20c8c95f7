section AD
variable {np fu T : Nat} {S Z : S4}
theorem free_c {x : Int32} {nc : Nat} (h4 : S 4 0 0 4 = nI nc) (h2 : live Z 6 0 2 = nI nc) (h8 : nc ≤ 8) (hE : ∀ c, c < nc → S 0 0 c 0 = live Z 2 c 0) : ∀ (d c f f' : Nat), c + d = nc → d < f → d < f' → ∃ b, s_X4_isFree_L49 fu 0 x S f (nI c) = some b ∧ s_X7_isFree_L46 fu x Z f' (nI c) = some b ∧ (b = 0 ∨ b = 1) := by
  intro d
  induction d with
  | zero =>
    intro c f f' hc hf hf'
    obtain ⟨f, rfl⟩ : ∃ g, f = g + 1 := ⟨f - 1, by omega⟩
    obtain ⟨f', rfl⟩ : ∃ g, f' = g + 1 := ⟨f' - 1, by omega⟩
    rw [s_X4_isFree_L49, s_X7_isFree_L46, h4, rd_n2 Z, h2, if_pos (nI_le (by omega) (by omega)), if_pos (nI_le (by omega) (by omega))]
    exact ⟨1, rfl, rfl, Or.inr rfl⟩
  | succ d ih =>
    intro c f f' hc hf hf'
    obtain ⟨f, rfl⟩ : ∃ g, f = g + 1 := ⟨f - 1, by omega⟩
    obtain ⟨f', rfl⟩ : ∃ g, f' = g + 1 := ⟨f' - 1, by omega⟩
    rw [s_X4_isFree_L49, s_X7_isFree_L46, h4, rd_n2 Z, h2, if_neg (nI_ge (by omega) (by omega)), if_neg (nI_ge (by omega) (by omega)), gd_t (inb_nI (by omega) (by decide)), nI_clamp (by omega), hE c (by omega), q_ofChute (by omega) (by decide), bd_s, nI_1]
    by_cases e : live Z 2 c 0 = x
    · rw [if_pos e, if_pos e]
      exact ⟨0, rfl, rfl, Or.inl rfl⟩
    · rw [if_neg e, if_neg e]
      exact ih (c + 1) f f' (by omega) (by omega) (by omega)
theorem free_s {x : Int32} {nc ns : Nat} (h4 : S 4 0 0 4 = nI nc) (h2 : live Z 6 0 2 = nI nc) (h8 : nc ≤ 8) (hE : ∀ c, c < nc → S 0 0 c 0 = live Z 2 c 0) (h3 : S 4 0 0 3 = nI ns) (h1 : live Z 6 0 1 = nI ns) (hs : ns ≤ 3) (hD : ∀ s, s < ns → S 5 0 s 0 = live Z 1 s 0) (hfu : 60 < fu) : ∀ (d c f f' : Nat), c + d = ns → d < f → d < f' → ∃ b, s_X4_isFree_L18 fu 0 x S f (nI c) = some b ∧ s_X7_isFree_L18 fu x Z f' (nI c) = some b ∧ (b = 0 ∨ b = 1) := by
  intro d
  induction d with
  | zero =>
    intro c f f' hc hf hf'
    obtain ⟨f, rfl⟩ : ∃ g, f = g + 1 := ⟨f - 1, by omega⟩
    obtain ⟨f', rfl⟩ : ∃ g, f' = g + 1 := ⟨f' - 1, by omega⟩
    rw [s_X4_isFree_L18, s_X7_isFree_L18, h3, rd_n1 Z, h1, if_pos (nI_le (by omega) (by omega)), if_pos (nI_le (by omega) (by omega))]
    exact free_c h4 h2 h8 hE nc 0 fu fu (by omega) (by omega) (by omega)
  | succ d ih =>
    intro c f f' hc hf hf'
    obtain ⟨f, rfl⟩ : ∃ g, f = g + 1 := ⟨f - 1, by omega⟩
    obtain ⟨f', rfl⟩ : ∃ g, f' = g + 1 := ⟨f' - 1, by omega⟩
    rw [s_X4_isFree_L18, s_X7_isFree_L18, h3, rd_n1 Z, h1, if_neg (nI_ge (by omega) (by omega)), if_neg (nI_ge (by omega) (by omega)), gd_t (inb_nI (by omega) (by decide)), nI_clamp (by omega), hD c (by omega), q_ofStation (by omega) (by decide), bd_s, nI_1]
    by_cases e : live Z 1 c 0 = x
    · rw [if_pos e, if_pos e]
      exact ⟨0, rfl, rfl, Or.inl rfl⟩
    · rw [if_neg e, if_neg e]
      exact ih (c + 1) f f' (by omega) (by omega) (by omega)
theorem t_free {x : Int32} {ns nc nl nq nd fo pc : Nat} (hR : RR np T (pln S) (cls S 0) (live Z) ns nc nl nq nd fo pc) (hfu : 60 < fu) : ∃ b, s_X4_isFree fu 0 x S = some b ∧ s_X7_isFree fu x Z = some b ∧ (b = 0 ∨ (b = 1 ∧ ∃ k, x = nI k ∧ 1 ≤ k ∧ k < pc)) := by
  obtain ⟨⟨⟨a1, a2, a3, a4, a5, a6, b1, b2', b3, b4, b5, b6, b7⟩, d0, d1, d2, d3, d4, d5, d6, d7, d8, tm, t1, t2⟩, hS, hCh, -⟩ := id hR
  unfold s_X4_isFree s_X7_isFree
  rw [k_isIn, bd_s, b2_if, p_isBetween, bd_s, b2_if, show S 4 0 0 1 = nI pc from d1, rd_n0 Z, a1, show nI pc - 1 = nI (pc - 1) from pk_sub (a := pc) (b := 1) (by omega)]
  by_cases h : (1 : Int32) ≤ x ∧ x ≤ nI (pc - 1)
  · rw [if_pos h, if_pos h]
    obtain ⟨k, hk, rfl⟩ := what_cases (n := pc - 1) (by omega) ⟨Int32.le_trans (by decide) h.1, h.2⟩
    have hk1 : 1 ≤ k := (nI_leI (a := 1) (b := k) (by decide) (by omega)).mp h.1
    obtain ⟨b, e1, e2, e3⟩ := free_s (S := S) (Z := Z) (fu := fu) (x := nI k) d4 a3 b4 (fun c hc => (hCh c hc).1 0 (by decide)) d3 a2 b3 (fun s hs => by obtain ⟨pl, w, s1, -, -, -, -, s6, -⟩ := hS s hs; exact s6.trans s1.symm) hfu ns 0 fu fu (by omega) (by omega) (by omega)
    refine ⟨b, e1, e2, ?_⟩
    rcases e3 with e3 | e3
    · exact Or.inl e3
    · exact Or.inr ⟨e3, k, rfl, hk1, by omega⟩
  · rw [if_neg h, if_neg h]
    exact ⟨0, rfl, rfl, Or.inl rfl⟩
theorem r_ast_L {x : Int32} {ns : Nat} (hs : ns < 3) : ∀ (d j f : Nat) (Z : S4), j + d = 13 → d < f → live Z 6 0 1 = nI ns → ∃ Z', s_X7_addStation_L39 fu x f (nI j) Z = some (nI ns, Z') ∧ (∀ k i w, ¬ (k = 1 ∧ i = ns) → ¬ (k = 6 ∧ w = 1) → live Z' k i w = live Z k i w) ∧ live Z' 6 0 1 = nI (ns + 1) ∧ (∀ w, w < j → live Z' 1 ns w = live Z 1 ns w) ∧ ∀ w, j ≤ w → w < 13 → live Z' 1 ns w = if w = 0 then x else 0 := by
  intro d
  induction d with
  | zero =>
    intro j f Z hj hf h
    obtain ⟨f, rfl⟩ : ∃ g, f = g + 1 := ⟨f - 1, by omega⟩
    obtain rfl : j = 13 := by omega
    have e : live (u4 Z 7 0 0 8 (nI (ns + 1))) = us (live Z) 6 0 1 (nI (ns + 1)) := live_u7 (w := 1) (by decide)
    rw [s_X7_addStation_L39, if_pos (by decide), sv_e, rd_n1 Z, h, nI_1, show u4 Z 7 0 0 8 (nI (ns + 1)) 7 0 0 8 = nI (ns + 1) from by rw [u4_app, if_pos ⟨rfl, rfl, rfl, rfl⟩], nI_pred]
    refine ⟨_, rfl, fun k i w h1 h2 => ?_, ?_, fun w hw => ?_, fun w h1 h2 => absurd h2 (by omega)⟩
    · rw [e, us_ne (fun z => h2 ⟨z.1, z.2.2⟩)]
    · rw [e, us_self]
    · rw [e, us_nk (by decide)]
  | succ d ih =>
    intro j f Z hj hf h
    obtain ⟨f, rfl⟩ : ∃ g, f = g + 1 := ⟨f - 1, by omega⟩
    have e0 : (if nI j = 0 then some x else some 0) = some (if j = 0 then x else 0) := by
      by_cases e : j = 0
      · subst e; rfl
      · rw [if_neg (nI_ne0 (by omega) (by omega)), if_neg e]
    have i1 := i13 (s := ns) (w := j) hs (by omega)
    have e : ∀ y, live (u4 Z 25 0 0 (13 * ns + j) y) = us (live Z) 1 ns j y := fun y => live_zs hs (by omega)
    rw [s_X7_addStation_L39, if_neg (show ¬ (13 : Int32) ≤ nI j from nI_ge (b := 13) (by omega) (by decide)), e0, bd_s, rd_n1 Z, h, gd_t i1.1, i1.2, sv_e, nI_1]
    obtain ⟨Z', z1, z2, z3, z4, z5⟩ := ih (j + 1) f (u4 Z 25 0 0 (13 * ns + j) (if j = 0 then x else 0)) (by omega) (by omega) (by rw [e, us_nk (by decide)]; exact h)
    refine ⟨Z', z1, fun k i w h1 h2 => ?_, z3, fun w hw => ?_, fun w h1 h2 => ?_⟩
    · rw [z2 k i w h1 h2, e, us_ne (by omega)]
    · rw [z4 w (by omega), e, us_nj (by omega)]
    · by_cases e2 : w = j
      · subst e2; rw [z4 w (by omega), e, us_self]
      · exact z5 w (by omega) h2
theorem pr_addStation {p : Int32} (h : GG np T S Z) (hnp : np < 2 ^ 31) (hf : 9600 < fu) : PR np T S (s_X6_addStation np fu p S) (s_X7_addStation fu p Z) [(1, 1), (2, 2)] := by
  obtain ⟨⟨ns, nc, nl, nq, nd, fo, pc, hR⟩, -⟩ := id h
  have a2 := hR.1.1.2.1
  have b3 := hR.1.1.2.2.2.2.2.2.2.2.1
  have d3 := hR.1.2.2.2.2.1
  unfold s_X6_addStation s_X7_addStation
  obtain ⟨b, e1, e2, e3⟩ := t_free (fu := fu) (x := p) hR (by omega)
  rw [e1, bd_s, e2, bd_s]
  rcases e3 with rfl | ⟨rfl, k, rfl, hk1, hk2⟩
  · rw [if_pos rfl, if_pos rfl]
    exact PR.fail h (by simp)
  · rw [if_neg (show ¬ (1 : Int32) = 0 by decide), if_neg (show ¬ (1 : Int32) = 0 by decide), show S 4 0 0 3 = nI ns from d3, rd_n1 Z, a2]
    by_cases e : ns = 3
    · subst e
      rw [if_neg (by decide), if_pos (by decide)]
      exact PR.fail h (by simp)
    · obtain ⟨S1, Z1, f1, f2, f3, f4, f5, f6, f7, f8⟩ := t_rem (fu := fu) h hR hnp hf
      obtain ⟨Z2, z1, z2, z3, z4, z5⟩ := r_ast_L (fu := fu) (x := nI k) (ns := ns) (by omega) 13 0 fu Z1 (by omega) (by omega) f5.1.1.2.1
      have z1' : s_X7_addStation_L39 fu (nI k) fu 0 Z1 = some (nI ns, Z2) := z1
      have hFV : FV Z1 Z2 := fl_s_X7_addStation_L39 _ _ _ z1'
      have c3 : S1 4 0 0 3 = nI ns := f5.1.2.2.2.2.1
      rw [if_pos (show nI ns < (3 : Int32) from nI_lt (b := 3) (by omega) (by decide)), if_neg (show ¬ nI ns = (3 : Int32) from nI_ne (b := 3) e (by omega) (by decide)), f1, bd_s, sv_e, f2, bd_s, z1']
      unfold s_X4_putStation s_X5_reset
      rw [c3, gd_t (inb_nI (by omega) (by decide)), nI_clamp (by omega), sv_e, sv_e, sv_e, bd_s, show ∀ a b c, u4 (u4 (u4 S1 5 0 ns 0 a) 5 0 ns 1 b) 5 0 ns 2 c 4 0 0 3 = nI ns from fun a b c => by rw [u4_app, if_neg (by omega), u4_app, if_neg (by omega), u4_app, if_neg (by omega)]; exact c3, sv_e, nI_1, show ∀ Y x, u4 Y 4 0 0 3 x 4 0 0 3 = x from fun Y x => by rw [u4_app, if_pos ⟨rfl, rfl, rfl, rfl⟩], nI_pred, bd_s]
      have cc : cls (u4 (u4 (u4 (u4 S1 5 0 ns 0 (nI k)) 5 0 ns 1 0) 5 0 ns 2 0) 4 0 0 3 (nI (ns + 1))) 0 = us (us (us (us (cls S1 0) 5 ns 0 (nI k)) 5 ns 1 0) 5 ns 2 0) 4 0 3 (nI (ns + 1)) := by rw [cls_u, cls_u, cls_u, cls_u]
      refine ⟨_, _, nI ns, Z2, rfl, rfl, Or.inl ⟨rfl, ?_⟩, ?_, f4.trans ((FC.putu (by decide)).trans ((FC.putu (by decide)).trans ((FC.putu (by decide)).trans (FC.putu (by decide)))))⟩
      · rw [hFV 7 0 0 0 (by decide)]; exact f6
      · refine f3.now (((FS.putu rfl (by decide)).trans (FS.putu rfl (by decide))).trans ((FS.putu rfl (by decide)).trans (FS.putu rfl (by decide)))) (FK.fv hFV) ⟨ns + 1, nc, nl, nq, nd, fo, pc, ?_⟩ (Nat.le_refl _)
        rw [pln_u (by decide), pln_u (by decide), pln_u (by decide), pln_u (by decide), cc]
        refine RR_ast (k := k) f5 (by omega) hk1 hk2 (fun s hs => ?_) ?_ ?_ ?_ (fun x h1 h6 => ?_) z3 (fun j hj => ?_) (fun s hs => ?_) ?_ ?_ ?_ ?_ (fun j hj => ?_) (fun x h4 h5 => ?_)
        · funext j; exact z2 1 s j (by omega) (by omega)
        · rw [z5 0 (by omega) (by omega), if_pos rfl]
        · rw [z5 1 (by omega) (by omega), if_neg (by decide)]
        · rw [z5 2 (by omega) (by omega), if_neg (by decide)]
        · funext i j; exact z2 x i j (by omega) (by omega)
        · exact z2 6 0 j (by omega) (by omega)
        · funext j; simp [us_app, hs]
        · simp [us_app]
        · simp [us_app]
        · simp [us_app]
        · simp [us_app]
        · simp [us_app, hj]
        · funext i j; simp [us_app, h4, h5]
theorem r_ach_Z {nc : Nat} (hc : nc < 8) {x1 x2 x3 x4 x5 x6 : Int32} : ∀ (d j f : Nat) (Z : S4), j + d = 15 → d < f → live Z 6 0 2 = nI nc → ∃ Z', s_X7_addChute_L93 fu x1 x2 x3 x4 x5 x6 f (nI j) Z = s_X7_addChute_L93 fu x1 x2 x3 x4 x5 x6 (f - d) (nI 15) Z' ∧ (∀ k i w, ¬ (k = 2 ∧ i = nc) → live Z' k i w = live Z k i w) ∧ (∀ w, w < j → live Z' 2 nc w = live Z 2 nc w) ∧ (∀ w, j ≤ w → w < 15 → live Z' 2 nc w = 0) := by
  intro d
  induction d with
  | zero =>
    intro j f Z hj hf h
    obtain rfl : j = 15 := by omega
    exact ⟨Z, rfl, fun _ _ _ _ => rfl, fun _ _ => rfl, fun w h1 h2 => absurd h2 (by omega)⟩
  | succ d ih =>
    intro j f Z hj hf h
    obtain ⟨f, rfl⟩ : ∃ g, f = g + 1 := ⟨f - 1, by omega⟩
    rw [s_X7_addChute_L93, if_neg (show ¬ (15 : Int32) ≤ nI j from nI_ge (b := 15) (by omega) (by decide)), rd_n2 Z, h, n_setsChute hc (by omega), bd_s, nI_1, show f + 1 - (d + 1) = f - d by omega]
    have e : live (zc Z nc j 0) = us (live Z) 2 nc j 0 := live_zc hc (by omega)
    obtain ⟨Z', z1, z2, z3, z4⟩ := ih (j + 1) f (zc Z nc j 0) (by omega) (by omega) (by rw [e, us_nk (by decide)]; exact h)
    refine ⟨Z', z1, fun k i w hn => ?_, fun w hw => ?_, fun w h1 h2 => ?_⟩
    · rw [z2 k i w hn, e, us_ne (by omega)]
    · rw [z3 w (by omega), e, us_nj (by omega)]
    · by_cases e2 : w = j
      · subst e2; rw [z3 w (by omega), e, us_self]
      · exact z4 w (by omega) h2
theorem r_ach {nc : Nat} (hc : nc < 8) {x1 x2 x3 x4 x5 x6 : Int32} {Z : S4} (h : live Z 6 0 2 = nI nc) (hf : 60 < fu) : ∃ Z', s_X7_addChute_L93 fu x1 x2 x3 x4 x5 x6 fu 0 Z = some (nI nc, Z') ∧ (∀ k i w, ¬ (k = 2 ∧ i = nc) → ¬ (k = 6 ∧ w = 2) → live Z' k i w = live Z k i w) ∧ live Z' 6 0 2 = nI (nc + 1) ∧ live Z' 2 nc 0 = x1 ∧ live Z' 2 nc 1 = x2 ∧ live Z' 2 nc 2 = x3 ∧ live Z' 2 nc 3 = x4 ∧ live Z' 2 nc 4 = x5 ∧ live Z' 2 nc 5 = x6 ∧ live Z' 2 nc 10 = -1 ∧ ∀ w, 6 ≤ w → w < 15 → w ≠ 10 → live Z' 2 nc w = 0 := by
  obtain ⟨Z1, z1, z2, z3, z4⟩ := r_ach_Z (fu := fu) (x1 := x1) (x2 := x2) (x3 := x3) (x4 := x4) (x5 := x5) (x6 := x6) hc 15 0 fu Z (by omega) (by omega) h
  have z1' : s_X7_addChute_L93 fu x1 x2 x3 x4 x5 x6 fu 0 Z = _ := z1
  obtain ⟨g, hg⟩ : ∃ g, fu - 15 = g + 1 := ⟨fu - 16, by omega⟩
  have hn : Z1 7 0 0 9 = nI nc := by rw [rd_n2 Z1, z2 6 0 2 (by omega)]; exact h
  have hq : ∀ Y : S4, ∀ w x, Y 7 0 0 9 = nI nc → zc Y nc w x 7 0 0 9 = nI nc := fun Y w x hY => by unfold zc; rw [u4_app, if_neg (by omega)]; exact hY
  have n1 := hq Z1 0 x1 hn
  have n2 := hq _ 1 x2 n1
  have n3 := hq _ 2 x3 n2
  have n4 := hq _ 3 x4 n3
  have n5 := hq _ 4 x5 n4
  have n6 := hq _ 5 x6 n5
  have n7 := hq _ 10 (-1) n6
  rw [z1', hg, s_X7_addChute_L93, if_pos (by decide), hn, q_setsChute hc (by decide), bd_s, n1, q_setsChute hc (by decide), bd_s, n2, q_setsChute hc (by decide), bd_s, n3, q_setsChute hc (by decide), bd_s, n4, q_setsChute hc (by decide), bd_s, n5, q_setsChute hc (by decide), bd_s, n6, q_setsChute hc (by decide), bd_s, n7, sv_e, nI_1, show ∀ Y x, u4 Y 7 0 0 9 x 7 0 0 9 = x from fun Y x => by rw [u4_app, if_pos ⟨rfl, rfl, rfl, rfl⟩], nI_pred]
  have el : live (u4 (zc (zc (zc (zc (zc (zc (zc Z1 nc 0 x1) nc 1 x2) nc 2 x3) nc 3 x4) nc 4 x5) nc 5 x6) nc 10 (-1)) 7 0 0 9 (nI (nc + 1))) = us (us (us (us (us (us (us (us (live Z1) 2 nc 0 x1) 2 nc 1 x2) 2 nc 2 x3) 2 nc 3 x4) 2 nc 4 x5) 2 nc 5 x6) 2 nc 10 (-1)) 6 0 2 (nI (nc + 1)) := by
    have e0 : ∀ Y, live (u4 Y 7 0 0 9 (nI (nc + 1))) = us (live Y) 6 0 2 (nI (nc + 1)) := fun Y => live_u7 (w := 2) (by decide)
    rw [e0, live_zc hc (by decide), live_zc hc (by decide), live_zc hc (by decide), live_zc hc (by decide), live_zc hc (by decide), live_zc hc (by decide), live_zc hc (by decide)]
  refine ⟨_, rfl, fun k i w h1 h2 => ?_, ?_, ?_, ?_, ?_, ?_, ?_, ?_, ?_, fun w h1 h2 h3 => ?_⟩
  · rw [el, us_ne (by omega), us_ne (fun z => h1 ⟨z.1, z.2.1⟩), us_ne (fun z => h1 ⟨z.1, z.2.1⟩), us_ne (fun z => h1 ⟨z.1, z.2.1⟩), us_ne (fun z => h1 ⟨z.1, z.2.1⟩), us_ne (fun z => h1 ⟨z.1, z.2.1⟩), us_ne (fun z => h1 ⟨z.1, z.2.1⟩), us_ne (fun z => h1 ⟨z.1, z.2.1⟩)]
    exact z2 k i w h1
  · rw [el, us_self]
  · rw [el]; simp [us_app]
  · rw [el]; simp [us_app]
  · rw [el]; simp [us_app]
  · rw [el]; simp [us_app]
  · rw [el]; simp [us_app]
  · rw [el]; simp [us_app]
  · rw [el]; simp [us_app]
  · rw [el, us_nk (by decide), us_nj h3, us_nj (by omega), us_nj (by omega), us_nj (by omega), us_nj (by omega), us_nj (by omega), us_nj (by omega)]
    exact z4 w (by omega) h2
theorem pr_addChute {p p2 p3 p4 p5 p6 : Int32} (h : GG np T S Z) (hnp : np < 2 ^ 31) (hf : 9600 < fu) : PR np T S (s_X6_addChute np fu p p2 p3 p4 p5 p6 S) (s_X7_addChute fu p p2 p3 p4 p5 p6 Z) [(1, 1), (2, 2)] := by
  obtain ⟨⟨ns, nc, nl, nq, nd, fo, pc, hR⟩, -⟩ := id h
  have a3 := hR.1.1.2.2.1
  have b4 := hR.1.1.2.2.2.2.2.2.2.2.2.1
  have d4 := hR.1.2.2.2.2.2.1
  unfold s_X6_addChute s_X7_addChute
  obtain ⟨b, e1, e2, e3⟩ := t_free (fu := fu) (x := p) hR (by omega)
  rw [e1, bd_s, e2, bd_s]
  rcases e3 with rfl | ⟨rfl, k, rfl, hk1, hk2⟩
  · rw [if_pos rfl, if_pos rfl]
    exact PR.fail h (by simp)
  · rw [if_neg (show ¬ (1 : Int32) = 0 by decide), if_neg (show ¬ (1 : Int32) = 0 by decide), k_isIn, bd_s, b2_if, p_isBetween, bd_s, b2_if]
    by_cases q2 : (1 : Int32) ≤ p2 ∧ p2 ≤ 20
    · rw [if_pos q2, if_pos q2, k_isIn, bd_s, b2_if, p_isBetween, bd_s, b2_if]
      by_cases q3 : (0 : Int32) ≤ p3 ∧ p3 ≤ 5
      · rw [if_pos q3, if_pos q3, k_isIn, bd_s, b2_if, p_isBetween, bd_s, b2_if]
        by_cases q4 : (1 : Int32) ≤ p4 ∧ p4 ≤ 50
        · rw [if_pos q4, if_pos q4, k_isIn, bd_s, b2_if, p_isBetween, bd_s, b2_if]
          by_cases q5 : (1 : Int32) ≤ p5 ∧ p5 ≤ 9
          · rw [if_pos q5, if_pos q5, k_isIn, bd_s, b2_if, p_isBetween, bd_s, b2_if]
            by_cases q6 : (0 : Int32) ≤ p6 ∧ p6 ≤ 9
            · rw [if_pos q6, if_pos q6, show S 4 0 0 4 = nI nc from d4, rd_n2 Z, a3]
              by_cases e : nc = 8
              · subst e
                rw [if_neg (by decide), if_pos (by decide)]
                exact PR.fail h (by simp)
              · obtain ⟨S1, Z1, f1, f2, f3, f4, f5, f6, f7, f8⟩ := t_rem (fu := fu) h hR hnp hf
                obtain ⟨Z2, z1, z2, z3, y0, y1, y2, y3, y4, y5, y10, yr⟩ := r_ach (fu := fu) (nc := nc) (by omega) (x1 := nI k) (x2 := p2) (x3 := p3) (x4 := p4) (x5 := p5) (x6 := p6) (Z := Z1) f5.1.1.2.2.1 (by omega)
                have hFV : FV Z1 Z2 := fl_s_X7_addChute_L93 _ _ _ z1
                have c4 : S1 4 0 0 4 = nI nc := f5.1.2.2.2.2.2.1
                rw [if_pos (show nI nc < (8 : Int32) from nI_lt (b := 8) (by omega) (by decide)), if_neg (show ¬ nI nc = (8 : Int32) from nI_ne (b := 8) e (by omega) (by decide)), f1, bd_s, sv_e, f2, bd_s, z1]
                unfold s_X4_putChute s_X0_reset
                rw [c4, gd_t (inb_nI (by omega) (by decide)), nI_clamp (by omega), sv_e, sv_e, sv_e, sv_e, sv_e, sv_e, sv_e, sv_e, sv_e, bd_s]
                generalize hY : u4 (u4 (u4 (u4 (u4 (u4 (u4 (u4 (u4 S1 0 0 nc 6 0) 0 0 nc 7 0) 0 0 nc 8 0) 0 0 nc 9 0) 0 0 nc 10 (-1)) 0 0 nc 11 0) 0 0 nc 12 0) 0 0 nc 13 0) 0 0 nc 14 0 = Y
                have yC : cls Y 0 = us (us (us (us (us (us (us (us (us (cls S1 0) 0 nc 6 0) 0 nc 7 0) 0 nc 8 0) 0 nc 9 0) 0 nc 10 (-1)) 0 nc 11 0) 0 nc 12 0) 0 nc 13 0) 0 nc 14 0 := by rw [← hY, cls_u, cls_u, cls_u, cls_u, cls_u, cls_u, cls_u, cls_u, cls_u]
                have yP : pln Y = pln S1 := by rw [← hY, pln_u (by decide), pln_u (by decide), pln_u (by decide), pln_u (by decide), pln_u (by decide), pln_u (by decide), pln_u (by decide), pln_u (by decide), pln_u (by decide)]
                have yF : FS 0 S1 Y := by
                  rw [← hY]
                  exact ((((((((FS.putu rfl (by decide)).trans (FS.putu rfl (by decide))).trans (FS.putu rfl (by decide))).trans (FS.putu rfl (by decide))).trans (FS.putu rfl (by decide))).trans (FS.putu rfl (by decide))).trans (FS.putu rfl (by decide))).trans (FS.putu rfl (by decide))).trans (FS.putu rfl (by decide))
                have yo : ∀ x i j, ¬ (x = 0 ∧ i = nc) → cls Y 0 x i j = cls S1 0 x i j := fun x i j hn => by
                  rw [yC, us_ne (by omega), us_ne (by omega), us_ne (by omega), us_ne (by omega), us_ne (by omega), us_ne (by omega), us_ne (by omega), us_ne (by omega), us_ne (by omega)]
                rw [show Y 4 0 0 4 = nI nc from by rw [rcl Y, yo 4 0 4 (by omega)]; exact c4, sv_e, nI_1, bd_s, gd_t (show nc < 8 by omega), sv_e, sv_e, sv_e, sv_e, sv_e, sv_e]
                have eN : ∀ Y' : S4, Y' 4 0 0 4 = nI (nc + 1) → ∀ a b c d e f, u4 (u4 (u4 (u4 (u4 (u4 Y' 0 0 nc 0 a) 0 0 nc 1 b) 0 0 nc 2 c) 0 0 nc 3 d) 0 0 nc 4 e) 0 0 nc 5 f 4 0 0 4 = nI (nc + 1) := fun Y' hY' a b c d e f => by
                  rw [u4_app, if_neg (by omega), u4_app, if_neg (by omega), u4_app, if_neg (by omega), u4_app, if_neg (by omega), u4_app, if_neg (by omega), u4_app, if_neg (by omega)]; exact hY'
                dsimp only
                rw [eN (u4 Y 4 0 0 4 (nI (nc + 1))) (by rw [u4_app, if_pos ⟨rfl, rfl, rfl, rfl⟩]), nI_pred]
                have cc : cls (u4 (u4 (u4 (u4 (u4 (u4 (u4 Y 4 0 0 4 (nI (nc + 1))) 0 0 nc 0 (nI k)) 0 0 nc 1 p2) 0 0 nc 2 p3) 0 0 nc 3 p4) 0 0 nc 4 p5) 0 0 nc 5 p6) 0 = us (us (us (us (us (us (us (cls Y 0) 4 0 4 (nI (nc + 1))) 0 nc 0 (nI k)) 0 nc 1 p2) 0 nc 2 p3) 0 nc 3 p4) 0 nc 4 p5) 0 nc 5 p6 := by rw [cls_u, cls_u, cls_u, cls_u, cls_u, cls_u, cls_u]
                refine ⟨_, _, nI nc, Z2, rfl, rfl, Or.inl ⟨rfl, ?_⟩, ?_, f4.trans (FC.trans (FC.fs yF) ((FC.putu (by decide)).trans ((FC.putu (by decide)).trans ((FC.putu (by decide)).trans ((FC.putu (by decide)).trans ((FC.putu (by decide)).trans ((FC.putu (by decide)).trans (FC.putu (by decide)))))))))⟩
                · rw [hFV 7 0 0 0 (by decide)]; exact f6
                · refine f3.now (yF.trans ((FS.putu rfl (by decide)).trans ((FS.putu rfl (by decide)).trans ((FS.putu rfl (by decide)).trans ((FS.putu rfl (by decide)).trans ((FS.putu rfl (by decide)).trans ((FS.putu rfl (by decide)).trans (FS.putu rfl (by decide))))))))) (FK.fv hFV) ⟨ns, nc + 1, nl, nq, nd, fo, pc, ?_⟩ (Nat.le_refl _)
                  rw [pln_u (by decide), pln_u (by decide), pln_u (by decide), pln_u (by decide), pln_u (by decide), pln_u (by decide), pln_u (by decide), yP, cc]
                  refine RR_ach (k := k) f5 (by omega) hk1 hk2 (fun c hc => ?_) y0 (by rw [y5]; exact q6.1) (yr 8 (by decide) (by decide) (by decide)) (yr 9 (by decide) (by decide) (by decide)) y10 (yr 11 (by decide) (by decide) (by decide)) (fun x h1 h6 => ?_) z3 (fun j hj => ?_) (fun c hc => ?_) (fun j hj => ?_) ?_ (fun j hj => ?_) (fun x h4 h0 => ?_)
                  · funext j; exact z2 2 c j (by omega) (by omega)
                  · funext i j; exact z2 x i j (by omega) (by omega)
                  · exact z2 6 0 j (by omega) (by omega)
                  · funext j; simp [us_app, hc]; exact yo 0 c j (by omega)
                  · rcases (by omega : j = 0 ∨ j = 1 ∨ j = 2 ∨ j = 3 ∨ j = 4 ∨ j = 5 ∨ j = 10 ∨ (6 ≤ j ∧ j ≠ 10)) with rfl | rfl | rfl | rfl | rfl | rfl | rfl | ⟨g1, g2⟩
                    · rw [y0]; simp [us_app]
                    · rw [y1]; simp [us_app]
                    · rw [y2]; simp [us_app]
                    · rw [y3]; simp [us_app]
                    · rw [y4]; simp [us_app]
                    · rw [y5]; simp [us_app]
                    · rw [y10, yC]; simp [us_app]
                    · rw [yr j g1 hj g2, us_nj (by omega), us_nj (by omega), us_nj (by omega), us_nj (by omega), us_nj (by omega), us_nj (by omega), us_nk (by decide), yC]
                      rcases (by omega : j = 6 ∨ j = 7 ∨ j = 8 ∨ j = 9 ∨ j = 11 ∨ j = 12 ∨ j = 13 ∨ j = 14) with rfl | rfl | rfl | rfl | rfl | rfl | rfl | rfl <;> simp [us_app]
                  · simp [us_app]
                  · simp [us_app, hj]; exact yo 4 0 j (by omega)
                  · funext i j; simp [us_app, h4, h0]; exact yo x i j (by omega)
            · rw [if_neg q6, if_neg q6]
              exact PR.fail h (by simp)
          · rw [if_neg q5, if_neg q5]
            exact PR.fail h (by simp)
        · rw [if_neg q4, if_neg q4]
          exact PR.fail h (by simp)
      · rw [if_neg q3, if_neg q3]
        exact PR.fail h (by simp)
    · rw [if_neg q2, if_neg q2]
      exact PR.fail h (by simp)
end AD
