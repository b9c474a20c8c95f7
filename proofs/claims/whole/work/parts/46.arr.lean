section AR
variable {np fu T : Nat} {S Z : S4}
theorem r_arr_208 {s n q : Nat} {p2 p3 p4 : Int32} (hs : s < 3) (hn : n < 10) (hq : q < 60) : ∀ (d j f : Nat) (Z : S4), j + d = 11 → 7 ≤ j → d < f → live Z 1 s 1 = nI n → live Z 6 0 4 = nI q → ∃ Z', s_X7_arrive_L208 fu (nI s) p2 p3 p4 f (nI n) (nI q) (nI j) Z = some (nI q, Z') ∧ (∀ k i w, ¬ (k = 4 ∧ i = q) → ¬ (k = 1 ∧ i = s ∧ (w = 1 ∨ w = 3 + n)) → ¬ (k = 6 ∧ w = 4) → live Z' k i w = live Z k i w) ∧ live Z' 6 0 4 = nI (q + 1) ∧ live Z' 1 s 1 = nI (n + 1) ∧ live Z' 1 s (3 + n) = nI q ∧ (∀ w, w < j ∨ w = 11 → live Z' 4 q w = live Z 4 q w) ∧ ∀ w, j ≤ w → w < 11 → live Z' 4 q w = -1 := by
  intro d
  induction d with
  | zero =>
    intro j f Z hj h7 hf h1 h4
    obtain ⟨f, rfl⟩ : ∃ g, f = g + 1 := ⟨f - 1, by omega⟩
    obtain rfl : j = 11 := by omega
    have i1 := i13 (s := s) (w := 3 + n) hs (by omega)
    have e3 : (13 : Int32) * nI s + 3 + nI n = 13 * nI s + nI (3 + n) := by rw [← nI_add 3 n]; show _ = 13 * nI s + ((3 : Int32) + nI n); grind
    have i2 : inb ((13 : Int32) * nI s + 1) 39 ∧ ((13 : Int32) * nI s + 1).toNatClampNeg = 13 * s + 1 := i13 (s := s) (w := 1) hs (by decide)
    have l1 : live (zs Z s (3 + n) (nI q)) = us (live Z) 1 s (3 + n) (nI q) := live_zs hs (by omega)
    have l2 : live (zs (zs Z s (3 + n) (nI q)) s 1 (nI (n + 1))) = us (us (live Z) 1 s (3 + n) (nI q)) 1 s 1 (nI (n + 1)) := by rw [live_zs hs (by decide), l1]
    have l3 : ∀ Y, live (u4 Y 7 0 0 11 (nI (q + 1))) = us (live Y) 6 0 4 (nI (q + 1)) := fun Y => live_u7 (w := 4) (by decide)
    rw [s_X7_arrive_L208, if_pos (by decide), e3, gd_t i1.1, i1.2, sv_e, gd_t i2.1, gd_t i2.1, i2.2, show u4 Z 25 0 0 (13 * s + (3 + n)) (nI q) = zs Z s (3 + n) (nI q) from rfl, rd_s (zs Z s (3 + n) (nI q)) hs (by decide), l1, us_nj (by omega), h1, nI_1, sv_e, show u4 (zs Z s (3 + n) (nI q)) 25 0 0 (13 * s + 1) (nI (n + 1)) = zs (zs Z s (3 + n) (nI q)) s 1 (nI (n + 1)) from rfl, rd_n4 (zs (zs Z s (3 + n) (nI q)) s 1 (nI (n + 1))), l2, us_nk (by decide), us_nk (by decide), h4, nI_1, sv_e]
    refine ⟨_, rfl, fun k i w g1 g2 g3 => ?_, ?_, ?_, ?_, fun w _ => ?_, fun w g1 g2 => absurd g2 (by omega)⟩
    · rw [l3, l2, us_ne (fun z => g3 ⟨z.1, z.2.2⟩), us_ne (by omega), us_ne (by omega)]
    · rw [l3, us_self]
    · rw [l3, l2, us_nk (by decide), us_self]
    · rw [l3, l2, us_nk (by decide), us_nj (by omega), us_self]
    · rw [l3, l2, us_nk (by decide), us_nk (by decide), us_nk (by decide)]
  | succ d ih =>
    intro j f Z hj h7 hf h1 h4
    obtain ⟨f, rfl⟩ : ∃ g, f = g + 1 := ⟨f - 1, by omega⟩
    have e : live (zp Z q j (-1)) = us (live Z) 4 q j (-1) := live_zp hq (by omega)
    rw [s_X7_arrive_L208, if_neg (show ¬ (10 : Int32) < nI j from nI_nlt (a := 10) (by omega) (by decide)), n_setsParcel hq (by omega), bd_s, nI_1]
    obtain ⟨Z', z1, z2, z3, z4, z5, z6, z7⟩ := ih (j + 1) f (zp Z q j (-1)) (by omega) (by omega) (by omega) (by rw [e, us_nk (by decide)]; exact h1) (by rw [e, us_nk (by decide)]; exact h4)
    refine ⟨Z', z1, fun k i w g1 g2 g3 => ?_, z3, z4, z5, fun w hw => ?_, fun w g1 g2 => ?_⟩
    · rw [z2 k i w g1 g2 g3, e, us_ne (by omega)]
    · rw [z6 w (by omega), e, us_nj (by omega)]
    · by_cases e2 : w = j
      · subst e2; rw [z6 w (by omega), e, us_self]
      · exact z7 w (by omega) g2
theorem r_arr_140 {s n q : Nat} {p2 p3 p4 x : Int32} (hs : s < 3) (hn : n < 10) (hq : q < 60) (hfu : 60 < fu) : ∀ (d j f : Nat) (Z : S4), j + d = 12 → d < f → live Z 1 s 1 = nI n → live Z 6 0 4 = nI q → ∃ Z', s_X7_arrive_L140 fu (nI s) p2 p3 p4 f (nI n) x (nI q) (nI j) Z = some (nI q, Z') ∧ (∀ k i w, ¬ (k = 4 ∧ i = q) → ¬ (k = 1 ∧ i = s ∧ (w = 1 ∨ w = 3 + n)) → ¬ (k = 6 ∧ w = 4) → live Z' k i w = live Z k i w) ∧ live Z' 6 0 4 = nI (q + 1) ∧ live Z' 1 s 1 = nI (n + 1) ∧ live Z' 1 s (3 + n) = nI q ∧ live Z' 4 q 0 = p2 ∧ live Z' 4 q 1 = x ∧ live Z' 4 q 2 = p3 ∧ live Z' 4 q 3 = p4 ∧ live Z' 4 q 5 = nI s ∧ (∀ w, 7 ≤ w → w < 11 → live Z' 4 q w = -1) ∧ ∀ w, (w = 4 ∨ w = 6 ∨ w = 11) → live Z' 4 q w = if w < j then live Z 4 q w else 0 := by
  intro d
  induction d with
  | zero =>
    intro j f Z hj hf h1 h4
    obtain ⟨f, rfl⟩ : ∃ g, f = g + 1 := ⟨f - 1, by omega⟩
    obtain rfl : j = 12 := by omega
    rw [s_X7_arrive_L140, if_pos (by decide), q_setsParcel hq (by decide), bd_s, q_setsParcel hq (by decide), bd_s, q_setsParcel hq (by decide), bd_s, q_setsParcel hq (by decide), bd_s, q_setsParcel hq (by decide), bd_s]
    have e : live (zp (zp (zp (zp (zp Z q 0 p2) q 1 x) q 2 p3) q 3 p4) q 5 (nI s)) = us (us (us (us (us (live Z) 4 q 0 p2) 4 q 1 x) 4 q 2 p3) 4 q 3 p4) 4 q 5 (nI s) := by rw [live_zp hq (by decide), live_zp hq (by decide), live_zp hq (by decide), live_zp hq (by decide), live_zp hq (by decide)]
    have eo : ∀ k i w, k ≠ 4 → live (zp (zp (zp (zp (zp Z q 0 p2) q 1 x) q 2 p3) q 3 p4) q 5 (nI s)) k i w = live Z k i w := fun k i w hk => by rw [e, us_nk hk, us_nk hk, us_nk hk, us_nk hk, us_nk hk]
    obtain ⟨Z', z1, z2, z3, z4, z5, z6, z7⟩ := r_arr_208 (fu := fu) (p2 := p2) (p3 := p3) (p4 := p4) hs hn hq 4 7 fu _ (by omega) (by omega) (by omega) (by rw [eo 1 s 1 (by decide)]; exact h1) (by rw [eo 6 0 4 (by decide)]; exact h4)
    refine ⟨Z', z1, fun k i w g1 g2 g3 => ?_, z3, z4, z5, ?_, ?_, ?_, ?_, ?_, z7, fun w hw => ?_⟩
    · rw [z2 k i w g1 g2 g3, e, us_ne (fun z => g1 ⟨z.1, z.2.1⟩), us_ne (fun z => g1 ⟨z.1, z.2.1⟩), us_ne (fun z => g1 ⟨z.1, z.2.1⟩), us_ne (fun z => g1 ⟨z.1, z.2.1⟩), us_ne (fun z => g1 ⟨z.1, z.2.1⟩)]
    · rw [z6 0 (by omega), e]; simp [us_app]
    · rw [z6 1 (by omega), e]; simp [us_app]
    · rw [z6 2 (by omega), e]; simp [us_app]
    · rw [z6 3 (by omega), e]; simp [us_app]
    · rw [z6 5 (by omega), e]; simp [us_app]
    · rw [z6 w (by omega), if_pos (by omega), e, us_nj (by omega), us_nj (by omega), us_nj (by omega), us_nj (by omega), us_nj (by omega)]
  | succ d ih =>
    intro j f Z hj hf h1 h4
    obtain ⟨f, rfl⟩ : ∃ g, f = g + 1 := ⟨f - 1, by omega⟩
    have e : live (zp Z q j 0) = us (live Z) 4 q j 0 := live_zp hq (by omega)
    rw [s_X7_arrive_L140, if_neg (show ¬ (12 : Int32) ≤ nI j from nI_ge (b := 12) (by omega) (by decide)), n_setsParcel hq (by omega), bd_s, nI_1]
    obtain ⟨Z', z1, z2, z3, z4, z5, y0, y1, y2, y3, y5, y7, yr⟩ := ih (j + 1) f (zp Z q j 0) (by omega) (by omega) (by rw [e, us_nk (by decide)]; exact h1) (by rw [e, us_nk (by decide)]; exact h4)
    refine ⟨Z', z1, fun k i w g1 g2 g3 => ?_, z3, z4, z5, y0, y1, y2, y3, y5, y7, fun w hw => ?_⟩
    · rw [z2 k i w g1 g2 g3, e, us_ne (by omega)]
    · rw [yr w hw]
      by_cases e2 : w = j
      · subst e2; rw [if_pos (by omega), if_neg (by omega), e, us_self]
      · by_cases e3 : w < j
        · rw [if_pos (by omega), if_pos e3, e, us_nj e2]
        · rw [if_neg (by omega), if_neg e3]
theorem r_arr_95 {s n q : Nat} {p2 p3 p4 : Int32} (hs : s < 3) (hn : n < 10) (hq : q < 60) (hfu : 60 < fu) {Z : S4} (h1 : live Z 1 s 1 = nI n) (h4 : live Z 6 0 4 = nI q) : ∀ (d j f : Nat), j + d = q → d < f → s_X7_arrive_L95 fu (nI s) p2 p3 p4 f (nI n) (sm (fun p => b2 (live Z 4 p 0 = p2)) j) (nI j) Z = s_X7_arrive_L140 fu (nI s) p2 p3 p4 fu (nI n) (sm (fun p => b2 (live Z 4 p 0 = p2)) q) (nI q) 0 Z := by
  intro d
  induction d with
  | zero =>
    intro j f hj hf
    obtain ⟨f, rfl⟩ : ∃ g, f = g + 1 := ⟨f - 1, by omega⟩
    obtain rfl : j = q := by omega
    rw [s_X7_arrive_L95, rd_n4 Z, h4, if_pos (nI_le (by omega) (by omega))]
  | succ d ih =>
    intro j f hj hf
    obtain ⟨f, rfl⟩ : ∃ g, f = g + 1 := ⟨f - 1, by omega⟩
    have h9 := ih (j + 1) f (by omega) (by omega)
    rw [sm] at h9
    have e : (if live Z 4 j 0 = p2 then some (1 : Int32) else some 0) = some (b2 (live Z 4 j 0 = p2)) := by
      unfold b2
      by_cases h : live Z 4 j 0 = p2
      · rw [if_pos h, if_pos h]
      · rw [if_neg h, if_neg h]
    rw [s_X7_arrive_L95, rd_n4 Z, h4, if_neg (nI_ge (by omega) (by omega)), q_ofParcel (by omega) (by decide), bd_s, e, bd_s, nI_1]
    exact h9
theorem k_arr_5 {s w q : Nat} {p2 : Int32} {v : Vw} (hs : s < 3) (hw : w < 10) (hq : q < 60) {S : S4} (h6 : S 4 0 0 6 = nI q) (h5 : S 5 0 s 1 = nI w) (hE : ∀ p, p < q → S 1 0 p 0 = v 4 p 0) : ∀ (d j f : Nat), j + d = q → d < f → ∃ S', s_X4_putParcel_L5 fu 0 (nI s) p2 f (sm (fun p => b2 (v 4 p 0 = p2)) j) (nI j) S = some (nI q, S') ∧ FS 0 S S' ∧ cls S' 0 4 0 6 = nI (q + 1) ∧ (∀ k i j, ¬ (k = 4 ∧ i = 0 ∧ j = 6) → ¬ (k = 5 ∧ i = s ∧ j = 1) → ¬ (k = 14 ∧ i = s ∧ j = w) → ¬ (k = 1 ∧ i = q) → cls S' 0 k i j = cls S 0 k i j) ∧ cls S' 0 5 s 1 = nI (w + 1) ∧ cls S' 0 14 s w = nI q ∧ cls S' 0 1 q 0 = p2 ∧ cls S' 0 1 q 1 = sm (fun p => b2 (v 4 p 0 = p2)) q ∧ cls S' 0 1 q 4 = 0 ∧ cls S' 0 1 q 5 = nI s ∧ cls S' 0 1 q 6 = 0 ∧ (∀ j, 7 ≤ j → j < 11 → cls S' 0 1 q j = -1) ∧ cls S' 0 1 q 11 = 0 := by
  intro d
  induction d with
  | zero =>
    intro j f hj hf
    obtain ⟨f, rfl⟩ : ∃ g, f = g + 1 := ⟨f - 1, by omega⟩
    obtain rfl : j = q := by omega
    rw [s_X4_putParcel_L5, h6, if_pos (nI_le (by omega) (by omega)), gd_t (inb_nI (by omega) (by decide)), nI_clamp (n := j) (by omega)]
    unfold s_X1_reset
    rw [sv_e, sv_e, sv_e, sv_e, sv_e, sv_e, sv_e, sv_e, sv_e, sv_e, bd_s, gd_t (inb_nI (by omega) (by decide)), nI_clamp (n := s) (by omega)]
    generalize hY : u4 (u4 (u4 (u4 (u4 (u4 (u4 (u4 (u4 (u4 S 1 0 j 0 p2) 1 0 j 1 (sm (fun p => b2 (v 4 p 0 = p2)) j)) 1 0 j 4 0) 1 0 j 5 (nI s)) 1 0 j 6 0) 1 0 j 7 (-1)) 1 0 j 8 (-1)) 1 0 j 9 (-1)) 1 0 j 10 (-1)) 1 0 j 11 0 = Y
    have yC : cls Y 0 = us (us (us (us (us (us (us (us (us (us (cls S 0) 1 j 0 p2) 1 j 1 (sm (fun p => b2 (v 4 p 0 = p2)) j)) 1 j 4 0) 1 j 5 (nI s)) 1 j 6 0) 1 j 7 (-1)) 1 j 8 (-1)) 1 j 9 (-1)) 1 j 10 (-1)) 1 j 11 0 := by rw [← hY, cls_u, cls_u, cls_u, cls_u, cls_u, cls_u, cls_u, cls_u, cls_u, cls_u]
    have yF : FS 0 S Y := by
      rw [← hY]
      exact (((((((((FS.putu rfl (by decide)).trans (FS.putu rfl (by decide))).trans (FS.putu rfl (by decide))).trans (FS.putu rfl (by decide))).trans (FS.putu rfl (by decide))).trans (FS.putu rfl (by decide))).trans (FS.putu rfl (by decide))).trans (FS.putu rfl (by decide))).trans (FS.putu rfl (by decide))).trans (FS.putu rfl (by decide))
    have yo : ∀ x i j', ¬ (x = 1 ∧ i = j) → cls Y 0 x i j' = cls S 0 x i j' := fun x i j' hn => by
      rw [yC, us_ne (by omega), us_ne (by omega), us_ne (by omega), us_ne (by omega), us_ne (by omega), us_ne (by omega), us_ne (by omega), us_ne (by omega), us_ne (by omega), us_ne (by omega)]
    unfold s_X5_append s_X5_isFull
    rw [show Y 4 0 0 6 = nI j from by rw [rcl Y, yo 4 0 6 (by omega)]; exact h6, show Y 5 0 s 1 = nI w from by rw [rcl Y, yo 5 s 1 (by omega)]; exact h5, if_pos (show nI w < (10 : Int32) from nI_lt (b := 10) (by omega) (by decide)), bd_s, if_pos rfl, gd_t (inb_nI (by omega) (by decide)), nI_clamp (n := w) (by omega), sv_e, show u4 Y 14 0 s w (nI j) 5 0 s 1 = nI w from by rw [rcl (u4 Y 14 0 s w (nI j)), cls_u, us_nk (by decide), yo 5 s 1 (by omega)]; exact h5, sv_e, nI_1, bd_s, show ∀ a b, u4 (u4 Y 14 0 s w a) 5 0 s 1 b 4 0 0 6 = nI j from fun a b => by rw [rcl (u4 (u4 Y 14 0 s w a) 5 0 s 1 b), cls_u, us_nk (by decide), cls_u, us_nk (by decide), yo 4 0 6 (by omega)]; exact h6, nI_1, sv_e, show ∀ Y x, u4 Y 4 0 0 6 x 4 0 0 6 = x from fun Y x => by rw [u4_app, if_pos ⟨rfl, rfl, rfl, rfl⟩], nI_pred]
    refine ⟨_, rfl, ((yF.trans (FS.putu rfl (by decide))).trans (FS.putu rfl (by decide))).trans (FS.putu rfl (by decide)), ?_, fun k i j' g1 g2 g3 g4 => ?_, ?_, ?_, ?_, ?_, ?_, ?_, ?_, fun j' g1 g2 => ?_, ?_⟩
    · rw [cls_u, us_self]
    · rw [cls_u, us_ne g1, cls_u, us_ne g2, cls_u, us_ne g3, yo k i j' g4]
    · rw [cls_u, us_nk (by decide), cls_u, us_self]
    · rw [cls_u, us_nk (by decide), cls_u, us_nk (by decide), cls_u, us_self]
    · rw [cls_u, us_nk (by decide), cls_u, us_nk (by decide), cls_u, us_nk (by decide), yC]; simp [us_app]
    · rw [cls_u, us_nk (by decide), cls_u, us_nk (by decide), cls_u, us_nk (by decide), yC]; simp [us_app]
    · rw [cls_u, us_nk (by decide), cls_u, us_nk (by decide), cls_u, us_nk (by decide), yC]; simp [us_app]
    · rw [cls_u, us_nk (by decide), cls_u, us_nk (by decide), cls_u, us_nk (by decide), yC]; simp [us_app]
    · rw [cls_u, us_nk (by decide), cls_u, us_nk (by decide), cls_u, us_nk (by decide), yC]; simp [us_app]
    · rw [cls_u, us_nk (by decide), cls_u, us_nk (by decide), cls_u, us_nk (by decide), yC]
      rcases (by omega : j' = 7 ∨ j' = 8 ∨ j' = 9 ∨ j' = 10) with rfl | rfl | rfl | rfl <;> simp [us_app]
    · rw [cls_u, us_nk (by decide), cls_u, us_nk (by decide), cls_u, us_nk (by decide), yC]; simp [us_app]
  | succ d ih =>
    intro j f hj hf
    obtain ⟨f, rfl⟩ : ∃ g, f = g + 1 := ⟨f - 1, by omega⟩
    have h9 := ih (j + 1) f (by omega) (by omega)
    rw [sm] at h9
    rw [s_X4_putParcel_L5, h6, if_neg (nI_ge (by omega) (by omega)), gd_t (inb_nI (by omega) (by decide)), nI_clamp (n := j) (by omega), hE j (by omega), nI_1]
    by_cases e : v 4 j 0 = p2
    · rw [if_pos e]
      rw [b2_t e] at h9
      exact h9
    · rw [if_neg e]
      rw [b2_f e, show ∀ y : Int32, y + 0 = y from fun y => by grind] at h9
      exact h9
theorem pr_arrive {p p2 p3 p4 : Int32} (h : GG np T S Z) (hnp : np < 2 ^ 31) (hf : 9600 < fu) : PR np T S (s_X6_arrive np fu p p2 p3 p4 S) (s_X7_arrive fu p p2 p3 p4 Z) [(5, 1), (1, 2), (2, 3)] := by
  obtain ⟨⟨ns, nc, nl, nq, nd, fo, pc, hR⟩, -⟩ := id h
  have a2 := hR.1.1.2.1
  have a5 := hR.1.1.2.2.2.2.1
  have b3 := hR.1.1.2.2.2.2.2.2.2.2.1
  have b6 := hR.1.1.2.2.2.2.2.2.2.2.2.2.2.1
  have d3 := hR.1.2.2.2.2.1
  have d6 := hR.1.2.2.2.2.2.2.2.1
  unfold s_X6_arrive s_X7_arrive s_X7_isStation
  rw [show S 4 0 0 3 = nI ns from d3, rd_n1 Z, a2]
  rcases pk_ix p (n := ns) (by omega) with hx | hx | ⟨s, hs, rfl⟩
  · rw [rq_bad (Or.inl hx), tb_ir, isX_bad (Or.inl hx), bd_s, if_pos rfl]
    exact PR.fail h (by simp)
  · rw [rq_bad (Or.inr hx), tb_ir, isX_bad (Or.inr hx), bd_s, if_pos rfl]
    exact PR.fail h (by simp)
  · rw [rq_ok hs (by omega), tb_il, isX_ok hs (by omega), bd_s, if_neg (show ¬ (1 : Int32) = 0 by decide), k_isIn, bd_s, b2_if, p_isBetween, bd_s, b2_if]
    by_cases q2 : (0 : Int32) ≤ p2 ∧ p2 ≤ 99
    · rw [if_pos q2, if_pos q2, k_isIn, bd_s, b2_if, p_isBetween, bd_s, b2_if]
      by_cases q3 : (1 : Int32) ≤ p3 ∧ p3 ≤ 50
      · rw [if_pos q3, if_pos q3, k_isIn, bd_s, b2_if, p_isBetween, bd_s, b2_if]
        by_cases q4 : (0 : Int32) ≤ p4 ∧ p4 ≤ 2
        · obtain ⟨pl, w, s1, s2, s3, s4, s5, s6, s7, s8, s9, s10⟩ := hR.2.1 s hs
          have eF : s_X5_isFull 0 (nI s).toNatClampNeg S = some (if w = 10 then 1 else 0) := by
            unfold s_X5_isFull
            rw [nI_clamp (by omega), show S 5 0 s 1 = nI w from s7]
            by_cases e : w = 10
            · subst e; rfl
            · rw [if_neg e, if_pos (show nI w < (10 : Int32) from nI_lt (b := 10) (by omega) (by decide))]
          rw [if_pos q4, if_pos q4, show S 4 0 0 6 = nI nq from d6, q_ofStation (by omega) (by decide), bd_s, rd_n4 Z, a5, s4, gd_t (inb_nI (by omega) (by decide)), eF, bd_s]
          by_cases e60 : nq = 60
          · subst e60
            rw [if_pos (by decide), if_pos (by decide)]
            exact PR.fail h (by simp)
          · rw [if_neg (show ¬ (60 : Int32) ≤ nI nq from nI_ge (b := 60) (by omega) (by decide)), if_neg (show ¬ nI nq = (60 : Int32) from nI_ne (b := 60) e60 (by omega) (by decide))]
            by_cases e10 : w = 10
            · subst e10
              rw [if_neg (by decide), if_pos (by decide)]
              exact PR.fail h (by simp)
            · obtain ⟨S1, Z1, f1, f2, f3, f4, f5, f6, f7, f8⟩ := t_rem (fu := fu) h hR hnp hf
              have g6 : S1 4 0 0 6 = nI nq := f5.1.2.2.2.2.2.2.2.1
              have g51 : S1 5 0 s 1 = nI w := by rw [f7 5 s 1 (by decide)]; exact s7
              have gE : ∀ p, p < nq → S1 1 0 p 0 = live Z1 4 p 0 := fun p hp => (f5.2.2.2.2.1 p hp).1 0 (by decide) (by decide)
              have z41 : live Z1 1 s 1 = nI w := by rw [f8]; exact s4
              obtain ⟨S2, t1, t2, t3, t4, t5, t6, t7, t8, t9, t10, t11, t12, t13⟩ := k_arr_5 (fu := fu) (p2 := p2) (v := live Z1) (s := s) (w := w) (q := nq) (by omega) (by omega) (by omega) g6 g51 gE nq 0 fu (by omega) (by omega)
              have t1' : s_X4_putParcel fu 0 (nI s) p2 S1 = some (nI nq, S2) := t1
              obtain ⟨Z2, y1, y2, y3, y4, y5, y6, y7, y8, y9, y10, y11, y12⟩ := r_arr_140 (fu := fu) (s := s) (n := w) (q := nq) (p2 := p2) (p3 := p3) (p4 := p4) (x := sm (fun p => b2 (live Z1 4 p 0 = p2)) nq) (by omega) (by omega) (by omega) (by omega) 12 0 fu Z1 (by omega) (by omega) z41 f5.1.1.2.2.2.2.1
              have y1' : s_X7_arrive_L95 fu (nI s) p2 p3 p4 fu (nI w) 0 0 Z1 = some (nI nq, Z2) := (r_arr_95 (fu := fu) (p3 := p3) (p4 := p4) (s := s) (n := w) (q := nq) (by omega) (by omega) (by omega) (by omega) z41 f5.1.1.2.2.2.2.1 nq 0 fu (by omega) (by omega)).trans y1
              have hFV : FV Z1 Z2 := fl_s_X7_arrive_L95 _ _ _ _ _ y1'
              rw [if_neg e10, if_pos rfl, f1, bd_s, t1', bd_s, if_neg (show ¬ nI w = (10 : Int32) from nI_ne (b := 10) e10 (by omega) (by decide)), sv_e (u4 Z 7 0 0 0 0), f2, bd_s, y1']
              dsimp only
              rw [gd_t (inb_nI (by omega) (by decide)), sv_e, gd_t (inb_nI (by omega) (by decide)), sv_e, nI_clamp (n := nq) (by omega)]
              refine ⟨_, _, nI nq, Z2, rfl, rfl, Or.inl ⟨rfl, ?_⟩, ?_, f4.trans ((FC.fs t2).trans ((FC.putu (by decide)).trans (FC.putu (by decide))))⟩
              · rw [hFV 7 0 0 0 (by decide)]; exact f6
              · have hFS : FS 0 S1 (u4 (u4 S2 1 0 nq 2 p3) 1 0 nq 3 p4) := t2.trans ((FS.putu rfl (by decide)).trans (FS.putu rfl (by decide)))
                refine f3.now hFS (FK.fv hFV) ⟨ns, nc, nl, nq + 1, nd, fo, pc, ?_⟩ (Nat.le_refl _)
                rw [pln_fs hFS, cls_u, cls_u]
                have co : ∀ k i j, k ≠ 1 → us (us (cls S2 0) 1 nq 2 p3) 1 nq 3 p4 k i j = cls S2 0 k i j := fun k i j hk => by rw [us_nk hk, us_nk hk]
                refine RR_arr (s := s) (w := w) f5 hs (by omega) z41 (by omega) (fun s' hs' => ?_) ?_ ?_ y4 y5 (fun j hj => ?_) (fun p hp => ?_) ?_ y10 ?_ ?_ (fun x h1 h4 h6 => ?_) y3 (fun j hj => ?_) (fun s' hs' => ?_) ?_ ?_ ?_ (fun s' hs' => ?_) ?_ (fun j hj => ?_) (fun p hp => ?_) (fun j hj => ?_) ?_ (fun j hj => ?_) (fun x h4 h5 h14 h1 => ?_)
                · funext j; exact y2 1 s' j (by omega) (by omega) (by omega)
                · exact y2 1 s 0 (by omega) (by omega) (by omega)
                · exact y2 1 s 2 (by omega) (by omega) (by omega)
                · exact y2 1 s (3 + j) (by omega) (by omega) (by omega)
                · funext j; exact y2 4 p j (by omega) (by omega) (by omega)
                · rw [y12 4 (by omega), if_neg (by decide)]
                · rw [y12 6 (by omega), if_neg (by decide)]
                · exact y11 10 (by decide) (by decide)
                · funext i j; exact y2 x i j (by omega) (by omega) (by omega)
                · exact y2 6 0 j (by omega) (by omega) (by omega)
                · funext j; rw [co 5 s' j (by decide)]; exact t4 5 s' j (by omega) (by omega) (by omega) (by omega)
                · rw [co 5 s 0 (by decide)]; exact t4 5 s 0 (by omega) (by omega) (by omega) (by omega)
                · rw [co 5 s 2 (by decide)]; exact t4 5 s 2 (by omega) (by omega) (by omega) (by omega)
                · rw [co 5 s 1 (by decide)]; exact t5
                · funext j; rw [co 14 s' j (by decide)]; exact t4 14 s' j (by omega) (by omega) (by omega) (by omega)
                · rw [co 14 s w (by decide)]; exact t6
                · rw [co 14 s j (by decide)]; exact t4 14 s j (by omega) (by omega) (by omega) (by omega)
                · funext j; rw [us_ne (by omega), us_ne (by omega)]; exact t4 1 p j (by omega) (by omega) (by omega) (by omega)
                · rcases (by omega : j = 0 ∨ j = 1 ∨ j = 2 ∨ j = 3 ∨ j = 4 ∨ j = 5 ∨ j = 6 ∨ (7 ≤ j ∧ j < 11) ∨ j = 11) with rfl | rfl | rfl | rfl | rfl | rfl | rfl | ⟨z1, z2⟩ | rfl
                  · rw [us_nj (by decide), us_nj (by decide), t7, y6]
                  · rw [us_nj (by decide), us_nj (by decide), t8, y7]
                  · rw [us_nj (by decide), us_self, y8]
                  · rw [us_self, y9]
                  · rw [us_nj (by decide), us_nj (by decide), t9, y12 4 (by omega), if_neg (by decide)]
                  · rw [us_nj (by decide), us_nj (by decide), t10, y10]
                  · rw [us_nj (by decide), us_nj (by decide), t11, y12 6 (by omega), if_neg (by decide)]
                  · rw [us_nj (by omega), us_nj (by omega), t12 j z1 z2, y11 j z1 z2]
                  · rw [us_nj (by decide), us_nj (by decide), t13, y12 11 (by omega), if_neg (by decide)]
                · rw [co 4 0 6 (by decide)]; exact t3
                · rw [co 4 0 j (by decide)]; exact t4 4 0 j (by omega) (by omega) (by omega) (by omega)
                · funext i j; rw [co x i j h1]; exact t4 x i j (by omega) (by omega) (by omega) (by omega)
        · rw [if_neg q4, if_neg q4]
          exact PR.fail h (by simp)
      · rw [if_neg q3, if_neg q3]
        exact PR.fail h (by simp)
    · rw [if_neg q2, if_neg q2]
      exact PR.fail h (by simp)
end AR
