section WQ
variable {fu np T i j nc m cx : Nat} {S Z : S4} {v P : Vw}
theorem t_wrToL (hf0 : 20 < fu) (hM : PM P v i j) (hj : j < 5) (hVP : VP v nc j m cx) (hW : PW v j) (hnc : nc ≤ 8) : ∀ (d r f f' w : Nat) (S Z : S4), r + d = m → d < f → d < f' → GWt S Z w → w + 12 * d + 4 ≤ 140 → pln S = P → live Z = v → ∃ S' Z' w', s_X2_writeTo_L16 fu i f (nI r) S = some S' ∧ s_X7_write_L42 fu (nI j) f' (nI r) Z = some (nI w', Z') ∧ GWt S' Z' w' ∧ w' ≤ 140 ∧ CW S S' ∧ ZW Z Z' := by
  obtain ⟨hV1, hm8, hV2, hcx, hVR⟩ := id hVP
  obtain ⟨-, ⟨b, hb9, hb⟩, -, -⟩ := id hW
  obtain ⟨p0, p1, p2, p3, -⟩ := id hM
  have r1 : ∀ {S : S4}, pln S = P → S 2 0 i 1 = nI m := fun {S} hh => by rw [rk2 S, hh, p1]; exact hV1
  have r2 : ∀ {S : S4}, pln S = P → S 2 0 i 2 = nI cx := fun {S} hh => by rw [rk2 S, hh, p2]; exact hV2
  have r3 : ∀ {S : S4}, pln S = P → S 2 0 i 3 = nI b := fun {S} hh => by rw [rk2 S, hh, p3]; exact hb
  intro d
  induction d with
  | zero =>
    intro r f f' w S Z hr hf hf' hT hw hP hZ
    obtain ⟨f, rfl⟩ : ∃ g, f = g + 1 := ⟨f - 1, by omega⟩
    obtain ⟨f', rfl⟩ : ∃ g, f' = g + 1 := ⟨f' - 1, by omega⟩
    obtain rfl : r = m := by omega
    obtain ⟨S1, Z1, s1, z1, t1, cw1, zw1⟩ := hT.apc (c := 120) (by omega) (by decide)
    have s1' : s_apc 120 S = some S1 := s1
    have z1' : s_X7_prints 120 Z = some Z1 := z1
    have hP1 := cw1.pln.trans hP
    have hZ1 := zw1.live.trans hZ
    obtain ⟨S2, Z2, s2, z2, t2, cw2, zw2⟩ := t1.apn (fu := fu) (v := cx) (by omega) (by rw [nsz_1 (by omega)]; omega) (by omega)
    rw [nsz_1 (by omega)] at t2
    have hP2 := cw2.pln.trans hP1
    have hZ2 := zw2.live.trans hZ1
    rw [s_X2_writeTo_L16, s_X7_write_L42, r1 hP, if_pos (nI_le (Nat.le_refl _) (by omega)), q_ofPlan hj (by decide), bd_s, hZ, hV1, if_pos (nI_le (Nat.le_refl _) (by omega)), s1', z1', bd_s, bd_s, r2 hP1, s2, bd_s, q_ofPlan hj (by decide), bd_s, hZ1, hV2, z2, bd_s, q_ofPlan hj (by decide), bd_s, hZ2, hb, r3 hP2]
    by_cases e : nI b = 3
    · rw [if_pos e, if_pos e, t2.2.1]
      exact ⟨S2, Z2, _, rfl, rfl, t2, by omega, cw1.trans cw2, zw1.trans zw2⟩
    · rw [if_neg e, if_neg e]
      obtain ⟨S3, Z3, s3, z3, t3, cw3, zw3⟩ := t2.apc (c := 42) (by omega) (by decide)
      have s3' : s_apc 42 S2 = some S3 := s3
      have z3' : s_X7_prints 42 Z2 = some Z3 := z3
      obtain ⟨S4, Z4, s4, z4, t4, cw4, zw4⟩ := t3.apn (fu := fu) (v := b) (by omega) (by rw [nsz_1 (by omega)]; omega) (by omega)
      rw [nsz_1 (by omega)] at t4
      rw [s3', z3', bd_s, bd_s, r3 (cw3.pln.trans hP2), s4, q_ofPlan hj (by decide), bd_s, zw3.live.trans hZ2, hb, z4, bd_s, t4.2.1]
      exact ⟨S4, Z4, _, rfl, rfl, t4, by omega, ((cw1.trans cw2).trans cw3).trans cw4, ((zw1.trans zw2).trans zw3).trans zw4⟩
  | succ d ih =>
    intro r f f' w S Z hr hf hf' hT hw hP hZ
    obtain ⟨f, rfl⟩ : ∃ g, f = g + 1 := ⟨f - 1, by omega⟩
    obtain ⟨f', rfl⟩ : ∃ g, f' = g + 1 := ⟨f' - 1, by omega⟩
    obtain ⟨c0, hc0, e0⟩ : ∃ c, c < 128 ∧ (if nI r = 0 then some (58 : Int32) else some (59 : Int32)) = some (nI c) := by
      by_cases hz : nI r = 0
      · rw [if_pos hz]; exact ⟨58, by decide, rfl⟩
      · rw [if_neg hz]; exact ⟨59, by decide, rfl⟩
    obtain ⟨S1, Z1, s1, z1, t1, cw1, zw1⟩ := hT.apc (c := c0) (by omega) hc0
    have hP1 := cw1.pln.trans hP
    have hZ1 := zw1.live.trans hZ
    obtain ⟨S2, Z2, w2, s2, z2, t2, hw2, cw2, zw2⟩ := t_wrRule (fu := fu) (r := r) hf0 hM hj hVP hW (by omega) hnc t1 (by omega) hP1 hZ1
    obtain ⟨S3, Z3, w3, s3, z3, t3, hw3, cw3, zw3⟩ := ih (r + 1) f f' w2 S2 Z2 (by omega) (by omega) (by omega) t2 (by omega) (cw2.pln.trans hP1) (zw2.live.trans hZ1)
    rw [s_X2_writeTo_L16, s_X7_write_L42, r1 hP, if_neg (nI_ge (by omega) (by omega)), q_ofPlan hj (by decide), bd_s, hZ, hV1, if_neg (nI_ge (by omega) (by omega)), e0, bd_s, bd_s, s1, z1, bd_s, bd_s, s2, z2, bd_s, bd_s, nI_1]
    exact ⟨S3, Z3, w3, s3, z3, t3, hw3, (cw1.trans cw2).trans cw3, (zw1.trans zw2).trans zw3⟩
theorem RO.cw {np T : Nat} {S S' : S4} {t : Nat} {v v' : Vw} (h : RO np T S t v) (hs : CW S S') (hv : v' = v) : RO np T S' t v' := by
  subst hv
  obtain ⟨ns, nc, nl, nq, nd, fo, pc, hR⟩ := h
  refine ⟨ns, nc, nl, nq, nd, fo, pc, hR.cs (fun k hk => ?_) (fun k i j _ => by rw [hs.pln])⟩
  have e : k ≠ 8 ∧ k ≠ 9 := by
    simp only [stk, decide_eq_true_eq] at hk
    omega
  funext i j
  show S' k t i j = S k t i j
  rw [hs k e.1 e.2]
theorem GG.paper {S' Z' : S4} (h : GG np T S Z) (hs : CW S S') (hz : ∀ k t i j, k ≠ 35 → ¬ (k = 7 ∧ (j = 0 ∨ j = 26)) → Z' k t i j = Z k t i j) (hw : GW S' Z') : GG np T S' Z' := by
  obtain ⟨h1, ⟨pn, pe, a1, a2, a3, a4, a5, a6⟩, ⟨b1, b2⟩, ⟨len, g1, g2, g3, g4⟩, -⟩ := h
  have s6 : S' 6 = S 6 := hs 6 (by decide) (by decide)
  have rk : ∀ a o, a ≠ 35 → a ≠ 7 → rowv Z' a o = rowv Z a o := fun a o e1 e2 => rowv_k (by funext t i j; exact hz a t i j e1 (by omega))
  have hl : live Z' = live Z := live_of (fun k j _ _ => hz k 0 0 j (by omega) (by omega)) (fun j _ _ => hz 7 0 0 j (by omega) (by omega))
  refine ⟨h1.cw hs hl, ⟨pn, pe, by rw [s6]; exact a1, by rw [hz 7 0 0 21 (by omega) (by omega)]; exact a2, a3, by rw [s6]; exact a4, a5, fun j hj => (a6 j hj).cw hs (rk 33 _ (by decide) (by decide))⟩, ⟨by rw [s6, hz 7 0 0 24 (by omega) (by omega)]; exact b1, ?_⟩, ⟨len, g1, by rw [s6]; exact g2, by rw [hz 7 0 0 16 (by omega) (by omega)]; exact g3, fun j hj => by rw [hs 23 (by decide) (by decide), hz 30 0 0 j (by omega) (by omega)]; exact g4 j hj⟩, hw⟩
  rw [s6]
  rcases b2 with b2 | ⟨b2, b3⟩
  · exact Or.inl b2
  · exact Or.inr ⟨b2, b3.cw hs (rk 34 _ (by decide) (by decide))⟩
theorem pr_write {p : Int32} (h : GG np T S Z) (hnp : np < 2 ^ 31) (hf : 100 < fu) : PR np T S (s_X6_write np fu p S) (s_X7_write fu p Z) [(5, 1)] := by
  obtain ⟨⟨ns, nc, nl, nq, nd, fo, pc, hR⟩, -, -, -, ⟨w0, hw0, q1, q2, ⟨cp, c1, c2, c3⟩, q3⟩⟩ := id h
  have hnl : nl ≤ 5 := hR.1.1.2.2.2.2.2.2.2.2.2.2.1
  have hnc : nc ≤ 8 := hR.1.1.2.2.2.2.2.2.2.2.2.1
  unfold s_X6_write s_X7_write s_X7_isPlan
  rw [show S 4 0 0 5 = nI nl from hR.1.2.2.2.2.2.2.1, rd_n3 Z, hR.1.1.2.2.2.1]
  rcases pk_ix p (n := nl) (by omega) with hx | hx | ⟨q, hq, rfl⟩
  · rw [rq_bad (Or.inl hx), tb_ir, isX_bad (Or.inl hx), bd_s, if_pos rfl]
    exact PR.fail h (by simp)
  · rw [rq_bad (Or.inr hx), tb_ir, isX_bad (Or.inr hx), bd_s, if_pos rfl]
    exact PR.fail h (by simp)
  · rw [rq_ok hq (by omega), tb_il, isX_ok hq (by omega), bd_s, if_neg (show ¬ (1 : Int32) = 0 by decide)]
    obtain ⟨⟨m, x, hVP⟩, hW, i, hi, hi17, hM⟩ := hR.2.2.2.1.1 q hq
    obtain ⟨S1, s1, cw1, k8, k9⟩ : ∃ S1, s_len0 S = some S1 ∧ CW S S1 ∧ S1 8 0 0 0 = nI 0 ∧ S1 9 = S 9 := by
      unfold s_len0
      rw [q1, c2, gd_t ⟨nI_pos' (by omega), nI_pos' (by omega), nI_le (b := 142) (by omega) (by decide)⟩]
      split
      · refine ⟨_, rfl, fun k h8 h9 => ?_, ?_, ?_⟩
        · funext t a w; rw [u4_app, if_neg (fun z => h8 z.1), u4_app, if_neg (fun z => h8 z.1)]
        · rw [u4_app, if_pos ⟨rfl, rfl, rfl, rfl⟩]; rfl
        · funext t a w; rw [u4_app, if_neg (by omega), u4_app, if_neg (by omega)]
      · refine ⟨_, rfl, fun k h8 h9 => ?_, ?_, ?_⟩
        · funext t a w; rw [u4_app, if_neg (fun z => h8 z.1)]
        · rw [u4_app, if_pos ⟨rfl, rfl, rfl, rfl⟩]; rfl
        · funext t a w; rw [u4_app, if_neg (by omega)]
    rw [s1, bd_s, gd_t (inb_nI (by omega) (by decide)), show S1 17 0 0 (nI q).toNatClampNeg = nI i from by rw [nI_clamp (by omega), cw1 17 (by decide) (by decide)]; exact hi17, pcd_nI (by omega), if_neg (by intro z; cases z), bd_s, gd_t hi, sv_e, sv_e]
    generalize hZ1 : u4 (u4 Z 7 0 0 0 (0 : Int32)) 7 0 0 26 (0 : Int32) = Z1
    have z1 : ∀ k t a w, ¬ (k = 7 ∧ (w = 0 ∨ w = 26)) → Z1 k t a w = Z k t a w := fun k t a w hn => by
      rw [← hZ1, u4_app, if_neg (by omega), u4_app, if_neg (by omega)]
    have z126 : Z1 7 0 0 26 = nI 0 := by rw [← hZ1, u4_app, if_pos ⟨rfl, rfl, rfl, rfl⟩]; rfl
    have z10 : Z1 7 0 0 0 = 0 := by rw [← hZ1, u4_app, if_neg (by omega), u4_app, if_pos ⟨rfl, rfl, rfl, rfl⟩]
    have hl : live Z1 = live Z := live_of (fun k j _ _ => z1 k 0 0 j (by omega)) (fun j _ _ => z1 7 0 0 j (by omega))
    have hP1 : pln S1 = pln S := cw1.pln
    have t0 : GWt S1 Z1 0 := ⟨k8, z126, ⟨cp, c1, by rw [k9]; exact c2, Nat.zero_le _⟩, fun j hj => absurd hj (by omega)⟩
    obtain ⟨S2, Z2, s2, z2, t2, cw2, zw2⟩ := t0.apc (c := 64) (by decide) (by decide)
    have s2' : s_apc 64 S1 = some S2 := s2
    have z2' : s_X7_prints 64 Z1 = some Z2 := z2
    have hP2 := cw2.pln.trans hP1
    have hL2 := zw2.live.trans hl
    obtain ⟨f9, hf9, hf0⟩ := hW.1
    have n4 := (nsz_le f9).2
    obtain ⟨S3, Z3, s3, z3, t3, cw3, zw3⟩ := t2.apn (fu := fu) (v := f9) hf9 (by omega) (by omega)
    have hm8 := hVP.2.1
    obtain ⟨S4, Z4, w4, s4, z4, t4, hw4, cw4, zw4⟩ := t_wrToL (fu := fu) (by omega) hM (by omega) hVP hW hnc m 0 fu fu _ S3 Z3 (by omega) (by omega) (by omega) t3 (by omega) (cw3.pln.trans hP2) (zw3.live.trans hL2)
    have s4' : s_X2_writeTo_L16 fu i fu 0 S3 = some S4 := s4
    have z4' : s_X7_write_L42 fu (nI q) fu 0 Z3 = some (nI w4, Z4) := z4
    unfold s_X2_writeTo
    rw [s2', z2', bd_s, bd_s, show S2 2 0 i 0 = nI f9 from by rw [rk2 S2, hP2, hM.1]; exact hf0, s3, bd_s, s4', bd_s, q_ofPlan (by omega) (by decide), bd_s, hL2, hf0, z3, bd_s, z4']
    have zA := (zw2.trans zw3).trans zw4
    have cA := ((cw1.trans cw2).trans cw3).trans cw4
    refine ⟨_, S4, nI w4, Z4, rfl, rfl, Or.inl ⟨by rw [t4.1], by rw [zA 7 0 0 0 (by decide) (by decide)]; exact z10⟩, h.paper cA (fun k t a w g1 g2 => ?_) ⟨w4, hw4, t4⟩, fun k hk => ?_⟩
    · rw [zA k t a w g1 (by omega), z1 k t a w g2]
    · exact cA k (by rintro rfl; exact absurd hk (by decide)) (by rintro rfl; exact absurd hk (by decide))
theorem ch_id (c : Nat) (h : c < 128) : ((nI c).toUInt32 % 65536).toInt32 = nI c ∧ narrow .char (.int (nI c)) = .int (nI c) := by
  have : ∀ c, c < 128 → ((nI c).toUInt32 % 65536).toInt32 = nI c ∧ narrow .char (.int (nI c)) = .int (nI c) := by decide
  exact this c h
theorem pr_paper {p : Int32} (h : GG np T S Z) : PR np T S (s_X6_paper p S) (s_X7_paper p Z) [(5, 1)] := by
  obtain ⟨-, -, -, -, ⟨w, hw, q1, q2, ⟨cp, c1, c2, c3⟩, q3⟩⟩ := id h
  have hb : ∀ x, PR np T S (some (.inr (5, S))) (some (x, u4 Z 7 0 0 0 1)) [(5, (1 : Int32))] := fun x =>
    ⟨_, S, x, u4 Z 7 0 0 0 1, rfl, rfl, Or.inr ⟨5, 1, rfl, by simp, th_0⟩, h.th, FC.refl S⟩
  unfold s_X6_paper s_X7_paper s_X7_isBetween
  rw [q1, q2]
  rcases pk_ix p (n := w) (by omega) with hx | hx | ⟨q, hq, rfl⟩
  · rw [rq_bad (Or.inl hx), tb_ir, if_pos hx, bd_s, if_pos rfl, bd_s, sv_e, th_0, if_neg (show ¬ (1 : Int32) = 0 by decide)]
    exact hb _
  · have h0 : ¬ p < 0 := by
      have := nI_pos' (n := w) (by omega)
      grind
    have h1 : nI w - 1 < p := by
      cases w with
      | zero => have : nI 0 = 0 := rfl; rw [this] at *; grind
      | succ w => rw [nI_pred]; have := nI_lt (a := w) (b := w + 1) (by omega) (by omega); grind
    rw [rq_bad (Or.inr hx), tb_ir, if_neg h0, if_pos h1, bd_s, if_pos rfl, bd_s, sv_e, th_0, if_neg (show ¬ (1 : Int32) = 0 by decide)]
    exact hb _
  · obtain ⟨g1, c, hc, g2⟩ := q3 q hq
    obtain ⟨k1, k2⟩ := ch_id c hc
    have h1 : ¬ nI w - 1 < nI q := by
      obtain ⟨w', rfl⟩ : ∃ g, w = g + 1 := ⟨w - 1, by omega⟩
      rw [nI_pred]
      exact nI_nlt (by omega) (by omega)
    have eS : S 9 0 0 (nI q).toNatClampNeg = nI c := by rw [nI_clamp (by omega), g1]; exact g2
    have eZ : u4 Z 7 0 0 0 0 35 0 0 (nI q).toNatClampNeg = nI c := by rw [u4_app, if_neg (by omega), nI_clamp (by omega)]; exact g2
    rw [rq_ok hq (by omega), tb_il, q1, c2, eS, gd_t ⟨nI_pos' (by omega), nI_lt hq (by omega), nI_le c3 (by omega), nI_le (b := 142) (by omega) (by decide), nI_pos' (by omega), nI_lt (b := 128) hc (by decide)⟩, if_neg (nI_pos (by omega)), if_neg h1, bd_s, if_neg (show ¬ (1 : Int32) = 0 by decide), bd_s, sv_e, th_0, if_pos rfl, gd_t (inb_nI (by omega) (by decide)), eZ, k1, gd_t k2]
    exact PR.ok h
end WQ
