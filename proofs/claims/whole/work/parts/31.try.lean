/-! a parcel is tried, both sides -/
theorem k_gap {S : S4} {t c : Nat} {v : Vw} (ht : cls S t 4 0 0 = v 6 0 6) (hE : EQ (cls S t) v c) (h10 : v 2 c 10 = -1 ∨ 0 ≤ v 2 c 10) : s_X0_isWithinGap t c (S 4 t 0 0) S = some (b2 (clo v c)) := by
  unfold s_X0_isWithinGap b2 clo
  rw [show S 0 t c 10 = v 2 c 10 from hE 10 (by decide), show S 0 t c 2 = v 2 c 2 from hE 2 (by decide), show S 4 t 0 0 = v 6 0 6 from ht]
  by_cases h : v 2 c 10 = -1
  · rw [if_pos h, if_neg (fun z => z.1 (by rw [h]; decide))]
  · have h0 : ¬ v 2 c 10 < 0 := Int32.not_lt.mpr (h10.resolve_left h)
    rw [if_neg h]
    by_cases h2 : v 2 c 2 ≤ v 6 0 6 - v 2 c 10
    · rw [if_pos h2, if_neg (fun z => z.2 h2)]
    · rw [if_neg h2, if_pos ⟨h0, h2⟩]
theorem k_jam {S : S4} {t c : Nat} {v : Vw} (hE : EQ (cls S t) v c) : ∃ S', s_X0_jam t c S = some S' ∧ EQ (cls S' t) (jamd v c) c ∧ OU 0 c (cls S t) (cls S' t) ∧ pln S' = pln S := by
  unfold s_X0_jam jamd
  rw [show S 0 t c 4 = v 2 c 4 from hE 4 (by decide), sv_e, sv_e, show u4 S 0 t c 7 (v 2 c 4) 0 t c 12 = v 2 c 12 from by rw [rcl (u4 S 0 t c 7 (v 2 c 4)), cls_u, us_nj (by decide)]; exact hE 12 (by decide)]
  refine ⟨_, rfl, ?_, ?_, ?_⟩
  · rw [cls_u, cls_u]; exact EQ.us (EQ.us hE)
  · rw [cls_u, cls_u]; exact OU.refl.us.us
  · rw [pln_u (by decide), pln_u (by decide)]
theorem jamd_ne {v : Vw} {c k i j : Nat} (h : ¬ (k = 2 ∧ i = c ∧ (j = 7 ∨ j = 12))) : jamd v c k i j = v k i j := by
  unfold jamd
  rw [us_ne (by omega), us_ne (by omega)]
theorem rcv0_c {v : Vw} {c : Nat} : rcv0 v c = us (us (us v 2 c 6 (v 2 c 6 + 1)) 2 c 11 (v 2 c 11 + 1)) 2 c 10 (tmv v) := by
  unfold rcv0
  rw [us_us_ne (k := 2) (i := c) (j := 11) (k' := 2) (i' := c) (j' := 6) (by omega), us_us_ne (k := 2) (i := c) (j := 10) (k' := 2) (i' := c) (j' := 6) (by omega), us_us_ne (k := 2) (i := c) (j := 10) (k' := 2) (i' := c) (j' := 11) (by omega)]
theorem k_bag {S : S4} {t c : Nat} {v : Vw} (hE : EQ (cls S t) v c) : ∃ S', s_X0_finishBag t c S = some S' ∧ EQ (cls S' t) (bag v c) c ∧ OU 0 c (cls S t) (cls S' t) ∧ pln S' = pln S := by
  unfold s_X0_finishBag bag
  dsimp only
  rw [show S 0 t c 14 = v 2 c 14 from hE 14 (by decide), sv_e, sv_e, show ∀ x, u4 S 0 t c 14 x 0 t c 5 = v 2 c 5 from fun x => by rw [rcl (u4 S 0 t c 14 x), cls_u, us_nj (by decide)]; exact hE 5 (by decide), show ∀ x y, u4 (u4 S 0 t c 14 x) 0 t c 8 y 0 t c 5 = v 2 c 5 from fun x y => by rw [rcl (u4 (u4 S 0 t c 14 x) 0 t c 8 y), cls_u, us_nj (by decide), cls_u, us_nj (by decide)]; exact hE 5 (by decide)]
  by_cases h : v 2 c 5 = 0
  · rw [if_pos h, if_pos h, sv_e]
    refine ⟨_, rfl, ?_, ?_, ?_⟩
    · rw [cls_u, cls_u, cls_u]; exact EQ.us (EQ.us (EQ.us hE))
    · rw [cls_u, cls_u, cls_u]; exact OU.refl.us.us.us
    · rw [pln_u (by decide), pln_u (by decide), pln_u (by decide)]
  · rw [if_neg h, if_neg h]
    refine ⟨_, rfl, ?_, ?_, ?_⟩
    · rw [cls_u, cls_u]; exact EQ.us (EQ.us hE)
    · rw [cls_u, cls_u]; exact OU.refl.us.us
    · rw [pln_u (by decide), pln_u (by decide)]
theorem k_rcv {S : S4} {t c : Nat} {v : Vw} (hE : EQ (cls S t) v c) (hcap : v 2 c 6 < v 2 c 1) : ∃ S', s_X0_receive t c (tmv v) S = some S' ∧ EQ (cls S' t) (rcv v c) c ∧ OU 0 c (cls S t) (cls S' t) ∧ pln S' = pln S := by
  unfold s_X0_receive rcv
  rw [show S 0 t c 6 = v 2 c 6 from hE 6 (by decide), sv_e, show ∀ x, u4 S 0 t c 6 x 0 t c 11 = v 2 c 11 from fun x => by rw [rcl (u4 S 0 t c 6 x), cls_u, us_nj (by decide)]; exact hE 11 (by decide), sv_e, sv_e]
  generalize hY : u4 (u4 (u4 S 0 t c 6 (v 2 c 6 + 1)) 0 t c 11 (v 2 c 11 + 1)) 0 t c 10 (tmv v) = Y
  have hC : cls Y t = us (us (us (cls S t) 0 c 6 (v 2 c 6 + 1)) 0 c 11 (v 2 c 11 + 1)) 0 c 10 (tmv v) := by rw [← hY, cls_u, cls_u, cls_u]
  have e1 : EQ (cls Y t) (rcv0 v c) c := by rw [hC, rcv0_c]; exact EQ.us (EQ.us (EQ.us hE))
  have e2 : OU 0 c (cls S t) (cls Y t) := by rw [hC]; exact OU.refl.us.us.us
  have e3 : pln Y = pln S := by rw [← hY, pln_u (by decide), pln_u (by decide), pln_u (by decide)]
  rw [show Y 0 t c 6 = v 2 c 6 + 1 from by rw [rcl Y, hC, us_nj (by decide), us_nj (by decide), us_self], show Y 0 t c 1 = v 2 c 1 from by rw [rcl Y, hC, us_nj (by decide), us_nj (by decide), us_nj (by decide)]; exact hE 1 (by decide)]
  by_cases h : v 2 c 1 ≤ v 2 c 6 + 1
  · rw [if_pos (show v 2 c 6 + 1 = v 2 c 1 from by grind), if_pos h]
    obtain ⟨S', a1, a2, a3, a4⟩ := k_bag e1
    rw [a1, bd_s]
    exact ⟨S', rfl, a2, e2.trans a3, a4.trans e3⟩
  · rw [if_neg (show ¬ v 2 c 6 + 1 = v 2 c 1 from by grind), if_neg h]
    exact ⟨Y, rfl, e1, e2, e3⟩
theorem rcv_ne {v : Vw} {c k i j : Nat} (h : ¬ (k = 2 ∧ i = c ∧ (j = 10 ∨ j = 11 ∨ j = 6 ∨ j = 14 ∨ j = 8))) : rcv v c k i j = v k i j := by
  have e0 : rcv0 v c k i j = v k i j := by unfold rcv0; rw [us_ne (by omega), us_ne (by omega), us_ne (by omega)]
  unfold rcv
  by_cases h1 : v 2 c 1 ≤ v 2 c 6 + 1
  · rw [if_pos h1]
    unfold bag
    try dsimp only
    by_cases h2 : rcv0 v c 2 c 5 = 0
    · rw [if_pos h2, us_ne (by omega), us_ne (by omega), us_ne (by omega), e0]
    · rw [if_neg h2, us_ne (by omega), us_ne (by omega), e0]
  · rw [if_neg h1, e0]
theorem rcv_f {v : Vw} {c : Nat} (h8 : 0 ≤ v 2 c 8) (h5 : 0 ≤ v 2 c 5) : rcv v c 2 c 11 = v 2 c 11 + 1 ∧ rcv v c 2 c 10 = tmv v ∧ 0 ≤ rcv v c 2 c 8 := by
  have f1 : rcv0 v c 2 c 11 = v 2 c 11 + 1 := by unfold rcv0; rw [us_nj (by decide), us_self]
  have f2 : rcv0 v c 2 c 10 = tmv v := by unfold rcv0; rw [us_nj (by decide), us_nj (by decide), us_self]
  have f3 : rcv0 v c 2 c 8 = v 2 c 8 := by unfold rcv0; rw [us_nj (by decide), us_nj (by decide), us_nj (by decide)]
  have f4 : rcv0 v c 2 c 5 = v 2 c 5 := by unfold rcv0; rw [us_nj (by decide), us_nj (by decide), us_nj (by decide)]
  unfold rcv
  by_cases h1 : v 2 c 1 ≤ v 2 c 6 + 1
  · rw [if_pos h1]
    unfold bag
    try dsimp only
    rw [f4]
    by_cases h2 : v 2 c 5 = 0
    · rw [if_pos h2]
      refine ⟨?_, ?_, ?_⟩
      · rw [us_nj (by decide), us_nj (by decide), us_nj (by decide)]; exact f1
      · rw [us_nj (by decide), us_nj (by decide), us_nj (by decide)]; exact f2
      · rw [us_nj (by decide), us_self]; exact h5
    · rw [if_neg h2]
      refine ⟨?_, ?_, ?_⟩
      · rw [us_nj (by decide), us_nj (by decide)]; exact f1
      · rw [us_nj (by decide), us_nj (by decide)]; exact f2
      · rw [us_self]; exact h5
  · rw [if_neg h1]
    exact ⟨f1, f2, by rw [f3]; exact h8⟩
theorem wrong_lt {v : Vw} {q : Nat} : ∃ w, w < 4 ∧ wrong v q = nI w := by
  unfold wrong
  by_cases h : v 4 q 3 = 1
  · exact ⟨2, by decide, by rw [if_pos h]; rfl⟩
  · exact ⟨3, by decide, by rw [if_neg h]; rfl⟩
theorem verd_lt {v : Vw} {q c : Nat} : ∃ w, w < 4 ∧ verd v q c = nI w := by
  unfold verd
  cases pof v (tmv v) (nlp v) with
  | none => exact wrong_lt
  | some p =>
    dsimp only
    by_cases h : v 3 p 2 = nI c
    · exact ⟨1, by decide, by rw [if_pos h]; rfl⟩
    · rw [if_neg h]
      cases rof v p (v 4 q 0) with
      | none => exact wrong_lt
      | some r =>
        dsimp only
        by_cases h2 : hasc v p r (nI c) (v 3 p (4 + 6 * r + 2)).toNatClampNeg 0 = true
        · exact ⟨0, by decide, by rw [if_pos h2]; rfl⟩
        · rw [if_neg h2]; exact wrong_lt
theorem k_carrierAt {S : S4} {t fo pc k : Nat} (h1 : cls S t 4 0 1 = nI pc) (h2 : cls S t 4 0 2 = nI fo) (hk : k < pc) (hf : fo < pc) (h3 : pc ≤ 30) : s_X4_carrierAt t (nI k) S = some (nI (cri pc fo k)) := by
  unfold s_X4_carrierAt cri
  rw [show S 4 t 0 1 = nI pc from h1, show S 4 t 0 2 = nI fo from h2, nI_add]
  by_cases h : fo + k < pc
  · rw [if_neg (nI_ge h (by omega)), if_pos h]
  · rw [if_pos (nI_le (by omega) (by omega)), if_neg h, pk_sub (by omega)]
theorem isP_no {S : S4} {t : Nat} : s_X4_isParcel t (-1) S = some 0 := by
  unfold s_X4_isParcel
  rw [k_isIn, show b2 ((0 : Int32) ≤ -1 ∧ (-1 : Int32) ≤ S 4 t 0 6 - 1) = 0 from b2_f (fun z => absurd z.1 (by decide)), bd_s]
  exact gd_t (Or.inl rfl)
theorem isP_yes {S : S4} {t q nq : Nat} (h : cls S t 4 0 6 = nI nq) (h60 : nq ≤ 60) (hq : q < nq) : s_X4_isParcel t (nI q) S = some 1 := by
  unfold s_X4_isParcel
  rw [show S 4 t 0 6 = nI nq from h, show nI nq - 1 = nI (nq - 1) from pk_sub (a := nq) (b := 1) (by omega), k_isIn, show b2 ((0 : Int32) ≤ nI q ∧ nI q ≤ nI (nq - 1)) = 1 from b2_t ⟨nI_pos' (by omega), nI_le (by omega) (by omega)⟩, bd_s]
  exact gd_t (Or.inr rfl)
theorem k_enter {S : S4} {t q nd : Nat} (h : cls S t 4 0 7 = nI nd) (hd : nd < 60) : s_X4_enter t (nI q) S = some (u4 (u4 S 20 t 0 nd (nI q)) 4 t 0 7 (nI (nd + 1))) := by
  unfold s_X4_enter
  rw [show S 4 t 0 7 = nI nd from h, if_neg (show ¬ (60 : Int32) ≤ nI nd from nI_ge (b := 60) (by omega) (by decide)), gd_t (inb_nI (by omega) (by decide)), nI_clamp (by omega), sv_e, sv_e, show ∀ y, u4 S 20 t 0 nd y 4 t 0 7 = nI nd from fun y => by rw [rcl (u4 S 20 t 0 nd y), cls_u, us_nk (by decide)]; exact h, nI_1]
theorem t_drop {np fu T t q c k ns nc nl nq nd fo pc : Nat} {S Z Z' : S4} (hq : q < nq) (hc : c < nc) (hk : k < pc) (h : RR np T (pln S) (cls S t) (live Z) ns nc nl nq nd fo pc) (hb : live Z 0 0 k = nI q) (h1 : live Z 4 q 4 = 1) (h5 : live Z 4 q 5 = nI k) (hck : live Z 2 c 0 = nI k) (hu : usbl (live Z) c) (hT : T < 2 ^ 31) (hnp : np < 2 ^ 31) (hf : 8 < fu) (hZ : live Z' = drp (live Z) q c) : ∃ S', s_X4_drop np fu t (nI c) (nI q) (u4 S 1 t q 7 (-1)) = some S' ∧ RR np T (pln S') (cls S' t) (live Z') ns nc nl nq (nd + 1) fo pc := by
  obtain ⟨⟨⟨a1, a2, a3, a4, a5, a6, b1, b2', b3, b4, b5, b6, b7⟩, d0, d1, d2, d3, d4, d5, d6, d7, d8, tm, t1, t2⟩, hS, hCh, hL, hP, hB, hG, hK⟩ := id h
  have hlt : nd < nq := by
    have := cn_lt (P := fun p => live Z 4 p 4 = 2) q hq (by rw [h1]; decide)
    have := hK.1
    omega
  have hcl := cri_lt (k := k) d8 hk
  obtain ⟨hE, ⟨pl, hpl⟩, h8, h5c, h9, h10⟩ := hCh c hc
  obtain ⟨hP0, hPsc, -⟩ := hP q hq
  -- the class' steps
  generalize hv1 : us (live Z) 0 0 k (-1) = v1 at *
  have hdrp : live Z' = rcv (drg (drq v1 q c (verd v1 q c)) q) c := by
    rw [hZ]
    unfold drp
    dsimp only
    rw [h5, nI_clamp (by omega), hv1]
  have w1 : ∀ k' i j, k' ≠ 0 → v1 k' i j = live Z k' i j := fun k' i j hk' => by rw [← hv1, us_nk hk']
  obtain ⟨x, hx4, hx⟩ := verd_lt (v := v1) (q := q) (c := c)
  unfold s_X4_drop
  rw [gd_t (inb_nI (by omega) (by decide)), gd_t (inb_nI (by omega) (by decide)), nI_clamp (n := q) (by omega), show u4 S 1 t q 7 (-1) 0 t (nI c).toNatClampNeg 0 = nI k from by rw [nI_clamp (by omega), rcl (u4 S 1 t q 7 (-1)), cls_u, us_nk (by decide), hE 0 (by decide), hck], k_carrierAt (S := u4 S 1 t q 7 (-1)) (by rw [cls_u, us_nk (by decide)]; exact d1) (by rw [cls_u, us_nk (by decide)]; exact d2) hk d8 b2', bd_s, gd_t (inb_nI (by omega) (by decide)), nI_clamp (n := cri pc fo k) (by omega), sv_e, sv_e, sv_e, sv_e]
  generalize hY0 : u4 (u4 (u4 (u4 S 1 t q 7 (-1)) 19 t 0 (cri pc fo k) (-1)) 1 t q 4 2) 1 t q 5 (nI c) = Y0
  have y0 : cls Y0 t = us (us (us (us (cls S t) 1 q 7 (-1)) 19 0 (cri pc fo k) (-1)) 1 q 4 2) 1 q 5 (nI c) := by rw [← hY0, cls_u, cls_u, cls_u, cls_u]
  have p0 : pln Y0 = pln S := by rw [← hY0, pln_u (by decide), pln_u (by decide), pln_u (by decide), pln_u (by decide)]
  have y0o : ∀ k' i j, k' ≠ 1 → k' ≠ 19 → cls Y0 t k' i j = cls S t k' i j := fun k' i j e1 e2 => by rw [y0, us_nk e1, us_nk e1, us_nk e2, us_nk e1]
  rw [show Y0 4 t 0 0 = nI tm from by rw [rcl Y0, y0o 4 0 0 (by decide) (by decide), d0, t1]]
  generalize hY1 : u4 Y0 1 t q 9 (nI tm) = Y1
  have y1 : cls Y1 t = us (cls Y0 t) 1 q 9 (nI tm) := by rw [← hY1, cls_u]
  have p1 : pln Y1 = pln S := by rw [← hY1, pln_u (by decide), p0]
  have y1o : ∀ k' i j, k' ≠ 1 → k' ≠ 19 → cls Y1 t k' i j = cls S t k' i j := fun k' i j e1 e2 => by rw [y1, us_nk e1, y0o k' i j e1 e2]
  have y1q : ∀ j, j ≠ 7 → j ≠ 4 → j ≠ 5 → j ≠ 9 → cls Y1 t 1 q j = cls S t 1 q j := fun j e1 e2 e3 e4 => by rw [y1, us_nj e4, y0, us_nj e3, us_nj e2, us_nk (by decide), us_nj e1]
  have hLv1 : RPl (pln S) (cls S t) v1 np nl nc := hL.of (by funext i j; exact w1 3 i j (by decide)) rfl
  have hverd : s_X4_verdictOf np fu t t q (nI c) Y1 = some (verd v1 q c) := by
    refine k_verd (nl := nl) (nc := nc) ?_ ?_ ?_ (by omega) hnp (fun p hp => ?_) ?_ ?_ ?_ hf
    · rw [y1o 4 0 0 (by decide) (by decide), w1 6 0 6 (by decide)]; exact d0
    · rw [w1 6 0 3 (by decide)]; exact a4
    · rw [y1o 4 0 5 (by decide) (by decide)]; exact d5
    · obtain ⟨g1, -, i, g2, g3, g4⟩ := hLv1.1 p hp
      exact ⟨g1, i, g2, by rw [y1o 17 0 p (by decide) (by decide)]; exact g3, by rw [p1]; exact g4⟩
    · exact hLv1.2
    · rw [y1q 3 (by decide) (by decide) (by decide) (by decide), w1 4 q 3 (by decide)]; exact hP0 3 (by decide) (by decide)
    · rw [y1q 0 (by decide) (by decide) (by decide) (by decide), w1 4 q 0 (by decide)]; exact hP0 0 (by decide) (by decide)
  rw [hverd, bd_s, hx, sv_e, gd_t (inb_nI (by omega) (by decide))]
  generalize hY2 : u4 Y1 1 t q 10 (nI x) = Y2
  have y2 : cls Y2 t = us (cls Y1 t) 1 q 10 (nI x) := by rw [← hY2, cls_u]
  have p2 : pln Y2 = pln S := by rw [← hY2, pln_u (by decide), p1]
  have y2o : ∀ k' i j, k' ≠ 1 → k' ≠ 19 → cls Y2 t k' i j = cls S t k' i j := fun k' i j e1 e2 => by rw [y2, us_nk e1, y1o k' i j e1 e2]
  -- the reference's view ahead of the chute's part
  rw [hx] at hdrp
  generalize hu' : drg (drq v1 q c (nI x)) q = u at hdrp
  have hdq : ∀ i j, drq v1 q c (nI x) 6 i j = live Z 6 i j := fun i j => by unfold drq; rw [us_nk (by decide), us_nk (by decide), us_nk (by decide), us_nk (by decide), us_nk (by decide), w1 6 i j (by decide)]
  have hu1 : u = us (us (drq v1 q c (nI x)) 5 0 nd (nI q)) 6 0 5 (nI (nd + 1)) := by
    rw [← hu']
    unfold drg
    rw [hdq, a6, nI_clamp (by omega), nI_1]
  have u2 : ∀ i j, u 2 i j = live Z 2 i j := fun i j => by rw [hu1, us_nk (by decide), us_nk (by decide)]; unfold drq; rw [us_nk (by decide), us_nk (by decide), us_nk (by decide), us_nk (by decide), us_nk (by decide), w1 2 i j (by decide)]
  have utm : tmv u = nI tm := by show u 6 0 6 = nI tm; rw [hu1, us_nj (by decide), us_nk (by decide), hdq, t1]
  obtain ⟨Y3, r1, r2, r3, r4⟩ := k_rcv (S := Y2) (t := t) (c := c) (v := u) (fun j hj => by rw [y2o 0 c j (by decide) (by decide), u2 c j]; exact hE j hj) (by rw [u2, u2]; exact hu.2.2.2)
  obtain ⟨f1, f2, f3⟩ := rcv_f (v := u) (c := c) (by rw [u2]; exact h8) (by rw [u2]; exact h5c)
  rw [show Y2 4 t 0 0 = tmv u from by rw [rcl Y2, y2o 4 0 0 (by decide) (by decide), d0, t1, utm], nI_clamp (n := c) (by omega), r1, bd_s]
  have y3o : ∀ k' i j, k' ≠ 0 → cls Y3 t k' i j = cls Y2 t k' i j := fun k' i j e => r3 k' i j (by omega)
  rw [show Y3 1 t q 10 = nI x from by rw [rcl Y3, y3o 1 q 10 (by decide), y2, us_self], gd_t (inb_nI (by omega) (by decide)), gd_t (inb_nI (by omega) (by decide)), nI_clamp (n := x) (by omega), sv_e]
  generalize hY4 : u4 Y3 21 t 0 x (Y3 21 t 0 x + 1) = Y4
  have y4 : cls Y4 t = us (cls Y3 t) 21 0 x (cls Y3 t 21 0 x + 1) := by rw [← hY4, cls_u]; rfl
  rw [k_enter (S := Y4) (nd := nd) (by rw [y4, us_nk (by decide), y3o 4 0 7 (by decide), y2o 4 0 7 (by decide) (by decide), d7]) (by omega), bd_s]
  refine ⟨_, rfl, ?_⟩
  rw [pln_u (by decide), pln_u (by decide), ← hY4, pln_u (by decide), r4, p2, hY4, cls_u, cls_u, hdrp]
  have z0 : ∀ k' i j, k' ≠ 0 → us (us (cls Y4 t) 20 0 nd (nI q)) 4 0 7 (nI (nd + 1)) k' i j = us (us (us (us (us (us (us (us (us (cls S t) 1 q 7 (-1)) 19 0 (cri pc fo k) (-1)) 1 q 4 2) 1 q 5 (nI c)) 1 q 9 (nI tm)) 1 q 10 (nI x)) 21 0 x (cls S t 21 0 x + 1)) 20 0 nd (nI q)) 4 0 7 (nI (nd + 1)) k' i j := by
    intro k' i j e
    have q21 : cls Y3 t 21 0 x = cls S t 21 0 x := by rw [y3o 21 0 x (by decide), y2o 21 0 x (by decide) (by decide)]
    simp only [us_app]
    rw [y4, q21]
    simp only [us_app]
    rw [y3o k' i j e, y2, y1, y0]
    simp only [us_app]
  have z1 : ∀ c' j, us (us (cls Y4 t) 20 0 nd (nI q)) 4 0 7 (nI (nd + 1)) 0 c' j = cls Y3 t 0 c' j := fun c' j => by rw [us_nk (by decide), us_nk (by decide), y4, us_nk (by decide)]
  generalize us (us (cls Y4 t) 20 0 nd (nI q)) 4 0 7 (nI (nd + 1)) = C' at z0 z1 ⊢
  have v0 : ∀ k' i j, k' ≠ 2 → rcv u c k' i j = us (us (us (us (us (us (us (us (live Z) 0 0 k (-1)) 4 q 10 (nI x)) 4 q 4 2) 4 q 5 (nI c)) 4 q 7 (-1)) 4 q 9 (nI tm)) 5 0 nd (nI q)) 6 0 5 (nI (nd + 1)) k' i j := by
    intro k' i j e
    rw [rcv_ne (by omega), hu1]
    unfold drq
    rw [show tmv v1 = nI tm from by show v1 6 0 6 = nI tm; rw [w1 6 0 6 (by decide), t1], hv1]
  have v2 : ∀ i j, ¬ (i = c ∧ (j = 10 ∨ j = 11 ∨ j = 6 ∨ j = 14 ∨ j = 8)) → rcv u c 2 i j = live Z 2 i j := fun i j hn => by rw [rcv_ne (by omega), u2]
  refine RR_dr (v := live Z) (C := cls S t) (q := q) (c := c) (k := k) (x := nI x) hq hc hk h h1 h5 ⟨x, hx4, rfl, ?_, fun w' hw' => ?_⟩ ?_ (fun k' hk' => ?_) ?_ (fun c' hc' => ?_) ?_ (fun p hp => ?_) ?_ (fun i hi => ?_) ?_ (fun j hj => ?_) ?_ ?_ ?_ ?_ ?_ ?_ ?_ ?_ ?_ ?_ (fun c' hc' => ?_) (fun j hj => ?_) (fun p hp => ?_) (fun j hj => ?_) ?_ (fun j hj => ?_) ?_ ?_ ?_ ?_ (fun i hi => ?_) ?_ (fun i hi => ?_)
  · rw [z0 _ _ _ (by decide)]; simp [us_app]
  · rw [z0 _ _ _ (by decide)]; simp [us_app, hw']
  · rw [v0 _ _ _ (by decide)]; simp [us_app]
  · rw [v0 _ _ _ (by decide)]; simp [us_app, hk']
  · funext i j; rw [v0 _ _ _ (by decide)]; simp [us_app]
  · funext j; exact v2 c' j (fun z => hc' z.1)
  · funext i j; rw [v0 _ _ _ (by decide)]; simp [us_app]
  · funext j; rw [v0 _ _ _ (by decide)]; simp [us_app, hp]
  · rw [v0 _ _ _ (by decide)]; simp [us_app]
  · rw [v0 _ _ _ (by decide)]; simp [us_app, hi]
  · rw [v0 _ _ _ (by decide)]; simp [us_app]
  · rw [v0 _ _ _ (by decide)]; simp [us_app, hj]
  · rw [v0 _ _ _ (by decide)]; simp [us_app]
  · rw [v0 _ _ _ (by decide)]; simp [us_app]
  · rw [v0 _ _ _ (by decide)]; simp [us_app]
  · rw [v0 _ _ _ (by decide)]; simp [us_app]
  · exact v2 c 0 (by omega)
  · rw [f1, u2]
  · exact f3
  · exact v2 c 5 (by omega)
  · exact v2 c 9 (by omega)
  · rw [f2, utm]; exact nI_pos' (by omega)
  · funext j; rw [z1, r3 0 c' j (by omega), y2o 0 c' j (by decide) (by decide)]
  · rw [z1]; exact r2 j hj
  · funext j; rw [z0 _ _ _ (by decide)]; simp [us_app, hp]
  · rw [z0 _ _ _ (by decide), v0 _ _ _ (by decide)]
    rcases (by omega : j = 4 ∨ j = 5 ∨ j = 7 ∨ j = 9 ∨ j = 10 ∨ (j ≠ 4 ∧ j ≠ 5 ∧ j ≠ 7 ∧ j ≠ 9 ∧ j ≠ 10)) with rfl | rfl | rfl | rfl | rfl | ⟨e1, e2, e3, e4, e5⟩
    · simp [us_app]
    · simp [us_app]
    · simp [us_app]
    · simp [us_app]
    · simp [us_app]
    · simp [us_app, e1, e2, e3, e4, e5]
      exact hP0 j hj e2
  · rw [z0 _ _ _ (by decide)]; simp [us_app]
  · rw [z0 _ _ _ (by decide)]; simp [us_app, hj]
  · funext i j; rw [z0 _ _ _ (by decide)]; simp [us_app]
  · funext i j; rw [z0 _ _ _ (by decide)]; simp [us_app]
  · funext i j; rw [z0 _ _ _ (by decide)]; simp [us_app]
  · rw [z0 _ _ _ (by decide)]; simp [us_app]
  · rw [z0 _ _ _ (by decide)]; simp [us_app, hi]
  · rw [z0 _ _ _ (by decide)]; simp [us_app]
  · rw [z0 _ _ _ (by decide)]; simp [us_app, hi]
