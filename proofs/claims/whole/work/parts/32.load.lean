theorem us_pa {C : Vw} {q w : Nat} {x : Int32} (hw : w = 7 ∨ w = 8 ∨ w = 11) : ∀ k i j, ¬ (k = 1 ∧ i = q ∧ (j = 7 ∨ j = 8 ∨ j = 11)) → us C 1 q w x k i j = C k i j := fun k i j h => us_ne (by omega)
theorem us_pv {C : Vw} {q w : Nat} {x : Int32} (hw : w = 7 ∨ w = 8 ∨ w = 11) : ∀ k i j, ¬ (k = 4 ∧ i = q ∧ (j = 7 ∨ j = 8 ∨ j = 11)) → us C 4 q w x k i j = C k i j := fun k i j h => us_ne (by omega)
theorem RR_p1 {np T : Nat} {P C v : Vw} {ns nc nl nq nd fo pc q w : Nat} {x : Int32} (hq : q < nq) (hw : w = 7 ∨ w = 8 ∨ w = 11) (h : RR np T P C v ns nc nl nq nd fo pc) : RR np T P (us C 1 q w x) (us v 4 q w x) ns nc nl nq nd fo pc := by
  refine RR_pa h (us_pa hw) (us_pv hw) (fun j hj => ?_)
  by_cases e : j = w
  · subst e; rw [us_self, us_self]
  · rw [us_nj e, us_nj e]
    exact (h.2.2.2.2.1 q hq).1 j (by omega) (by omega)
theorem t_try {np fu T t q c k ns nc nl nq nd fo pc : Nat} {S Z : S4} (hq : q < nq) (hc : c < nc) (hk : k < pc) (hck : live Z 2 c 0 = nI k) (h : RR np T (pln S) (cls S t) (live Z) ns nc nl nq nd fo pc) (hb : live Z 0 0 k = nI q) (hT : T < 2 ^ 31) (hnp : np < 2 ^ 31) (hf : 8 < fu) : ∃ S' Z' nd', s_X4_tryParcel np fu t (nI c) (nI q) S = some S' ∧ s_X7_tries fu (nI q) (nI c) Z = some Z' ∧ RR np T (pln S') (cls S' t) (live Z') ns nc nl nq nd' fo pc := by
  obtain ⟨⟨⟨a1, a2, a3, a4, a5, a6, b1, b2', b3, b4, b5, b6, b7⟩, d0, d1, d2, d3, d4, d5, d6, d7, d8, tm, t1, t2⟩, hS, hCh, hL, hP, hB, hG, hK⟩ := id h
  have h15 : live Z 4 q 4 = 1 ∧ live Z 4 q 5 = nI k := by
    rcases (hB k hk).2 with z | ⟨p, m1, m2, m3, m4⟩
    · rw [hb] at z; exact absurd z (nI_m1 (by omega))
    · have : p = q := nI_inj (m2.symm.trans hb) (by omega) (by omega)
      subst this
      exact ⟨m3, m4⟩
  obtain ⟨h1, h5⟩ := h15
  have hlt : nd < nq := by
    have := cn_lt (P := fun p => live Z 4 p 4 = 2) q hq (by rw [h1]; decide)
    have := hK.1
    omega
  obtain ⟨Z', z1, z2⟩ := r_tries (Z := Z) (fu := fu) (c := c) hq (by omega) h5 (by omega) (by omega) h.VN h.VL hf
  obtain ⟨hE, ⟨pl, hpl⟩, h8, h5c, h9, h10⟩ := hCh c hc
  have hR1 : RR np T (pln S) (us (cls S t) 1 q 7 (-1)) (us (live Z) 4 q 7 (-1)) ns nc nl nq nd fo pc := RR_p1 hq (Or.inl rfl) h
  have hE1 : EQ (cls (u4 S 1 t q 7 (-1)) t) (live Z) c := fun j hj => by rw [cls_u, us_nk (by decide)]; exact hE j hj
  have jam_ok : ∀ (Y : S4) (w : Vw), RR np T (pln Y) (cls Y t) w ns nc nl nq nd fo pc → ∃ Y', s_X0_jam t c Y = some Y' ∧ RR np T (pln Y') (cls Y' t) (jamd w c) ns nc nl nq nd fo pc := by
    intro Y w hw
    obtain ⟨e1, e2, e3, e4, e5, e6⟩ := hw.2.2.1 c hc
    obtain ⟨Y', g1, g2, g3, g4⟩ := k_jam (S := Y) (t := t) (c := c) (v := w) e1
    refine ⟨Y', g1, ?_⟩
    rw [g4]
    refine RR_ch hc hw g3 (fun k i j hn => jamd_ne (by omega)) g2 (jamd_ne (by omega)) (jamd_ne (by omega)) ?_ (jamd_ne (by omega)) ?_ (jamd_ne (by omega))
    · rw [jamd_ne (by omega)]; exact e3
    · rw [jamd_ne (by omega)]; exact e5
  unfold s_X4_tryParcel
  rw [gd_t (inb_nI (by omega) (by decide)), gd_t (inb_nI (by omega) (by decide)), nI_clamp (n := q) (by omega), nI_clamp (n := c) (by omega), sv_e, k_isUsable hE1, bd_s, b2_if]
  by_cases u : usbl (live Z) c
  · rw [if_pos u, show u4 S 1 t q 7 (-1) 1 t q 2 = live Z 4 q 2 from by rw [rcl (u4 S 1 t q 7 (-1)), cls_u, us_nj (by decide)]; exact (hP q hq).1 2 (by decide) (by decide), show u4 S 1 t q 7 (-1) 0 t c 3 = live Z 2 c 3 from hE1 3 (by decide)]
    by_cases g : live Z 4 q 2 ≤ live Z 2 c 3
    · rw [if_pos g, k_gap (v := live Z) (by rw [cls_u, us_nk (by decide)]; exact d0) hE1 h10, bd_s, b2_if]
      by_cases w : clo (live Z) c
      · rw [if_pos w]
        obtain ⟨Y', g1, g2⟩ := jam_ok (u4 S 1 t q 7 (-1)) (us (live Z) 4 q 7 (-1)) (by rw [cls_u, pln_u (by decide)]; exact hR1)
        rw [g1, bd_s]
        refine ⟨Y', Z', nd, rfl, z1, ?_⟩
        rw [z2]
        unfold tri trx
        rw [if_neg (fun z => z.2.2 w), if_pos u, if_neg (show ¬ hvy (live Z) q c from fun z => z g)]
        exact g2
      · rw [if_neg w]
        obtain ⟨S', g1, g2⟩ := t_drop (fu := fu) hq hc hk h hb h1 h5 hck u hT hnp hf (by rw [z2]; unfold tri; rw [if_pos ⟨u, fun z => z g, w⟩])
        rw [g1, bd_s]
        exact ⟨S', Z', nd + 1, rfl, z1, g2⟩
    · rw [if_neg g]
      unfold s_X1_spoil
      rw [show u4 S 1 t q 7 (-1) 1 t q 11 = live Z 4 q 11 from by rw [rcl (u4 S 1 t q 7 (-1)), cls_u, us_nj (by decide)]; exact (hP q hq).1 11 (by decide) (by decide), sv_e, bd_s]
      obtain ⟨Y', g1, g2⟩ := jam_ok (u4 (u4 S 1 t q 7 (-1)) 1 t q 11 (live Z 4 q 11 ||| 1 <<< (nI c &&& 31))) (us (us (live Z) 4 q 7 (-1)) 4 q 11 (live Z 4 q 11 ||| 1 <<< (nI c &&& 31))) (by rw [cls_u, cls_u, pln_u (by decide), pln_u (by decide)]; exact RR_p1 hq (Or.inr (Or.inr rfl)) hR1)
      rw [g1, bd_s]
      refine ⟨Y', Z', nd, rfl, z1, ?_⟩
      rw [z2]
      unfold tri trx
      rw [if_neg (fun z => z.2.1 g), if_pos u, if_pos (show hvy (live Z) q c from g)]
      exact g2
  · rw [if_neg u, show u4 S 1 t q 7 (-1) 0 t c 13 = live Z 2 c 13 from hE1 13 (by decide), sv_e]
    refine ⟨_, Z', nd, rfl, z1, ?_⟩
    rw [z2]
    unfold tri trx
    rw [if_neg (fun z => u z.1), if_neg u, cls_u, cls_u, pln_u (by decide), pln_u (by decide)]
    refine RR_ch hc hR1 (fun k i j hn => us_ne (by omega)) (fun k i j hn => us_ne (by omega)) (fun j hj => ?_) (us_nj (by decide)) (us_nj (by decide)) ?_ (us_nj (by decide)) ?_ (us_nj (by decide))
    · by_cases e : j = 13
      · subst e; rw [us_self, us_self]
      · rw [us_nj e, us_nj e, us_nk (by decide), us_nk (by decide)]; exact hE j hj
    · rw [us_nj (by decide), us_nk (by decide)]; exact h8
    · rw [us_nj (by decide), us_nk (by decide)]; exact h9
/-! a station sends, both sides -/
theorem cls_w {S : S4} {t k i : Nat} {r : Nat → Int32} {a b c : Nat} : cls (w4 S k t i r) t a b c = if a = k ∧ b = i then r c else cls S t a b c := by
  unfold cls w4
  by_cases h : a = k ∧ b = i
  · rw [if_pos h, if_pos ⟨h.1, rfl, h.2⟩]
  · rw [if_neg h, if_neg (fun z => h ⟨z.1, z.2.2⟩)]
theorem pln_w {S : S4} {t k i : Nat} {r : Nat → Int32} (hk : ¬ (k = 2 ∨ (10 ≤ k ∧ k ≤ 13))) : pln (w4 S k t i r) = pln S := by
  funext a b c
  unfold pln
  by_cases h : a = 2 ∨ (10 ≤ a ∧ a ≤ 13)
  · rw [if_pos h, if_pos h, w4_ne (fun z => hk (by rw [← z.1]; exact h))]
  · rw [if_neg h, if_neg h]
theorem k_parcelAt {S : S4} {t fo pc k : Nat} (h1 : cls S t 4 0 1 = nI pc) (h2 : cls S t 4 0 2 = nI fo) (hk : k < pc) (hf : fo < pc) (h3 : pc ≤ 30) : s_X4_parcelAt t (nI k) S = some (cls S t 19 0 (cri pc fo k)) := by
  unfold s_X4_parcelAt
  have := cri_lt hf hk
  rw [k_carrierAt h1 h2 hk hf h3, bd_s, gd_t (inb_nI (by omega) (by decide)), nI_clamp (by omega)]
  rfl
theorem t_load {np fu T t s ns nc nl nq nd fo pc : Nat} {S Z : S4} (hs : s < ns) (h : RR np T (pln S) (cls S t) (live Z) ns nc nl nq nd fo pc) (hf : 10 < fu) : ∃ S' Z', s_X4_load t t s S = some S' ∧ s_X7_sends fu (nI s) Z = some Z' ∧ RR np T (pln S') (cls S' t) (live Z') ns nc nl nq nd fo pc := by
  obtain ⟨⟨⟨a1, a2, a3, a4, a5, a6, b1, b2', b3, b4, b5, b6, b7⟩, d0, d1, d2, d3, d4, d5, d6, d7, d8, tm, t1, t2⟩, hS, hCh, hL, hP, hB, hG, hK⟩ := id h
  obtain ⟨k, w, s1, s2, s3, s4, s5, s6, s7, s8, s9, s10⟩ := hS s hs
  have hbb : live Z 0 0 k = -1 ∨ ∃ p, p < 60 ∧ live Z 0 0 k = nI p := by
    rcases (hB k s3).2 with z | ⟨p, m1, m2, -, -⟩
    · exact Or.inl z
    · exact Or.inr ⟨p, by omega, m2⟩
  obtain ⟨Z', z1, z2⟩ := r_sends (Z := Z) (fu := fu) (s := s) (by omega) s1 (by omega) s4 s5 hbb (fun hw => by obtain ⟨-, p, m1, m2, -⟩ := s9 0 (by omega); exact ⟨p, by omega, m2⟩) hf
  have hcl := cri_lt (k := k) d8 s3
  unfold s_X4_load s_X5_firstWaiting
  rw [show S 5 t s 0 = nI k from s6, k_carrierAt d1 d2 s3 d8 b2', bd_s, show S 5 t s 1 = nI w from s7, show S 19 t 0 (nI (cri pc fo k)).toNatClampNeg = live Z 0 0 k from by rw [nI_clamp (by omega)]; exact (hB k s3).1]
  cases w with
  | zero =>
    rw [if_pos (by decide), bd_s, gd_t (inb_nI (by omega) (by decide)), isP_no, bd_s, if_pos rfl]
    refine ⟨S, Z', by split <;> rfl, z1, ?_⟩
    rw [z2]
    unfold snd0
    rw [if_neg (fun z => z.2 (by rw [s4]; rfl))]
    exact h
  | succ w =>
    obtain ⟨m1, q, hq, m3, h1, h5⟩ := s9 0 (by omega)
    rw [if_neg (nI_nle (by omega) (by omega)), gd_t (show inb (0 : Int32) 10 from inb_nI (n := 0) (by decide) (by decide)), bd_s, gd_t (inb_nI (by omega) (by decide)), show S 14 t s (0 : Int32).toNatClampNeg = nI q from m1.trans m3]
    rcases hbb with hb | ⟨p, hp, hb⟩
    · rw [hb, if_pos rfl, isP_yes d6 (by omega) hq, bd_s, if_neg (by decide)]
      unfold s_X5_releaseFirst
      rw [show S 5 t s 1 = nI (w + 1) from s7, if_neg (nI_nle (by omega) (by omega)), sv_e]
      generalize hY1 : w4 S 14 t s (va_cpy (S 14 t s) (S 14 t s) (1 : Int32).toNatClampNeg (0 : Int32).toNatClampNeg (9 : Int32).toNatClampNeg) = Y1
      have y1 : ∀ a b c, cls Y1 t a b c = if a = 14 ∧ b = s then va_cpy (S 14 t s) (S 14 t s) 1 0 9 c else cls S t a b c := fun a b c => by rw [← hY1, cls_w]; rfl
      have y1o : ∀ a b c, ¬ (a = 14 ∧ b = s) → cls Y1 t a b c = cls S t a b c := fun a b c e => by rw [y1, if_neg e]
      rw [show Y1 5 t s 1 = nI (w + 1) from by rw [rcl Y1, y1o _ _ _ (by omega)]; exact s7, nI_pred, sv_e, show u4 Y1 5 t s 1 (nI w) 5 t s 2 = live Z 1 s 2 from by rw [rcl (u4 Y1 5 t s 1 (nI w)), cls_u, us_nj (by decide), y1o _ _ _ (by omega)]; exact s8, sv_e, bd_s, gd_t (inb_nI (by omega) (by decide)), nI_clamp (n := cri pc fo k) (by omega), sv_e, gd_t (inb_nI (by omega) (by decide)), sv_e, gd_t (inb_nI (by omega) (by decide)), sv_e, nI_clamp (n := q) (by omega)]
      refine ⟨_, Z', rfl, z1, ?_⟩
      have p1 : pln Y1 = pln S := by rw [← hY1, pln_w (by decide)]
      rw [pln_u (by decide), pln_u (by decide), pln_u (by decide), pln_u (by decide), pln_u (by decide), p1, cls_u, cls_u, cls_u, cls_u, cls_u, z2]
      have hv : snd0 (live Z) s = snd1 (shf (live Z) s w 3) s q k := by
        unfold snd0
        rw [s1, nI_clamp (by omega), hb, s4, if_pos ⟨by decide, nI_ne0 (by omega) (by omega)⟩, nI_clamp (by omega), show live Z 1 s 3 = nI q from m3, nI_clamp (by omega)]
        rfl
      rw [hv]
      have w1 : shf (live Z) s w 3 1 s 1 = nI (w + 1) := by rw [shf_ne (by omega)]; exact s4
      have w2 : shf (live Z) s w 3 1 s 2 = live Z 1 s 2 := shf_ne (by omega)
      have hso : ∀ a b c, a ≠ 1 → shf (live Z) s w 3 a b c = live Z a b c := fun a b c e => shf_ne (by omega)
      unfold snd1
      rw [w1, nI_pred, w2]
      refine RR_se (v := live Z) (C := cls S t) (s := s) (q := q) (w := w) (k := k) hs s3 (by omega) hq s4 s1 m3 h hb ?_ (fun k' hk' => ?_) (fun s' hs' => ?_) ?_ ?_ (fun j hj => ?_) ?_ ?_ (fun p hp => ?_) ?_ ?_ ?_ ?_ (fun j h4 h5 => ?_) ?_ (fun p hp => ?_) (fun j hj h5 => ?_) ?_ ?_ (fun s' hs' => ?_) ?_ ?_ ?_ (fun s' hs' => ?_) (fun j hj => ?_) ?_ ?_ (fun i hi => ?_) ?_ ?_
      · simp [us_app]
      · simp [us_app, hk']; exact hso _ _ _ (by decide)
      · funext j; simp [us_app, hs']; exact shf_ne (by omega)
      · simp [us_app]; exact shf_ne (by omega)
      · simp [us_app]
      · have e1 : 3 + j ≠ 1 := by omega
        have e2 : 3 + j ≠ 2 := by omega
        simp [us_app, e1, e2]; exact shf_at (by omega) (by omega)
      · funext i j; simp [us_app]; exact hso _ _ _ (by decide)
      · funext i j; simp [us_app]; exact hso _ _ _ (by decide)
      · funext j; simp [us_app, hp]; exact hso _ _ _ (by decide)
      · funext i j; simp [us_app]; exact hso _ _ _ (by decide)
      · funext i j; simp [us_app]; exact hso _ _ _ (by decide)
      · simp [us_app]
      · simp [us_app]
      · simp [us_app, h4, h5]; exact hso _ _ _ (by decide)
      · funext i j; simp [us_app]; exact y1o _ _ _ (by omega)
      · funext j; simp [us_app, hp]; exact y1o _ _ _ (by omega)
      · by_cases e : j = 4
        · subst e; simp [us_app]
        · simp [us_app, e, h5]
          rw [y1o _ _ _ (by omega), hso _ _ _ (by decide)]
          exact (hP q hq).1 j hj h5
      · simp [us_app]
      · funext i j; simp [us_app]; exact y1o _ _ _ (by omega)
      · funext j; simp [us_app, hs']; exact y1o _ _ _ (by omega)
      · simp [us_app]; exact y1o _ _ _ (by omega)
      · simp [us_app]
      · simp [us_app]
      · funext j; simp [us_app]; exact y1o _ _ _ (by omega)
      · simp [us_app]
        rw [y1, if_pos ⟨rfl, rfl⟩, pk_cpy_in (by omega) (by omega)]
        show S 14 t s (1 + (j - 0)) = S 14 t s (j + 1)
        congr 1
        omega
      · funext i j; simp [us_app]; exact y1o _ _ _ (by omega)
      · simp [us_app]
      · simp [us_app, hi]; exact y1o _ _ _ (by omega)
      · funext i j; simp [us_app]; exact y1o _ _ _ (by omega)
      · funext i j; simp [us_app]; exact y1o _ _ _ (by omega)
    · rw [hb, if_neg (nI_m1 (by omega))]
      refine ⟨S, Z', rfl, z1, ?_⟩
      rw [z2]
      unfold snd0
      rw [s1, nI_clamp (by omega), hb, if_neg (fun z => nI_pos (n := p) (by omega) z.1)]
      exact h
