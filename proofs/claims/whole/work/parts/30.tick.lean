/-! one chute's tick, both sides -/
def EQ (C v : Vw) (c : Nat) : Prop := ∀ j, j < 15 → C 0 c j = v 2 c j
def OU (k0 i0 : Nat) (C C' : Vw) : Prop := ∀ k i j, ¬ (k = k0 ∧ i = i0) → C' k i j = C k i j
theorem EQ.us {C v : Vw} {c w : Nat} {x : Int32} (h : EQ C v c) : EQ (us C 0 c w x) (us v 2 c w x) c := fun j hj => by
  by_cases e : j = w
  · subst e; rw [us_self, us_self]
  · rw [us_nj e, us_nj e]; exact h j hj
theorem OU.refl {k i : Nat} {C : Vw} : OU k i C C := fun _ _ _ _ => rfl
theorem OU.us {k0 i0 w : Nat} {x : Int32} {C C' : Vw} (h : OU k0 i0 C C') : OU k0 i0 C (us C' k0 i0 w x) := fun k i j hn => by
  rw [us_ne (fun z => hn ⟨z.1, z.2.1⟩)]
  exact h k i j hn
theorem OU.trans {k i : Nat} {C1 C2 C3 : Vw} (a : OU k i C1 C2) (b : OU k i C2 C3) : OU k i C1 C3 := fun k' i' j h => (b k' i' j h).trans (a k' i' j h)
theorem k_wl2 {S : S4} {t c : Nat} {v : Vw} (hE : EQ (cls S t) v c) (h8 : 0 ≤ v 2 c 8) : ∃ S', (if S 0 t c 8 ≤ 0 then some S else sv (u4 S 0 t c 8 (S 0 t c 8 - 1)) fun Z3 => if Z3 0 t c 8 = 0 then sv (u4 Z3 0 t c 6 0) fun Z5 => some Z5 else some Z3) = some S' ∧ EQ (cls S' t) (ctk2 v c) c ∧ OU 0 c (cls S t) (cls S' t) ∧ pln S' = pln S := by
  unfold ctk2
  rw [rcl S, hE 8 (by decide)]
  by_cases h : v 2 c 8 = 0
  · rw [if_pos (by rw [h]; decide), if_pos h]
    exact ⟨S, rfl, hE, OU.refl, rfl⟩
  · have hm : v 2 c 8 - 1 = v 2 c 8 + (-1) := by grind
    rw [if_neg (by grind), if_neg h, sv_e, rcl (u4 S 0 t c 8 (v 2 c 8 - 1)), cls_u, us_self, hm]
    have e1 : EQ (cls (u4 S 0 t c 8 (v 2 c 8 + -1)) t) (us v 2 c 8 (v 2 c 8 + -1)) c := by rw [cls_u]; exact hE.us
    have e2 : OU 0 c (cls S t) (cls (u4 S 0 t c 8 (v 2 c 8 + -1)) t) := by rw [cls_u]; exact OU.refl.us
    by_cases h2 : v 2 c 8 + (-1) = 0
    · rw [if_pos h2, if_pos h2, sv_e]
      exact ⟨_, rfl, by rw [cls_u]; exact e1.us, by rw [cls_u]; exact e2.us, by rw [pln_u (by decide), pln_u (by decide)]⟩
    · rw [if_neg h2, if_neg h2]
      exact ⟨_, rfl, e1, e2, by rw [pln_u (by decide)]⟩
theorem k_ctk {S : S4} {t c : Nat} {v : Vw} (hE : EQ (cls S t) v c) (h8 : 0 ≤ v 2 c 8) : ∃ S', s_X0_passTick t c S = some S' ∧ EQ (cls S' t) (ctk v c) c ∧ OU 0 c (cls S t) (cls S' t) ∧ pln S' = pln S := by
  unfold s_X0_passTick ctk
  rw [show S 0 t c 7 = v 2 c 7 from hE 7 (by decide)]
  by_cases h : v 2 c 7 ≤ 0
  · rw [if_pos h, if_pos h]
    exact k_wl2 hE h8
  · have hm : v 2 c 7 - 1 = v 2 c 7 + (-1) := by grind
    rw [if_neg h, if_neg h, sv_e, hm]
    have e1 : EQ (cls (u4 S 0 t c 7 (v 2 c 7 + -1)) t) (us v 2 c 7 (v 2 c 7 + -1)) c := by rw [cls_u]; exact hE.us
    have e2 : OU 0 c (cls S t) (cls (u4 S 0 t c 7 (v 2 c 7 + -1)) t) := by rw [cls_u]; exact OU.refl.us
    obtain ⟨S', a, b, d, g⟩ := k_wl2 e1 (by rw [us_nj (by decide)]; exact h8)
    exact ⟨S', a, b, e2.trans d, by rw [g, pln_u (by decide)]⟩
theorem ctk_ne {v : Vw} {c k i j : Nat} (h : ¬ (k = 2 ∧ i = c ∧ (j = 6 ∨ j = 7 ∨ j = 8))) : ctk v c k i j = v k i j := by
  have e1 : ∀ w : Vw, ctk2 w c k i j = w k i j := fun w => by
    unfold ctk2
    by_cases h1 : w 2 c 8 = 0
    · rw [if_pos h1]
    · rw [if_neg h1]
      by_cases h2 : w 2 c 8 + (-1) = 0
      · rw [if_pos h2, us_ne (by omega), us_ne (by omega)]
      · rw [if_neg h2, us_ne (by omega)]
  unfold ctk
  rw [e1]
  by_cases h1 : v 2 c 7 ≤ 0
  · rw [if_pos h1]
  · rw [if_neg h1, us_ne (by omega)]
theorem ctk_8 {v : Vw} {c : Nat} (h : 0 ≤ v 2 c 8) : 0 ≤ ctk v c 2 c 8 := by
  have e1 : ∀ w : Vw, 0 ≤ w 2 c 8 → 0 ≤ ctk2 w c 2 c 8 := fun w hw => by
    unfold ctk2
    by_cases h1 : w 2 c 8 = 0
    · rw [if_pos h1]; exact hw
    · rw [if_neg h1]
      by_cases h2 : w 2 c 8 + (-1) = 0
      · rw [if_pos h2, us_nj (by decide), us_self, h2]; decide
      · rw [if_neg h2, us_self]; grind
  unfold ctk
  refine e1 _ ?_
  by_cases h1 : v 2 c 7 ≤ 0
  · rw [if_pos h1]; exact h
  · rw [if_neg h1, us_nj (by decide)]; exact h
theorem t_chute {np T t c ns nc nl nq nd fo pc : Nat} {S Z : S4} (hc : c < nc) (h : RR np T (pln S) (cls S t) (live Z) ns nc nl nq nd fo pc) : ∃ S' Z', s_X0_passTick t c S = some S' ∧ s_X7_waitsLess (nI c) Z = some Z' ∧ RR np T (pln S') (cls S' t) (live Z') ns nc nl nq nd fo pc := by
  have hc8 := h.VN.2.2.2.2.2.2.2.2.2.1
  obtain ⟨hE, -, h8, h5, h9, h10⟩ := h.2.2.1 c hc
  obtain ⟨S', a1, a2, a3, a4⟩ := k_ctk (S := S) hE h8
  obtain ⟨Z', b1, b2⟩ := r_waitsLess (Z := Z) (c := c) (by omega)
  refine ⟨S', Z', a1, b1, ?_⟩
  rw [a4, b2]
  refine RR_ch hc h a3 (fun k i j hn => ctk_ne (by omega)) a2 (ctk_ne (by omega)) (ctk_ne (by omega)) (ctk_8 h8) (ctk_ne (by omega)) ?_ (ctk_ne (by omega))
  rw [ctk_ne (by omega)]
  exact h9
/-! the scanner, both sides -/
def QH (S : S4) (t : Nat) (v : Vw) (np nl nc q : Nat) : Prop := cls S t 4 0 0 = v 6 0 6 ∧ cls S t 4 0 4 = nI nc ∧ cls S t 4 0 5 = nI nl ∧ v 6 0 3 = nI nl ∧ nl ≤ 5 ∧ nc ≤ 8 ∧ np < 2 ^ 31 ∧ (∀ c, c < nc → ∀ j, j < 15 → cls S t 0 c j = v 2 c j) ∧ RPl (pln S) (cls S t) v np nl nc ∧ ∀ j, j < 12 → j ≠ 5 → j ≠ 7 → cls S t 1 q j = v 4 q j
def AI (S S' : S4) (t q : Nat) (a v : Vw) : Prop := ∃ x y, a = aim v q x y ∧ cls S' t = us (us (cls S t) 1 q 7 x) 1 q 8 y ∧ pln S' = pln S
theorem AI.one {S : S4} {t q : Nat} {v : Vw} {y : Int32} (h7 : cls S t 1 q 7 = -1) : AI S (u4 S 1 t q 8 y) t q (aim v q (-1) y) v :=
  ⟨-1, y, rfl, by rw [cls_u, us_same h7], pln_u (by decide)⟩
theorem AI.two {S : S4} {t q : Nat} {v : Vw} {x y : Int32} : AI S (u4 (u4 S 1 t q 7 x) 1 t q 8 y) t q (aim v q x y) v :=
  ⟨x, y, rfl, by rw [cls_u, cls_u], by rw [pln_u (by decide), pln_u (by decide)]⟩
theorem k_aimEx {S : S4} {t q p c np nl nc : Nat} {x : Int32} {v : Vw} (H : QH S t v np nl nc q) (h7 : cls S t 1 q 7 = -1) (hx : v 3 p 2 = nI c) (hc : c < nc) : ∃ S', s_X4_aimAtException t t q (nI c) x S = some S' ∧ AI S S' t q (exc v q p x) v := by
  obtain ⟨g0, g1, g2, g3, g4, g5, g6, g7, g8, g9⟩ := H
  unfold s_X4_aimAtException exc
  rw [k_isOpenFor g1 g5 hc (g7 c hc) (g9 11 (by decide) (by decide) (by decide)), bd_s, b2_if, hx, nI_clamp (by omega)]
  by_cases h : cgo v q c
  · rw [if_pos h, if_pos h, sv_e, sv_e]
    exact ⟨_, rfl, AI.two⟩
  · rw [if_neg h, if_neg h, sv_e]
    exact ⟨_, rfl, AI.one h7⟩
theorem k_aimBy_L {S : S4} {fu t q i p r m n np nl nc : Nat} {v : Vw} (H : QH S t v np nl nc q) (h7 : cls S t 1 q 7 = -1) (hM : PM (pln S) v i p) (hm : v 3 p 1 = nI m) (h8 : m ≤ 8) (hr : r < m) (hV : VR v nc p r n) : ∀ (d k f : Nat), k + d = n → d < f → ∃ S', s_X4_aimByRule_L28 fu t t q i f (nI r) (nI k) S = some S' ∧ AI S S' t q (fgr v q p r (fgo v q p r d k)) v := by
  obtain ⟨g0, g1, g2, g3, g4, g5, g6, g7, g8, g9⟩ := id H
  have gg := hM.2.2.2.2
  rw [hm, nI_clamp (by omega)] at gg
  obtain ⟨-, -, e3, -⟩ := gg r hr
  have hn3 := hV.2.1
  intro d
  induction d with
  | zero =>
    intro k f hk hf
    obtain ⟨f, rfl⟩ : ∃ g, f = g + 1 := ⟨f - 1, by omega⟩
    rw [s_X4_aimByRule_L28, gd_t (inb_nI (by omega) (by decide)), nI_clamp (by omega), rk12 S, e3, hV.1, if_pos (nI_le (by omega) (by omega)), sv_e]
    exact ⟨_, rfl, AI.one h7⟩
  | succ d ih =>
    intro k f hk hf
    obtain ⟨f, rfl⟩ : ∃ g, f = g + 1 := ⟨f - 1, by omega⟩
    obtain ⟨c, hc, hcv⟩ := hV.2.2 k (by omega)
    rw [s_X4_aimByRule_L28, gd_t (inb_nI (by omega) (by decide)), nI_clamp (by omega), rk12 S, e3, hV.1, if_neg (nI_ge (by omega) (by omega)), k_chuteIn hM hm h8 hr hV (by omega), bd_s, hcv, k_isOpenFor g1 g5 hc (g7 c hc) (g9 11 (by decide) (by decide) (by decide)), bd_s, b2_if, fgo, hcv, nI_clamp (by omega)]
    by_cases h : cgo v q c
    · rw [if_pos h, if_pos h, sv_e]
      have e0 : (if nI k = 0 then some (0 : Int32) else some 1) = some (if k = 0 then 0 else 1) := by
        by_cases hk0 : k = 0
        · subst hk0; rfl
        · rw [if_neg hk0, if_neg (nI_ne0 (by omega) (by omega))]
      rw [e0, bd_s, sv_e]
      refine ⟨_, rfl, ?_⟩
      have e5 : fgr v q p r (some k) = aim v q (nI c) (if k = 0 then 0 else 1) := by
        show aim v q (v 3 p (4 + 6 * r + (3 + k))) _ = aim v q (nI c) _
        rw [hcv]
      rw [e5]
      exact AI.two
    · rw [if_neg h, if_neg h, nI_1]
      exact ih (k + 1) f (by omega) (by omega)
theorem k_dread {S : S4} {t q : Nat} {v : Vw} (h0 : cls S t 1 q 0 = v 4 q 0) (h3 : cls S t 1 q 3 = v 4 q 3) : s_X1_destinationAsRead t q S = some (dread v q) := by
  unfold s_X1_destinationAsRead dread
  rw [rcl S, h3]
  by_cases h : v 4 q 3 = 1
  · rw [if_pos h, if_pos h, rcl S, h0, Int32.mul_comm]
  · rw [if_neg h, if_neg h, rcl S, h0]
theorem k_rounds {S : S4} {t q sc : Nat} (h : cls S t 1 q 6 = nI sc) (hs : sc < 2 ^ 31) : s_X1_rounds t q S = some (nI (sc - 1)) := by
  unfold s_X1_rounds
  rw [rcl S, h]
  cases sc with
  | zero => rfl
  | succ n =>
    rw [nI_pred, if_neg (nI_pos (by omega))]
    rfl
theorem k_scan1 {S : S4} {np fu t q nl nc sc : Nat} {v : Vw} (H : QH S t v np nl nc q) (h7 : cls S t 1 q 7 = -1) (hsc : v 4 q 6 = nI (sc + 1)) (hs : sc + 1 < 2 ^ 31) (hf : 8 < fu) : ∃ S', ((s_X4_planOf np fu t (S 4 t 0 0) S).bind fun q4 => (if q4 = none then sv (u4 S 1 t q 8 (5 : Int32)) fun Z7 => some Z7 else q4.bind fun i8 => gd (i8 < np) ((if (S 1 t q 3) = (2 : Int32) then (s_X4_aimAtException t t q (S 2 0 i8 2) (2 : Int32) S).bind fun Z19 => some Z19 else (s_X1_rounds t q S).bind fun q12 => (if q12 ≤ (S 2 0 i8 3) then (s_X4_aimByRule fu t t q i8 S).bind fun Z15 => some Z15 else (s_X4_aimAtException t t q (S 2 0 i8 2) (3 : Int32) S).bind fun Z17 => some Z17))))) = some S' ∧ AI S S' t q (scn1 v q) v := by
  obtain ⟨g0, g1, g2, g3, g4, g5, g6, g7, g8, g9⟩ := id H
  have hnlp : nlp v = nl := by unfold nlp; rw [g3]; exact nI_clamp (by omega)
  obtain ⟨k1, k2⟩ := k_planOf (tick := v 6 0 6) (fu := fu) g2 g4 g6 (fun p hp => (g8.1 p hp).2.2) g8.2 (by omega)
  unfold scn1
  rw [show S 4 t 0 0 = v 6 0 6 from g0, hnlp]
  cases hpo : pof v (tmv v) nl with
  | none =>
    dsimp only
    rw [k1 hpo, bd_s, if_pos rfl, sv_e]
    exact ⟨_, rfl, AI.one h7⟩
  | some p =>
    dsimp only
    obtain ⟨i, hi, e1, hM⟩ := k2 p hpo
    obtain ⟨m, c, hm, hm8, hx, hcc, hrr⟩ := (g8.1 p (pof_lt hpo)).1
    have hrf : rof v p (dread v q) = rul v p (dread v q) m 0 := by unfold rof; rw [hm, nI_clamp (by omega)]
    rw [e1, bd_s, if_neg (by intro z; cases z), bd_s, gd_t hi, show S 1 t q 3 = v 4 q 3 from g9 3 (by decide) (by decide) (by decide), show S 2 0 i 2 = nI c from by rw [rk2 S, hM.2.2.1, hx], show S 2 0 i 3 = v 3 p 3 from by rw [rk2 S, hM.2.2.2.1]]
    by_cases c1 : v 4 q 3 = 2
    · rw [if_pos c1, if_pos c1]
      obtain ⟨S', a, b⟩ := k_aimEx (x := 2) H h7 hx hcc
      rw [a, bd_s]
      exact ⟨S', rfl, b⟩
    · rw [if_neg c1, if_neg c1, k_rounds (sc := sc + 1) (by rw [g9 6 (by decide) (by decide) (by decide), hsc]) hs, bd_s, Nat.add_sub_cancel, hsc, nI_pred]
      by_cases c2 : nI sc ≤ v 3 p 3
      · rw [if_pos c2, if_neg (show ¬ ¬ nI sc ≤ v 3 p 3 from fun z => z c2), hrf]
        unfold s_X4_aimByRule
        rw [k_dread (g9 0 (by decide) (by decide) (by decide)) (g9 3 (by decide) (by decide) (by decide)), bd_s, k_ruleOf hM hm hm8 hf, bd_s]
        cases hr : rul v p (dread v q) m 0 with
        | none =>
          dsimp only
          rw [show cd none = (-1 : Int32) from rfl, if_pos rfl, show S 2 0 i 2 = nI c from by rw [rk2 S, hM.2.2.1, hx]]
          obtain ⟨S', a, b⟩ := k_aimEx (x := 4) H h7 hx hcc
          rw [a, bd_s, bd_s]
          exact ⟨S', rfl, b⟩
        | some r =>
          dsimp only
          have hrl := rul_lt hr
          obtain ⟨n, hVR⟩ := hrr r (by omega)
          have hn3 := hVR.2.1
          rw [show cd (some r) = nI r from rfl, if_neg (nI_m1 (by omega)), hVR.1, nI_clamp (by omega)]
          obtain ⟨S', a, b⟩ := k_aimBy_L (fu := fu) H h7 hM hm hm8 (by omega) hVR n 0 fu (by omega) (by omega)
          rw [show (0 : Int32) = nI 0 from rfl, a, bd_s]
          exact ⟨S', rfl, b⟩
      · rw [if_neg c2, if_pos c2]
        obtain ⟨S', a, b⟩ := k_aimEx (x := 3) H h7 hx hcc
        rw [a, bd_s]
        exact ⟨S', rfl, b⟩
theorem t_scan {np fu T t q ns nc nl nq nd fo pc : Nat} {S Z : S4} (hq : q < nq) (h : RR np T (pln S) (cls S t) (live Z) ns nc nl nq nd fo pc) (h1 : live Z 4 q 4 = 1) (hT : T + 1 < 2 ^ 31) (hnp : np < 2 ^ 31) (hf : 8 < fu) : ∃ S' Z', s_X4_scan np fu t t q S = some S' ∧ s_X7_scans fu (nI q) Z = some Z' ∧ RR np (T + 1) (pln S') (cls S' t) (live Z') ns nc nl nq nd fo pc := by
  obtain ⟨Z', b1, b2⟩ := r_scans (Z := Z) (fu := fu) hq h.VN h.VL hf
  obtain ⟨sc, hsc, hscT⟩ := (h.2.2.2.2.1 q hq).2.1
  have hC6 : cls S t 1 q 6 = nI sc := by rw [(h.2.2.2.2.1 q hq).1 6 (by decide) (by decide)]; exact hsc
  -- the view after the scan is counted
  have key : ∀ S1 : S4, (∀ k i j, ¬ (k = 1 ∧ i = q ∧ j = 6) → ¬ (k = 4 ∧ i = 0 ∧ j = 8) → cls S1 t k i j = cls S t k i j) → cls S1 t 1 q 6 = nI (sc + 1) → cls S1 t 4 0 8 = cls S t 4 0 8 + (if live Z 4 q 6 = 0 then 0 else 1) → pln S1 = pln S →
      RR np (T + 1) (pln S1) (cls S1 t) (us (live Z) 4 q 6 (live Z 4 q 6 + 1)) ns nc nl nq nd fo pc ∧ QH (u4 S1 1 t q 7 (-1)) t (us (live Z) 4 q 6 (live Z 4 q 6 + 1)) np nl nc q := by
    intro S1 f1 f2 f3 f4
    have hR : RR np (T + 1) (pln S1) (cls S1 t) (us (live Z) 4 q 6 (live Z 4 q 6 + 1)) ns nc nl nq nd fo pc := by
      rw [f4]
      refine RR_sc hq h h1 hT f1 (fun k i j hn => us_ne hn) ?_ (us_self _ _ _ _ _) f3
      rw [us_self, f2, hsc, nI_1]
    refine ⟨hR, ?_⟩
    obtain ⟨⟨hv, a0, a1, a2, a3, a4, a5, a6, a7, -⟩, -, rC, rL, rP, -⟩ := id hR
    have hx : ∀ k i j, ¬ (k = 1 ∧ i = q ∧ j = 7) → cls (u4 S1 1 t q 7 (-1)) t k i j = cls S1 t k i j := fun k i j hn => by rw [cls_u, us_ne hn]
    refine ⟨?_, ?_, ?_, hv.2.2.2.1, hv.2.2.2.2.2.2.2.2.2.2.1, hv.2.2.2.2.2.2.2.2.2.1, hnp, fun c hc j hj => ?_, ?_, fun j hj h5 h7 => ?_⟩
    · rw [hx 4 0 0 (by omega)]; exact a0
    · rw [hx 4 0 4 (by omega)]; exact a4
    · rw [hx 4 0 5 (by omega)]; exact a5
    · rw [hx 0 c j (by omega)]; exact (rC c hc).1 j hj
    · rw [pln_u (by decide)]
      exact rL.of rfl (by funext i j; exact hx 17 i j (by omega))
    · rw [hx 1 q j (by omega)]; exact (rP q hq).1 j hj h5
  have fin : ∀ S1 S' : S4, RR np (T + 1) (pln S1) (cls S1 t) (us (live Z) 4 q 6 (live Z 4 q 6 + 1)) ns nc nl nq nd fo pc → AI (u4 S1 1 t q 7 (-1)) S' t q (scn1 (us (live Z) 4 q 6 (live Z 4 q 6 + 1)) q) (us (live Z) 4 q 6 (live Z 4 q 6 + 1)) → RR np (T + 1) (pln S') (cls S' t) (live Z') ns nc nl nq nd fo pc := by
    intro S1 S' hR hA
    obtain ⟨x, y, e1, e2, e3⟩ := hA
    rw [b2, show scn (live Z) q = scn1 (us (live Z) 4 q 6 (live Z 4 q 6 + 1)) q from rfl, e1, e3, pln_u (by decide), e2, cls_u, us_us]
    refine RR_pa (q := q) hR (fun k i j hn => ?_) (fun k i j hn => aim_ne (by omega)) (fun j hj => ?_)
    · rw [us_ne (by omega), us_ne (by omega)]
    · unfold aim
      rcases hj with rfl | rfl | rfl
      · rw [us_ne (by omega), us_self, us_ne (by omega), us_self]
      · rw [us_self, us_self]
      · rw [us_ne (by omega), us_ne (by omega), us_ne (by omega), us_ne (by omega)]
        exact (hR.2.2.2.2.1 q hq).1 11 (by decide) (by decide)
  have hsc1 : us (live Z) 4 q 6 (live Z 4 q 6 + 1) 4 q 6 = nI (sc + 1) := by rw [us_self, hsc, nI_1]
  unfold s_X4_scan
  rw [show S 1 t q 6 = nI sc from hC6, nI_1, sv_e, show u4 S 1 t q 6 (nI (sc + 1)) 1 t q 6 = nI (sc + 1) from by rw [rcl (u4 S 1 t q 6 (nI (sc + 1))), cls_u, us_self]]
  by_cases hz : sc = 0
  · rw [if_pos (by rw [hz]; decide), sv_e]
    obtain ⟨hR, hQ⟩ := key (u4 S 1 t q 6 (nI (sc + 1))) (fun k i j hn _ => by rw [cls_u, us_ne hn]) (by rw [cls_u, us_self]) (by rw [cls_u, us_nk (by decide), if_pos (by rw [hsc, hz]; rfl)]; grind) (pln_u (by decide))
    obtain ⟨S', d1, d2⟩ := k_scan1 (fu := fu) hQ (by rw [cls_u, us_self]) hsc1 (by omega) hf
    exact ⟨S', Z', d1, b1, fin _ _ hR d2⟩
  · rw [if_neg (by rw [show (1 : Int32) = nI 1 from rfl]; exact nI_ge (by omega) (by omega)), sv_e, sv_e]
    obtain ⟨hR, hQ⟩ := key (u4 (u4 S 1 t q 6 (nI (sc + 1))) 4 t 0 8 (u4 S 1 t q 6 (nI (sc + 1)) 4 t 0 8 + 1)) (fun k i j hn hn2 => by rw [cls_u, cls_u, us_ne hn2, us_ne hn]) (by rw [cls_u, cls_u, us_nk (by decide), us_self]) (by rw [cls_u, us_self, if_neg (by rw [hsc]; exact nI_ne0 (by omega) (by omega)), rcl (u4 S 1 t q 6 (nI (sc + 1))), cls_u, us_nk (by decide)]) (by rw [pln_u (by decide), pln_u (by decide)])
    obtain ⟨S', d1, d2⟩ := k_scan1 (fu := fu) hQ (by rw [cls_u, us_self]) hsc1 (by omega) hf
    exact ⟨S', Z', d1, b1, fin _ _ hR d2⟩
