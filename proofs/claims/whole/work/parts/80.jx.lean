/-! write and paper of the class, and the law's wrappers of them (printed by jx.py) -/
theorem rq_same {p1 p2 : Int32} {S Z : S4} (hs : s_X6_requireIndex p1 p2 S = some (.inl Z)) : Z = S ∧ 0 ≤ p1 ∧ p1 < p2 := by
  unfold s_X6_requireIndex at hs
  by_cases c : p1 < 0
  · rw [if_pos c] at hs; exact (rl_no hs).elim
  · rw [if_neg c] at hs
    by_cases c2 : p1 < p2
    · rw [if_pos c2] at hs; exact ⟨(ll_eq hs).symm, Int32.not_lt.mp c, c2⟩
    · rw [if_neg c2] at hs; exact (rl_no hs).elim
theorem rq_thrown {p1 p2 : Int32} {S : S4} {o : Nat × S4} (hs : s_X6_requireIndex p1 p2 S = some (.inr o)) : o = (5, S) := by
  unfold s_X6_requireIndex at hs
  by_cases c : p1 < 0
  · rw [if_pos c] at hs; exact (rr_eq hs).symm
  · rw [if_neg c] at hs
    by_cases c2 : p1 < p2
    · rw [if_pos c2] at hs; exact (lr_no hs).elim
    · rw [if_neg c2] at hs; exact (rr_eq hs).symm
theorem len0_ok {S S' : S4} (hs : s_len0 S = some S') : (JB S → JB S') ∧ ln S' = ln S ∧ ∀ k, k ≠ 8 → S' k = S k := by
  obtain ⟨⟨g1, g2, g3⟩, hs⟩ := gd_some hs
  have a : ∀ (Z : S4) (j : Nat) (x : Int32), j ≠ 1 → (JB Z → JB (u4 Z 8 0 0 j x)) ∧ ln (u4 Z 8 0 0 j x) = ln Z ∧ ∀ k, k ≠ 8 → (u4 Z 8 0 0 j x) k = Z k := fun Z j x hj => by
    have e : ∀ k, k ≠ 8 → (u4 Z 8 0 0 j x) k = Z k := fun k hk => by
      funext t i j2
      rw [u4_app, if_neg (by omega)]
    refine ⟨fun h => ⟨?_, fun j2 hj2 => ?_⟩, ?_, e⟩
    · rw [u4_app, if_neg (by omega)]; exact h.1
    · rw [e 9 (by decide)]; exact h.2 j2 hj2
    · unfold ln; rw [e 9 (by decide)]
  by_cases c : 0 < S 8 0 0 0
  · replace hs := if_t hs c
    rw [← Option.some.inj hs]
    obtain ⟨a1, a2, a3⟩ := a S 2 1 (by decide)
    obtain ⟨b1, b2, b3⟩ := a (u4 S 8 0 0 2 1) 0 0 (by decide)
    exact ⟨fun h => b1 (a1 h), b2.trans a2, fun k hk => (b3 k hk).trans (a3 k hk)⟩
  · replace hs := if_f hs c
    rw [← Option.some.inj hs]
    exact a S 0 0 (by decide)
theorem c_X6_write {l : Launch} {D : va_G} {cA : Nat → ClassId} {dm : Dm} {ad : Ad} {np : Nat} {fu : Nat} {S : S4} {p1 : Int32} (hK : DK dm) (hP0 : Pb dm) (hnp : ∀ i, i < np → DP dm i) (hB : JB S) {out : Int32 × S4} (hs : s_X6_write np fu p1 S = some (.inl out)) : CtJ true D cA dm dm ad l yX6_write cX6_write 2 (some .int) 21 640 (ln out.2 - ln S) (2 * (ln out.2 - ln S)) S [.ref (ad 6 0 0), .int p1] (fun _ => some (.int out.1)) out.2 := by
  refine CtJ.of (by decide +kernel) (Nat.le_of_ble_eq_true rfl) [(0, .ref (ad 6 0 0)), (1, .int p1)] rfl (fun p e s m args below meth c A X hr hY => ?_)
  unfold s_X6_write at hs
  have h8 := hP0.1
  refine V_iload_n X dX6_write_0 rfl 1 rfl ?_
  refine V_aload_n X dX6_write_1 rfl 0 rfl ?_
  refine V_get X dX6_write_2 r_X6_10 (gm6 hK) rfl rfl ?_
  refine V_get X dX6_write_5 r_X6_142 (gm4 (gmT hK (by decide))) rfl rfl ?_
  obtain ⟨Z1, e1, hs1⟩ := tb_l hs
  clear hs
  obtain ⟨eZ, -, -⟩ := rq_same e1
  subst eZ
  obtain ⟨Z2, e2, hs⟩ := bd_some hs1
  obtain ⟨h1, hs⟩ := gd_some hs
  by_cases cn : (pcd (Z2 17 0 0 p1.toNatClampNeg)) = none
  · replace hs := if_t hs cn; cases hs
  replace hs := if_f hs cn
  obtain ⟨i, qi, hs⟩ := bd_some hs
  obtain ⟨hi, hs⟩ := gd_some hs
  obtain ⟨Z3, e3, hs⟩ := bd_some hs
  obtain rfl := ll_eq hs
  obtain ⟨o1, o2, -⟩ := len0_ok e2
  obtain ⟨q1, q2⟩ := wt_ok e3
  dsimp only
  refine V_callSv X [.int p1, .int (Z1 4 0 0 5)] dX6_write_8 m_X6_157 t_X6_requireIndex ⟨Nat.le_of_ble_eq_true rfl, Nat.le_of_ble_eq_true rfl⟩ ⟨Nat.zero_le _, Nat.zero_le _⟩ rfl (Nat.le_of_ble_eq_true rfl) (c_X6_requireIndex e1) ?_
  refine V_aload_n X dX6_write_11 rfl 0 rfl ?_
  refine V_get X dX6_write_12 r_X6_33 (gm6 hK) rfl rfl ?_
  refine V_iconst X (0 : Int32) dX6_write_15 (by decide) ?_
  refine V_callVJv X hY [.int 0] dX6_write_16 m_X6_404 v_J4_setLength_d00df ⟨Nat.le_of_ble_eq_true rfl, Nat.le_of_ble_eq_true rfl⟩ ⟨Nat.zero_le _, Nat.zero_le _⟩ rfl (Nat.le_of_ble_eq_true rfl) h8 rfl cl8 (c_J_len0 hP0 hB e2) (fun ad1 a2 X3 => ?_)
  rw [← a2 6 0 0 (gm6 hK) (Or.inl (by decide))]
  refine V_aload_n X3 dX6_write_19 rfl 0 rfl ?_
  refine V_get X3 dX6_write_20 r_X6_10 (gm6 hK) rfl rfl ?_
  refine V_get X3 dX6_write_23 r_X6_164 (gm4 (gmT hK (by decide))) rfl rfl ?_
  refine V_iload_n X3 dX6_write_26 rfl 1 rfl ?_
  refine V_aald X3 5 rfl dX6_write_27 (gm17 (gmT hK (by decide))) rfl h1 rfl ?_
  rw [qi, rfs]
  refine V_aload_n X3 dX6_write_28 rfl 0 rfl ?_
  refine V_get X3 dX6_write_29 r_X6_33 (gm6 hK) rfl rfl ?_
  refine V_callVJv X3 hY [.ref (ad1 8 0 0)] dX6_write_32 m_X6_407 v_X2_writeTo ⟨Nat.le_of_ble_eq_true rfl, Nat.le_of_ble_eq_true rfl⟩ ⟨by show 0 + 0 + (ln Z3 - ln Z2) ≤ ln Z3 - ln Z1; omega, by show 0 + 0 + 2 * (ln Z3 - ln Z2) ≤ 2 * (ln Z3 - ln Z1); omega⟩ rfl (Nat.le_of_ble_eq_true rfl) (gm2 (hnp i hi)) rfl cl2 (c_X2_writeTo hP0 (hnp i hi) (o1 hB) e3) (fun ad4 a5 X6 => ?_)
  rw [← a5 6 0 0 (gm6 hK) (Or.inl (by decide))]
  refine V_aload_n X6 dX6_write_35 rfl 0 rfl ?_
  refine V_get X6 dX6_write_36 r_X6_33 (gm6 hK) rfl rfl ?_
  refine V_callVJs X6 hY [] dX6_write_39 m_X6_411 v_J4_length_8abf5 ⟨Nat.le_of_ble_eq_true rfl, Nat.le_of_ble_eq_true rfl⟩ ⟨by show 0 + 0 + (ln Z3 - ln Z2) + 0 ≤ ln Z3 - ln Z1; omega, by show 0 + 0 + 2 * (ln Z3 - ln Z2) + 0 ≤ 2 * (ln Z3 - ln Z1); omega⟩ rfl (Nat.le_of_ble_eq_true rfl) h8 rfl cl8 (c_J_length h8) (fun ad7 a8 X9 => ?_)
  rw [← a8 6 0 0 (gm6 hK) (Or.inl (by decide))]
  exact V_sub [] rfl (V_widen (by show 0 + 0 + (ln Z3 - ln Z2) + 0 ≤ ln Z3 - ln Z1; omega) (by show 0 + 0 + 2 * (ln Z3 - ln Z2) + 0 ≤ 2 * (ln Z3 - ln Z1); omega) (V_zretJ X9 ((a2.trans a5 (fun _ _ _ h => h)).trans a8.w (fun _ _ _ h => h)) hr rfl dX6_write_42))
theorem x_X6_write {l : Launch} {D : va_G} {cA : Nat → ClassId} {dm : Dm} {ad : Ad} {np : Nat} {fu : Nat} {S : S4} {p1 : Int32} (hK : DK dm) (hl : l.stackTraces = false) {out : Nat × S4} (hs : s_X6_write np fu p1 S = some (.inr out)) : CxJ D cA dm dm ad l yX6_write cX6_write 2 (some .int) 21 640 1 6 S [.ref (ad 6 0 0), .int p1] out := by
  refine CxJ.of (by decide +kernel) (Nat.le_of_ble_eq_true rfl) [(0, .ref (ad 6 0 0)), (1, .int p1)] rfl (fun p e s m args below meth c A X hr hZ hY hE => ?_)
  unfold s_X6_write at hs
  refine V_iload_n X dX6_write_0 rfl 1 rfl ?_
  refine V_aload_n X dX6_write_1 rfl 0 rfl ?_
  refine V_get X dX6_write_2 r_X6_10 (gm6 hK) rfl rfl ?_
  refine V_get X dX6_write_5 r_X6_142 (gm4 (gmT hK (by decide))) rfl rfl ?_
  rcases tb_r hs with ⟨Z1, e1, hs⟩ | hs9
  case inr => exact V_callSXJ X agM.refl hE hZ [.int p1, .int (S 4 0 0 5)] dX6_write_8 m_X6_157 t_X6_requireIndex ⟨Nat.le_of_ble_eq_true rfl, Nat.le_of_ble_eq_true rfl⟩ ⟨by decide, by decide⟩ ⟨by decide, by decide⟩ rfl (Nat.le_of_ble_eq_true rfl) (x_X6_requireIndex hl hs9)
  obtain ⟨Z2, e2, hs⟩ := bd_some hs
  obtain ⟨h1, hs⟩ := gd_some hs
  by_cases cn : (pcd (Z2 17 0 0 p1.toNatClampNeg)) = none
  · replace hs := if_t hs cn; cases hs
  replace hs := if_f hs cn
  obtain ⟨i, qi, hs⟩ := bd_some hs
  obtain ⟨hi, hs⟩ := gd_some hs
  obtain ⟨Z3, e3, hs⟩ := bd_some hs
  exact (lr_no hs).elim
theorem c_X6_paper {l : Launch} {D : va_G} {cA : Nat → ClassId} {dm : Dm} {ad : Ad} {S : S4} {p1 : Int32} (hK : DK dm) (hP0 : Pb dm) (hB : JB S) {out : Int32 × S4} (hs : s_X6_paper p1 S = some (.inl out)) : CtJ true D cA dm dm ad l yX6_paper cX6_paper 2 (some .char) 21 640 0 0 S [.ref (ad 6 0 0), .int p1] (fun _ => some (.int out.1)) out.2 := by
  refine CtJ.of (by decide +kernel) (Nat.le_of_ble_eq_true rfl) [(0, .ref (ad 6 0 0)), (1, .int p1)] rfl (fun p e s m args below meth c A X hr hY => ?_)
  unfold s_X6_paper at hs
  have h8 := hP0.1
  refine V_iload_n X dX6_paper_0 rfl 1 rfl ?_
  refine V_aload_n X dX6_paper_1 rfl 0 rfl ?_
  refine V_get X dX6_paper_2 r_X6_33 (gm6 hK) rfl rfl ?_
  obtain ⟨Z1, e1, hs1⟩ := tb_l hs
  clear hs
  obtain ⟨eZ, p0, p1l⟩ := rq_same e1
  subst eZ
  obtain ⟨⟨g1, g2, g3, g4, g5, g6⟩, hs⟩ := gd_some hs1
  obtain rfl := ll_eq hs
  obtain ⟨m0, hm, em⟩ := i32n (x := Z1 9 0 0 200) (b := 142) (Int32.le_trans (Int32.le_trans g1 (Int32.le_of_lt g2)) g3) g4 (by decide)
  rw [em] at g3
  obtain ⟨n0, hn, en⟩ := i32n (x := Z1 8 0 0 0) (Int32.le_trans g1 (Int32.le_of_lt g2)) g3 (by omega)
  rw [en] at g2
  obtain ⟨i, hi, rfl⟩ := i32l g1 g2 (by omega)
  rw [nI_clamp (by omega)] at g5 g6
  obtain ⟨k, hk, ek⟩ := i32l (b := 128) g5 g6 (by decide)
  rw [nI_clamp (by omega), ek]
  refine V_callVJs X hY [] dX6_paper_5 m_X6_411 v_J4_length_8abf5 ⟨Nat.le_of_ble_eq_true rfl, Nat.le_of_ble_eq_true rfl⟩ ⟨Nat.zero_le _, Nat.zero_le _⟩ rfl (Nat.le_of_ble_eq_true rfl) h8 rfl cl8 (c_J_length h8) (fun ad1 a2 X3 => ?_)
  rw [← a2 6 0 0 (gm6 hK) (Or.inl (by decide))]
  refine V_callSv X3 [.int (nI i), .int (Z1 8 0 0 0)] dX6_paper_8 m_X6_157 t_X6_requireIndex ⟨Nat.le_of_ble_eq_true rfl, Nat.le_of_ble_eq_true rfl⟩ ⟨Nat.zero_le _, Nat.zero_le _⟩ rfl (Nat.le_of_ble_eq_true rfl) (c_X6_requireIndex e1) ?_
  refine V_aload_n X3 dX6_paper_11 rfl 0 rfl ?_
  refine V_get X3 dX6_paper_12 r_X6_33 (gm6 hK) rfl rfl ?_
  refine V_iload_n X3 dX6_paper_15 rfl 1 rfl ?_
  have hin : n0 ≤ m0 := hn
  refine V_callVJs X3 hY [.int (nI i)] dX6_paper_16 m_X6_414 v_J4_charAt_5068e ⟨Nat.le_of_ble_eq_true rfl, Nat.le_of_ble_eq_true rfl⟩ ⟨Nat.zero_le _, Nat.zero_le _⟩ rfl (Nat.le_of_ble_eq_true rfl) h8 rfl cl8 (c_J_charAt h8 hP0.2.1 hB.1 en em hm hin hi hk ek) (fun ad4 a5 X6 => ?_)
  rw [← a5 6 0 0 (gm6 hK) (Or.inl (by decide))]
  exact V_zretJ X6 ((a2.trans a5 (fun _ _ _ h => h)).w) hr (nar_c hk) dX6_paper_19
theorem x_X6_paper {l : Launch} {D : va_G} {cA : Nat → ClassId} {dm : Dm} {ad : Ad} {S : S4} {p1 : Int32} (hK : DK dm) (hP0 : Pb dm) (hl : l.stackTraces = false) {out : Nat × S4} (hs : s_X6_paper p1 S = some (.inr out)) : CxJ D cA dm dm ad l yX6_paper cX6_paper 2 (some .char) 21 640 1 6 S [.ref (ad 6 0 0), .int p1] out := by
  refine CxJ.of (by decide +kernel) (Nat.le_of_ble_eq_true rfl) [(0, .ref (ad 6 0 0)), (1, .int p1)] rfl (fun p e s m args below meth c A X hr hZ hY hE => ?_)
  unfold s_X6_paper at hs
  have h8 := hP0.1
  refine V_iload_n X dX6_paper_0 rfl 1 rfl ?_
  refine V_aload_n X dX6_paper_1 rfl 0 rfl ?_
  refine V_get X dX6_paper_2 r_X6_33 (gm6 hK) rfl rfl ?_
  refine V_callVJs X hY [] dX6_paper_5 m_X6_411 v_J4_length_8abf5 ⟨Nat.le_of_ble_eq_true rfl, Nat.le_of_ble_eq_true rfl⟩ ⟨by decide, by decide⟩ rfl (Nat.le_of_ble_eq_true rfl) h8 rfl cl8 (c_J_length h8) (fun ad1 a2 X3 => ?_)
  rw [← a2 6 0 0 (gm6 hK) (Or.inl (by decide))]
  rcases tb_r hs with ⟨Z1, e1, hs⟩ | hs9
  case inr => exact V_callSXJ X3 a2.w hE hZ [.int p1, .int (S 8 0 0 0)] dX6_paper_8 m_X6_157 t_X6_requireIndex ⟨Nat.le_of_ble_eq_true rfl, Nat.le_of_ble_eq_true rfl⟩ ⟨by decide, by decide⟩ ⟨by decide, by decide⟩ rfl (Nat.le_of_ble_eq_true rfl) (x_X6_requireIndex hl hs9)
  obtain ⟨h1, hs⟩ := gd_some hs
  exact (lr_no hs).elim
theorem c_L_write {l : Launch} {D : va_G} {cA : Nat → ClassId} {dm : Dm} {ad : Ad} {np : Nat} {fu : Nat} {S : S4} {p2 : Int32} (hK : DK dm) (hP0 : Pb dm) (hL : dm 36 0 0) (hnp : ∀ i, i < np → DP dm i) (hB : JB S) (hl : l.stackTraces = false) {out : Int32 × S4} (hs : s_L_write np fu p2 S = some out) : CwJ D cA dm dm ad l yL_write cL_write 4 (some .int) [(0, 9, 12, 38)] 22 670 (ln out.2 - ln S + 1) (2 * (ln out.2 - ln S) + 6) S [.ref (ad 6 0 0), .int p2, .ref (ad 36 0 0)] (some (.int out.1)) out.2 := by
  refine CwJ.of (by decide +kernel) (Nat.le_of_ble_eq_true rfl) [(0, .ref (ad 6 0 0)), (1, .int p2), (2, .ref (ad 36 0 0))] rfl (fun p e s m args below meth c A X hr hZ hY htab => ?_)
  unfold s_L_write at hs
  refine V_aload_n X dL_write_0 rfl 2 rfl ?_
  refine V_iconst X (0 : Int32) dL_write_1 (by decide) ?_
  refine V_aload_n X dL_write_2 rfl 0 rfl ?_
  refine V_iload_n X dL_write_3 rfl 1 rfl ?_
  obtain ⟨r1, er1, hs⟩ := bd_some hs
  cases r1 with
  | inl q2 =>
    replace hs := el_l hs
    have hln : ln out.2 = ln q2.2 := by
      rw [← Option.some.inj (sv_some hs _ rfl)]
      dsimp only
      unfold ln
      rw [u4_app, if_neg (by omega)]
    refine V_callVJs X hY [.int p2] dL_write_4 m_L_100 v_X6_write ⟨Nat.le_of_ble_eq_true rfl, Nat.le_of_ble_eq_true rfl⟩ ⟨by show 0 + (ln q2.2 - ln S) ≤ ln out.2 - ln S + 1; omega, by show 0 + 2 * (ln q2.2 - ln S) ≤ 2 * (ln out.2 - ln S) + 6; omega⟩ rfl (Nat.le_of_ble_eq_true rfl) (gm6 hK) rfl cl6 (c_X6_write hK hP0 hnp hB er1) (fun ad1 a2 X3 => ?_)
    rw [← a2 6 0 0 (gm6 hK) (Or.inl (by decide))]
    rw [← a2 36 0 0 hL (Or.inl (by decide))]
    refine V_i2l X3 dL_write_7 ?_
    refine V_last X3 hL (z := q2.1) rfl (by decide) dL_write_8 (fun Z4 eZ4 => ?_)
    replace hs := sv_some hs Z4 eZ4
    clear eZ4
    refine V_goto X3 15 dL_write_9 (by decide) ?_
    refine V_iconst X3 (0 : Int32) dL_write_15 (by decide) ?_
    obtain rfl := Option.some.inj hs
    exact V_wretJ X3 a2 hr dL_write_16 (by show 0 + (ln q2.2 - ln S) ≤ _; omega) (by show 0 + 2 * (ln q2.2 - ln S) ≤ _; omega)
  | inr e3 =>
    replace hs := el_r hs
    by_cases c5 : e3.1 = 5
    · replace hs := if_t hs c5
      obtain rfl := Option.some.inj hs
      refine V_callVCJ X hZ hY htab c5 [.int p2] dL_write_4 m_L_100 v_X6_write ⟨Nat.le_of_ble_eq_true rfl, Nat.le_of_ble_eq_true rfl⟩ ⟨by show 0 + 1 ≤ ln _ - ln S + 1; omega, by show 0 + 6 ≤ 2 * (ln _ - ln S) + 6; omega⟩ rfl (Nat.le_of_ble_eq_true rfl) (gm6 hK) rfl cl6 (x_X6_write hK hl er1) [] ⟨0, 9, 12, 38⟩ [] rfl (fun z hz => nomatch hz) rfl (by decide) k_L_38 (by decide) (fun ad1 a1 X1 q6 => ?_)
      refine V_astore_n X1 dL_write_12 rfl [(3, .ref q6), (0, .ref (ad 6 0 0)), (1, .int p2), (2, .ref (ad 36 0 0))] (by decide) rfl ?_
      refine V_iconst X1 (1 : Int32) dL_write_13 (by decide) ?_
      exact V_wretJ X1 a1 hr dL_write_14 (by show 0 + 1 ≤ _; omega) (by show 0 + 6 ≤ _; omega)
    replace hs := if_f hs c5
    cases hs
theorem c_L_paper {l : Launch} {D : va_G} {cA : Nat → ClassId} {dm : Dm} {ad : Ad} {np : Nat} {fu : Nat} {S : S4} {p2 : Int32} (hK : DK dm) (hP0 : Pb dm) (hL : dm 36 0 0) (hB : JB S) (hl : l.stackTraces = false) {out : Int32 × S4} (hs : s_L_paper p2 S = some out) : CwJ D cA dm dm ad l yL_paper cL_paper 4 (some .int) [(0, 9, 12, 38)] 22 670 (ln out.2 - ln S + 1) (2 * (ln out.2 - ln S) + 6) S [.ref (ad 6 0 0), .int p2, .ref (ad 36 0 0)] (some (.int out.1)) out.2 := by
  refine CwJ.of (by decide +kernel) (Nat.le_of_ble_eq_true rfl) [(0, .ref (ad 6 0 0)), (1, .int p2), (2, .ref (ad 36 0 0))] rfl (fun p e s m args below meth c A X hr hZ hY htab => ?_)
  unfold s_L_paper at hs
  refine V_aload_n X dL_paper_0 rfl 2 rfl ?_
  refine V_iconst X (0 : Int32) dL_paper_1 (by decide) ?_
  refine V_aload_n X dL_paper_2 rfl 0 rfl ?_
  refine V_iload_n X dL_paper_3 rfl 1 rfl ?_
  obtain ⟨r1, er1, hs⟩ := bd_some hs
  cases r1 with
  | inl q2 =>
    replace hs := el_l hs
    have hln : ln out.2 = ln q2.2 := by
      rw [← Option.some.inj (sv_some hs _ rfl)]
      dsimp only
      unfold ln
      rw [u4_app, if_neg (by omega)]
    refine V_callVJs X hY [.int p2] dL_paper_4 m_L_103 v_X6_paper ⟨Nat.le_of_ble_eq_true rfl, Nat.le_of_ble_eq_true rfl⟩ ⟨by show 0 + 0 ≤ ln out.2 - ln S + 1; omega, by show 0 + 0 ≤ 2 * (ln out.2 - ln S) + 6; omega⟩ rfl (Nat.le_of_ble_eq_true rfl) (gm6 hK) rfl cl6 (c_X6_paper hK hP0 hB er1) (fun ad1 a2 X3 => ?_)
    rw [← a2 6 0 0 (gm6 hK) (Or.inl (by decide))]
    rw [← a2 36 0 0 hL (Or.inl (by decide))]
    refine V_i2l X3 dL_paper_7 ?_
    refine V_last X3 hL (z := q2.1) rfl (by decide) dL_paper_8 (fun Z4 eZ4 => ?_)
    replace hs := sv_some hs Z4 eZ4
    clear eZ4
    refine V_goto X3 15 dL_paper_9 (by decide) ?_
    refine V_iconst X3 (0 : Int32) dL_paper_15 (by decide) ?_
    obtain rfl := Option.some.inj hs
    exact V_wretJ X3 a2 hr dL_paper_16 (by show 0 + 0 ≤ _; omega) (by show 0 + 0 ≤ _; omega)
  | inr e3 =>
    replace hs := el_r hs
    by_cases c5 : e3.1 = 5
    · replace hs := if_t hs c5
      obtain rfl := Option.some.inj hs
      refine V_callVCJ X hZ hY htab c5 [.int p2] dL_paper_4 m_L_103 v_X6_paper ⟨Nat.le_of_ble_eq_true rfl, Nat.le_of_ble_eq_true rfl⟩ ⟨by show 0 + 1 ≤ ln _ - ln S + 1; omega, by show 0 + 6 ≤ 2 * (ln _ - ln S) + 6; omega⟩ rfl (Nat.le_of_ble_eq_true rfl) (gm6 hK) rfl cl6 (x_X6_paper hK hP0 hl er1) [] ⟨0, 9, 12, 38⟩ [] rfl (fun z hz => nomatch hz) rfl (by decide) k_L_38 (by decide) (fun ad1 a1 X1 q6 => ?_)
      refine V_astore_n X1 dL_paper_12 rfl [(3, .ref q6), (0, .ref (ad 6 0 0)), (1, .int p2), (2, .ref (ad 36 0 0))] (by decide) rfl ?_
      refine V_iconst X1 (1 : Int32) dL_paper_13 (by decide) ?_
      exact V_wretJ X1 a1 hr dL_paper_14 (by show 0 + 1 ≤ _; omega) (by show 0 + 6 ≤ _; omega)
    replace hs := if_f hs c5
    cases hs
