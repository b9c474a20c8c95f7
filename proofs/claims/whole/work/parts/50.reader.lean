section RD
variable {fu i len : Nat}
theorem j6 {r k : Nat} (z : Int32) (hz : z = nI k) : nI (4 + 6 * r) + z = nI (4 + 6 * r + k) := by subst hz; exact nI_add _ _
def ZR (Z Z' : S4) (r : Nat) : Prop := ∀ k t j w, ¬ (k = 7 ∧ w = 17) → ¬ (k = 31 ∧ 4 + 6 * r ≤ w ∧ w < 4 + 6 * (r + 1)) → Z' k t j w = Z k t j w
theorem ZR.refl {Z : S4} {r : Nat} : ZR Z Z r := fun _ _ _ _ _ _ => rfl
theorem t_ruleT {r a b at' : Nat} {S Z : S4} (hr : r < 8) (hfu : 20 < fu) (ha : a ≤ 9999) (hb : b ≤ 9999) (hT : TX S Z i len at') (h2 : S 2 0 i 1 = nI r) (h12 : S 12 0 i r = nI 0) (z0 : Z 31 0 0 (4 + 6 * r + 0) = nI a) (z1 : Z 31 0 0 (4 + 6 * r + 1) = nI b) :
    ∃ x S' Z' a', ((s_X3_skip i 61 S).bind fun q6 => if q6.1 = 0 then some ((0 : Int32), q6.2) else (s_X2_addRule i (nI a) (nI b) q6.2).bind fun Z9 => (s_X3_readChutes fu i Z9).bind fun q10 => gd (isB q10.1) (some (q10.1, q10.2))) = some (x, S') ∧
      ((s_X7_skips 61 Z).bind fun q11 => if q11.1 = 0 then some ((0 : Int32), q11.2) else gd (inb (nI (4 + 6 * r) + 2) 52) (sv (u4 q11.2 31 0 0 ((nI (4 + 6 * r) + 2).toNatClampNeg) 0) fun Z14 => (s_X7_takesChute fu (nI (4 + 6 * r)) Z14).bind fun q15 => if q15.1 = 0 then some ((0 : Int32), q15.2) else s_X7_takesRule_L99 fu (nI (4 + 6 * r)) fu q15.2)) = some (x, Z') ∧
      TX S' Z' i len a' ∧ SX S S' i r (r + 1) ∧ ZR Z Z' r ∧ (x = 0 ∨ (x = 1 ∧ S' 2 0 i 1 = nI (r + 1) ∧ QR S' Z' i r)) := by
  rcases t_skip (x := 61) hT with ⟨k1, k2⟩ | ⟨k0, k1, k2⟩
  · rw [k1, bd_s, k2, bd_s, if_pos rfl, if_pos rfl]
    exact ⟨0, S, Z, at', rfl, rfl, hT, SX.refl, ZR.refl, Or.inl rfl⟩
  · have h80 := hT.2.2.2.2.2.1
    rw [k1, bd_s, k2, bd_s, if_neg (show ¬ (1 : Int32) = 0 by decide), if_neg (show ¬ (1 : Int32) = 0 by decide), j6 (r := r) (k := 2) 2 rfl, gd_t (inb_nI (by omega) (by decide)), nI_clamp (by omega), sv_e]
    dsimp only
    have hT1 := hT.go (a' := at' + 1) (by omega)
    have g2 : wps S i (at' + 1) 2 0 i 1 = nI r := by rw [wps_ne (by omega)]; exact h2
    have g12 : wps S i (at' + 1) 12 0 i r = nI 0 := by rw [wps_ne (by omega)]; exact h12
    have gz0 : wat Z (at' + 1) 31 0 0 (4 + 6 * r + 0) = nI a := by rw [wat_ne (by omega)]; exact z0
    have gz1 : wat Z (at' + 1) 31 0 0 (4 + 6 * r + 1) = nI b := by rw [wat_ne (by omega)]; exact z1
    have fS0 : ∀ k t j w, ¬ (k = 3 ∧ j = i ∧ w = 1) → wps S i (at' + 1) k t j w = S k t j w := fun k t j w h => wps_ne h
    have fZ0 : ∀ k t j w, ¬ (k = 7 ∧ w = 17) → wat Z (at' + 1) k t j w = Z k t j w := fun k t j w h => wat_ne h
    generalize wps S i (at' + 1) = Y at hT1 g2 g12 fS0 ⊢
    generalize wat Z (at' + 1) = X at hT1 gz0 gz1 fZ0 ⊢
    have eA : s_X2_addRule i (nI a) (nI b) Y = some (u4 (u4 (u4 Y 10 0 i r (nI a)) 11 0 i r (nI b)) 2 0 i 1 (nI (r + 1))) := by
      unfold s_X2_addRule
      rw [g2, if_neg (show ¬ (8 : Int32) ≤ nI r from nI_ge (b := 8) (by omega) (by decide)), gd_t (inb_nI (by omega) (by decide)), nI_clamp (by omega), sv_e, show ∀ y, u4 Y 10 0 i r y 2 0 i 1 = nI r from fun y => by rw [u4_app, if_neg (by omega)]; exact g2, gd_t (inb_nI (by omega) (by decide)), nI_clamp (by omega), sv_e, show ∀ y z, u4 (u4 Y 10 0 i r y) 11 0 i r z 2 0 i 1 = nI r from fun y z => by rw [u4_app, if_neg (by omega), u4_app, if_neg (by omega)]; exact g2, nI_1, sv_e]
    rw [eA, bd_s]
    generalize hY1 : u4 (u4 (u4 Y 10 0 i r (nI a)) 11 0 i r (nI b)) 2 0 i 1 (nI (r + 1)) = Y1
    generalize hX1 : u4 X 31 0 0 (4 + 6 * r + 2) 0 = X1
    have fY : ∀ k t j w, ¬ (k = 2 ∧ j = i ∧ w = 1) → ¬ ((k = 10 ∨ k = 11) ∧ j = i ∧ w = r) → Y1 k t j w = Y k t j w := fun k t j w k1 k2 => by
      rw [← hY1, u4_app, if_neg (by omega), u4_app, if_neg (by omega), u4_app, if_neg (by omega)]
    have fX : ∀ k t j w, ¬ (k = 31 ∧ w = 4 + 6 * r + 2) → X1 k t j w = X k t j w := fun k t j w k1 => by rw [← hX1, u4_app, if_neg (by omega)]
    have hT2 : TX Y1 X1 i len (at' + 1) := by
      obtain ⟨t1, t2, t3, t4, t5, t6, t7⟩ := hT1
      exact ⟨(fY 3 0 i 1 (by omega) (by omega)).trans t1, (fY 3 0 i 3 (by omega) (by omega)).trans t2, (fX 7 0 0 17 (by omega)).trans t3, (fX 7 0 0 16 (by omega)).trans t4, t5, t6, fun j hj => by rw [fY 23 0 0 j (by omega) (by omega), fX 30 0 0 j (by omega)]; exact t7 j hj⟩
    have hQ0 : QC Y1 X1 i r 0 := ⟨by rw [fY 12 0 i r (by omega) (by omega)]; exact g12, by rw [← hX1, u4_app, if_pos ⟨rfl, rfl, rfl, rfl⟩]; rfl, fun k hk => absurd hk (by omega)⟩
    have y21 : Y1 2 0 i 1 = nI (r + 1) := by rw [← hY1, u4_app, if_pos ⟨rfl, rfl, rfl, rfl⟩]
    obtain ⟨x, S', Z', a', e1, e2, e3, e4, e5, e6⟩ := t_chutesR (fu := fu) (i := i) (len := len) hr hfu 3 0 fu fu (at' + 1) Y1 X1 (by omega) (by omega) (by omega) (by omega) y21 hT2 hQ0
    have e1' : s_X3_readChutes fu i Y1 = some (x, S') := e1
    have hxB : isB x := by
      rcases e6 with e6 | ⟨e6, -⟩
      · exact Or.inl e6
      · exact Or.inr e6
    rw [e1', bd_s, gd_t hxB]
    refine ⟨x, S', Z', a', rfl, e2, e3, fun k t j w k1 k2 k3 k4 => ?_, fun k t j w k1 k2 => ?_, ?_⟩
    · rw [e4 k t j w (by omega) (by omega) (by omega), fY k t j w (by omega) (by omega), fS0 k t j w k1]
    · rw [e5 k t j w (by omega) (by omega), fX k t j w (by omega), fZ0 k t j w k1]
    · rcases e6 with e6 | ⟨e6, n, n1, n3, hq⟩
      · exact Or.inl e6
      · refine Or.inr ⟨e6, by rw [e4 2 0 i 1 (by omega) (by omega) (by omega)]; exact y21, a, b, n, ha, hb, n1, n3, ?_, ?_, ?_, ?_, hq⟩
        · rw [e4 10 0 i r (by omega) (by omega) (by omega), ← hY1, u4_app, if_neg (by omega), u4_app, if_neg (by omega), u4_app, if_pos ⟨rfl, rfl, rfl, rfl⟩]
        · rw [e5 31 0 0 _ (by omega) (by omega), fX 31 0 0 _ (by omega)]; exact gz0
        · rw [e4 11 0 i r (by omega) (by omega) (by omega), ← hY1, u4_app, if_neg (by omega), u4_app, if_pos ⟨rfl, rfl, rfl, rfl⟩]
        · rw [e5 31 0 0 _ (by omega) (by omega), fX 31 0 0 _ (by omega)]; exact gz1
theorem t_rule {r a : Nat} {S Z : S4} (hr : r < 8) (hfu : 20 < fu) (hT : TX S Z i len a) (h2 : S 2 0 i 1 = nI r) (h12 : S 12 0 i r = nI 0) : ∃ x S' Z' a', s_X3_readRule fu i S = some (x, S') ∧ s_X7_takesRule fu (nI (4 + 6 * r)) Z = some (x, Z') ∧ TX S' Z' i len a' ∧ SX S S' i r (r + 1) ∧ ZR Z Z' r ∧ (x = 0 ∨ (x = 1 ∧ S' 2 0 i 1 = nI (r + 1) ∧ QR S' Z' i r)) := by
  have h80 := hT.2.2.2.2.2.1
  have hT7 := hT.2.2.1
  unfold s_X3_readRule s_X7_takesRule
  rcases t_number (fu := fu) (by omega) hT with ⟨e1, e2⟩ | ⟨n, a1, hn, ha1, e1, e2⟩
  · have f0 : ∀ k t j w, ¬ (k = 31 ∧ w = 4 + 6 * r) → u4 Z 31 0 0 (4 + 6 * r) (-1) k t j w = Z k t j w := fun k t j w h => by rw [u4_app, if_neg (by omega)]
    rw [e1, bd_s, if_pos rfl, e2, bd_s, gd_t (inb_nI (by omega) (by decide)), sv_e, gd_t (inb_nI (by omega) (by decide))]
    dsimp only
    rw [show u4 Z 31 0 0 (nI (4 + 6 * r)).toNatClampNeg (-1) 31 0 0 (nI (4 + 6 * r)).toNatClampNeg = -1 from by rw [u4_app, if_pos ⟨rfl, rfl, rfl, rfl⟩], if_neg (show ¬ (0 : Int32) ≤ -1 by decide), nI_clamp (by omega)]
    refine ⟨0, S, _, a, rfl, rfl, ?_, SX.refl, fun k t j w k1 k2 => f0 k t j w (by omega), Or.inl rfl⟩
    exact SX.tx (lo := r) (hi := r + 1) hT SX.refl rfl (fun k t j w k1 k2 k3 => f0 k t j w (by omega)) (f0 7 0 0 17 (by omega))
  · rw [e1, bd_s, e2, bd_s, gd_t (inb_nI (by omega) (by decide)), sv_e, gd_t (inb_nI (by omega) (by decide))]
    dsimp only
    rw [if_neg (nI_m1 (by omega)), show u4 (wat Z a1) 31 0 0 (nI (4 + 6 * r)).toNatClampNeg (nI n) 31 0 0 (nI (4 + 6 * r)).toNatClampNeg = nI n from by rw [u4_app, if_pos ⟨rfl, rfl, rfl, rfl⟩], if_pos (nI_pos' (by omega)), gd_t (inb_nI (by omega) (by decide)), j6 (r := r) (k := 1) 1 rfl, gd_t (inb_nI (by omega) (by decide)), sv_e]
    have hTa := hT.go ha1
    have s2 : wps S i a1 2 0 i 1 = nI r := by rw [wps_ne (by omega)]; exact h2
    have s12 : wps S i a1 12 0 i r = nI 0 := by rw [wps_ne (by omega)]; exact h12
    have fS : SX S (wps S i a1) i r (r + 1) := SX.refl.wps
    have f3 : (wps S i a1) 3 0 i 1 = nI a1 := hTa.1
    generalize hX : u4 (u4 (wat Z a1) 31 0 0 (nI (4 + 6 * r)).toNatClampNeg (nI n)) 31 0 0 (nI (4 + 6 * r + 1)).toNatClampNeg (nI n) = X
    rw [nI_clamp (n := 4 + 6 * r) (by omega), nI_clamp (n := 4 + 6 * r + 1) (by omega)] at hX
    have fX : ∀ k t j w, ¬ (k = 7 ∧ w = 17) → ¬ (k = 31 ∧ (w = 4 + 6 * r ∨ w = 4 + 6 * r + 1)) → X k t j w = Z k t j w := fun k t j w k1 k2 => by
      rw [← hX, u4_app, if_neg (by omega), u4_app, if_neg (by omega), wat_ne k1]
    have x0 : X 31 0 0 (4 + 6 * r + 0) = nI n := by rw [← hX, u4_app, if_neg (by omega), u4_app, if_pos ⟨rfl, rfl, rfl, rfl⟩]
    have x1 : X 31 0 0 (4 + 6 * r + 1) = nI n := by rw [← hX, u4_app, if_pos ⟨rfl, rfl, rfl, rfl⟩]
    have x17 : X 7 0 0 17 = nI a1 := by rw [← hX, u4_app, if_neg (by omega), u4_app, if_neg (by omega)]; exact hTa.2.2.1
    generalize wps S i a1 = Y at hTa s2 s12 fS f3 ⊢
    have hTX : TX Y X i len a1 := by
      obtain ⟨t1, t2, t3, t4, t5, t6, t7⟩ := hTa
      refine ⟨t1, t2, x17, ?_, t5, t6, fun j hj => ?_⟩
      · rw [fX 7 0 0 16 (by omega) (by omega)]; exact hT.2.2.2.1
      · rw [t7 j hj, fX 30 0 0 j (by omega) (by omega), wat_ne (by omega)]
    have fZ : ZR Z X r := fun k t j w k1 k2 => fX k t j w k1 (by omega)
    rcases t_skip (x := 45) hTX with ⟨k1, k2⟩ | ⟨k0, k1, k2⟩
    · rw [k1, bd_s, k2, bd_s, if_pos rfl, if_neg (nI_m1 (by omega)), if_pos rfl]
      obtain ⟨x, S', Z', a', g1, g2, g3, g4, g5, g6⟩ := t_ruleT (fu := fu) hr hfu hn hn hTX s2 s12 x0 x1
      refine ⟨x, S', Z', a', g1, g2, g3, fun k t j w k1 k2 k3 k4 => ?_, fun k t j w k1 k2 => ?_, g6⟩
      · rw [g4 k t j w k1 k2 k3 k4]; exact fS k t j w k1 k2 k3 k4
      · rw [g5 k t j w k1 k2]; exact fZ k t j w k1 k2
    · have hTX2 := hTX.go (a' := a1 + 1) (by omega)
      rw [k1, bd_s, k2, bd_s, if_neg (show ¬ (1 : Int32) = 0 by decide), if_neg (show ¬ (1 : Int32) = 0 by decide)]
      dsimp only
      rcases t_number (fu := fu) (by omega) hTX2 with ⟨u1, u2⟩ | ⟨m, a2, hm, ha2, u1, u2⟩
      · rw [u1, bd_s, if_pos rfl, u2, bd_s, gd_t (inb_nI (by omega) (by decide)), sv_e, gd_t (inb_nI (by omega) (by decide)), nI_clamp (by omega)]
        dsimp only
        rw [show u4 (wat X (a1 + 1)) 31 0 0 (4 + 6 * r + 1) (-1) 31 0 0 (4 + 6 * r + 1) = -1 from by rw [u4_app, if_pos ⟨rfl, rfl, rfl, rfl⟩], if_neg (show ¬ (0 : Int32) ≤ -1 by decide)]
        have f9 : ∀ k t j w, ¬ (k = 31 ∧ w = 4 + 6 * r + 1) → u4 (wat X (a1 + 1)) 31 0 0 (4 + 6 * r + 1) (-1) k t j w = wat X (a1 + 1) k t j w := fun k t j w h => by rw [u4_app, if_neg (by omega)]
        refine ⟨0, _, _, a1 + 1, rfl, rfl, ?_, fS.wps, fun k t j w k1 k2 => ?_, Or.inl rfl⟩
        · exact SX.tx (lo := r) (hi := r + 1) hTX2 SX.refl rfl (fun k t j w k1 k2 k3 => f9 k t j w (by omega)) (f9 7 0 0 17 (by omega))
        · rw [f9 k t j w (by omega), wat_ne k1]; exact fZ k t j w k1 k2
      · rw [u1, bd_s, u2, bd_s, gd_t (inb_nI (by omega) (by decide)), sv_e, gd_t (inb_nI (by omega) (by decide)), nI_clamp (by omega)]
        dsimp only
        rw [wps_wps, wat_wat, if_neg (nI_m1 (by omega)), show u4 (wat X a2) 31 0 0 (4 + 6 * r + 1) (nI m) 31 0 0 (4 + 6 * r + 1) = nI m from by rw [u4_app, if_pos ⟨rfl, rfl, rfl, rfl⟩], if_pos (nI_pos' (by omega))]
        have hTX3 := hTX.go ha2
        have f9 : ∀ k t j w, ¬ (k = 31 ∧ w = 4 + 6 * r + 1) → u4 (wat X a2) 31 0 0 (4 + 6 * r + 1) (nI m) k t j w = wat X a2 k t j w := fun k t j w h => by rw [u4_app, if_neg (by omega)]
        have hTX4 : TX (wps Y i a2) (u4 (wat X a2) 31 0 0 (4 + 6 * r + 1) (nI m)) i len a2 := SX.tx (lo := r) (hi := r + 1) hTX3 SX.refl rfl (fun k t j w k1 k2 k3 => f9 k t j w (by omega)) (f9 7 0 0 17 (by omega))
        obtain ⟨x, S', Z', a', g1, g2, g3, g4, g5, g6⟩ := t_ruleT (fu := fu) hr hfu hn hm hTX4 (by rw [wps_ne (by omega)]; exact s2) (by rw [wps_ne (by omega)]; exact s12) (by rw [f9 _ _ _ _ (by omega), wat_ne (by omega)]; exact x0) (by rw [u4_app, if_pos ⟨rfl, rfl, rfl, rfl⟩])
        refine ⟨x, S', Z', a', g1, g2, g3, fun k t j w k1 k2 k3 k4 => ?_, fun k t j w k1 k2 => ?_, g6⟩
        · rw [g4 k t j w k1 k2 k3 k4, wps_ne k1]; exact fS k t j w k1 k2 k3 k4
        · rw [g5 k t j w k1 k2, f9 k t j w (by omega), wat_ne k1]; exact fZ k t j w k1 k2
theorem t_rules_L (hfu : 20 < fu) : ∀ (d r f f' a : Nat) (S Z : S4), r + d = 8 → 1 ≤ d → d < f → d < f' → TX S Z i len a → S 2 0 i 1 = nI r → Z 31 0 0 1 = nI r → (∀ w, r ≤ w → w < 8 → S 12 0 i w = nI 0) → (∀ w, w < r → QR S Z i w) → ∃ x S' Z' a', s_X3_readRules_L4 fu i f 1 (nI (r + 1)) S = some (x, S') ∧ s_X7_takesRules_L7 fu f' Z = some (x, Z') ∧ TX S' Z' i len a' ∧ SX S S' i r 8 ∧ ZX Z Z' r 8 ∧ (x = 0 ∨ (x = 1 ∧ ∃ R, 1 ≤ R ∧ R ≤ 8 ∧ S' 2 0 i 1 = nI R ∧ Z' 31 0 0 1 = nI R ∧ ∀ w, w < R → QR S' Z' i w)) := by
  intro d
  induction d with
  | zero => intro r f f' a S Z h1 h2; omega
  | succ d ih =>
    intro r f f' a S Z hd _ hf hf' hT h2 h31 h12 hQ
    obtain ⟨f, rfl⟩ : ∃ g, f = g + 1 := ⟨f - 1, by omega⟩
    obtain ⟨f', rfl⟩ : ∃ g, f' = g + 1 := ⟨f' - 1, by omega⟩
    obtain ⟨x, S1, Z1, a1, e1, e2, e3, e4, e5, e6⟩ := t_rule (fu := fu) (r := r) (by omega) hfu hT h2 (h12 r (by omega) (by omega))
    have i1 : inb (1 : Int32) 52 := inb_nI (n := 1) (by decide) (by decide)
    have e31 : (4 : Int32) + 6 * Z 31 0 0 (1 : Int32).toNatClampNeg = nI (4 + 6 * r) := by
      rw [show Z 31 0 0 (1 : Int32).toNatClampNeg = nI r from h31, show (6 : Int32) = nI 6 from rfl, show (4 : Int32) = nI 4 from rfl, pk_mul, nI_add]
    rw [s_X3_readRules_L4, if_neg (show ¬ (8 : Int32) < nI (r + 1) from nI_nlt (a := 8) (by omega) (by decide)), if_neg (show ¬ (1 : Int32) = 0 by decide), e1, bd_s, s_X7_takesRules_L7, gd_t i1, e31, e2, bd_s]
    have s4 : SX S S1 i r 8 := fun k t j w k1 k2 k3 k4 => e4 k t j w k1 k2 (by omega) (by omega)
    have s5 : ZX Z Z1 r 8 := fun k t j w k1 k2 k3 => e5 k t j w k1 (by omega)
    rcases e6 with rfl | ⟨rfl, q2, q3⟩
    · rw [if_pos rfl, if_pos rfl]
      exact ⟨0, S1, Z1, a1, rfl, rfl, e3, s4, s5, Or.inl rfl⟩
    · -- read[1]: the rule's own frame leaves it alone
      have z31 : Z1 31 0 0 1 = nI r := by rw [e5 31 0 0 1 (by omega) (by omega)]; exact h31
      rw [if_neg (show ¬ (1 : Int32) = 0 by decide), if_neg (show ¬ (1 : Int32) = 0 by decide), gd_t i1, gd_t i1]
      dsimp only
      rw [show Z1 31 0 0 (1 : Int32).toNatClampNeg = nI r from z31, nI_1 r, sv_e, gd_t i1, show u4 Z1 31 0 0 (1 : Int32).toNatClampNeg (nI (r + 1)) 31 0 0 (1 : Int32).toNatClampNeg = nI (r + 1) from by rw [u4_app, if_pos ⟨rfl, rfl, rfl, rfl⟩]]
      have hQ1 : ∀ Z2 : S4, ZX Z1 Z2 (r + 1) (r + 1) → ∀ w, w < r + 1 → QR S1 Z2 i w := fun Z2 hz w hw => by
        by_cases e : w = r
        · subst e
          exact q3.of (lo := w + 1) (hi := w + 1) (by omega) SX.refl hz
        · refine (hQ w (by omega)).of (lo := r) (hi := 8) (by omega) s4 (fun k t j w' k1 k2 k3 => ?_)
          rw [hz k t j w' k1 (by omega) k3]; exact s5 k t j w' k1 k2 k3
      generalize hX : u4 Z1 31 0 0 (1 : Int32).toNatClampNeg (nI (r + 1)) = X
      have fX : ∀ k t j w, ¬ (k = 31 ∧ w = 1) → X k t j w = Z1 k t j w := fun k t j w h => by
        rw [← hX, show (1 : Int32).toNatClampNeg = 1 from rfl, u4_app, if_neg (by omega)]
      have zX : ZX Z1 X (r + 1) (r + 1) := fun k t j w k1 k2 k3 => fX k t j w k3
      have x31 : X 31 0 0 1 = nI (r + 1) := by rw [← hX, show (1 : Int32).toNatClampNeg = 1 from rfl, u4_app, if_pos ⟨rfl, rfl, rfl, rfl⟩]
      have hTX : TX S1 X i len a1 := SX.tx (lo := r + 1) (hi := r + 1) e3 SX.refl rfl zX (fX 7 0 0 17 (by omega))
      have sX : ZX Z X r 8 := fun k t j w k1 k2 k3 => by rw [fX k t j w k3]; exact s5 k t j w k1 k2 k3
      by_cases e8 : r = 7
      · subst e8
        obtain ⟨f, rfl⟩ : ∃ g, f = g + 1 := ⟨f - 1, by omega⟩
        rw [if_pos (by decide), if_pos (by decide), s_X3_readRules_L4, if_pos (by decide)]
        exact ⟨1, S1, X, a1, rfl, rfl, hTX, s4, sX, Or.inr ⟨rfl, 8, by decide, by decide, q2, x31, hQ1 X zX⟩⟩
      · rw [if_neg (show ¬ (8 : Int32) ≤ nI (r + 1) from nI_ge (b := 8) (by omega) (by decide)), if_neg (show ¬ (8 : Int32) ≤ nI (r + 1) from nI_ge (b := 8) (by omega) (by decide))]
        rcases t_skip (x := 59) hTX with ⟨k1, k2⟩ | ⟨k0, k1, k2⟩
        · obtain ⟨f, rfl⟩ : ∃ g, f = g + 1 := ⟨f - 1, by omega⟩
          rw [k1, bd_s, k2, bd_s, if_pos rfl, bd_s, if_pos rfl, s_X3_readRules_L4, nI_1, if_neg (show ¬ (8 : Int32) < nI (r + 1 + 1) from nI_nlt (a := 8) (by omega) (by decide)), if_pos rfl]
          exact ⟨1, S1, X, a1, rfl, rfl, hTX, s4, sX, Or.inr ⟨rfl, r + 1, by omega, by omega, q2, x31, hQ1 X zX⟩⟩
        · rw [k1, bd_s, k2, bd_s, if_neg (show ¬ (1 : Int32) = 0 by decide), bd_s, if_neg (show ¬ (1 : Int32) = 0 by decide), nI_1]
          have zX2 : ZX Z1 (wat X (a1 + 1)) (r + 1) (r + 1) := zX.wat
          obtain ⟨x, S', Z', a', g1, g2, g3, g4, g5, g6⟩ := ih (r + 1) f f' (a1 + 1) (wps S1 i (a1 + 1)) (wat X (a1 + 1)) (by omega) (by omega) (by omega) (by omega) (hTX.go (by omega)) (by rw [wps_ne (by omega)]; exact q2) (by rw [wat_ne (by omega)]; exact x31) (fun w w1 w2 => by rw [wps_ne (by omega), e4 12 0 i w (by omega) (by omega) (by omega) (by omega)]; exact h12 w (by omega) w2) (fun w hw => (hQ1 _ zX2 w hw).of (lo := r + 1) (hi := r + 1) (by omega) (SX.refl.wps) ZX.refl)
          refine ⟨x, S', Z', a', g1, g2, g3, fun k t j w k1 k2 k3 k4 => ?_, fun k t j w k1 k2 k3 => ?_, g6⟩
          · rw [g4 k t j w k1 k2 (by omega) (by omega), wps_ne k1]; exact s4 k t j w k1 k2 k3 k4
          · rw [g5 k t j w k1 (by omega) k3, wat_ne k1]; exact sX k t j w k1 k2 k3
end RD
