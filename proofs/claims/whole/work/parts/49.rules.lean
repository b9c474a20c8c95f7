def QC (S Z : S4) (i r n : Nat) : Prop := S 12 0 i r = nI n ∧ Z 31 0 0 (4 + 6 * r + 2) = nI n ∧ ∀ k, k < n → ∃ c, c < 8 ∧ S 13 0 i (r * 3 + k) = nI c ∧ Z 31 0 0 (4 + 6 * r + (3 + k)) = nI c
def QR (S Z : S4) (i r : Nat) : Prop := ∃ a b n, a ≤ 9999 ∧ b ≤ 9999 ∧ 1 ≤ n ∧ n ≤ 3 ∧ S 10 0 i r = nI a ∧ Z 31 0 0 (4 + 6 * r + 0) = nI a ∧ S 11 0 i r = nI b ∧ Z 31 0 0 (4 + 6 * r + 1) = nI b ∧ QC S Z i r n
def SC (S S' : S4) (i r : Nat) : Prop := ∀ k t j w, ¬ (k = 3 ∧ j = i ∧ w = 1) → ¬ (k = 12 ∧ j = i ∧ w = r) → ¬ (k = 13 ∧ j = i ∧ r * 3 ≤ w ∧ w < r * 3 + 3) → S' k t j w = S k t j w
def ZC (Z Z' : S4) (r : Nat) : Prop := ∀ k t j w, ¬ (k = 7 ∧ w = 17) → ¬ (k = 31 ∧ 4 + 6 * r + 2 ≤ w ∧ w < 4 + 6 * r + 6) → Z' k t j w = Z k t j w
def SX (S S' : S4) (i lo hi : Nat) : Prop := ∀ k t j w, ¬ (k = 3 ∧ j = i ∧ w = 1) → ¬ (k = 2 ∧ j = i ∧ w = 1) → ¬ ((k = 10 ∨ k = 11 ∨ k = 12) ∧ j = i ∧ lo ≤ w ∧ w < hi) → ¬ (k = 13 ∧ j = i ∧ lo * 3 ≤ w ∧ w < hi * 3) → S' k t j w = S k t j w
def ZX (Z Z' : S4) (lo hi : Nat) : Prop := ∀ k t j w, ¬ (k = 7 ∧ w = 17) → ¬ (k = 31 ∧ 4 + 6 * lo ≤ w ∧ w < 4 + 6 * hi) → ¬ (k = 31 ∧ w = 1) → Z' k t j w = Z k t j w
theorem SC.refl {S : S4} {i r : Nat} : SC S S i r := fun _ _ _ _ _ _ _ => rfl
theorem ZC.refl {Z : S4} {r : Nat} : ZC Z Z r := fun _ _ _ _ _ _ => rfl
theorem SC.trans {S1 S2 S3 : S4} {i r : Nat} (a : SC S1 S2 i r) (b : SC S2 S3 i r) : SC S1 S3 i r := fun k t j w h1 h2 h3 => (b k t j w h1 h2 h3).trans (a k t j w h1 h2 h3)
theorem ZC.trans {S1 S2 S3 : S4} {r : Nat} (a : ZC S1 S2 r) (b : ZC S2 S3 r) : ZC S1 S3 r := fun k t j w h1 h2 => (b k t j w h1 h2).trans (a k t j w h1 h2)
theorem SX.trans {S1 S2 S3 : S4} {i lo mid hi : Nat} (a : SX S1 S2 i lo mid) (b : SX S2 S3 i mid hi) (h1 : lo ≤ mid) (h2 : mid ≤ hi) : SX S1 S3 i lo hi := fun k t j w g1 g2 g3 g4 => (b k t j w g1 g2 (fun z => g3 ⟨z.1, z.2.1, by omega, z.2.2.2⟩) (fun z => g4 ⟨z.1, z.2.1, by omega, z.2.2.2⟩)).trans (a k t j w g1 g2 (fun z => g3 ⟨z.1, z.2.1, z.2.2.1, by omega⟩) (fun z => g4 ⟨z.1, z.2.1, z.2.2.1, by omega⟩))
theorem ZX.trans {S1 S2 S3 : S4} {lo mid hi : Nat} (a : ZX S1 S2 lo mid) (b : ZX S2 S3 mid hi) (h1 : lo ≤ mid) (h2 : mid ≤ hi) : ZX S1 S3 lo hi := fun k t j w g1 g2 g3 => (b k t j w g1 (fun z => g2 ⟨z.1, by omega, z.2.2⟩) g3).trans (a k t j w g1 (fun z => g2 ⟨z.1, z.2.1, by omega⟩) g3)
theorem SX.wps {S S' : S4} {i lo hi a : Nat} (h : SX S S' i lo hi) : SX S (wps S' i a) i lo hi := fun k t j w g1 g2 g3 g4 => by rw [wps_ne g1]; exact h k t j w g1 g2 g3 g4
theorem ZX.wat {Z Z' : S4} {lo hi a : Nat} (h : ZX Z Z' lo hi) : ZX Z (wat Z' a) lo hi := fun k t j w g1 g2 g3 => by rw [wat_ne g1]; exact h k t j w g1 g2 g3
theorem SX.refl {S : S4} {i lo hi : Nat} : SX S S i lo hi := fun _ _ _ _ _ _ _ _ => rfl
theorem ZX.refl {Z : S4} {lo hi : Nat} : ZX Z Z lo hi := fun _ _ _ _ _ _ _ => rfl
theorem SX.tx {S S' Z Z' : S4} {i lo hi len a : Nat} (h : TX S Z i len a) (hS : SX S S' i lo hi) (h1 : S' 3 0 i 1 = S 3 0 i 1) (hZ : ZX Z Z' lo hi) (h2 : Z' 7 0 0 17 = Z 7 0 0 17) : TX S' Z' i len a := by
  obtain ⟨a1, a2, a3, a4, a5, a6, a7⟩ := h
  exact ⟨h1.trans a1, (hS 3 0 i 3 (by omega) (by omega) (by omega) (by omega)).trans a2, h2.trans a3, (hZ 7 0 0 16 (by omega) (by omega) (by omega)).trans a4, a5, a6, fun j hj => by rw [hS 23 0 0 j (by omega) (by omega) (by omega) (by omega), hZ 30 0 0 j (by omega) (by omega) (by omega)]; exact a7 j hj⟩
theorem QR.of {S S' Z Z' : S4} {i r lo hi : Nat} (h : QR S Z i r) (hr : r < lo) (hS : SX S S' i lo hi) (hZ : ZX Z Z' lo hi) : QR S' Z' i r := by
  obtain ⟨a, b, n, h1, h2, h3, h4, h5, h6, h7, h8, h9, h10, h11⟩ := h
  refine ⟨a, b, n, h1, h2, h3, h4, ?_, ?_, ?_, ?_, ?_, ?_, fun k hk => ?_⟩
  · rw [hS 10 0 i r (by omega) (by omega) (by omega) (by omega)]; exact h5
  · rw [hZ 31 0 0 _ (by omega) (by omega) (by omega)]; exact h6
  · rw [hS 11 0 i r (by omega) (by omega) (by omega) (by omega)]; exact h7
  · rw [hZ 31 0 0 _ (by omega) (by omega) (by omega)]; exact h8
  · rw [hS 12 0 i r (by omega) (by omega) (by omega) (by omega)]; exact h9
  · rw [hZ 31 0 0 _ (by omega) (by omega) (by omega)]; exact h10
  · obtain ⟨c, c1, c2, c3⟩ := h11 k hk
    exact ⟨c, c1, by rw [hS 13 0 i _ (by omega) (by omega) (by omega) (by omega)]; exact c2, by rw [hZ 31 0 0 _ (by omega) (by omega) (by omega)]; exact c3⟩
section RU
variable {fu i len : Nat}
theorem i6 {r k : Nat} : nI (4 + 6 * r) + (3 : Int32) + nI k = nI (4 + 6 * r + (3 + k)) := by
  rw [show (3 : Int32) = nI 3 from rfl, nI_add, nI_add, Nat.add_assoc]
theorem t_has {S Z : S4} {r n x a : Nat} (hr : r < 8) (hn : n ≤ 2) (ha : Z 7 0 0 17 = nI a) (hQ : QC S Z i r n) : ∀ (d k f f' : Nat), k + d = n → d < f → d < f' → (s_X2_hasChute_L2 fu i (nI r) (nI x) S f (nI k) = some 1 ∧ s_X7_takesChute_L28 fu (nI (4 + 6 * r)) f' (nI x) (nI k) Z = some (0, Z)) ∨ (s_X2_hasChute_L2 fu i (nI r) (nI x) S f (nI k) = some 0 ∧ s_X7_takesChute_L28 fu (nI (4 + 6 * r)) f' (nI x) (nI k) Z = some (1, wat (u4 (u4 Z 31 0 0 (4 + 6 * r + (3 + n)) (nI x)) 31 0 0 (4 + 6 * r + 2) (nI (n + 1))) (a + 1))) := by
  obtain ⟨q1, q2, q3⟩ := hQ
  have e2 : nI (4 + 6 * r) + (2 : Int32) = nI (4 + 6 * r + 2) := nI_add _ 2
  intro d
  induction d with
  | zero =>
    intro k f f' hk hf hf'
    obtain ⟨f, rfl⟩ : ∃ g, f = g + 1 := ⟨f - 1, by omega⟩
    obtain ⟨f', rfl⟩ : ∃ g, f' = g + 1 := ⟨f' - 1, by omega⟩
    obtain rfl : k = n := by omega
    refine Or.inr ⟨?_, ?_⟩
    · rw [s_X2_hasChute_L2, gd_t (inb_nI (by omega) (by decide)), nI_clamp (by omega), q1, if_pos (nI_le (by omega) (by omega))]
    · rw [s_X7_takesChute_L28, e2, gd_t (inb_nI (by omega) (by decide)), show Z 31 0 0 (nI (4 + 6 * r + 2)).toNatClampNeg = nI k from by rw [nI_clamp (by omega)]; exact q2, if_pos (nI_le (by omega) (by omega)), gd_t (inb_nI (by omega) (by decide)), i6, gd_t (inb_nI (by omega) (by decide)), sv_e, gd_t (inb_nI (by omega) (by decide)), gd_t (inb_nI (by omega) (by decide)), nI_clamp (by omega), nI_clamp (by omega), show u4 Z 31 0 0 (4 + 6 * r + (3 + k)) (nI x) 31 0 0 (4 + 6 * r + 2) = nI k from by rw [u4_app, if_neg (by omega)]; exact q2, nI_1, sv_e, show ∀ y z, u4 (u4 Z 31 0 0 (4 + 6 * r + (3 + k)) y) 31 0 0 (4 + 6 * r + 2) z 7 0 0 17 = nI a from fun y z => by rw [u4_app, if_neg (by omega), u4_app, if_neg (by omega)]; exact ha, nI_1, sv_e]
      rfl
  | succ d ih =>
    intro k f f' hk hf hf'
    obtain ⟨f, rfl⟩ : ∃ g, f = g + 1 := ⟨f - 1, by omega⟩
    obtain ⟨f', rfl⟩ : ∃ g, f' = g + 1 := ⟨f' - 1, by omega⟩
    obtain ⟨c, hc, c1, c2⟩ := q3 k (by omega)
    have e3 : s_X2_chuteIn i (nI r) (nI k) S = some (nI c) := by
      have e : nI r * (3 : Int32) + nI k = nI (r * 3 + k) := by rw [show (3 : Int32) = nI 3 from rfl, pk_mul, nI_add]
      obtain ⟨h1, h2⟩ := idx_nI (N := 24) e (by omega) (by omega)
      unfold s_X2_chuteIn
      rw [gd_t h1, h2, c1]
    have e4 : s_X2_hasChute_L2 fu i (nI r) (nI x) S (f + 1) (nI k) = if nI c = nI x then some 1 else s_X2_hasChute_L2 fu i (nI r) (nI x) S f (nI (k + 1)) := by
      rw [s_X2_hasChute_L2, gd_t (inb_nI (by omega) (by decide)), nI_clamp (by omega), q1, if_neg (nI_ge (by omega) (by omega)), e3, bd_s, nI_1]
    have e5 : s_X7_takesChute_L28 fu (nI (4 + 6 * r)) (f' + 1) (nI x) (nI k) Z = if nI c = nI x then some (0, Z) else s_X7_takesChute_L28 fu (nI (4 + 6 * r)) f' (nI x) (nI (k + 1)) Z := by
      rw [s_X7_takesChute_L28, e2, gd_t (inb_nI (by omega) (by decide)), show Z 31 0 0 (nI (4 + 6 * r + 2)).toNatClampNeg = nI n from by rw [nI_clamp (by omega)]; exact q2, if_neg (nI_ge (by omega) (by omega)), i6, gd_t (inb_nI (by omega) (by decide)), nI_clamp (by omega), c2, nI_1]
    rw [e4, e5]
    by_cases e : nI c = nI x
    · rw [if_pos e, if_pos e]
      exact Or.inl ⟨rfl, rfl⟩
    · rw [if_neg e, if_neg e]
      exact ih (k + 1) f f' (by omega) (by omega) (by omega)
/-- one rule's chutes -/
theorem t_chutesR {r : Nat} (hr : r < 8) (hfu : 20 < fu) : ∀ (d n f f' a : Nat) (S Z : S4), n + d = 3 → 1 ≤ d → d < f → d < f' → S 2 0 i 1 = nI (r + 1) → TX S Z i len a → QC S Z i r n → ∃ b S' Z' a', s_X3_readChutes_L4 fu i f 1 (nI (n + 1)) S = some (b, S') ∧ ((s_X7_takesChute fu (nI (4 + 6 * r)) Z).bind fun q15 => if q15.1 = 0 then some ((0 : Int32), q15.2) else s_X7_takesRule_L99 fu (nI (4 + 6 * r)) f' q15.2) = some (b, Z') ∧ TX S' Z' i len a' ∧ SC S S' i r ∧ ZC Z Z' r ∧ (b = 0 ∨ (b = 1 ∧ ∃ n', 1 ≤ n' ∧ n' ≤ 3 ∧ QC S' Z' i r n')) := by
  intro d
  induction d with
  | zero => intro n f f' a S Z hn hd; omega
  | succ d ih =>
    intro n f f' a S Z hn hd hf hf' h2 hT hQ
    obtain ⟨f, rfl⟩ : ∃ g, f = g + 1 := ⟨f - 1, by omega⟩
    obtain ⟨f', rfl⟩ : ∃ g, f' = g + 1 := ⟨f' - 1, by omega⟩
    have h80 := hT.2.2.2.2.2.1
    rw [s_X3_readChutes_L4, if_neg (show ¬ (3 : Int32) < nI (n + 1) from nI_nlt (a := 3) (by omega) (by decide)), if_neg (show ¬ (1 : Int32) = 0 by decide)]
    unfold s_X7_takesChute
    rcases t_digit (g := 7) (hi := 55) (by decide) rfl hT with ⟨e1, e2⟩ | ⟨x, hx, ha, e1, e2, e3, e4⟩
    · have e1' : s_X3_nextDigit i 7 S = _ := e1
      rw [e1', bd_s, if_pos rfl, e2, bd_s, if_pos rfl, bd_s]
      exact ⟨0, S, Z, a, rfl, rfl, hT, SC.refl, ZC.refl, Or.inl rfl⟩
    · have e1' : s_X3_nextDigit i 7 S = _ := e1
      rw [e1', bd_s, if_neg (nI_m1 (by omega)), h2, nI_pred, e2, bd_s, if_neg (show ¬ (1 : Int32) = 0 by decide), hT.2.2.1, gd_t (inb_nI (by omega) (by decide)), nI_clamp (by omega), e4]
      unfold s_X2_hasChute
      rcases t_has (fu := fu) (S := S) (Z := Z) (i := i) (x := x) (a := a) hr (show n ≤ 2 by omega) hT.2.2.1 hQ n 0 fu fu (by omega) (by omega) (by omega) with ⟨g1, g2⟩ | ⟨g1, g2⟩
      · have g1' : s_X2_hasChute_L2 fu i (nI r) (nI x) S fu 0 = _ := g1
        have g2' : s_X7_takesChute_L28 fu (nI (4 + 6 * r)) fu (nI x) 0 Z = _ := g2
        rw [g1', bd_s, if_neg (show ¬ (1 : Int32) = 0 by decide), g2', bd_s, if_pos rfl]
        exact ⟨0, S, Z, a, rfl, rfl, hT, SC.refl, ZC.refl, Or.inl rfl⟩
      · have g1' : s_X2_hasChute_L2 fu i (nI r) (nI x) S fu 0 = _ := g1
        have g2' : s_X7_takesChute_L28 fu (nI (4 + 6 * r)) fu (nI x) 0 Z = _ := g2
        obtain ⟨q1, q2, q3⟩ := hQ
        have eA : s_X2_addChuteToLatestRule i (nI x) (wps S i (a + 1)) = some (u4 (u4 (wps S i (a + 1)) 13 0 i (r * 3 + n) (nI x)) 12 0 i r (nI (n + 1))) := by
          have y2 : wps S i (a + 1) 2 0 i 1 = nI (r + 1) := by rw [wps_ne (by omega)]; exact h2
          have y12 : wps S i (a + 1) 12 0 i r = nI n := by rw [wps_ne (by omega)]; exact q1
          have e : nI r * (3 : Int32) + nI n = nI (r * 3 + n) := by rw [show (3 : Int32) = nI 3 from rfl, pk_mul, nI_add]
          obtain ⟨i1, i2⟩ := idx_nI (N := 24) e (by omega) (by omega)
          unfold s_X2_addChuteToLatestRule
          rw [y2, nI_pred, if_neg (nI_pos (by omega)), gd_t (inb_nI (by omega) (by decide)), show wps S i (a + 1) 12 0 i (nI r).toNatClampNeg = nI n from by rw [nI_clamp (by omega)]; exact y12, if_neg (show ¬ (3 : Int32) ≤ nI n from nI_ge (b := 3) (by omega) (by decide)), gd_t (inb_nI (by omega) (by decide)), gd_t i1, i2, sv_e, gd_t (inb_nI (by omega) (by decide)), gd_t (inb_nI (by omega) (by decide)), nI_clamp (by omega), show ∀ y, u4 (wps S i (a + 1)) 13 0 i (r * 3 + n) y 12 0 i r = nI n from fun y => by rw [u4_app, if_neg (by omega)]; exact y12, nI_1, sv_e]
        rw [g1', bd_s, if_pos rfl, g2', bd_s, if_neg (show ¬ (1 : Int32) = 0 by decide), sv_e, show S 3 0 i 1 = nI a from hT.1, nI_1 a, show u4 S 3 0 i 1 (nI (a + 1)) = wps S i (a + 1) from rfl, eA, bd_s]
        generalize hS1 : u4 (u4 (wps S i (a + 1)) 13 0 i (r * 3 + n) (nI x)) 12 0 i r (nI (n + 1)) = S1
        generalize hZ1 : wat (u4 (u4 Z 31 0 0 (4 + 6 * r + (3 + n)) (nI x)) 31 0 0 (4 + 6 * r + 2) (nI (n + 1))) (a + 1) = Z1
        have fS : SC S S1 i r := fun k t j w k1 k2 k3 => by
          rw [← hS1, u4_app, if_neg (by omega), u4_app, if_neg (by omega), wps_ne k1]
        have fZ : ZC Z Z1 r := fun k t j w k1 k2 => by
          rw [← hZ1, wat_ne k1, u4_app, if_neg (by omega), u4_app, if_neg (by omega)]
        have hT1 : TX S1 Z1 i len (a + 1) := by
          obtain ⟨t1, t2, t3, t4, t5, t6, t7⟩ := hT
          refine ⟨?_, ?_, ?_, ?_, by omega, t6, fun j hj => ?_⟩
          · rw [← hS1, u4_app, if_neg (by omega), u4_app, if_neg (by omega)]; unfold wps; rw [u4_app, if_pos ⟨rfl, rfl, rfl, rfl⟩]
          · rw [fS 3 0 i 3 (by omega) (by omega) (by omega)]; exact t2
          · rw [← hZ1]; unfold wat; rw [u4_app, if_pos ⟨rfl, rfl, rfl, rfl⟩]
          · rw [fZ 7 0 0 16 (by omega) (by omega)]; exact t4
          · rw [fS 23 0 0 j (by omega) (by omega) (by omega), fZ 30 0 0 j (by omega) (by omega)]; exact t7 j hj
        have hQ1 : QC S1 Z1 i r (n + 1) := by
          refine ⟨?_, ?_, fun k hk => ?_⟩
          · rw [← hS1, u4_app, if_pos ⟨rfl, rfl, rfl, rfl⟩]
          · rw [← hZ1, wat_ne (by omega), u4_app, if_pos ⟨rfl, rfl, rfl, rfl⟩]
          · by_cases ek : k = n
            · subst ek
              exact ⟨x, by omega, by rw [← hS1, u4_app, if_neg (by omega), u4_app, if_pos ⟨rfl, rfl, rfl, rfl⟩], by rw [← hZ1, wat_ne (by omega), u4_app, if_neg (by omega), u4_app, if_pos ⟨rfl, rfl, rfl, rfl⟩]⟩
            · obtain ⟨c, c1, c2, c3⟩ := q3 k (by omega)
              exact ⟨c, c1, by rw [← hS1, u4_app, if_neg (by omega), u4_app, if_neg (by omega), wps_ne (by omega)]; exact c2, by rw [← hZ1, wat_ne (by omega), u4_app, if_neg (by omega), u4_app, if_neg (by omega)]; exact c3⟩
        have h21 : S1 2 0 i 1 = nI (r + 1) := by rw [fS 2 0 i 1 (by omega) (by omega) (by omega)]; exact h2
        dsimp only
        rw [s_X7_takesRule_L99, show nI (4 + 6 * r) + (2 : Int32) = nI (4 + 6 * r + 2) from nI_add _ 2, gd_t (inb_nI (by omega) (by decide)), show Z1 31 0 0 (nI (4 + 6 * r + 2)).toNatClampNeg = nI (n + 1) from by rw [nI_clamp (by omega)]; exact hQ1.2.1]
        by_cases e3 : n = 2
        · subst e3
          obtain ⟨f, rfl⟩ : ∃ g, f = g + 1 := ⟨f - 1, by omega⟩
          rw [if_pos (by decide), if_pos (by decide), s_X3_readChutes_L4, if_pos (by decide)]
          exact ⟨1, S1, Z1, a + 1, rfl, rfl, hT1, fS, fZ, Or.inr ⟨rfl, 3, by decide, by decide, hQ1⟩⟩
        · rw [if_neg (show ¬ (3 : Int32) ≤ nI (n + 1) from nI_ge (b := 3) (by omega) (by decide)), if_neg (show ¬ (3 : Int32) ≤ nI (n + 1) from nI_ge (b := 3) (by omega) (by decide))]
          rcases t_skip (x := 44) hT1 with ⟨k1, k2⟩ | ⟨k0, k1, k2⟩
          · obtain ⟨f, rfl⟩ : ∃ g, f = g + 1 := ⟨f - 1, by omega⟩
            rw [k1, bd_s, k2, bd_s, if_pos rfl, bd_s, if_pos rfl, s_X3_readChutes_L4, nI_1, if_neg (show ¬ (3 : Int32) < nI (n + 1 + 1) from nI_nlt (a := 3) (by omega) (by decide)), if_pos rfl]
            exact ⟨1, S1, Z1, a + 1, rfl, rfl, hT1, fS, fZ, Or.inr ⟨rfl, n + 1, by omega, by omega, hQ1⟩⟩
          · rw [k1, bd_s, k2, bd_s, if_neg (show ¬ (1 : Int32) = 0 by decide), bd_s, if_neg (show ¬ (1 : Int32) = 0 by decide), nI_1]
            obtain ⟨b, S', Z', a', g1, g2, g3, g4, g5, g6⟩ := ih (n + 1) f f' (a + 1 + 1) (wps S1 i (a + 1 + 1)) (wat Z1 (a + 1 + 1)) (by omega) (by omega) (by omega) (by omega) (by rw [wps_ne (by omega)]; exact h21) (hT1.go (by omega)) ⟨by rw [wps_ne (by omega)]; exact hQ1.1, by rw [wat_ne (by omega)]; exact hQ1.2.1, fun k hk => by obtain ⟨c, c1, c2, c3⟩ := hQ1.2.2 k hk; exact ⟨c, c1, by rw [wps_ne (by omega)]; exact c2, by rw [wat_ne (by omega)]; exact c3⟩⟩
            have w1 : SC S1 (wps S1 i (a + 1 + 1)) i r := fun k t j w k1 _ _ => wps_ne k1
            have w2 : ZC Z1 (wat Z1 (a + 1 + 1)) r := fun k t j w k1 _ => wat_ne k1
            exact ⟨b, S', Z', a', g1, g2, g3, (fS.trans w1).trans g4, (fZ.trans w2).trans g5, g6⟩
end RU
