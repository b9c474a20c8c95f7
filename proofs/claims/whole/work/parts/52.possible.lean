section PO
variable {fu i : Nat}
def okc (Z : S4) (nc r n : Nat) (k : Nat) : Prop := ∀ j, k ≤ j → j < n → ∃ c, c < nc ∧ Z 31 0 0 (4 + 6 * r + (3 + j)) = nI c
def okr (Z : S4) (nc r : Nat) : Prop := (∃ a b, a ≤ b ∧ b ≤ 99 ∧ Z 31 0 0 (4 + 6 * r + 0) = nI a ∧ Z 31 0 0 (4 + 6 * r + 1) = nI b) ∧ okc Z nc r (Z 31 0 0 (4 + 6 * r + 2)).toNatClampNeg 0
theorem t_ok68 {S Z : S4} {nc r n e : Nat} {K1 K2 : Int32 → Option Int32} (hr : r < 8) (hn : n ≤ 3) (hQ : QC S Z i r n) (h2 : live Z 6 0 2 = nI nc) (h8 : nc ≤ 8) (hK : ∃ b, K2 (nI (r + 1)) = some b ∧ K1 (nI (r + 1)) = some (if e < nc then b else 0) ∧ (b = 0 ∨ (b = 1 ∧ ∀ w, r < w → w < 8 → w < (Z 31 0 0 1).toNatClampNeg → okr Z nc w))) : ∀ (d k f f' : Nat), k + d = n → d < f → d < f' → ∃ b, s_X7_isPossible_L68 fu K2 Z f' (nI r) (nI (4 + 6 * r)) (nI k) = some b ∧ s_X2_isPossible_L40 fu i (nI nc) K1 S f (nI r) (nI k) = some (if e < nc then b else 0) ∧ (b = 0 ∨ (b = 1 ∧ okc Z nc r n k ∧ ∀ w, r < w → w < 8 → w < (Z 31 0 0 1).toNatClampNeg → okr Z nc w)) := by
  obtain ⟨q1, q2, q3⟩ := hQ
  intro d
  induction d with
  | zero =>
    intro k f f' hk hf hf'
    obtain ⟨f, rfl⟩ : ∃ g, f = g + 1 := ⟨f - 1, by omega⟩
    obtain ⟨f', rfl⟩ : ∃ g, f' = g + 1 := ⟨f' - 1, by omega⟩
    obtain rfl : k = n := by omega
    obtain ⟨b, b1, b2, b3⟩ := hK
    rw [s_X7_isPossible_L68, s_X2_isPossible_L40, j6 (r := r) (k := 2) 2 rfl, gd_t (inb_nI (by omega) (by decide)), show Z 31 0 0 (nI (4 + 6 * r + 2)).toNatClampNeg = nI k from by rw [nI_clamp (by omega)]; exact q2, if_pos (nI_le (Nat.le_refl _) (by omega)), gd_t (inb_nI (by omega) (by decide)), show S 12 0 i (nI r).toNatClampNeg = nI k from by rw [nI_clamp (by omega)]; exact q1, if_pos (nI_le (Nat.le_refl _) (by omega)), nI_1, b1, b2]
    refine ⟨b, rfl, rfl, ?_⟩
    rcases b3 with b3 | ⟨b3, b4⟩
    · exact Or.inl b3
    · exact Or.inr ⟨b3, fun j h1 h2 => absurd h2 (by omega), b4⟩
  | succ d ih =>
    intro k f f' hk hf hf'
    obtain ⟨f, rfl⟩ : ∃ g, f = g + 1 := ⟨f - 1, by omega⟩
    obtain ⟨f', rfl⟩ : ∃ g, f' = g + 1 := ⟨f' - 1, by omega⟩
    obtain ⟨c, hc, c1, c2⟩ := q3 k (by omega)
    have e3 : s_X2_chuteIn i (nI r) (nI k) S = some (nI c) := by
      have e : nI r * (3 : Int32) + nI k = nI (r * 3 + k) := by rw [show (3 : Int32) = nI 3 from rfl, pk_mul, nI_add]
      obtain ⟨h1, h2⟩ := idx_nI (N := 24) e (by omega) (by omega)
      unfold s_X2_chuteIn
      rw [gd_t h1, h2, c1]
    rw [s_X7_isPossible_L68, s_X2_isPossible_L40, j6 (r := r) (k := 2) 2 rfl, gd_t (inb_nI (by omega) (by decide)), show Z 31 0 0 (nI (4 + 6 * r + 2)).toNatClampNeg = nI n from by rw [nI_clamp (by omega)]; exact q2, if_neg (nI_ge (by omega) (by omega)), gd_t (inb_nI (by omega) (by decide)), show S 12 0 i (nI r).toNatClampNeg = nI n from by rw [nI_clamp (by omega)]; exact q1, if_neg (nI_ge (by omega) (by omega)), i6, gd_t (inb_nI (by omega) (by decide)), show Z 31 0 0 (nI (4 + 6 * r + (3 + k))).toNatClampNeg = nI c from by rw [nI_clamp (by omega)]; exact c2, e3, bd_s, nI_1]
    unfold s_X7_isChute
    rw [rd_n2 Z, h2, if_neg (nI_pos (by omega))]
    by_cases hcc : c < nc
    · rw [if_neg (nI_ge hcc (by omega)), bd_s, if_neg (show ¬ (1 : Int32) = 0 by decide), if_pos (nI_lt hcc (by omega))]
      obtain ⟨b, b1, b2, b3⟩ := ih (k + 1) f f' (by omega) (by omega) (by omega)
      refine ⟨b, b1, b2, ?_⟩
      rcases b3 with b3 | ⟨b3, b4, b5⟩
      · exact Or.inl b3
      · refine Or.inr ⟨b3, fun j h1 h2 => ?_, b5⟩
        by_cases ej : j = k
        · subst ej; exact ⟨c, hcc, c2⟩
        · exact b4 j (by omega) h2
    · rw [if_pos (nI_le (by omega) (by omega)), bd_s, if_pos rfl, if_neg (nI_nlt (by omega) (by omega))]
      refine ⟨0, rfl, ?_, Or.inl rfl⟩
      split <;> rfl
theorem t_possible {S Z : S4} {nc : Nat} (hfu : 20 < fu) (hP : PD S Z i) (h2 : live Z 6 0 2 = nI nc) (h8 : nc ≤ 8) : ∃ b, s_X2_isPossible fu i (nI nc) S = some b ∧ s_X7_isPossible fu Z = some b ∧ (b = 0 ∨ (b = 1 ∧ (∃ e, e < nc ∧ Z 31 0 0 2 = nI e) ∧ ∀ w, w < (Z 31 0 0 1).toNatClampNeg → okr Z nc w)) := by
  obtain ⟨t, R, e, b0, ht, r1, r8, he, hb, s0, z0, s1, z1, s2, z2, s3, z3, hq⟩ := hP
  have hRc : (Z 31 0 0 1).toNatClampNeg = R := by rw [z1]; exact nI_clamp (by omega)
  have i1 : inb (1 : Int32) 52 := inb_nI (n := 1) (by decide) (by decide)
  have i2 : inb (2 : Int32) 52 := inb_nI (n := 2) (by decide) (by decide)
  have key : ∀ (d r f f' : Nat), r + d = R → d < f → d < f' → ∃ b, s_X7_isPossible_L17 fu Z f' (nI r) = some b ∧ s_X2_isPossible_L2 fu i (nI nc) S f (nI r) = some (if e < nc then b else 0) ∧ (b = 0 ∨ (b = 1 ∧ ∀ w, r ≤ w → w < R → okr Z nc w)) := by
    intro d
    induction d with
    | zero =>
      intro r f f' hr hf hf'
      obtain ⟨f, rfl⟩ : ∃ g, f = g + 1 := ⟨f - 1, by omega⟩
      obtain ⟨f', rfl⟩ : ∃ g, f' = g + 1 := ⟨f' - 1, by omega⟩
      obtain rfl : r = R := by omega
      rw [s_X7_isPossible_L17, s_X2_isPossible_L2, gd_t i1, show Z 31 0 0 (1 : Int32).toNatClampNeg = nI r from z1, s1, s2, if_pos (nI_le (Nat.le_refl _) (by omega)), if_pos (nI_le (Nat.le_refl _) (by omega))]
      refine ⟨1, rfl, ?_, Or.inr ⟨rfl, fun w h1 h2 => absurd h2 (by omega)⟩⟩
      by_cases hc : e < nc
      · rw [if_pos hc, if_neg (nI_ge hc (by omega))]
      · rw [if_neg hc, if_pos (nI_le (by omega) (by omega))]
    | succ d ih =>
      intro r f f' hr hf hf'
      obtain ⟨f, rfl⟩ : ∃ g, f = g + 1 := ⟨f - 1, by omega⟩
      obtain ⟨f', rfl⟩ : ∃ g, f' = g + 1 := ⟨f' - 1, by omega⟩
      obtain ⟨a, b, n, ha, hb', n1, n3, q10, qz0, q11, qz1, hQC⟩ := hq r (by omega)
      have e46 : (4 : Int32) + 6 * nI r = nI (4 + 6 * r) := by rw [show (6 : Int32) = nI 6 from rfl, show (4 : Int32) = nI 4 from rfl, pk_mul, nI_add]
      rw [s_X7_isPossible_L17, s_X2_isPossible_L2, gd_t i1, show Z 31 0 0 (1 : Int32).toNatClampNeg = nI R from z1, s1, if_neg (nI_ge (by omega) (by omega)), if_neg (nI_ge (by omega) (by omega)), e46, j6 (r := r) (k := 1) 1 rfl, gd_t (inb_nI (by omega) (by decide)), show Z 31 0 0 (nI (4 + 6 * r + 1)).toNatClampNeg = nI b from by rw [nI_clamp (by omega)]; exact qz1, show Z 31 0 0 (nI (4 + 6 * r)).toNatClampNeg = nI a from by rw [nI_clamp (by omega)]; exact qz0, gd_t (inb_nI (by omega) (by decide)), show S 11 0 i (nI r).toNatClampNeg = nI b from by rw [nI_clamp (by omega)]; exact q11, show S 10 0 i (nI r).toNatClampNeg = nI a from by rw [nI_clamp (by omega)]; exact q10]
      by_cases h99 : b ≤ 99
      · rw [if_neg (show ¬ (99 : Int32) < nI b from nI_nlt (a := 99) h99 (by decide)), if_neg (show ¬ (100 : Int32) ≤ nI b from nI_ge (b := 100) (by omega) (by decide)), gd_t (inb_nI (by omega) (by decide)), gd_t (inb_nI (by omega) (by decide)), gd_t (inb_nI (by omega) (by decide)), gd_t (inb_nI (by omega) (by decide))]
        by_cases hab : a ≤ b
        · rw [if_pos (nI_le hab (by omega)), if_pos (nI_le hab (by omega))]
          obtain ⟨b1, g1, g2, g3⟩ := t_ok68 (fu := fu) (i := i) (S := S) (Z := Z) (nc := nc) (r := r) (n := n) (e := e) (K1 := fun a2 => s_X2_isPossible_L2 fu i (nI nc) S f a2) (K2 := fun a1 => s_X7_isPossible_L17 fu Z f' a1) (by omega) n3 hQC h2 h8 (by
            obtain ⟨b2, k1, k2, k3⟩ := ih (r + 1) f f' (by omega) (by omega) (by omega)
            refine ⟨b2, k1, k2, ?_⟩
            rcases k3 with k3 | ⟨k3, k4⟩
            · exact Or.inl k3
            · exact Or.inr ⟨k3, fun w h1 h2 h3 => k4 w (by omega) (by omega)⟩) n 0 fu fu (by omega) (by omega) (by omega)
          refine ⟨b1, g1, g2, ?_⟩
          rcases g3 with g3 | ⟨g3, g4, g5⟩
          · exact Or.inl g3
          · refine Or.inr ⟨g3, fun w h1 h3 => ?_⟩
            by_cases ew : w = r
            · subst ew
              refine ⟨⟨a, b, hab, h99, qz0, qz1⟩, ?_⟩
              rw [hQC.2.1, nI_clamp (by omega)]
              exact g4
            · exact g5 w (by omega) (by omega) (by omega)
        · rw [if_neg (nI_ge (by omega) (by omega)), if_neg (nI_ge (by omega) (by omega))]
          refine ⟨0, rfl, ?_, Or.inl rfl⟩
          split <;> rfl
      · rw [if_pos (show (99 : Int32) < nI b from nI_lt (a := 99) (by omega) (by omega)), if_pos (show (100 : Int32) ≤ nI b from nI_le (a := 100) (by omega) (by omega)), gd_t (show inb (nI r) 8 from inb_nI (by omega) (by decide))]
        refine ⟨0, rfl, ?_, Or.inl rfl⟩
        split <;> rfl
  obtain ⟨b, k1, k2, k3⟩ := key R 0 fu fu (by omega) (by omega) (by omega)
  have k2' : s_X2_isPossible fu i (nI nc) S = some (if e < nc then b else 0) := k2
  have k1' : s_X7_isPossible_L17 fu Z fu 0 = some b := k1
  unfold s_X7_isPossible s_X7_isChute
  rw [k2', gd_t i2, show Z 31 0 0 (2 : Int32).toNatClampNeg = nI e from z2, rd_n2 Z, h2, if_neg (nI_pos (by omega))]
  by_cases hc : e < nc
  · rw [if_pos hc, if_neg (nI_ge hc (by omega)), bd_s, if_neg (show ¬ (1 : Int32) = 0 by decide), k1']
    refine ⟨b, rfl, rfl, ?_⟩
    rcases k3 with k3 | ⟨k3, k4⟩
    · exact Or.inl k3
    · exact Or.inr ⟨k3, ⟨e, hc, z2⟩, fun w hw => k4 w (Nat.zero_le _) (by omega)⟩
  · rw [if_neg hc, if_pos (nI_le (by omega) (by omega)), bd_s, if_pos rfl]
    exact ⟨0, rfl, rfl, Or.inl rfl⟩
theorem pof_some {v : Vw} {f : Int32} {n q : Nat} (h : pof v f n = some q) : v 3 q 0 ≤ f ∧ ∀ p, q < p → p < n → f < v 3 p 0 := by
  induction n with
  | zero => cases h
  | succ n ih =>
    rw [pof] at h
    by_cases hc : v 3 n 0 ≤ f
    · rw [if_pos hc] at h; cases h; exact ⟨hc, fun p h1 h2 => by omega⟩
    · rw [if_neg hc] at h
      obtain ⟨h1, h2⟩ := ih h
      refine ⟨h1, fun p g1 g2 => ?_⟩
      by_cases e : p = n
      · subst e; exact Int32.not_le.mp hc
      · exact h2 p g1 (by omega)
theorem pof_none {v : Vw} {f : Int32} {n : Nat} (h : pof v f n = none) : ∀ p, p < n → f < v 3 p 0 := by
  induction n with
  | zero => intro p hp; omega
  | succ n ih =>
    rw [pof] at h
    by_cases hc : v 3 n 0 ≤ f
    · rw [if_pos hc] at h; cases h
    · rw [if_neg hc] at h
      intro p hp
      by_cases e : p = n
      · subst e; exact Int32.not_le.mp hc
      · exact ih h p (by omega)
/-- the reference copies what it read into a row -/
theorem r_copy52 {p : Nat} (hp : p < 5) : ∀ (d j f : Nat) (Z : S4), j + d = 52 → d < f → ∃ Z', s_X7_addPlan_L182 fu f (nI p) (nI j) Z = some (Z' 7 0 0 10, Z') ∧ (∀ k t a w, ¬ (k = 27 ∧ 52 * p ≤ w ∧ w < 52 * p + 52) → Z' k t a w = Z k t a w) ∧ (∀ w, w < j → Z' 27 0 0 (52 * p + w) = Z 27 0 0 (52 * p + w)) ∧ ∀ w, j ≤ w → w < 52 → Z' 27 0 0 (52 * p + w) = Z 31 0 0 w := by
  intro d
  induction d with
  | zero =>
    intro j f Z hj hf
    obtain ⟨f, rfl⟩ : ∃ g, f = g + 1 := ⟨f - 1, by omega⟩
    obtain rfl : j = 52 := by omega
    rw [s_X7_addPlan_L182, if_pos (by decide)]
    exact ⟨Z, rfl, fun _ _ _ _ _ => rfl, fun _ _ => rfl, fun w h1 h2 => absurd h2 (by omega)⟩
  | succ d ih =>
    intro j f Z hj hf
    obtain ⟨f, rfl⟩ : ∃ g, f = g + 1 := ⟨f - 1, by omega⟩
    have e : (52 : Int32) * nI p + nI j = nI (52 * p + j) := by rw [show (52 : Int32) = nI 52 from rfl, pk_mul, nI_add]
    obtain ⟨h1, h2⟩ := idx_nI (N := 260) e (by omega) (by omega)
    rw [s_X7_addPlan_L182, if_neg (show ¬ (52 : Int32) ≤ nI j from nI_ge (b := 52) (by omega) (by decide)), gd_t (inb_nI (by omega) (by decide)), gd_t h1, h2, nI_clamp (by omega), sv_e, nI_1]
    obtain ⟨Z', z1, z2, z3, z4⟩ := ih (j + 1) f (u4 Z 27 0 0 (52 * p + j) (Z 31 0 0 j)) (by omega) (by omega)
    refine ⟨Z', z1, fun k t a w hn => ?_, fun w hw => ?_, fun w g1 g2 => ?_⟩
    · rw [z2 k t a w hn, u4_app, if_neg (by omega)]
    · rw [z3 w (by omega), u4_app, if_neg (by omega)]
    · by_cases ew : w = j
      · subst ew; rw [z3 w (by omega), u4_app, if_pos ⟨rfl, rfl, rfl, rfl⟩]
      · rw [z4 w (by omega) g2, u4_app, if_neg (by omega)]
/-- the reference makes room for a row -/
theorem r_shift52 {p nl : Nat} (hp : p ≤ nl) (hl : nl < 5) (hfu : 300 < fu) : ∀ (d f : Nat) (Z0 Z : S4), 52 * p + d ≤ 52 * nl → d < f → Z 7 0 0 10 = nI nl → (∀ k t a w, ¬ (k = 27 ∧ t = 0 ∧ a = 0 ∧ 52 * p + d + 52 ≤ w ∧ w < 52 * nl + 52) → Z k t a w = Z0 k t a w) → (∀ w, 52 * p + d + 52 ≤ w → w < 52 * nl + 52 → Z 27 0 0 w = Z0 27 0 0 (w - 52)) →
    ∃ Z', s_X7_addPlan_L137 fu f (nI p) (nI (52 * p + d) - 1) Z = some (nI (nl + 1), Z') ∧ Z' 7 0 0 10 = nI (nl + 1) ∧ (∀ k t a w, ¬ (k = 27 ∧ 52 * p ≤ w ∧ w < 52 * nl + 52) → ¬ (k = 7 ∧ w = 10) → Z' k t a w = Z0 k t a w) ∧ (∀ w, w < 52 → Z' 27 0 0 (52 * p + w) = Z0 31 0 0 w) ∧ ∀ w, 52 * p + 52 ≤ w → w < 52 * nl + 52 → Z' 27 0 0 w = Z0 27 0 0 (w - 52) := by
  intro d
  induction d with
  | zero =>
    intro f Z0 Z hd hf h10 h1 h2
    obtain ⟨f, rfl⟩ : ∃ g, f = g + 1 := ⟨f - 1, by omega⟩
    have e52 : (52 : Int32) * nI p = nI (52 * p) := pk_mul 52 p
    have hlt : nI (52 * p + 0) - 1 < nI (52 * p) := by
      rw [Nat.add_zero]
      by_cases h0 : p = 0
      · subst h0; decide
      · rw [show nI (52 * p) - 1 = nI (52 * p - 1) from pk_sub (a := 52 * p) (b := 1) (by omega)]
        exact nI_lt (by omega) (by omega)
    rw [s_X7_addPlan_L137, e52, if_pos hlt, h10, nI_1, sv_e]
    obtain ⟨Z', z1, z2, z3, z4⟩ := r_copy52 (fu := fu) (p := p) (by omega) 52 0 fu (u4 Z 7 0 0 10 (nI (nl + 1))) (by omega) (by omega)
    have z10 : Z' 7 0 0 10 = nI (nl + 1) := by rw [z2 7 0 0 10 (by omega), u4_app, if_pos ⟨rfl, rfl, rfl, rfl⟩]
    have z1' : s_X7_addPlan_L182 fu fu (nI p) 0 (u4 Z 7 0 0 10 (nI (nl + 1))) = _ := z1
    rw [z1', z10]
    refine ⟨Z', rfl, z10, fun k t a w g1 g2 => ?_, fun w hw => ?_, fun w g1 g2 => ?_⟩
    · rw [z2 k t a w (by omega), u4_app, if_neg (by omega), h1 k t a w (by omega)]
    · rw [z4 w (by omega) hw, u4_app, if_neg (by omega), h1 31 0 0 w (by omega)]
    · rw [z2 27 0 0 w (by omega), u4_app, if_neg (by omega), h2 w (by omega) g2]
  | succ d ih =>
    intro f Z0 Z hd hf h10 h1 h2
    obtain ⟨f, rfl⟩ : ∃ g, f = g + 1 := ⟨f - 1, by omega⟩
    have e52 : (52 : Int32) * nI p = nI (52 * p) := pk_mul 52 p
    rw [s_X7_addPlan_L137, e52, show 52 * p + (d + 1) = (52 * p + d) + 1 by omega, nI_pred, if_neg (nI_nlt (by omega) (by omega)), gd_t (inb_nI (by omega) (by decide)), show nI (52 * p + d) + (52 : Int32) = nI (52 * p + d + 52) from nI_add _ 52, gd_t (inb_nI (by omega) (by decide)), nI_clamp (by omega), nI_clamp (by omega), sv_e, show nI (52 * p + d) + (-1 : Int32) = nI (52 * p + d) - 1 from by grind]
    refine ih f Z0 _ (by omega) (by omega) (by rw [u4_app, if_neg (by omega)]; exact h10) (fun k t a w hn => ?_) (fun w g1 g2 => ?_)
    · rw [u4_app, if_neg (by omega)]; exact h1 k t a w (by omega)
    · rw [u4_app]
      by_cases ew : w = 52 * p + d + 52
      · subst ew
        rw [if_pos ⟨rfl, rfl, rfl, rfl⟩, h1 27 0 0 _ (by omega), Nat.add_sub_cancel]
      · rw [if_neg (by omega)]; exact h2 w (by omega) g2
/-- the class makes room for a plan -/
theorem k_shift {np p nl : Nat} (hp : p ≤ nl) (hl : nl < 5) (hnp : np < 2 ^ 31) : ∀ (d f : Nat) (S0 S : S4), p + d ≤ nl → d < f → (∀ q, q < nl → ∃ x, x < np ∧ S0 17 0 0 q = nI x) → S 4 0 0 5 = nI nl → (∀ k t a w, ¬ (k = 17 ∧ t = 0 ∧ a = 0 ∧ p + d < w ∧ w ≤ nl) → S k t a w = S0 k t a w) → (∀ w, p + d < w → w ≤ nl → S 17 0 0 w = S0 17 0 0 (w - 1)) →
    ∃ S', s_X4_putPlan_L45 np fu 0 i f (nI p) (nI (p + d)) S = gd (pcd (nI i) = some i) (some S') ∧ FS 0 S0 S' ∧ (∀ k a w, ¬ (k = 17 ∧ a = 0) → ¬ (k = 4 ∧ a = 0 ∧ w = 5) → cls S' 0 k a w = cls S0 0 k a w) ∧ cls S' 0 4 0 5 = nI (nl + 1) ∧ (∀ w, w < p → cls S' 0 17 0 w = cls S0 0 17 0 w) ∧ cls S' 0 17 0 p = nI i ∧ ∀ w, p < w → w ≤ nl → cls S' 0 17 0 w = cls S0 0 17 0 (w - 1) := by
  intro d
  induction d with
  | zero =>
    intro f S0 S hd hf hx h5 h1 h2
    obtain ⟨f, rfl⟩ : ∃ g, f = g + 1 := ⟨f - 1, by omega⟩
    rw [s_X4_putPlan_L45, Nat.add_zero, if_pos (nI_le (Nat.le_refl _) (by omega)), gd_t (inb_nI (by omega) (by decide)), nI_clamp (by omega)]
    have e5 : ∀ y, u4 S 17 0 0 p y 4 0 0 5 = nI nl := fun y => by rw [u4_app, if_neg (by omega)]; exact h5
    refine ⟨u4 (u4 S 17 0 0 p (nI i)) 4 0 0 5 (nI (nl + 1)), ?_, ?_, fun k a w g1 g2 => ?_, ?_, fun w hw => ?_, ?_, fun w g1 g2 => ?_⟩
    · rw [sv_e, e5, nI_1, sv_e]
    · intro k t hkt
      funext a w
      have hk : ¬ (k = 17 ∧ t = 0) := fun z => hkt ⟨by rw [z.1]; decide, z.2⟩
      have hk4 : ¬ (k = 4 ∧ t = 0) := fun z => hkt ⟨by rw [z.1]; decide, z.2⟩
      rw [u4_app, if_neg (by omega), u4_app, if_neg (by omega), h1 k t a w (by omega)]
    · show u4 (u4 S 17 0 0 p (nI i)) 4 0 0 5 (nI (nl + 1)) k 0 a w = S0 k 0 a w
      rw [u4_app, if_neg (by omega), u4_app, if_neg (by omega), h1 k 0 a w (by omega)]
    · show u4 (u4 S 17 0 0 p (nI i)) 4 0 0 5 (nI (nl + 1)) 4 0 0 5 = _
      rw [u4_app, if_pos ⟨rfl, rfl, rfl, rfl⟩]
    · show u4 (u4 S 17 0 0 p (nI i)) 4 0 0 5 (nI (nl + 1)) 17 0 0 w = S0 17 0 0 w
      rw [u4_app, if_neg (by omega), u4_app, if_neg (by omega), h1 17 0 0 w (by omega)]
    · show u4 (u4 S 17 0 0 p (nI i)) 4 0 0 5 (nI (nl + 1)) 17 0 0 p = _
      rw [u4_app, if_neg (by omega), u4_app, if_pos ⟨rfl, rfl, rfl, rfl⟩]
    · show u4 (u4 S 17 0 0 p (nI i)) 4 0 0 5 (nI (nl + 1)) 17 0 0 w = S0 17 0 0 (w - 1)
      rw [u4_app, if_neg (by omega), u4_app, if_neg (by omega)]
      exact h2 w (by omega) g2
  | succ d ih =>
    intro f S0 S hd hf hx h5 h1 h2
    obtain ⟨f, rfl⟩ : ∃ g, f = g + 1 := ⟨f - 1, by omega⟩
    obtain ⟨x, hx1, hx2⟩ := hx (p + d) (by omega)
    have e17 : S 17 0 0 (p + d) = nI x := by rw [h1 17 0 0 (p + d) (by omega)]; exact hx2
    rw [s_X4_putPlan_L45, if_neg (nI_ge (by omega) (by omega)), show p + (d + 1) = (p + d) + 1 by omega, nI_pred, gd_t (inb_nI (by omega) (by decide)), gd_t (inb_nI (by omega) (by decide)), show S 17 0 0 (nI (p + d)).toNatClampNeg = nI x from by rw [nI_clamp (by omega)]; exact e17, gd_t (show nI x < 0 ∨ (nI x).toNatClampNeg < np from Or.inr (by rw [nI_clamp (by omega)]; exact hx1)), nI_clamp (by omega), sv_e, pk_m1]
    refine ih f S0 _ (by omega) (by omega) hx (by rw [u4_app, if_neg (by omega)]; exact h5) (fun k t a w hn => ?_) (fun w g1 g2 => ?_)
    · rw [u4_app, if_neg (by omega)]; exact h1 k t a w (by omega)
    · rw [u4_app]
      by_cases ew : w = p + d + 1
      · subst ew
        rw [if_pos ⟨rfl, rfl, rfl, rfl⟩, Nat.add_sub_cancel, hx2]
      · rw [if_neg (by omega)]; exact h2 w (by omega) g2
end PO
