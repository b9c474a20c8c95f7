/-! the two readers of a plan -/
def wps (S : S4) (i a : Nat) : S4 := u4 S 3 0 i 1 (nI a)
def wat (Z : S4) (a : Nat) : S4 := u4 Z 7 0 0 17 (nI a)
def TX (S Z : S4) (i len a : Nat) : Prop := S 3 0 i 1 = nI a ∧ S 3 0 i 3 = nI len ∧ Z 7 0 0 17 = nI a ∧ Z 7 0 0 16 = nI len ∧ a ≤ len ∧ len ≤ 80 ∧ ∀ j, j < len → S 23 0 0 j = Z 30 0 0 j
theorem wps_same {S : S4} {i a : Nat} (h : S 3 0 i 1 = nI a) : wps S i a = S := by
  funext k t j w
  unfold wps
  rw [u4_app]
  by_cases e : k = 3 ∧ t = 0 ∧ j = i ∧ w = 1
  · obtain ⟨rfl, rfl, rfl, rfl⟩ := e
    rw [if_pos ⟨rfl, rfl, rfl, rfl⟩, h]
  · rw [if_neg e]
theorem wat_same {Z : S4} {a : Nat} (h : Z 7 0 0 17 = nI a) : wat Z a = Z := by
  funext k t j w
  unfold wat
  rw [u4_app]
  by_cases e : k = 7 ∧ t = 0 ∧ j = 0 ∧ w = 17
  · obtain ⟨rfl, rfl, rfl, rfl⟩ := e
    rw [if_pos ⟨rfl, rfl, rfl, rfl⟩, h]
  · rw [if_neg e]
theorem wps_wps {S : S4} {i a b : Nat} : wps (wps S i a) i b = wps S i b := by
  funext k t j w
  unfold wps
  rw [u4_app, u4_app, u4_app]
  by_cases e : k = 3 ∧ t = 0 ∧ j = i ∧ w = 1
  · rw [if_pos e, if_pos e]
  · rw [if_neg e, if_neg e, if_neg e]
theorem wat_wat {Z : S4} {a b : Nat} : wat (wat Z a) b = wat Z b := by
  funext k t j w
  unfold wat
  rw [u4_app, u4_app, u4_app]
  by_cases e : k = 7 ∧ t = 0 ∧ j = 0 ∧ w = 17
  · rw [if_pos e, if_pos e]
  · rw [if_neg e, if_neg e, if_neg e]
theorem wps_ne {S : S4} {i a k t j w : Nat} (h : ¬ (k = 3 ∧ j = i ∧ w = 1)) : wps S i a k t j w = S k t j w := by unfold wps; rw [u4_app, if_neg (by omega)]
theorem wat_ne {Z : S4} {a k t j w : Nat} (h : ¬ (k = 7 ∧ w = 17)) : wat Z a k t j w = Z k t j w := by unfold wat; rw [u4_app, if_neg (by omega)]
theorem TX.go {S Z : S4} {i len a a' : Nat} (h : TX S Z i len a) (ha : a' ≤ len) : TX (wps S i a') (wat Z a') i len a' := by
  obtain ⟨h1, h2, h3, h4, h5, h6, h7⟩ := h
  refine ⟨?_, ?_, ?_, ?_, ha, h6, fun j hj => ?_⟩
  · unfold wps; rw [u4_app, if_pos ⟨rfl, rfl, rfl, rfl⟩]
  · rw [wps_ne (by omega)]; exact h2
  · unfold wat; rw [u4_app, if_pos ⟨rfl, rfl, rfl, rfl⟩]
  · rw [wat_ne (by omega)]; exact h4
  · rw [wps_ne (by omega), wat_ne (by omega)]; exact h7 j hj
theorem TX.of {S S' Z Z' : S4} {i len a : Nat} (h : TX S Z i len a) (h1 : S' 3 0 i = S 3 0 i) (h2 : S' 23 = S 23) (h3 : Z' 7 = Z 7) (h4 : Z' 30 = Z 30) : TX S' Z' i len a := by
  unfold TX at *
  rw [h1, h2, h3, h4]
  exact h
theorem skip_eq {c x : Int32} : (if c < x then some (0 : Int32) else if x < c then some 0 else some 1) = some (b2 (c = x)) := by
  by_cases h1 : c < x
  · rw [if_pos h1, b2_f (fun z => by subst z; exact absurd h1 (by grind))]
  · rw [if_neg h1]
    by_cases h2 : x < c
    · rw [if_pos h2, b2_f (fun z => by subst z; exact absurd h2 (by grind))]
    · rw [if_neg h2, b2_t (Int32.le_antisymm (Int32.not_lt.mp h2) (Int32.not_lt.mp h1))]
section PS
variable {fu i len : Nat} {S Z : S4}
/-- both skip the sign, or neither does -/
theorem t_skip {a : Nat} {x : Int32} (h : TX S Z i len a) : (s_X3_skip i x S = some (0, S) ∧ s_X7_skips x Z = some (0, Z)) ∨ (a < len ∧ s_X3_skip i x S = some (1, wps S i (a + 1)) ∧ s_X7_skips x Z = some (1, wat Z (a + 1))) := by
  obtain ⟨h1, h2, h3, h4, h5, h6, h7⟩ := h
  unfold s_X3_skip s_X7_skips s_X7_isNext
  rw [h1, h2, h3, h4]
  by_cases e : a = len
  · subst e
    rw [if_pos (nI_le (Nat.le_refl _) (by omega)), if_pos (nI_le (Nat.le_refl _) (by omega)), bd_s, if_pos rfl, gd_t (Or.inl rfl), bd_s, if_pos rfl]
    exact Or.inl ⟨rfl, rfl⟩
  · have e1 : (if S 23 0 0 a = x then some (1 : Int32) else some 0) = some (b2 (Z 30 0 0 a = x)) := by
      rw [h7 a (by omega)]
      unfold b2
      by_cases hc : Z 30 0 0 a = x
      · rw [if_pos hc, if_pos hc]
      · rw [if_neg hc, if_neg hc]
    rw [if_neg (nI_ge (by omega) (by omega)), if_neg (nI_ge (by omega) (by omega)), gd_t (inb_nI (by omega) (by decide)), gd_t (inb_nI (by omega) (by decide)), gd_t (inb_nI (by omega) (by decide)), nI_clamp (by omega), e1, bd_s, skip_eq, bd_s, b2_if, b2_if]
    by_cases hc : Z 30 0 0 a = x
    · rw [if_pos hc, if_pos hc, b2_t hc, sv_e, sv_e, nI_1, gd_t (Or.inr rfl)]
      exact Or.inr ⟨by omega, rfl, rfl⟩
    · rw [if_neg hc, if_neg hc, b2_f hc, gd_t (Or.inl rfl)]
      exact Or.inl ⟨rfl, rfl⟩
theorem dig_iff {c : Int32} {g : Nat} (hg : g ≤ 9) : (if c - 48 < 0 then some (-1 : Int32) else if nI g < c - 48 then some (-1) else some (c - 48)) = some (if 48 ≤ c ∧ c ≤ nI (48 + g) then c - 48 else -1) := by
  have hG : (nI g).toInt = g := nI_toInt (by omega)
  have hG2 : (nI (48 + g)).toInt = ((48 + g : Nat) : Int) := nI_toInt (by omega)
  have hs : (c - 48).toInt = (c.toInt - 48).bmod (2 ^ 32) := by rw [Int32.toInt_sub]; rfl
  have h1 := Int32.le_toInt c
  have h2 := Int32.toInt_lt c
  have hb : (c.toInt - 48).bmod (2 ^ 32) = if c.toInt < -2147483600 then c.toInt - 48 + 4294967296 else c.toInt - 48 := by
    rw [Int.bmod_def, show ((2 ^ 32 : Nat) : Int) = 4294967296 from rfl]
    split <;> split <;> omega
  by_cases hc : (48 : Int32) ≤ c ∧ c ≤ nI (48 + g)
  · have c1 : (48 : Int) ≤ c.toInt := Int32.le_iff_toInt_le.mp hc.1
    have c2 : c.toInt ≤ ((48 + g : Nat) : Int) := by rw [← hG2]; exact Int32.le_iff_toInt_le.mp hc.2
    rw [if_pos hc, if_neg (by rw [Int32.lt_iff_toInt_lt, hs, hb, if_neg (by omega), Int32.toInt_zero]; omega), if_neg (by rw [Int32.lt_iff_toInt_lt, hs, hb, if_neg (by omega), hG]; omega)]
  · rw [if_neg hc]
    by_cases h0 : c - 48 < 0
    · rw [if_pos h0]
    · rw [if_neg h0, if_pos]
      rw [Int32.lt_iff_toInt_lt, hs, hb, Int32.toInt_zero] at h0
      rw [Int32.lt_iff_toInt_lt, hs, hb, hG]
      have hc' : ¬ ((48 : Int) ≤ c.toInt ∧ c.toInt ≤ ((48 + g : Nat) : Int)) := fun z => hc ⟨Int32.le_iff_toInt_le.mpr z.1, Int32.le_iff_toInt_le.mpr (by rw [hG2]; exact z.2)⟩
      split at h0 <;> split <;> omega
theorem dig_val {c : Int32} {g : Nat} (hg : g ≤ 9) (h : 48 ≤ c ∧ c ≤ nI (48 + g)) : ∃ n, n ≤ g ∧ c - 48 = nI n ∧ c = nI (48 + n) := by
  obtain ⟨m, hm, rfl⟩ := what_cases (n := 48 + g) (by omega) ⟨Int32.le_trans (by decide) h.1, h.2⟩
  have : 48 ≤ m := (nI_leI (a := 48) (b := m) (by decide) (by omega)).mp h.1
  exact ⟨m - 48, by omega, show nI m - nI 48 = nI (m - 48) from pk_sub this, by rw [show 48 + (m - 48) = m by omega]⟩
/-- the next sign is a digit up to g: on both sides, with its value; or on neither -/
theorem t_digit {a g : Nat} {hi : Int32} (hg : g ≤ 9) (hhi : hi = nI (48 + g)) (h : TX S Z i len a) : (s_X3_nextDigit i (nI g) S = some (-1) ∧ s_X7_isNext 48 hi Z = some 0) ∨ ∃ n, n ≤ g ∧ a < len ∧ s_X3_nextDigit i (nI g) S = some (nI n) ∧ s_X7_isNext 48 hi Z = some 1 ∧ Z 30 0 0 a = nI (48 + n) ∧ Z 30 0 0 a - 48 = nI n := by
  obtain ⟨h1, h2, h3, h4, h5, h6, h7⟩ := h
  unfold s_X3_nextDigit s_X7_isNext
  rw [h1, h2, h3, h4]
  by_cases e : a = len
  · subst e
    rw [if_pos (nI_le (Nat.le_refl _) (by omega)), if_pos (nI_le (Nat.le_refl _) (by omega)), bd_s, if_pos (by decide)]
    exact Or.inl ⟨rfl, rfl⟩
  · rw [if_neg (nI_ge (by omega) (by omega)), if_neg (nI_ge (by omega) (by omega)), gd_t (inb_nI (by omega) (by decide)), gd_t (inb_nI (by omega) (by decide)), gd_t (inb_nI (by omega) (by decide)), nI_clamp (by omega), bd_s, dig_iff hg, h7 a (by omega), hhi]
    by_cases hc : (48 : Int32) ≤ Z 30 0 0 a ∧ Z 30 0 0 a ≤ nI (48 + g)
    · obtain ⟨n, hn, e1, e2⟩ := dig_val hg hc
      rw [if_pos hc, if_neg (Int32.not_lt.mpr hc.1), if_neg (Int32.not_lt.mpr hc.2)]
      exact Or.inr ⟨n, hn, by omega, by rw [e1], rfl, e2, e1⟩
    · rw [if_neg hc]
      refine Or.inl ⟨rfl, ?_⟩
      by_cases hl : Z 30 0 0 a < 48
      · rw [if_pos hl]
      · rw [if_neg hl, if_pos (Int32.not_le.mp (fun z => hc ⟨Int32.not_lt.mp hl, z⟩))]
theorem t_readDigit {a g : Nat} {hi : Int32} (hg : g ≤ 9) (hhi : hi = nI (48 + g)) (h : TX S Z i len a) : (s_X3_readDigit i (nI g) S = some (-1, S) ∧ s_X7_isNext 48 hi Z = some 0) ∨ ∃ n, n ≤ g ∧ a < len ∧ s_X3_readDigit i (nI g) S = some (nI n, wps S i (a + 1)) ∧ s_X7_isNext 48 hi Z = some 1 ∧ Z 30 0 0 a = nI (48 + n) ∧ Z 30 0 0 a - 48 = nI n := by
  unfold s_X3_readDigit
  rcases t_digit hg hhi h with ⟨e1, e2⟩ | ⟨n, hn, ha, e1, e2, e3, e4⟩
  · rw [e1, bd_s, if_pos rfl]
    exact Or.inl ⟨rfl, e2⟩
  · rw [e1, bd_s, if_neg (nI_m1 (by omega)), sv_e, h.1, nI_1]
    exact Or.inr ⟨n, hn, ha, rfl, e2, e3, e4⟩
theorem num_L : ∀ (d j f f' v a : Nat) (S Z : S4), j + d = 4 → 1 ≤ j → d < f → d < f' → v < 10 ^ j → TX S Z i len a → ∃ n a', n ≤ 9999 ∧ a' ≤ len ∧ s_X3_readNumber_L16 fu i f (nI v) (nI j) S = some (nI n, wps S i a') ∧ s_X7_takesNumber_L4 fu f' (nI v) (nI j) Z = some (nI n, wat Z a') := by
  intro d
  induction d with
  | zero =>
    intro j f f' v a S Z hj h1 hf hf' hv h
    obtain ⟨f, rfl⟩ : ∃ g, f = g + 1 := ⟨f - 1, by omega⟩
    obtain ⟨f', rfl⟩ : ∃ g, f' = g + 1 := ⟨f' - 1, by omega⟩
    obtain rfl : j = 4 := by omega
    rw [s_X3_readNumber_L16, s_X7_takesNumber_L4, if_pos (by decide), if_pos (by decide)]
    exact ⟨v, a, by omega, h.2.2.2.2.1, by rw [wps_same h.1], by rw [wat_same h.2.2.1]⟩
  | succ d ih =>
    intro j f f' v a S Z hj h1 hf hf' hv h
    obtain ⟨f, rfl⟩ : ∃ g, f = g + 1 := ⟨f - 1, by omega⟩
    obtain ⟨f', rfl⟩ : ∃ g, f' = g + 1 := ⟨f' - 1, by omega⟩
    have hv4 : v < 1000 := by
      have : (10 : Nat) ^ j ≤ 10 ^ 3 := Nat.pow_le_pow_right (by decide) (by omega)
      omega
    rw [s_X3_readNumber_L16, s_X7_takesNumber_L4, if_neg (show ¬ (4 : Int32) ≤ nI j from nI_ge (b := 4) (by omega) (by decide)), if_neg (show ¬ (4 : Int32) ≤ nI j from nI_ge (b := 4) (by omega) (by decide))]
    rcases t_readDigit (g := 9) (hi := 57) (by decide) rfl h with ⟨e1, e2⟩ | ⟨n, hn, ha, e1, e2, e3, e4⟩
    · have e1' : s_X3_readDigit i 9 S = _ := e1
      rw [e1', bd_s, e2, bd_s, if_pos rfl, if_pos rfl]
      exact ⟨v, a, by omega, h.2.2.2.2.1, by rw [wps_same h.1], by rw [wat_same h.2.2.1]⟩
    · have e1' : s_X3_readDigit i 9 S = _ := e1
      have h80 := h.2.2.2.2.2.1
      rw [e1', bd_s, e2, bd_s, if_neg (show ¬ (1 : Int32) = 0 by decide), if_pos (nI_pos' (by omega)), bd_s, h.2.2.1, gd_t (inb_nI (by omega) (by decide)), sv_e, nI_clamp (by omega), e3, nI_1, nI_1]
      dsimp only
      rw [if_neg (nI_m1 (by omega)), show nI v * (10 : Int32) + nI n = nI (v * 10 + n) from by rw [show (10 : Int32) = nI 10 from rfl, pk_mul, nI_add], show (10 : Int32) * nI v + nI (48 + n) - 48 = nI (v * 10 + n) from by
        rw [show (10 : Int32) = nI 10 from rfl, pk_mul, nI_add]
        show nI (10 * v + (48 + n)) - nI 48 = _
        rw [pk_sub (by omega)]
        congr 1
        omega]
      have hp : v * 10 + n < 10 ^ (j + 1) := by rw [Nat.pow_succ]; omega
      obtain ⟨m, a', g1, g2, g3, g4⟩ := ih (j + 1) f f' (v * 10 + n) (a + 1) (wps S i (a + 1)) (wat Z (a + 1)) (by omega) (by omega) (by omega) (by omega) hp (h.go (by omega))
      rw [wps_wps] at g3
      rw [wat_wat] at g4
      exact ⟨m, a', g1, g2, g3, g4⟩
/-- both read the same number -/
theorem t_number {a : Nat} (hf : 10 < fu) (h : TX S Z i len a) : (s_X3_readNumber fu i S = some (-1, S) ∧ s_X7_takesNumber fu Z = some (-1, Z)) ∨ ∃ n a', n ≤ 9999 ∧ a' ≤ len ∧ s_X3_readNumber fu i S = some (nI n, wps S i a') ∧ s_X7_takesNumber fu Z = some (nI n, wat Z a') := by
  obtain ⟨f, rfl⟩ : ∃ g, fu = g + 1 := ⟨fu - 1, by omega⟩
  unfold s_X3_readNumber s_X7_takesNumber
  rw [s_X7_takesNumber_L4, if_neg (by decide)]
  rcases t_readDigit (g := 9) (hi := 57) (by decide) rfl h with ⟨e1, e2⟩ | ⟨n, hn, ha, e1, e2, e3, e4⟩
  · have e1' : s_X3_readDigit i 9 S = _ := e1
    rw [e1', bd_s, e2, bd_s, if_pos rfl, if_pos rfl]
    exact Or.inl ⟨rfl, rfl⟩
  · have e1' : s_X3_readDigit i 9 S = _ := e1
    have h80 := h.2.2.2.2.2.1
    rw [e1', bd_s, e2, bd_s, if_neg (show ¬ (1 : Int32) = 0 by decide), if_neg (show ¬ (0 : Int32) ≤ -1 by decide), bd_s, h.2.2.1, gd_t (inb_nI (by omega) (by decide)), sv_e, nI_clamp (by omega), nI_1]
    dsimp only
    rw [if_neg (nI_m1 (by omega)), show (10 : Int32) * 0 + Z 30 0 0 a - 48 = nI n from by rw [← e4]; grind, show (0 : Int32) + 1 = nI 1 from rfl, show (1 : Int32) = nI 1 from rfl]
    obtain ⟨m, a', g1, g2, g3, g4⟩ := num_L (fu := f + 1) (i := i) (len := len) 3 1 (f + 1) f n (a + 1) (wps S i (a + 1)) (wat Z (a + 1)) (by omega) (by omega) (by omega) (by omega) (by omega) (h.go (by omega))
    rw [wps_wps] at g3
    rw [wat_wat] at g4
    exact Or.inr ⟨m, a', g1, g2, g3, g4⟩
end PS
