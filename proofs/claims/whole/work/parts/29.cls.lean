/-! the class' methods, over the tie -/
theorem cls_u {S : S4} {t k i j : Nat} {x : Int32} : cls (u4 S k t i j x) t = us (cls S t) k i j x := by
  funext a b c
  unfold cls us
  rw [u4_app]
  by_cases h : a = k ∧ b = i ∧ c = j
  · rw [if_pos ⟨h.1, rfl, h.2⟩, if_pos h]
  · rw [if_neg (fun z => h ⟨z.1, z.2.2⟩), if_neg h]
theorem pln_u {S : S4} {t k i j : Nat} {x : Int32} (hk : ¬ (k = 2 ∨ (10 ≤ k ∧ k ≤ 13))) : pln (u4 S k t i j x) = pln S := by
  funext a b c
  unfold pln
  by_cases h : a = 2 ∨ (10 ≤ a ∧ a ≤ 13)
  · rw [if_pos h, if_pos h, u4_app, if_neg (fun z => hk (by rw [← z.1]; exact h))]
  · rw [if_neg h, if_neg h]
theorem pln_fs {t : Nat} {S S' : S4} (h : FS t S S') : pln S' = pln S := by
  funext a b c
  unfold pln
  by_cases hk : a = 2 ∨ (10 ≤ a ∧ a ≤ 13)
  · rw [if_pos hk, if_pos hk, h a 0 (by simp only [stk, decide_eq_true_eq]; omega)]
  · rw [if_neg hk, if_neg hk]
theorem rk2 (S : S4) {i j : Nat} : S 2 0 i j = pln S 2 i j := by unfold pln; rw [if_pos (by decide)]
theorem rk10 (S : S4) {i j : Nat} : S 10 0 i j = pln S 10 i j := by unfold pln; rw [if_pos (by decide)]
theorem rk11 (S : S4) {i j : Nat} : S 11 0 i j = pln S 11 i j := by unfold pln; rw [if_pos (by decide)]
theorem rk12 (S : S4) {i j : Nat} : S 12 0 i j = pln S 12 i j := by unfold pln; rw [if_pos (by decide)]
theorem rk13 (S : S4) {i j : Nat} : S 13 0 i j = pln S 13 i j := by unfold pln; rw [if_pos (by decide)]
theorem rcl (S : S4) {t k i j : Nat} : S k t i j = cls S t k i j := rfl
theorem pcd_nI {i : Nat} (h : i < 2 ^ 31) : pcd (nI i) = some i := by
  unfold pcd
  rw [if_neg (nI_pos h), nI_clamp h]
theorem k_isIn {S : S4} {v a b : Int32} : s_X6_isIn v a b S = some (b2 (a ≤ v ∧ v ≤ b)) := by
  unfold s_X6_isIn b2
  by_cases h1 : v < a
  · rw [if_pos h1, if_neg (fun h => by have := h.1; exact absurd h1 (Int32.not_lt.mpr this))]
  · rw [if_neg h1]
    by_cases h2 : b < v
    · rw [if_pos h2, if_neg (fun h => absurd h2 (Int32.not_lt.mpr h.2))]
    · rw [if_neg h2, if_pos ⟨Int32.not_lt.mp h1, Int32.not_lt.mp h2⟩]
theorem k_isUsable {S : S4} {t c : Nat} {v : Vw} (hE : ∀ j, j < 15 → cls S t 0 c j = v 2 c j) : s_X0_isUsable t c S = some (b2 (usbl v c)) := by
  unfold s_X0_isUsable
  rw [rcl S, rcl S, rcl S, rcl S, rcl S, hE 9 (by decide), hE 7 (by decide), hE 8 (by decide), hE 1 (by decide), hE 6 (by decide)]
  unfold b2 usbl
  by_cases h1 : v 2 c 9 = 0
  · by_cases h2 : v 2 c 7 = 0
    · by_cases h3 : v 2 c 8 = 0
      · by_cases h4 : v 2 c 6 < v 2 c 1
        · rw [if_pos h1, if_pos h2, if_pos h3, if_neg (Int32.not_le.mpr h4), if_pos ⟨h1, h2, h3, h4⟩]
        · rw [if_pos h1, if_pos h2, if_pos h3, if_pos (Int32.not_lt.mp h4), if_neg (fun z => h4 z.2.2.2)]
      · rw [if_pos h1, if_pos h2, if_neg h3, if_neg (fun z => h3 z.2.2.1)]
    · rw [if_pos h1, if_neg h2, if_neg (fun z => h2 z.2.1)]
  · rw [if_neg h1, if_neg (fun z => h1 z.1)]
theorem k_isOpenFor {S : S4} {t q c nc : Nat} {v : Vw} (h4 : cls S t 4 0 4 = nI nc) (h8 : nc ≤ 8) (hc : c < nc) (hE : ∀ j, j < 15 → cls S t 0 c j = v 2 c j) (h11 : cls S t 1 q 11 = v 4 q 11) : s_X4_isOpenFor t (nI c) t q S = some (b2 (cgo v q c)) := by
  unfold s_X4_isOpenFor
  rw [k_isIn, bd_s, b2_if, if_pos ⟨nI_pos' (by omega), by rw [rcl S, h4, show nI nc - 1 = nI (nc - 1) from pk_sub (a := nc) (b := 1) (by omega)]; exact nI_le (by omega) (by omega)⟩, gd_t (inb_nI (by omega) (by decide)), nI_clamp (by omega), k_isUsable hE, bd_s, b2_if]
  by_cases h : usbl v c
  · have e : s_X1_isSpoiltFor t q (nI c) S = some (b2 (splt (v 4 q 11) c)) := by
      unfold s_X1_isSpoiltFor b2
      rw [rcl S, h11]
      by_cases h : splt (v 4 q 11) c
      · rw [if_pos h, if_pos h]
      · rw [if_neg h, if_neg h]
    rw [if_pos h, e, bd_s, b2_if]
    by_cases h2 : splt (v 4 q 11) c
    · rw [if_pos h2, b2_f (fun z => z.2 h2)]
    · rw [if_neg h2, b2_t ⟨h, h2⟩]
  · rw [if_neg h, b2_f (fun z => h z.1)]
def pofc (o : Option Nat) : Nat := match o with
  | none => 0
  | some p => p + 1
theorem pof_full {v : Vw} {nl : Nat} {tick : Int32} (ho : ∀ a b, a < b → b < nl → v 3 a 0 < v 3 b 0) : ∀ {k : Nat}, k < nl → v 3 k 0 ≤ tick → pofc (pof v tick k) = k := by
  intro k hk h
  cases k with
  | zero => rfl
  | succ k =>
    rw [pof, if_pos (by have := ho k (k + 1) (by omega) hk; grind)]
    rfl
theorem k_plansUntil_L {S : S4} {np fu t nl : Nat} {tick : Int32} {v : Vw} (h5 : cls S t 4 0 5 = nI nl) (hl : nl ≤ 5) (hnp : np < 2 ^ 31) (hp : ∀ p, p < nl → ∃ i, i < np ∧ cls S t 17 0 p = nI i ∧ PM (pln S) v i p) (ho : ∀ a b, a < b → b < nl → v 3 a 0 < v 3 b 0) : ∀ (d k f : Nat), k + d = nl → d < f → s_X4_plansUntil_L4 np fu t tick S f (nI (pofc (pof v tick k))) (nI k) = some (nI (pofc (pof v tick nl))) := by
  intro d
  induction d with
  | zero =>
    intro k f hk hf
    obtain ⟨f, rfl⟩ : ∃ g, f = g + 1 := ⟨f - 1, by omega⟩
    obtain rfl : k = nl := by omega
    rw [s_X4_plansUntil_L4, rcl S, h5, if_pos (nI_le (Nat.le_refl _) (by omega))]
  | succ d ih =>
    intro k f hk hf
    obtain ⟨f, rfl⟩ : ∃ g, f = g + 1 := ⟨f - 1, by omega⟩
    obtain ⟨i, hi, hi17, hM⟩ := hp k (by omega)
    rw [s_X4_plansUntil_L4, rcl S, h5, if_neg (nI_ge (by omega) (by omega)), gd_t (inb_nI (by omega) (by decide)), nI_clamp (by omega), rcl S, hi17, pcd_nI (by omega), bd_s, gd_t hi, rk2 S, hM.1]
    have h9 := ih (k + 1) f (by omega) (by omega)
    rw [pof] at h9
    by_cases h : tick < v 3 k 0
    · rw [if_pos h, nI_1]
      rw [if_neg (Int32.not_le.mpr h)] at h9
      exact h9
    · rw [if_neg h, nI_1, nI_1, pof_full ho (by omega) (Int32.not_lt.mp h)]
      rw [if_pos (Int32.not_lt.mp h)] at h9
      exact h9
theorem k_planOf {S : S4} {np fu t nl : Nat} {tick : Int32} {v : Vw} (h5 : cls S t 4 0 5 = nI nl) (hl : nl ≤ 5) (hnp : np < 2 ^ 31) (hp : ∀ p, p < nl → ∃ i, i < np ∧ cls S t 17 0 p = nI i ∧ PM (pln S) v i p) (ho : ∀ a b, a < b → b < nl → v 3 a 0 < v 3 b 0) (hf : 5 < fu) :
    (pof v tick nl = none → s_X4_planOf np fu t tick S = some none) ∧ ∀ p, pof v tick nl = some p → ∃ i, i < np ∧ s_X4_planOf np fu t tick S = some (some i) ∧ PM (pln S) v i p := by
  have h1 := k_plansUntil_L (np := np) (fu := fu) (tick := tick) h5 hl hnp hp ho nl 0 fu (by omega) (by omega)
  have h2 : s_X4_plansUntil np fu t tick S = some (nI (pofc (pof v tick nl))) := h1
  refine ⟨fun h => ?_, fun p h => ?_⟩
  · unfold s_X4_planOf
    rw [h2, h, bd_s, if_pos (by decide)]
  · have hpl := pof_lt h
    obtain ⟨i, hi, hi17, hM⟩ := hp p hpl
    refine ⟨i, hi, ?_, hM⟩
    unfold s_X4_planOf
    rw [h2, h, bd_s, show pofc (some p) = p + 1 from rfl, if_neg (nI_nle (by omega) (by omega)), nI_pred, gd_t (inb_nI (by omega) (by decide)), nI_clamp (by omega), rcl S, hi17, pcd_nI (by omega)]
theorem k_ruleOf_L {S : S4} {fu i p m : Nat} {d : Int32} {v : Vw} (hM : PM (pln S) v i p) (hm : v 3 p 1 = nI m) (h8 : m ≤ 8) : ∀ (n r f : Nat), r + n = m → n < f → s_X2_ruleOf_L2 fu i d S f (nI r) = some (cd (rul v p d n r)) := by
  obtain ⟨g0, g1, g2, g3, g4⟩ := hM
  rw [hm, nI_clamp (by omega)] at g4
  intro n
  induction n with
  | zero =>
    intro r f hr hf
    obtain ⟨f, rfl⟩ : ∃ g, f = g + 1 := ⟨f - 1, by omega⟩
    rw [s_X2_ruleOf_L2, rk2 S, g1, hm, if_pos (nI_le (by omega) (by omega))]
    rfl
  | succ n ih =>
    intro r f hr hf
    obtain ⟨f, rfl⟩ : ∃ g, f = g + 1 := ⟨f - 1, by omega⟩
    obtain ⟨e1, e2, -, -⟩ := g4 r (by omega)
    rw [s_X2_ruleOf_L2, rk2 S, g1, hm, if_neg (nI_ge (by omega) (by omega)), gd_t (inb_nI (by omega) (by decide)), gd_t (inb_nI (by omega) (by decide)), nI_clamp (by omega), rk10 S, rk11 S, e1, e2, k_isIn, bd_s, b2_if, rul]
    by_cases h : v 3 p (4 + 6 * r + 0) ≤ d ∧ d ≤ v 3 p (4 + 6 * r + 1)
    · rw [if_pos h, if_pos h]
      rfl
    · rw [if_neg h, if_neg h, nI_1]
      exact ih (r + 1) f (by omega) (by omega)
theorem k_ruleOf {S : S4} {fu i p m : Nat} {d : Int32} {v : Vw} (hM : PM (pln S) v i p) (hm : v 3 p 1 = nI m) (h8 : m ≤ 8) (hf : 8 < fu) : s_X2_ruleOf fu i d S = some (cd (rul v p d m 0)) :=
  k_ruleOf_L hM hm h8 m 0 fu (by omega) (by omega)
theorem k_chuteIn {S : S4} {i p r k m n nc : Nat} {v : Vw} (hM : PM (pln S) v i p) (hm : v 3 p 1 = nI m) (h8 : m ≤ 8) (hr : r < m) (hV : VR v nc p r n) (hk : k < n) : s_X2_chuteIn i (nI r) (nI k) S = some (v 3 p (4 + 6 * r + (3 + k))) := by
  obtain ⟨g0, g1, g2, g3, g4⟩ := hM
  rw [hm, nI_clamp (by omega)] at g4
  obtain ⟨-, -, -, e4⟩ := g4 r hr
  obtain ⟨w1, w2, w3⟩ := hV
  rw [w1, nI_clamp (by omega)] at e4
  have e : nI r * (3 : Int32) + nI k = nI (r * 3 + k) := by rw [show (3 : Int32) = nI 3 from rfl, pk_mul, nI_add]
  obtain ⟨h1, h2⟩ := idx_nI (N := 24) e (by omega) (by omega)
  unfold s_X2_chuteIn
  rw [gd_t h1, h2, rk13 S, e4 k hk]
theorem k_hasChute_L {S : S4} {fu i p r m n nc : Nat} {x : Int32} {v : Vw} (hM : PM (pln S) v i p) (hm : v 3 p 1 = nI m) (h8 : m ≤ 8) (hr : r < m) (hV : VR v nc p r n) : ∀ (d k f : Nat), k + d = n → d < f → s_X2_hasChute_L2 fu i (nI r) x S f (nI k) = some (b2 (hasc v p r x d k = true)) := by
  have g4 := hM.2.2.2.2
  rw [hm, nI_clamp (by omega)] at g4
  obtain ⟨-, -, e3, -⟩ := g4 r hr
  have hn3 := hV.2.1
  intro d
  induction d with
  | zero =>
    intro k f hk hf
    obtain ⟨f, rfl⟩ : ∃ g, f = g + 1 := ⟨f - 1, by omega⟩
    rw [s_X2_hasChute_L2, gd_t (inb_nI (by omega) (by decide)), nI_clamp (by omega), rk12 S, e3, hV.1, if_pos (nI_le (by omega) (by omega))]
    rfl
  | succ d ih =>
    intro k f hk hf
    obtain ⟨f, rfl⟩ : ∃ g, f = g + 1 := ⟨f - 1, by omega⟩
    rw [s_X2_hasChute_L2, gd_t (inb_nI (by omega) (by decide)), nI_clamp (by omega), rk12 S, e3, hV.1, if_neg (nI_ge (by omega) (by omega)), k_chuteIn hM hm h8 hr hV (by omega), bd_s, hasc]
    by_cases h : v 3 p (4 + 6 * r + (3 + k)) = x
    · rw [if_pos h, if_pos h]
      rfl
    · rw [if_neg h, if_neg h, nI_1]
      exact ih (k + 1) f (by omega) (by omega)
theorem k_wrong {S : S4} {t q : Nat} {v : Vw} (h3 : cls S t 1 q 3 = v 4 q 3) : (if S 1 t q 3 = 1 then some (2 : Int32) else some 3) = some (wrong v q) := by
  unfold wrong
  rw [rcl S, h3]
  by_cases h : v 4 q 3 = 1
  · rw [if_pos h, if_pos h]
  · rw [if_neg h, if_neg h]
theorem k_verd {S : S4} {np fu t q c nl nc : Nat} {v : Vw} (ht : cls S t 4 0 0 = v 6 0 6) (hn : v 6 0 3 = nI nl) (h5 : cls S t 4 0 5 = nI nl) (hl : nl ≤ 5) (hnp : np < 2 ^ 31) (hp : ∀ p, p < nl → (∃ m x, VP v nc p m x) ∧ ∃ i, i < np ∧ cls S t 17 0 p = nI i ∧ PM (pln S) v i p) (ho : ∀ a b, a < b → b < nl → v 3 a 0 < v 3 b 0) (h3 : cls S t 1 q 3 = v 4 q 3) (h0 : cls S t 1 q 0 = v 4 q 0) (hf : 8 < fu) : s_X4_verdictOf np fu t t q (nI c) S = some (verd v q c) := by
  have hnlp : nlp v = nl := by unfold nlp; rw [hn]; exact nI_clamp (by omega)
  obtain ⟨g1, g2⟩ := k_planOf (tick := v 6 0 6) (fu := fu) h5 hl hnp (fun p hpl => (hp p hpl).2) ho (by omega)
  unfold s_X4_verdictOf verd
  rw [rcl S, ht, hnlp]
  cases hpo : pof v (tmv v) nl with
  | none =>
    dsimp only
    rw [g1 hpo, bd_s, if_pos rfl, k_wrong h3]
  | some p =>
    dsimp only
    obtain ⟨i, hi, e1, hM⟩ := g2 p hpo
    obtain ⟨⟨m, x, hm, hm8, hx, hcc, hrr⟩, -⟩ := hp p (pof_lt hpo)
    have hrf : rof v p (v 4 q 0) = rul v p (v 4 q 0) m 0 := by unfold rof; rw [hm, nI_clamp (by omega)]
    rw [e1, bd_s, if_neg (by intro z; cases z), bd_s, gd_t hi, rk2 S, hM.2.2.1]
    by_cases c1 : v 3 p 2 = nI c
    · rw [if_pos c1, if_pos c1]
    · rw [if_neg c1, if_neg c1, rcl S, h0, k_ruleOf hM hm hm8 hf, bd_s, hrf]
      cases hr : rul v p (v 4 q 0) m 0 with
      | none =>
        dsimp only
        rw [show cd none = (-1 : Int32) from rfl, if_pos rfl, k_wrong h3]
      | some r =>
        dsimp only
        have hrl := rul_lt hr
        obtain ⟨n, hVR⟩ := hrr r (by omega)
        have hn3 := hVR.2.1
        have hh : s_X2_hasChute fu i (nI r) (nI c) S = some (b2 (hasc v p r (nI c) n 0 = true)) := k_hasChute_L hM hm hm8 (by omega) hVR n 0 fu (by omega) (by omega)
        rw [show cd (some r) = nI r from rfl, if_neg (nI_m1 (by omega)), hh, bd_s, b2_if, k_wrong h3, hVR.1, nI_clamp (by omega)]
        by_cases hz : hasc v p r (nI c) n 0 = true
        · rw [if_pos hz, if_pos hz]
        · rw [if_neg hz, if_neg hz]
