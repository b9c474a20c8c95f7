/-! the reference's methods, over the view -/
theorem us_us_ne {v : Vw} {k i j k' i' j' : Nat} {x y : Int32} (h : ¬ (k = k' ∧ i = i' ∧ j = j')) : us (us v k i j x) k' i' j' y = us (us v k' i' j' y) k i j x := by
  funext a b c
  simp only [us]
  by_cases h1 : a = k ∧ b = i ∧ c = j
  · by_cases h2 : a = k' ∧ b = i' ∧ c = j'
    · exact absurd ⟨h1.1.symm.trans h2.1, h1.2.1.symm.trans h2.2.1, h1.2.2.symm.trans h2.2.2⟩ h
    · rw [if_neg h2, if_pos h1, if_pos h1]
  · by_cases h2 : a = k' ∧ b = i' ∧ c = j'
    · rw [if_pos h2, if_neg h1, if_pos h2]
    · rw [if_neg h2, if_neg h1, if_neg h1, if_neg h2]
theorem us_us {v : Vw} {k i j : Nat} {x y : Int32} : us (us v k i j x) k i j y = us v k i j y := by
  funext a b c
  simp only [us]
  by_cases h1 : a = k ∧ b = i ∧ c = j
  · rw [if_pos h1, if_pos h1]
  · rw [if_neg h1, if_neg h1, if_neg h1]
theorem us_same {v : Vw} {k i j : Nat} {x : Int32} (h : v k i j = x) : us v k i j x = v := by
  funext a b c
  simp only [us]
  by_cases h1 : a = k ∧ b = i ∧ c = j
  · obtain ⟨rfl, rfl, rfl⟩ := h1
    rw [if_pos ⟨rfl, rfl, rfl⟩, h]
  · rw [if_neg h1]
theorem aim_aim {v : Vw} {q : Nat} {t r t' r' : Int32} : aim (aim v q t r) q t' r' = aim v q t' r' := by
  unfold aim
  rw [us_us_ne (k := 4) (i := q) (j := 8) (k' := 4) (i' := q) (j' := 7) (by omega), us_us, us_us]
theorem aim_ne {v : Vw} {q : Nat} {t r : Int32} {k i j : Nat} (h : ¬ (k = 4 ∧ i = q ∧ (j = 7 ∨ j = 8))) : aim v q t r k i j = v k i j := by
  unfold aim
  rw [us_ne (fun z => h ⟨z.1, z.2.1, Or.inr z.2.2⟩), us_ne (fun z => h ⟨z.1, z.2.1, Or.inl z.2.2⟩)]
theorem usbl_of {v w : Vw} {c : Nat} (h : ∀ j, w 2 c j = v 2 c j) : usbl w c ↔ usbl v c := by
  unfold usbl
  rw [h, h, h, h, h]
theorem cgo_of {v w : Vw} {q c : Nat} (h : ∀ j, w 2 c j = v 2 c j) (h2 : w 4 q 11 = v 4 q 11) : cgo w q c ↔ cgo v q c := by
  unfold cgo
  rw [usbl_of h, h2]
theorem cgo_aim {v : Vw} {q c : Nat} {t r : Int32} : cgo (aim v q t r) q c ↔ cgo v q c :=
  cgo_of (fun j => aim_ne (by omega)) (aim_ne (by omega))
theorem r_isUsable {Z : S4} {c : Nat} (hc : c < 8) : s_X7_isUsable (nI c) Z = some (b2 (usbl (live Z) c)) := by
  unfold s_X7_isUsable
  simp (disch := decide) only [q_ofChute hc, bd_s]
  unfold b2 usbl
  by_cases h1 : live Z 2 c 9 = 0
  · by_cases h2 : live Z 2 c 7 = 0
    · by_cases h3 : live Z 2 c 8 = 0
      · by_cases h4 : live Z 2 c 6 < live Z 2 c 1
        · rw [if_pos h1, if_pos h2, if_pos h3, if_neg (Int32.not_le.mpr h4), if_pos ⟨h1, h2, h3, h4⟩]
        · rw [if_pos h1, if_pos h2, if_pos h3, if_pos (Int32.not_lt.mp h4), if_neg (fun z => h4 z.2.2.2)]
      · rw [if_pos h1, if_pos h2, if_neg h3, if_neg (fun z => h3 z.2.2.1)]
    · rw [if_pos h1, if_neg h2, if_neg (fun z => h2 z.2.1)]
  · rw [if_neg h1, if_neg (fun z => h1 z.1)]
theorem r_has {Z : S4} {x : Int32} {c : Nat} : s_X7_has x (nI c) Z = some (b2 (splt x c)) := by
  unfold s_X7_has b2
  by_cases h : splt x c
  · rw [if_pos h, if_pos h]
  · rw [if_neg h, if_neg h]
theorem r_canGo {Z : S4} {q c : Nat} (hq : q < 60) (hc : c < 8) : s_X7_canGo (nI q) (nI c) Z = some (b2 (cgo (live Z) q c)) := by
  unfold s_X7_canGo
  rw [r_isUsable hc, bd_s, b2_if]
  by_cases h : usbl (live Z) c
  · rw [if_pos h, q_ofParcel hq (by decide), bd_s, r_has, bd_s, b2_if]
    by_cases h2 : splt (live Z 4 q 11) c
    · rw [if_pos h2, b2_f (fun z => z.2 h2)]
    · rw [if_neg h2, b2_t ⟨h, h2⟩]
  · rw [if_neg h, b2_f (fun z => h z.1)]
theorem r_aims {Z : S4} {q : Nat} {t r : Int32} (hq : q < 60) : ∃ Z', s_X7_aims (nI q) t r Z = some Z' ∧ live Z' = aim (live Z) q t r := by
  refine ⟨zp (zp Z q 7 t) q 8 r, ?_, ?_⟩
  · unfold s_X7_aims
    rw [q_setsParcel hq (by decide), bd_s, q_setsParcel hq (by decide), bd_s]
  · rw [live_zp hq (by decide), live_zp hq (by decide)]
    rfl
theorem r_excepts {Z : S4} {q p c : Nat} {r : Int32} (hq : q < 60) (hp : p < 5) (hv : live Z 3 p 2 = nI c) (hc : c < 8) : ∃ Z', s_X7_excepts (nI q) (nI p) r Z = some Z' ∧ live Z' = exc (live Z) q p r := by
  unfold s_X7_excepts exc
  rw [q_ofPlan hp (by decide), bd_s, hv, r_canGo hq hc, bd_s, b2_if, nI_clamp (by omega)]
  by_cases h : cgo (live Z) q c
  · rw [if_pos h, if_pos h]
    obtain ⟨Z', h1, h2⟩ := r_aims (Z := Z) (t := nI c) (r := r) hq
    rw [h1, bd_s]
    exact ⟨Z', rfl, h2⟩
  · rw [if_neg h, if_neg h]
    obtain ⟨Z', h1, h2⟩ := r_aims (Z := Z) (t := -1) (r := r + 10) hq
    rw [h1, bd_s]
    exact ⟨Z', rfl, h2⟩
theorem r_planOf_L {Z : S4} {fu nl : Nat} {tick : Int32} (hn : live Z 6 0 3 = nI nl) (hl : nl ≤ 5) : ∀ (d k f : Nat), k + d = nl → d < f → s_X7_planOf_L4 fu tick Z f (cd (pof (live Z) tick k)) (nI k) = some (cd (pof (live Z) tick nl)) := by
  intro d
  induction d with
  | zero =>
    intro k f hk hf
    obtain ⟨f, rfl⟩ : ∃ g, f = g + 1 := ⟨f - 1, by omega⟩
    obtain rfl : k = nl := by omega
    rw [s_X7_planOf_L4, rd_n3 Z, hn, if_pos (nI_le (Nat.le_refl _) (by omega))]
  | succ d ih =>
    intro k f hk hf
    obtain ⟨f, rfl⟩ : ∃ g, f = g + 1 := ⟨f - 1, by omega⟩
    rw [s_X7_planOf_L4, rd_n3 Z, hn, if_neg (nI_ge (by omega) (by omega)), q_ofPlan (by omega) (by decide), bd_s]
    have h9 := ih (k + 1) f (by omega) (by omega)
    rw [pof] at h9
    by_cases h : tick < live Z 3 k 0
    · rw [if_pos h, bd_s, nI_1]
      rw [if_neg (Int32.not_le.mpr h)] at h9
      exact h9
    · rw [if_neg h, bd_s, nI_1]
      rw [if_pos (Int32.not_lt.mp h)] at h9
      exact h9
theorem r_planOf {Z : S4} {fu nl : Nat} {tick : Int32} (hn : live Z 6 0 3 = nI nl) (hl : nl ≤ 5) (hf : 5 < fu) : s_X7_planOf fu tick Z = some (cd (pof (live Z) tick nl)) :=
  r_planOf_L hn hl nl 0 fu (by omega) (by omega)
theorem r_ruleFor_L {Z : S4} {fu p m : Nat} {d : Int32} (hp : p < 5) (hm : live Z 3 p 1 = nI m) (h8 : m ≤ 8) : ∀ (n r f : Nat), r + n = m → n < f → s_X7_ruleFor_L2 fu (nI p) d Z f (nI r) = some (cd (rul (live Z) p d n r)) := by
  intro n
  induction n with
  | zero =>
    intro r f hr hf
    obtain ⟨f, rfl⟩ : ∃ g, f = g + 1 := ⟨f - 1, by omega⟩
    rw [s_X7_ruleFor_L2, q_ofPlan hp (by decide), bd_s, hm, if_pos (nI_le (by omega) (by omega))]
    rfl
  | succ n ih =>
    intro r f hr hf
    obtain ⟨f, rfl⟩ : ∃ g, f = g + 1 := ⟨f - 1, by omega⟩
    rw [s_X7_ruleFor_L2, q_ofPlan hp (by decide), bd_s, hm, if_neg (nI_ge (by omega) (by omega)), q_ofRule hp (by omega) (by decide), bd_s, q_ofRule hp (by omega) (by decide), bd_s, p_isBetween, bd_s, b2_if, rul]
    by_cases h : live Z 3 p (4 + 6 * r + 0) ≤ d ∧ d ≤ live Z 3 p (4 + 6 * r + 1)
    · rw [if_pos h, if_pos h]
      rfl
    · rw [if_neg h, if_neg h, nI_1]
      exact ih (r + 1) f (by omega) (by omega)
theorem r_ruleFor {Z : S4} {fu p m : Nat} {d : Int32} (hp : p < 5) (hm : live Z 3 p 1 = nI m) (h8 : m ≤ 8) (hf : 8 < fu) : s_X7_ruleFor fu (nI p) d Z = some (cd (rul (live Z) p d m 0)) :=
  r_ruleFor_L hp hm h8 m 0 fu (by omega) (by omega)
theorem r_dread {Z : S4} {q : Nat} (hq : q < 60) : s_X7_destinationRead (nI q) Z = some (dread (live Z) q) := by
  unfold s_X7_destinationRead dread
  rw [q_ofParcel hq (by decide), bd_s, q_ofParcel hq (by decide), bd_s]
  by_cases h : live Z 4 q 3 = 1
  · rw [if_pos h, if_pos h]
  · rw [if_neg h, if_neg h]
theorem pof_lt {v : Vw} {tick : Int32} {n p : Nat} (h : pof v tick n = some p) : p < n := by
  induction n with
  | zero => cases h
  | succ n ih =>
    rw [pof] at h
    by_cases hc : v 3 n 0 ≤ tick
    · rw [if_pos hc] at h; cases h; omega
    · rw [if_neg hc] at h; have := ih h; omega
theorem rul_lt {v : Vw} {p : Nat} {d : Int32} : ∀ {m r r' : Nat}, rul v p d m r = some r' → r ≤ r' ∧ r' < r + m := by
  intro m
  induction m with
  | zero => intro r r' h; cases h
  | succ m ih =>
    intro r r' h
    rw [rul] at h
    by_cases hc : v 3 p (4 + 6 * r + 0) ≤ d ∧ d ≤ v 3 p (4 + 6 * r + 1)
    · rw [if_pos hc] at h; cases h; omega
    · rw [if_neg hc] at h; have := ih h; omega
theorem fgo_lt {v : Vw} {q p r : Nat} : ∀ {m k k' : Nat}, fgo v q p r m k = some k' → k ≤ k' ∧ k' < k + m := by
  intro m
  induction m with
  | zero => intro r r' h; cases h
  | succ m ih =>
    intro k k' h
    rw [fgo] at h
    by_cases hc : cgo v q (v 3 p (4 + 6 * r + (3 + k))).toNatClampNeg
    · rw [if_pos hc] at h; cases h; omega
    · rw [if_neg hc] at h; have := ih h; omega
/-- numbers in their bounds; plans that are well made -/
def VN (v : Vw) (ns nc nl nq nd pc : Nat) : Prop := v 6 0 0 = nI pc ∧ v 6 0 1 = nI ns ∧ v 6 0 2 = nI nc ∧ v 6 0 3 = nI nl ∧ v 6 0 4 = nI nq ∧ v 6 0 5 = nI nd ∧ 12 ≤ pc ∧ pc ≤ 30 ∧ ns ≤ 3 ∧ nc ≤ 8 ∧ nl ≤ 5 ∧ nq ≤ 60 ∧ nd ≤ nq
def VR (v : Vw) (nc p r n : Nat) : Prop := v 3 p (4 + 6 * r + 2) = nI n ∧ n ≤ 3 ∧ ∀ k, k < n → ∃ c, c < nc ∧ v 3 p (4 + 6 * r + (3 + k)) = nI c
def VP (v : Vw) (nc p m c : Nat) : Prop := v 3 p 1 = nI m ∧ m ≤ 8 ∧ v 3 p 2 = nI c ∧ c < nc ∧ ∀ r, r < m → ∃ n, VR v nc p r n
def VL (v : Vw) (nl nc : Nat) : Prop := ∀ p, p < nl → ∃ m c, VP v nc p m c
theorem VR.of {v w : Vw} {nc p r n : Nat} (h : VR v nc p r n) (e : w 3 p = v 3 p) : VR w nc p r n := by
  unfold VR at *
  rw [e]
  exact h
theorem VP.of {v w : Vw} {nc p m c : Nat} (h : VP v nc p m c) (e : w 3 p = v 3 p) : VP w nc p m c := by
  unfold VP at *
  rw [e]
  exact ⟨h.1, h.2.1, h.2.2.1, h.2.2.2.1, fun r hr => (h.2.2.2.2 r hr).imp fun n hn => hn.of e⟩
theorem VL.of {v w : Vw} {nl nc : Nat} (h : VL v nl nc) (e : ∀ p, w 3 p = v 3 p) : VL w nl nc := fun p hp => (h p hp).imp fun m => Exists.imp fun c hc => hc.of (e p)
theorem fgr_aim {w : Vw} {q p r : Nat} {o : Option Nat} : ∃ t x, fgr w q p r o = aim w q t x := by
  cases o with
  | none => exact ⟨_, _, rfl⟩
  | some k => exact ⟨_, _, rfl⟩
theorem r_scans_L {w : Vw} {fu q p r n nc : Nat} (hq : q < 60) (hp : p < 5) (hr : r < 8) (hV : VR w nc p r n) (hnc : nc ≤ 8) : ∀ (j f : Nat) (Z : S4), j ≤ n → j < f → live Z = fgr w q p r (fgo w q p r (n - j) j) → ∃ Z', s_X7_scans_L128 fu (nI q) f (nI p) (nI r) (nI j - 1) Z = some Z' ∧ live Z' = fgr w q p r (fgo w q p r n 0) := by
  intro j
  induction j with
  | zero =>
    intro f Z hj hf hZ
    obtain ⟨f, rfl⟩ : ∃ g, f = g + 1 := ⟨f - 1, by omega⟩
    rw [s_X7_scans_L128, if_pos (by decide)]
    exact ⟨Z, rfl, hZ⟩
  | succ j ih =>
    intro f Z hj hf hZ
    obtain ⟨f, rfl⟩ : ∃ g, f = g + 1 := ⟨f - 1, by omega⟩
    obtain ⟨h1, h2, h3⟩ := hV
    obtain ⟨c, hc, hcv⟩ := h3 j (by omega)
    obtain ⟨t0, x0, hA⟩ := fgr_aim (w := w) (q := q) (p := p) (r := r) (o := fgo w q p r (n - (j + 1)) (j + 1))
    have hLc : live Z 3 p (4 + 6 * r + (3 + j)) = nI c := by rw [hZ, hA, aim_ne (by omega), hcv]
    have hG : cgo (live Z) q c ↔ cgo w q c := by rw [hZ, hA]; exact cgo_aim
    have hF : fgo w q p r (n - j) j = if cgo w q c then some j else fgo w q p r (n - (j + 1)) (j + 1) := by
      rw [show n - j = (n - (j + 1)) + 1 by omega, fgo, hcv, nI_clamp (by omega)]
    rw [s_X7_scans_L128, nI_pred, if_neg (nI_pos (by omega)), show (3 : Int32) + nI j = nI (3 + j) from nI_add 3 j, n_ofRule hp hr (by omega), bd_s, hLc, r_canGo hq (by omega), bd_s, b2_if]
    have e1 : nI j + (-1) = nI j - 1 := by grind
    by_cases h : cgo w q c
    · rw [if_pos (hG.mpr h)]
      rw [if_pos h] at hF
      have e0 : (if nI j = 0 then some (0 : Int32) else some 1) = some (if j = 0 then 0 else 1) := by
        by_cases hj0 : j = 0
        · subst hj0; rfl
        · rw [if_neg hj0, if_neg (nI_ne0 (by omega) (by omega))]
      rw [e0, bd_s]
      obtain ⟨Z1, hZ1, hL1⟩ := r_aims (Z := Z) (t := nI c) (r := if j = 0 then 0 else 1) hq
      rw [hZ1, bd_s, e1]
      refine ih f Z1 (by omega) (by omega) ?_
      rw [hL1, hZ, hA, aim_aim, hF]
      show aim w q (nI c) _ = aim w q (w 3 p (4 + 6 * r + (3 + j))) _
      rw [hcv]
    · rw [if_neg (fun z => h (hG.mp z)), e1]
      rw [if_neg h] at hF
      exact ih f Z (by omega) (by omega) (by rw [hF]; exact hZ)
theorem r_scans {Z : S4} {fu q ns nc nl nq nd pc : Nat} (hq : q < nq) (hN : VN (live Z) ns nc nl nq nd pc) (hL : VL (live Z) nl nc) (hf : 8 < fu) : ∃ Z', s_X7_scans fu (nI q) Z = some Z' ∧ live Z' = scn (live Z) q := by
  obtain ⟨-, -, hnc, hnl, -, -, -, -, -, hc8, hl5, hq60, -⟩ := hN
  have hq' : q < 60 := by omega
  have e : (12 : Int32) * nI q + 6 = nI (12 * q + 6) := by rw [show (12 : Int32) = nI 12 from rfl, show (6 : Int32) = nI 6 from rfl, pk_mul, nI_add]
  obtain ⟨h1, h2⟩ := idx_nI (N := 720) e (by omega) (by omega)
  have hZ3 : live (zp Z q 6 (live Z 4 q 6 + 1)) = us (live Z) 4 q 6 (live Z 4 q 6 + 1) := live_zp hq' (by decide)
  unfold s_X7_scans scn
  rw [gd_t h1, gd_t h1, h2, rd_p Z hq' (by decide), sv_e, show u4 Z 28 0 0 (12 * q + 6) (live Z 4 q 6 + 1) = zp Z q 6 (live Z 4 q 6 + 1) from rfl]
  have hnl3 : us (live Z) 4 q 6 (live Z 4 q 6 + 1) 6 0 3 = nI nl := by rw [us_ne (by omega), hnl]
  have hL3 : VL (us (live Z) 4 q 6 (live Z 4 q 6 + 1)) nl nc := hL.of (fun p => by funext j; exact us_ne (by omega))
  generalize us (live Z) 4 q 6 (live Z 4 q 6 + 1) = v at hZ3 hnl3 hL3 ⊢
  generalize zp Z q 6 (live Z 4 q 6 + 1) = Z3 at hZ3 ⊢
  have hnlp : nlp v = nl := by unfold nlp; rw [hnl3]; exact nI_clamp (by omega)
  rw [r_planOf (nl := nl) (by rw [hZ3]; exact hnl3) hl5 (by omega), bd_s, rd_n6 Z3, hZ3]
  unfold scn1
  rw [hnlp]
  cases hp : pof v (tmv v) nl with
  | none =>
    dsimp only
    rw [show cd none = (-1 : Int32) from rfl, if_neg (by decide)]
    obtain ⟨Z', ha, hb⟩ := r_aims (Z := Z3) (t := -1) (r := 5) hq'
    rw [ha, bd_s]
    exact ⟨Z', rfl, by rw [hb, hZ3]⟩
  | some p =>
    dsimp only
    have hpl := pof_lt hp
    obtain ⟨m, c, hVP⟩ := hL3 p hpl
    obtain ⟨hm, hm8, hx, hcc, hrr⟩ := hVP
    have hrf : rof v p (dread v q) = rul v p (dread v q) m 0 := by unfold rof; rw [hm, nI_clamp (by omega)]
    rw [show cd (some p) = nI p from rfl, if_pos (nI_pos' (by omega)), r_dread hq', bd_s, r_ruleFor (m := m) (by omega) (by rw [hZ3]; exact hm) hm8 hf, bd_s, q_ofParcel hq' (by decide), bd_s, hZ3, hrf]
    by_cases c1 : v 4 q 3 = 2
    · rw [if_pos c1, if_pos c1, bd_s, if_neg (by decide)]
      obtain ⟨Z', ha, hb⟩ := r_excepts (Z := Z3) (q := q) (p := p) (c := c) (r := 2) hq' (by omega) (by rw [hZ3]; exact hx) (by omega)
      rw [ha, bd_s]
      exact ⟨Z', rfl, by rw [hb, hZ3]⟩
    · rw [if_neg c1, if_neg c1, q_ofParcel hq' (by decide), bd_s, q_ofPlan (by omega) (by decide), bd_s, hZ3]
      by_cases c2 : v 4 q 6 - 1 ≤ v 3 p 3
      · rw [if_pos c2, if_neg (show ¬ ¬ v 4 q 6 - 1 ≤ v 3 p 3 from fun z => z c2)]
        cases hr : rul v p (dread v q) m 0 with
        | none =>
          dsimp only
          rw [show cd none = (-1 : Int32) from rfl, if_neg (by decide), bd_s, if_neg (by decide)]
          obtain ⟨Z', ha, hb⟩ := r_excepts (Z := Z3) (q := q) (p := p) (c := c) (r := 4) hq' (by omega) (by rw [hZ3]; exact hx) (by omega)
          rw [ha, bd_s]
          exact ⟨Z', rfl, by rw [hb, hZ3]⟩
        | some r =>
          dsimp only
          have hrl := rul_lt hr
          obtain ⟨n, hVR⟩ := hrr r (by omega)
          rw [show cd (some r) = nI r from rfl, if_pos (nI_pos' (by omega)), bd_s, if_pos (by decide)]
          obtain ⟨Z4, ha, hb⟩ := r_aims (Z := Z3) (t := -1) (r := 6) hq'
          rw [hZ3] at hb
          rw [ha, bd_s, q_ofRule (by omega) (by omega) (by decide), bd_s, hb, aim_ne (by omega), hVR.1, nI_clamp (by have := hVR.2.1; omega)]
          exact r_scans_L hq' (by omega) (by omega) hVR hc8 n fu Z4 (Nat.le_refl _) (by have := hVR.2.1; omega) (by rw [hb, Nat.sub_self]; rfl)
      · rw [if_neg c2, if_pos c2, bd_s, if_neg (by decide)]
        obtain ⟨Z', ha, hb⟩ := r_excepts (Z := Z3) (q := q) (p := p) (c := c) (r := 3) hq' (by omega) (by rw [hZ3]; exact hx) (by omega)
        rw [ha, bd_s]
        exact ⟨Z', rfl, by rw [hb, hZ3]⟩
theorem r_wrong {Z : S4} {q : Nat} (hq : q < 60) : ((s_X7_ofParcel (nI q) 3 Z).bind fun q5 => if q5 = 1 then some (2 : Int32) else some 3) = some (wrong (live Z) q) := by
  unfold wrong
  rw [q_ofParcel hq (by decide), bd_s]
  by_cases h : live Z 4 q 3 = 1
  · rw [if_pos h, if_pos h]
  · rw [if_neg h, if_neg h]
theorem r_verd_L {Z : S4} {fu q c p r n nc : Nat} (hq : q < 60) (hp : p < 5) (hr : r < 8) (hV : VR (live Z) nc p r n) : ∀ (d k f : Nat), k + d = n → d < f → s_X7_verdictOf_L49 fu (nI q) (nI c) Z f (nI p) (nI r) (nI k) = some (if hasc (live Z) p r (nI c) d k then 0 else wrong (live Z) q) := by
  intro d
  induction d with
  | zero =>
    intro k f hk hf
    obtain ⟨f, rfl⟩ : ∃ g, f = g + 1 := ⟨f - 1, by omega⟩
    rw [s_X7_verdictOf_L49, if_neg (nI_pos (by omega)), q_ofRule hp hr (by decide), bd_s, hV.1, if_pos (nI_le (by omega) (by have := hV.2.1; omega)), r_wrong hq]
    rfl
  | succ d ih =>
    intro k f hk hf
    obtain ⟨f, rfl⟩ : ∃ g, f = g + 1 := ⟨f - 1, by omega⟩
    rw [s_X7_verdictOf_L49, if_neg (nI_pos (by omega)), q_ofRule hp hr (by decide), bd_s, hV.1, if_neg (nI_ge (by omega) (by have := hV.2.1; omega)), show (3 : Int32) + nI k = nI (3 + k) from nI_add 3 k, n_ofRule hp hr (by have := hV.2.1; omega), bd_s, hasc]
    by_cases h : live Z 3 p (4 + 6 * r + (3 + k)) = nI c
    · rw [if_pos h, if_pos h]
      rfl
    · rw [if_neg h, if_neg h, nI_1]
      exact ih (k + 1) f (by omega) (by omega)
theorem r_verd0 {Z : S4} {fu q c : Nat} {x k : Int32} (hq : q < 60) (hf : 0 < fu) : s_X7_verdictOf_L49 fu (nI q) (nI c) Z fu x (-1) k = some (wrong (live Z) q) := by
  obtain ⟨f, rfl⟩ : ∃ g, fu = g + 1 := ⟨fu - 1, by omega⟩
  rw [s_X7_verdictOf_L49, if_pos (by decide), r_wrong hq]
theorem r_verd {Z : S4} {fu q c ns nc nl nq nd pc : Nat} (hq : q < 60) (hc : c < 8) (hN : VN (live Z) ns nc nl nq nd pc) (hL : VL (live Z) nl nc) (hf : 8 < fu) : s_X7_verdictOf fu (nI q) (nI c) Z = some (verd (live Z) q c) := by
  obtain ⟨-, -, hnc, hnl, -, -, -, -, -, hc8, hl5, hq60, -⟩ := hN
  have hnlp : nlp (live Z) = nl := by unfold nlp; rw [hnl]; exact nI_clamp (by omega)
  unfold s_X7_verdictOf verd
  rw [r_planOf (nl := nl) hnl hl5 (by omega), bd_s, rd_n6 Z, hnlp]
  cases hp : pof (live Z) (tmv (live Z)) nl with
  | none =>
    dsimp only
    rw [show cd none = (-1 : Int32) from rfl, if_pos (by decide), if_neg (by decide), bd_s, r_verd0 hq (by omega)]
  | some p =>
    dsimp only
    have hpl := pof_lt hp
    obtain ⟨m, x, hm, hm8, hx, hcc, hrr⟩ := hL p hpl
    have hrf : rof (live Z) p (live Z 4 q 0) = rul (live Z) p (live Z 4 q 0) m 0 := by unfold rof; rw [hm, nI_clamp (by omega)]
    rw [show cd (some p) = nI p from rfl, if_neg (nI_pos (by omega)), q_ofPlan (by omega) (by decide), bd_s]
    by_cases c1 : live Z 3 p 2 = nI c
    · rw [if_pos c1, if_pos c1]
    · rw [if_neg c1, if_neg c1, if_pos (nI_pos' (by omega)), q_ofParcel hq (by decide), bd_s, r_ruleFor (m := m) (by omega) hm hm8 hf, bd_s, bd_s, hrf]
      cases hr : rul (live Z) p (live Z 4 q 0) m 0 with
      | none =>
        dsimp only
        rw [show cd none = (-1 : Int32) from rfl, r_verd0 hq (by omega)]
      | some r =>
        dsimp only
        have hrl := rul_lt hr
        obtain ⟨n, hVR⟩ := hrr r (by omega)
        rw [show cd (some r) = nI r from rfl, show (0 : Int32) = nI 0 from rfl, r_verd_L hq (by omega) (by omega) hVR n 0 fu (by omega) (by have := hVR.2.1; omega), hVR.1, nI_clamp (by have := hVR.2.1; omega)]
        rfl
