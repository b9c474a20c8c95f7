/-! the paper: what the class appends, and what the reference prints -/
def s_ens (q : Int32) (S : S4) : Option S4 := if q ≤ S 9 0 0 200 then some S else gd (0 ≤ S 9 0 0 200 ∧ S 9 0 0 200 ≤ 70 ∧ q ≤ 2 * S 9 0 0 200 + 2) (some (w4 S 9 0 0 (fun j => if j = 200 then 2 * S 9 0 0 200 + 2 else if j < (S 9 0 0 200).toNatClampNeg then S 9 0 0 j else 0)))
def s_apc (c : Int32) (S : S4) : Option S4 := (s_ens (S 8 0 0 0 + 1) S).bind fun S1 => gd (0 ≤ S1 8 0 0 0 ∧ S1 8 0 0 0 < S1 9 0 0 200 ∧ S1 9 0 0 200 ≤ 142 ∧ 0 ≤ c ∧ c < 128) (some (u4 (u4 S1 9 0 0 (S1 8 0 0 0).toNatClampNeg c) 8 0 0 0 (S1 8 0 0 0 + 1)))
def nsz (v : Nat) : Nat := if v < 10 then 1 else if v < 100 then 2 else if v < 1000 then 3 else 4
def ndg (v k j : Nat) : Int32 := nI (48 + v / 10 ^ (k - 1 - j) % 10)
def s_apn (v : Int32) (S : S4) : Option S4 := gd (0 ≤ v ∧ v ≤ 9999) ((s_ens (S 8 0 0 0 + nI (nsz v.toNatClampNeg)) S).bind fun S1 => gd (0 ≤ S1 8 0 0 0 ∧ S1 8 0 0 0 ≤ 142 ∧ S1 8 0 0 0 + nI (nsz v.toNatClampNeg) ≤ S1 9 0 0 200 ∧ S1 9 0 0 200 ≤ 142) (some (u4 (w4 S1 9 0 0 (fun j => if (S1 8 0 0 0).toNatClampNeg ≤ j ∧ j < (S1 8 0 0 0).toNatClampNeg + nsz v.toNatClampNeg then ndg v.toNatClampNeg (nsz v.toNatClampNeg) (j - (S1 8 0 0 0).toNatClampNeg) else S1 9 0 0 j)) 8 0 0 0 (S1 8 0 0 0 + nI (nsz v.toNatClampNeg)))))
section PA
variable {fu np T : Nat} {S Z : S4}
def CW (S S' : S4) : Prop := ∀ k, k ≠ 8 → k ≠ 9 → S' k = S k
def ZW (Z Z' : S4) : Prop := ∀ k t i j, k ≠ 35 → ¬ (k = 7 ∧ j = 26) → Z' k t i j = Z k t i j
theorem CW.refl (S : S4) : CW S S := fun _ _ _ => rfl
theorem CW.trans {S1 S2 S3 : S4} (a : CW S1 S2) (b : CW S2 S3) : CW S1 S3 := fun k h8 h9 => (b k h8 h9).trans (a k h8 h9)
theorem ZW.refl (S : S4) : ZW S S := fun _ _ _ _ _ _ => rfl
theorem ZW.trans {S1 S2 S3 : S4} (a : ZW S1 S2) (b : ZW S2 S3) : ZW S1 S3 := fun k t i j h1 h2 => (b k t i j h1 h2).trans (a k t i j h1 h2)
theorem nI_div {a b : Nat} (ha : a < 2 ^ 31) (hb : b < 2 ^ 31) : nI a / nI b = nI (a / b) := by
  have h := Nat.lt_of_le_of_lt (Nat.div_le_self a b) ha
  apply Int32.toInt_inj.mp
  rw [Int32.toInt_div, nI_toInt ha, nI_toInt hb, nI_toInt h, ← Int.ofNat_tdiv]
  generalize a / b = q at h ⊢
  exact Int.bmod_eq_of_le (by omega) (by omega)
theorem nsz_le (v : Nat) : 1 ≤ nsz v ∧ nsz v ≤ 4 := by
  unfold nsz
  split
  · omega
  · split
    · omega
    · split <;> omega
theorem GWt.ens {w m : Nat} (h : GWt S Z w) (hm : w + m ≤ 140) (h4 : m ≤ 4) : ∃ S1, s_ens (nI (w + m)) S = some S1 ∧ CW S S1 ∧ S1 8 = S 8 ∧ (∃ q, (q = 16 ∨ q = 34 ∨ q = 70 ∨ q = 142) ∧ S1 9 0 0 200 = nI q ∧ w + m ≤ q) ∧ ∀ j, j < w → S1 9 0 0 j = S 9 0 0 j := by
  obtain ⟨h1, h2, ⟨q, hq, q1, q2⟩, h3⟩ := h
  unfold s_ens
  rw [q1]
  by_cases hc : w + m ≤ q
  · rw [if_pos (nI_le hc (by omega))]
    exact ⟨S, rfl, CW.refl S, rfl, ⟨q, hq, q1, hc⟩, fun _ _ => rfl⟩
  · rw [if_neg (nI_ge (by omega) (by omega))]
    have e2 : (2 : Int32) * nI q + 2 = nI (2 * q + 2) := by rw [show (2 : Int32) * nI q = nI (2 * q) from pk_mul 2 q]; exact nI_add _ 2
    rw [e2, gd_t ⟨nI_pos' (by omega), nI_le (b := 70) (by omega) (by decide), nI_le (by omega) (by omega)⟩, nI_clamp (by omega)]
    refine ⟨_, rfl, fun k h8 h9 => ?_, ?_, ⟨2 * q + 2, by omega, ?_, by omega⟩, fun j hj => ?_⟩
    · funext t i; exact w4_ne (fun z => h9 z.1)
    · funext t i; exact w4_ne (fun z => absurd z.1 (by decide))
    · rw [w4_self]; rfl
    · rw [w4_self, if_neg (by omega), if_pos (by omega)]
theorem GWt.apc {w c : Nat} (h : GWt S Z w) (hw : w < 140) (hc : c < 128) : ∃ S' Z', s_apc (nI c) S = some S' ∧ s_X7_prints (nI c) Z = some Z' ∧ GWt S' Z' (w + 1) ∧ CW S S' ∧ ZW Z Z' := by
  obtain ⟨S1, e1, e2, e3, ⟨q, hq, q1, q2⟩, e4⟩ := h.ens (m := 1) (by omega) (by omega)
  obtain ⟨h1, h2, -, h3⟩ := h
  have c8 : S1 8 0 0 0 = nI w := by rw [e3]; exact h1
  unfold s_apc s_X7_prints
  rw [h1, nI_1, e1, bd_s, c8, q1, gd_t ⟨nI_pos' (by omega), nI_lt (by omega) (by omega), nI_le (b := 142) (by omega) (by decide), nI_pos' (by omega), nI_lt (b := 128) hc (by decide)⟩, nI_clamp (by omega), nI_1, h2, gd_t (inb_nI hw (by decide)), nI_clamp (by omega), sv_e, show ∀ x, u4 Z 35 0 0 w x 7 0 0 26 = nI w from fun x => by rw [u4_app, if_neg (by omega)]; exact h2, nI_1, sv_e]
  refine ⟨_, _, rfl, rfl, ⟨?_, ?_, ⟨q, hq, ?_, q2⟩, fun j hj => ?_⟩, fun k h8 h9 => ?_, fun k t i j g1 g2 => ?_⟩
  · rw [u4_app, if_pos ⟨rfl, rfl, rfl, rfl⟩]
  · rw [u4_app, if_pos ⟨rfl, rfl, rfl, rfl⟩]
  · rw [u4_app, if_neg (by omega), u4_app, if_neg (by omega)]; exact q1
  · have eS : ∀ x y, u4 (u4 S1 9 0 0 w x) 8 0 0 0 y 9 0 0 j = if j = w then x else S1 9 0 0 j := fun x y => by
      rw [u4_app, if_neg (by omega), u4_app]
      by_cases ej : j = w
      · rw [if_pos ⟨rfl, rfl, rfl, ej⟩, if_pos ej]
      · rw [if_neg (by omega), if_neg ej]
    have eZ : ∀ x y, u4 (u4 Z 35 0 0 w x) 7 0 0 26 y 35 0 0 j = if j = w then x else Z 35 0 0 j := fun x y => by
      rw [u4_app, if_neg (by omega), u4_app]
      by_cases ej : j = w
      · rw [if_pos ⟨rfl, rfl, rfl, ej⟩, if_pos ej]
      · rw [if_neg (by omega), if_neg ej]
    rw [eS, eZ]
    by_cases ej : j = w
    · rw [if_pos ej, if_pos ej]
      exact ⟨rfl, c, hc, rfl⟩
    · rw [if_neg ej, if_neg ej, e4 j (by omega)]
      exact h3 j (by omega)
  · funext t i j
    rw [u4_app, if_neg (by omega), u4_app, if_neg (by omega), e2 k h8 h9]
  · rw [u4_app, if_neg (by omega), u4_app, if_neg (by omega)]
/-- the digits that the reference prints -/
theorem dig_c (d : Nat) (hd : d < 10) : ((nI (48 + d)).toUInt32 % 65536).toInt32 = nI (48 + d) := by
  have : ∀ d, d < 10 → ((nI (48 + d)).toUInt32 % 65536).toInt32 = nI (48 + d) := by decide
  exact this d hd
theorem dig_e {q : Nat} (hq : q < 2 ^ 31) : (48 : Int32) + (nI q - nI q / (10 : Int32) * (10 : Int32)) = nI (48 + q % 10) := by
  rw [show nI q / (10 : Int32) = nI (q / 10) from nI_div (b := 10) hq (by decide), show nI (q / 10) * (10 : Int32) = nI (q / 10 * 10) from pk_mul _ 10, pk_sub (by omega), show q - q / 10 * 10 = q % 10 by omega]
  exact nI_add 48 _
theorem pn_L18 {v : Nat} (hv : v ≤ 9999) : ∀ (k f w : Nat) (Z : S4), k ≤ 4 → k < f → Z 7 0 0 26 = nI w → w + k ≤ 140 → ∃ Z', s_X7_printsNumber_L18 fu (nI v) f (nI (10 ^ k / 10)) Z = some Z' ∧ Z' 7 0 0 26 = nI (w + k) ∧ (∀ j, j < k → Z' 35 0 0 (w + j) = ndg v k j) ∧ (∀ j, j < w → Z' 35 0 0 j = Z 35 0 0 j) ∧ ZW Z Z' := by
  intro k
  induction k with
  | zero =>
    intro f w Z hk hf h26 hw
    obtain ⟨f, rfl⟩ : ∃ g, f = g + 1 := ⟨f - 1, by omega⟩
    rw [s_X7_printsNumber_L18, if_pos (by decide)]
    exact ⟨Z, rfl, h26, fun j hj => absurd hj (by omega), fun _ _ => rfl, ZW.refl Z⟩
  | succ k ih =>
    intro f w Z hk hf h26 hw
    obtain ⟨f, rfl⟩ : ∃ g, f = g + 1 := ⟨f - 1, by omega⟩
    have hu : 10 ^ (k + 1) / 10 = 10 ^ k := by rw [Nat.pow_succ, Nat.mul_div_cancel _ (by decide)]
    have hp : 1 ≤ 10 ^ k ∧ 10 ^ k ≤ 1000 := by
      have : k = 0 ∨ k = 1 ∨ k = 2 ∨ k = 3 := by omega
      rcases this with rfl | rfl | rfl | rfl <;> decide
    have hvq : v / 10 ^ k ≤ 9999 := Nat.le_trans (Nat.div_le_self _ _) hv
    rw [s_X7_printsNumber_L18, hu, if_neg (show ¬ nI (10 ^ k) ≤ 0 from nI_nle (by omega) (by omega)), gd_t (nI_ne0 (by omega) (by omega)), nI_div (by omega) (by omega), dig_e (by omega), dig_c _ (by omega)]
    unfold s_X7_prints
    rw [h26, gd_t (inb_nI (by omega) (by decide)), nI_clamp (by omega), sv_e, show ∀ x, u4 Z 35 0 0 w x 7 0 0 26 = nI w from fun x => by rw [u4_app, if_neg (by omega)]; exact h26, nI_1, sv_e, bd_s, show nI (10 ^ k) / (10 : Int32) = nI (10 ^ k / 10) from nI_div (b := 10) (by omega) (by decide)]
    obtain ⟨Z', z1, z2, z3, z4, z5⟩ := ih f (w + 1) (u4 (u4 Z 35 0 0 w (nI (48 + v / 10 ^ k % 10))) 7 0 0 26 (nI (w + 1))) (by omega) (by omega) (by rw [u4_app, if_pos ⟨rfl, rfl, rfl, rfl⟩]) (by omega)
    refine ⟨Z', z1, by rw [z2, show w + 1 + k = w + (k + 1) by omega], fun j hj => ?_, fun j hj => ?_, fun kk t i j g1 g2 => ?_⟩
    · by_cases ej : j = 0
      · subst ej
        rw [Nat.add_zero, z4 w (by omega), u4_app, if_neg (by omega), u4_app, if_pos ⟨rfl, rfl, rfl, rfl⟩]
        rfl
      · have := z3 (j - 1) (by omega)
        rw [show w + 1 + (j - 1) = w + j by omega] at this
        rw [this]
        unfold ndg
        rw [show k - 1 - (j - 1) = k + 1 - 1 - j by omega]
    · rw [z4 j (by omega), u4_app, if_neg (by omega), u4_app, if_neg (by omega)]
    · rw [z5 kk t i j g1 g2, u4_app, if_neg (by omega), u4_app, if_neg (by omega)]
theorem pn_no {v u f : Nat} (hv : v ≤ 9999) (hu : 1 ≤ u ∧ u ≤ 1000) (h : 9 < v / u) : s_X7_printsNumber_L2 fu (nI v) (f + 1) (nI u) Z = s_X7_printsNumber_L2 fu (nI v) f (nI (u * 10)) Z := by
  rw [s_X7_printsNumber_L2, gd_t (nI_ne0 (by omega) (by omega)), nI_div (by omega) (by omega), if_neg (show ¬ nI (v / u) ≤ (9 : Int32) from nI_ge (a := 9) h (Nat.lt_of_le_of_lt (Nat.div_le_self _ _) (by omega))), show nI u * (10 : Int32) = nI (u * 10) from pk_mul u 10]
theorem pn_yes {v u f : Nat} (hv : v ≤ 9999) (hu : 1 ≤ u ∧ u ≤ 1000) (h : v / u ≤ 9) : s_X7_printsNumber_L2 fu (nI v) (f + 1) (nI u) Z = s_X7_printsNumber_L18 fu (nI v) fu (nI u) Z := by
  rw [s_X7_printsNumber_L2, gd_t (nI_ne0 (by omega) (by omega)), nI_div (by omega) (by omega), if_pos (show nI (v / u) ≤ (9 : Int32) from nI_le (b := 9) h (by decide))]
theorem pn_go {v : Nat} (hv : v ≤ 9999) (hf : 20 < fu) : s_X7_printsNumber fu (nI v) Z = s_X7_printsNumber_L18 fu (nI v) fu (nI (10 ^ nsz v / 10)) Z := by
  obtain ⟨g, hg⟩ : ∃ g, fu = g + 4 := ⟨fu - 4, by omega⟩
  have e0 : s_X7_printsNumber fu (nI v) Z = s_X7_printsNumber_L2 fu (nI v) (g + 3 + 1) (nI 1) Z := by
    unfold s_X7_printsNumber
    rw [show g + 3 + 1 = fu by omega]
    rfl
  rw [e0]
  by_cases h1 : v < 10
  · rw [pn_yes hv (by decide) (by omega), show nsz v = 1 from if_pos h1]
  · rw [pn_no hv (by decide) (by omega), show g + 3 = g + 2 + 1 from rfl]
    by_cases h2 : v < 100
    · rw [pn_yes hv (by decide) (by omega), show nsz v = 2 by unfold nsz; rw [if_neg h1, if_pos h2]]
    · rw [pn_no hv (by decide) (by omega), show g + 2 = g + 1 + 1 from rfl]
      by_cases h3 : v < 1000
      · rw [pn_yes hv (by decide) (by omega), show nsz v = 3 by unfold nsz; rw [if_neg h1, if_neg h2, if_pos h3]]
      · rw [pn_no hv (by decide) (by omega), pn_yes hv (by decide) (by omega), show nsz v = 4 by unfold nsz; rw [if_neg h1, if_neg h2, if_neg h3]]
theorem GWt.apn {w v : Nat} (h : GWt S Z w) (hv : v ≤ 9999) (hw : w + nsz v ≤ 140) (hf : 20 < fu) : ∃ S' Z', s_apn (nI v) S = some S' ∧ s_X7_printsNumber fu (nI v) Z = some Z' ∧ GWt S' Z' (w + nsz v) ∧ CW S S' ∧ ZW Z Z' := by
  obtain ⟨n1, n4⟩ := nsz_le v
  obtain ⟨S1, e1, e2, e3, ⟨q, hq, q1, q2⟩, e4⟩ := h.ens (m := nsz v) (by omega) (by omega)
  obtain ⟨h1, h2, -, h3⟩ := h
  obtain ⟨Z', z1, z2, z3, z4, z5⟩ := pn_L18 (fu := fu) hv (nsz v) fu w Z n4 (by omega) h2 hw
  have c8 : S1 8 0 0 0 = nI w := by rw [e3]; exact h1
  unfold s_apn
  rw [pn_go hv hf, z1, gd_t ⟨nI_pos' (by omega), nI_le (b := 9999) hv (by decide)⟩, nI_clamp (by omega), h1, nI_add, e1, bd_s, c8, q1, nI_add, gd_t ⟨nI_pos' (by omega), nI_le (b := 142) (by omega) (by decide), nI_le q2 (by omega), nI_le (b := 142) (by omega) (by decide)⟩, nI_clamp (by omega)]
  refine ⟨_, Z', rfl, rfl, ⟨?_, z2, ⟨q, hq, ?_, q2⟩, fun j hj => ?_⟩, fun k h8 h9 => ?_, z5⟩
  · rw [u4_app, if_pos ⟨rfl, rfl, rfl, rfl⟩]
  · rw [u4_app, if_neg (by omega), w4_self, if_neg (by omega)]; exact q1
  · rw [u4_app, if_neg (by omega), w4_self]
    by_cases ej : w ≤ j
    · rw [if_pos ⟨ej, hj⟩]
      have := z3 (j - w) (by omega)
      rw [show w + (j - w) = j by omega] at this
      exact ⟨this.symm, _, by omega, this⟩
    · rw [if_neg (by omega), e4 j (by omega), z4 j (by omega)]
      exact h3 j (by omega)
  · funext t i
    funext j
    rw [u4_app, if_neg (by omega), w4_ne (by omega), e2 k h8 h9]
end PA
