/-! a plan's text: the class' writer over the appends, and the reference's -/
def s_X2_writeRule_L44 (fu : Nat) (i : Nat) (p2 : Int32) : Nat → Int32 → S4 → Option S4
  | 0, _, _ => none
  | f+1, v3, Z => gd (inb p2 8) (if (Z 12 0 i p2.toNatClampNeg) ≤ v3 then some Z else ((if v3 = 0 then some (61 : Int32) else some (44 : Int32))).bind fun q => (s_apc q Z).bind fun Z1 => (s_X2_chuteIn i p2 v3 Z1).bind fun q2 => (s_apn q2 Z1).bind fun Z2 => s_X2_writeRule_L44 fu i p2 f (v3 + (1 : Int32)) Z2)
def s_X2_writeRule (fu : Nat) (i : Nat) (p2 : Int32) (S : S4) : Option S4 := gd (inb p2 8) ((s_apn (S 10 0 i p2.toNatClampNeg) S).bind fun Z3 => gd (inb p2 8) (if (Z3 11 0 i p2.toNatClampNeg) = (Z3 10 0 i p2.toNatClampNeg) then s_X2_writeRule_L44 fu i p2 fu (0 : Int32) Z3 else (s_apc (45 : Int32) Z3).bind fun Z4 => gd (inb p2 8) ((s_apn (Z4 11 0 i p2.toNatClampNeg) Z4).bind fun Z5 => s_X2_writeRule_L44 fu i p2 fu (0 : Int32) Z5)))
def s_X2_writeTo_L16 (fu : Nat) (i : Nat) : Nat → Int32 → S4 → Option S4
  | 0, _, _ => none
  | f+1, v2, Z => if (Z 2 0 i 1) ≤ v2 then (s_apc (120 : Int32) Z).bind fun Z1 => (s_apn (Z1 2 0 i 2) Z1).bind fun Z2 => (if (Z2 2 0 i 3) = (3 : Int32) then some Z2 else (s_apc (42 : Int32) Z2).bind fun Z3 => s_apn (Z3 2 0 i 3) Z3) else ((if v2 = 0 then some (58 : Int32) else some (59 : Int32))).bind fun q => (s_apc q Z).bind fun Z1 => (s_X2_writeRule fu i v2 Z1).bind fun Z2 => s_X2_writeTo_L16 fu i f (v2 + (1 : Int32)) Z2
def s_X2_writeTo (fu : Nat) (i : Nat) (S : S4) : Option S4 := (s_apc (64 : Int32) S).bind fun Z1 => (s_apn (Z1 2 0 i 0) Z1).bind fun Z2 => s_X2_writeTo_L16 fu i fu (0 : Int32) Z2
def s_len0 (S : S4) : Option S4 := gd (0 ≤ S 8 0 0 0 ∧ 0 ≤ S 9 0 0 200 ∧ S 9 0 0 200 ≤ 142) (if 0 < S 8 0 0 0 then some (u4 (u4 S 8 0 0 2 1) 8 0 0 0 0) else some (u4 S 8 0 0 0 0))
def s_X6_write (np : Nat) (fu : Nat) (p1 : Int32) (S : S4) : Option ((Int32 × S4) ⊕ (Nat × S4)) := tb (s_X6_requireIndex p1 (S 4 0 0 5) S) fun Z1 => (s_len0 Z1).bind fun Z2 => gd (inb p1 5) (if (pcd (Z2 17 0 0 p1.toNatClampNeg)) = none then none else (pcd (Z2 17 0 0 p1.toNatClampNeg)).bind fun i => gd (i < np) ((s_X2_writeTo fu i Z2).bind fun Z3 => some (.inl (Z3 8 0 0 0, Z3))))
def s_X6_paper (p1 : Int32) (S : S4) : Option ((Int32 × S4) ⊕ (Nat × S4)) := tb (s_X6_requireIndex p1 (S 8 0 0 0) S) fun Z1 => gd (0 ≤ p1 ∧ p1 < Z1 8 0 0 0 ∧ Z1 8 0 0 0 ≤ Z1 9 0 0 200 ∧ Z1 9 0 0 200 ≤ 142 ∧ 0 ≤ Z1 9 0 0 p1.toNatClampNeg ∧ Z1 9 0 0 p1.toNatClampNeg < 128) (some (.inl (Z1 9 0 0 p1.toNatClampNeg, Z1)))
section WR
variable {fu np T i j nc m cx : Nat} {S Z : S4} {v P : Vw}
theorem CW.pln {S S' : S4} (h : CW S S') : pln S' = pln S := by
  funext k a w
  unfold Jvm.Pilot.CParcelSorterLaw_law_r1949_b8d5e3.pln
  by_cases hk : k = 2 ∨ (10 ≤ k ∧ k ≤ 13)
  · rw [if_pos hk, if_pos hk, h k (by omega) (by omega)]
  · rw [if_neg hk, if_neg hk]
theorem ZW.live {Z Z' : S4} (h : ZW Z Z') : live Z' = live Z := live_of (fun k j g1 g2 => h k 0 0 j (by omega) (by omega)) (fun j g1 g2 => h 7 0 0 j (by omega) (by omega))
theorem nsz_1 {c : Nat} (h : c < 10) : nsz c = 1 := if_pos h
theorem nsz_2 {c : Nat} (h : c < 100) : nsz c ≤ 2 := by
  unfold nsz
  split
  · omega
  · omega
theorem t_wrL {r n : Nat} (hf0 : 20 < fu) (hM : PM P v i j) (hj : j < 5) (hV1 : v 3 j 1 = nI m) (hm : m ≤ 8) (hr : r < m) (hR : VR v nc j r n) (hnc : nc ≤ 8) : ∀ (d k f f' w : Nat) (S Z : S4), k + d = n → d < f → d < f' → GWt S Z w → w + 2 * d ≤ 140 → pln S = P → live Z = v → ∃ S' Z', s_X2_writeRule_L44 fu i (nI r) f (nI k) S = some S' ∧ s_X7_printsRule_L47 fu (nI j) (nI r) f' (nI k) Z = some Z' ∧ GWt S' Z' (w + 2 * d) ∧ CW S S' ∧ ZW Z Z' := by
  obtain ⟨hR1, hR2, hR3⟩ := id hR
  have hM4 := hM.2.2.2.2
  rw [hV1, nI_clamp (by omega)] at hM4
  intro d
  induction d with
  | zero =>
    intro k f f' w S Z hk hf hf' hT hw hP hZ
    obtain ⟨f, rfl⟩ : ∃ g, f = g + 1 := ⟨f - 1, by omega⟩
    obtain ⟨f', rfl⟩ : ∃ g, f' = g + 1 := ⟨f' - 1, by omega⟩
    obtain rfl : k = n := by omega
    have e12 : S 12 0 i r = nI k := by rw [rk12 S, hP, (hM4 r hr).2.2.1]; exact hR1
    rw [s_X2_writeRule_L44, s_X7_printsRule_L47, gd_t (inb_nI (by omega) (by decide)), nI_clamp (by omega), e12, if_pos (nI_le (Nat.le_refl _) (by omega)), q_ofRule hj (by omega) (by decide), bd_s, hZ, hR1, if_pos (nI_le (Nat.le_refl _) (by omega))]
    exact ⟨S, Z, rfl, rfl, hT, CW.refl S, ZW.refl Z⟩
  | succ d ih =>
    intro k f f' w S Z hk hf hf' hT hw hP hZ
    obtain ⟨f, rfl⟩ : ∃ g, f = g + 1 := ⟨f - 1, by omega⟩
    obtain ⟨f', rfl⟩ : ∃ g, f' = g + 1 := ⟨f' - 1, by omega⟩
    have e12 : S 12 0 i r = nI n := by rw [rk12 S, hP, (hM4 r hr).2.2.1]; exact hR1
    obtain ⟨c0, hc0, e0⟩ : ∃ c, c < 128 ∧ (if nI k = 0 then some (61 : Int32) else some (44 : Int32)) = some (nI c) := by
      by_cases hz : nI k = 0
      · rw [if_pos hz]; exact ⟨61, by decide, rfl⟩
      · rw [if_neg hz]; exact ⟨44, by decide, rfl⟩
    obtain ⟨c, hc, hc2⟩ := hR3 k (by omega)
    rw [s_X2_writeRule_L44, s_X7_printsRule_L47, gd_t (inb_nI (by omega) (by decide)), nI_clamp (by omega), e12, if_neg (nI_ge (by omega) (by omega)), q_ofRule hj (by omega) (by decide), bd_s, hZ, hR1, if_neg (nI_ge (by omega) (by omega)), e0, bd_s, bd_s]
    obtain ⟨S1, Z1, s1, z1, t1, cw1, zw1⟩ := hT.apc (c := c0) (by omega) hc0
    have hP1 : pln S1 = P := cw1.pln.trans hP
    have hZ1 : live Z1 = v := zw1.live.trans hZ
    have ec : s_X2_chuteIn i (nI r) (nI k) S1 = some (nI c) := by
      rw [k_chuteIn (v := v) (p := j) (by rw [hP1]; exact hM) hV1 hm hr hR (by omega), hc2]
    obtain ⟨S2, Z2, s2, z2, t2, cw2, zw2⟩ := t1.apn (fu := fu) (v := c) (by omega) (by rw [nsz_1 (by omega)]; omega) (by omega)
    rw [nsz_1 (by omega)] at t2
    rw [s1, z1, bd_s, bd_s, ec, bd_s, s2, bd_s, show (3 : Int32) + nI k = nI (3 + k) from nI_add 3 k, n_ofRule hj (by omega) (by omega), bd_s, hZ1, hc2, z2, bd_s, nI_1]
    obtain ⟨S3, Z3, s3, z3, t3, cw3, zw3⟩ := ih (k + 1) f f' (w + 1 + 1) S2 Z2 (by omega) (by omega) (by omega) t2 (by omega) (cw2.pln.trans hP1) (zw2.live.trans hZ1)
    exact ⟨S3, Z3, s3, z3, by rw [show w + 2 * (d + 1) = w + 1 + 1 + 2 * d by omega]; exact t3, (cw1.trans cw2).trans cw3, (zw1.trans zw2).trans zw3⟩
theorem t_wrRule {r w : Nat} (hf0 : 20 < fu) (hM : PM P v i j) (hj : j < 5) (hVP : VP v nc j m cx) (hW : PW v j) (hr : r < m) (hnc : nc ≤ 8) (hT : GWt S Z w) (hw : w + 11 ≤ 140) (hP : pln S = P) (hZ : live Z = v) : ∃ S' Z' w', s_X2_writeRule fu i (nI r) S = some S' ∧ s_X7_printsRule fu (nI j) (nI r) Z = some Z' ∧ GWt S' Z' w' ∧ w' ≤ w + 11 ∧ CW S S' ∧ ZW Z Z' := by
  obtain ⟨hV1, hm8, hV2, hcx, hVR⟩ := hVP
  obtain ⟨n, hR⟩ := hVR r hr
  obtain ⟨-, -, -, hW4⟩ := hW
  rw [hV1, nI_clamp (by omega)] at hW4
  obtain ⟨a, b, hab, hb, ha0, hb0, -⟩ := hW4 r hr
  have hM4 := hM.2.2.2.2
  rw [hV1, nI_clamp (by omega)] at hM4
  obtain ⟨p10, p11, -⟩ := hM4 r hr
  have i8 : inb (nI r) 8 := inb_nI (by omega) (by decide)
  have r10 : ∀ {S : S4}, pln S = P → S 10 0 i (nI r).toNatClampNeg = nI a := fun {S} hh => by rw [nI_clamp (by omega), rk10 S, hh, p10]; exact ha0
  have r11 : ∀ {S : S4}, pln S = P → S 11 0 i (nI r).toNatClampNeg = nI b := fun {S} hh => by rw [nI_clamp (by omega), rk11 S, hh, p11]; exact hb0
  have ha0' : v 3 j (4 + 6 * r + 0) = nI a := ha0
  obtain ⟨S1, Z1, s1, z1, t1, cw1, zw1⟩ := hT.apn (fu := fu) (v := a) (by omega) (by have := nsz_2 (c := a) (by omega); omega) (by omega)
  have n2 := nsz_2 (c := a) (by omega)
  have hP1 := cw1.pln.trans hP
  have hZ1 := zw1.live.trans hZ
  have hn3 := hR.2.1
  unfold s_X2_writeRule s_X7_printsRule
  rw [gd_t i8, r10 hP, s1, bd_s, gd_t i8, r11 hP1, r10 hP1, q_ofRule hj (by omega) (by decide), bd_s, hZ, ha0', z1, bd_s, q_ofRule hj (by omega) (by decide), bd_s, q_ofRule hj (by omega) (by decide), bd_s, hZ1, ha0', hb0]
  by_cases e : a = b
  · subst e
    rw [if_pos rfl, if_pos (nI_le (Nat.le_refl _) (by omega))]
    obtain ⟨S2, Z2, s2, z2, t2, cw2, zw2⟩ := t_wrL (fu := fu) hf0 hM hj hV1 hm8 hr hR hnc n 0 fu fu _ S1 Z1 (by omega) (by omega) (by omega) t1 (by omega) hP1 hZ1
    exact ⟨S2, Z2, _, s2, z2, t2, by omega, cw1.trans cw2, zw1.trans zw2⟩
  · rw [if_neg (fun z => e ((nI_inj z (by omega) (by omega)).symm)), if_neg (nI_ge (by omega) (by omega))]
    obtain ⟨S2, Z2, s2, z2, t2, cw2, zw2⟩ := t1.apc (c := 45) (by omega) (by decide)
    have s2' : s_apc 45 S1 = some S2 := s2
    have z2' : s_X7_prints 45 Z1 = some Z2 := z2
    have hP2 := cw2.pln.trans hP1
    have hZ2 := zw2.live.trans hZ1
    have m2 := nsz_2 (c := b) (by omega)
    obtain ⟨S3, Z3, s3, z3, t3, cw3, zw3⟩ := t2.apn (fu := fu) (v := b) (by omega) (by omega) (by omega)
    rw [s2', z2', bd_s, bd_s, gd_t i8, r11 hP2, s3, bd_s, q_ofRule hj (by omega) (by decide), bd_s, hZ2, hb0, z3, bd_s]
    obtain ⟨S4, Z4, s4, z4, t4, cw4, zw4⟩ := t_wrL (fu := fu) hf0 hM hj hV1 hm8 hr hR hnc n 0 fu fu _ S3 Z3 (by omega) (by omega) (by omega) t3 (by omega) (cw3.pln.trans hP2) (zw3.live.trans hZ2)
    exact ⟨S4, Z4, _, s4, z4, t4, by omega, ((cw1.trans cw2).trans cw3).trans cw4, ((zw1.trans zw2).trans zw3).trans zw4⟩
end WR
