/-! the sums of both sides -/
section SU
variable {np fu T t : Nat} {S Z : S4} {ns nc nl nq nd fo pc : Nat}
theorem r_with_L {w : Nat} {x : Int32} (h4 : live Z 6 0 4 = nI nq) (h60 : nq ≤ 60) (hw : w < 12) : ∀ (d k f : Nat), k + d = nq → d < f → s_X7_parcelsWith_L5 fu (nI w) x Z f (sm (fun p => b2 (live Z 4 p w = x)) k) (nI k) = some (sm (fun p => b2 (live Z 4 p w = x)) nq) := by
  intro d
  induction d with
  | zero =>
    intro k f hk hf
    obtain ⟨f, rfl⟩ : ∃ g, f = g + 1 := ⟨f - 1, by omega⟩
    obtain rfl : k = nq := by omega
    rw [s_X7_parcelsWith_L5, rd_n4 Z, h4, if_pos (nI_le (by omega) (by omega))]
  | succ d ih =>
    intro k f hk hf
    obtain ⟨f, rfl⟩ : ∃ g, f = g + 1 := ⟨f - 1, by omega⟩
    rw [s_X7_parcelsWith_L5, rd_n4 Z, h4, if_neg (nI_ge (by omega) (by omega)), n_ofParcel (by omega) hw, bd_s, nI_1]
    have e : (if live Z 4 k w = x then some (1 : Int32) else some 0) = some (b2 (live Z 4 k w = x)) := by
      unfold b2
      by_cases h : live Z 4 k w = x
      · rw [if_pos h, if_pos h]
      · rw [if_neg h, if_neg h]
    rw [e, bd_s]
    exact ih (k + 1) f (by omega) (by omega)
theorem r_with {w : Nat} {x : Int32} (h4 : live Z 6 0 4 = nI nq) (h60 : nq ≤ 60) (hw : w < 12) (hf : 60 < fu) : s_X7_parcelsWith fu (nI w) x Z = some (sm (fun p => b2 (live Z 4 p w = x)) nq) := r_with_L h4 h60 hw nq 0 fu (by omega) (by omega)
theorem r_aimed_L {x : Int32} (h4 : live Z 6 0 4 = nI nq) (h60 : nq ≤ 60) : ∀ (d k f : Nat), k + d = nq → d < f → s_X7_aimedAt_L4 fu x Z f (sm (fun p => b2 (live Z 4 p 7 = x)) k) (nI k) = some (sm (fun p => b2 (live Z 4 p 7 = x)) nq) := by
  intro d
  induction d with
  | zero =>
    intro k f hk hf
    obtain ⟨f, rfl⟩ : ∃ g, f = g + 1 := ⟨f - 1, by omega⟩
    obtain rfl : k = nq := by omega
    rw [s_X7_aimedAt_L4, rd_n4 Z, h4, if_pos (nI_le (by omega) (by omega))]
  | succ d ih =>
    intro k f hk hf
    obtain ⟨f, rfl⟩ : ∃ g, f = g + 1 := ⟨f - 1, by omega⟩
    rw [s_X7_aimedAt_L4, rd_n4 Z, h4, if_neg (nI_ge (by omega) (by omega)), q_ofParcel (by omega) (by decide), bd_s, nI_1]
    have e : (if live Z 4 k 7 = x then some (1 : Int32) else some 0) = some (b2 (live Z 4 k 7 = x)) := by
      unfold b2
      by_cases h : live Z 4 k 7 = x
      · rw [if_pos h, if_pos h]
      · rw [if_neg h, if_neg h]
    rw [e, bd_s]
    exact ih (k + 1) f (by omega) (by omega)
theorem r_chsum_L {w : Nat} (h2 : live Z 6 0 2 = nI nc) (h8 : nc ≤ 8) (hw : w < 15) : ∀ (d k f : Nat), k + d = nc → d < f → s_X7_sumOfChutes_L4 fu (nI w) Z f (sm (fun c => live Z 2 c w) k) (nI k) = some (sm (fun c => live Z 2 c w) nc) := by
  intro d
  induction d with
  | zero =>
    intro k f hk hf
    obtain ⟨f, rfl⟩ : ∃ g, f = g + 1 := ⟨f - 1, by omega⟩
    obtain rfl : k = nc := by omega
    rw [s_X7_sumOfChutes_L4, rd_n2 Z, h2, if_pos (nI_le (by omega) (by omega))]
  | succ d ih =>
    intro k f hk hf
    obtain ⟨f, rfl⟩ : ∃ g, f = g + 1 := ⟨f - 1, by omega⟩
    rw [s_X7_sumOfChutes_L4, rd_n2 Z, h2, if_neg (nI_ge (by omega) (by omega)), n_ofChute (by omega) hw, bd_s, nI_1]
    exact ih (k + 1) f (by omega) (by omega)
theorem r_chsum {w : Nat} (h2 : live Z 6 0 2 = nI nc) (h8 : nc ≤ 8) (hw : w < 15) (hf : 60 < fu) : s_X7_sumOfChutes fu (nI w) Z = some (sm (fun c => live Z 2 c w) nc) := r_chsum_L h2 h8 hw nc 0 fu (by omega) (by omega)
theorem r_rounds {p : Nat} (hp : p < 60) : s_X7_rounds (nI p) Z = some (rnd (live Z) p) := by
  unfold s_X7_rounds rnd
  rw [q_ofParcel hp (by decide), bd_s]
  by_cases h : live Z 4 p 6 = 0
  · rw [if_pos h, if_pos h]
  · rw [if_neg h, if_neg h, bd_s]
def mxr (v : Vw) : Nat → Int32
  | 0 => 0
  | n + 1 => if mxr v n < rnd v n then rnd v n else mxr v n
theorem r_rsum_L (h4 : live Z 6 0 4 = nI nq) (h60 : nq ≤ 60) : ∀ (d k f : Nat), k + d = nq → d < f → s_X7_roundsOf_L4 fu 0 Z f (sm (fun p => rnd (live Z) p) k) (nI k) = some (sm (fun p => rnd (live Z) p) nq) := by
  intro d
  induction d with
  | zero =>
    intro k f hk hf
    obtain ⟨f, rfl⟩ : ∃ g, f = g + 1 := ⟨f - 1, by omega⟩
    obtain rfl : k = nq := by omega
    rw [s_X7_roundsOf_L4, rd_n4 Z, h4, if_pos (nI_le (by omega) (by omega))]
  | succ d ih =>
    intro k f hk hf
    obtain ⟨f, rfl⟩ : ∃ g, f = g + 1 := ⟨f - 1, by omega⟩
    rw [s_X7_roundsOf_L4, rd_n4 Z, h4, if_neg (nI_ge (by omega) (by omega)), if_pos rfl, r_rounds (by omega), bd_s, bd_s, nI_1]
    exact ih (k + 1) f (by omega) (by omega)
theorem r_rmax_L (h4 : live Z 6 0 4 = nI nq) (h60 : nq ≤ 60) : ∀ (d k f : Nat), k + d = nq → d < f → s_X7_roundsOf_L4 fu 1 Z f (mxr (live Z) k) (nI k) = some (mxr (live Z) nq) := by
  intro d
  induction d with
  | zero =>
    intro k f hk hf
    obtain ⟨f, rfl⟩ : ∃ g, f = g + 1 := ⟨f - 1, by omega⟩
    obtain rfl : k = nq := by omega
    rw [s_X7_roundsOf_L4, rd_n4 Z, h4, if_pos (nI_le (by omega) (by omega))]
  | succ d ih =>
    intro k f hk hf
    obtain ⟨f, rfl⟩ : ∃ g, f = g + 1 := ⟨f - 1, by omega⟩
    have h9 := ih (k + 1) f (by omega) (by omega)
    rw [mxr] at h9
    rw [s_X7_roundsOf_L4, rd_n4 Z, h4, if_neg (nI_ge (by omega) (by omega)), if_neg (by decide), r_rounds (by omega), bd_s, bd_s, nI_1]
    by_cases h : rnd (live Z) k ≤ mxr (live Z) k
    · rw [if_neg (Int32.not_lt.mpr h)] at h9
      rw [if_pos h, bd_s]
      exact h9
    · rw [if_pos (Int32.not_le.mp h)] at h9
      rw [if_neg h, bd_s]
      exact h9
/-! the class' sums -/
theorem k_aimed_L {x : Int32} {v : Vw} (h4 : cls S t 4 0 6 = nI nq) (h60 : nq ≤ 60) (hP : ∀ p, p < nq → cls S t 1 p 7 = v 4 p 7) : ∀ (d k f : Nat), k + d = nq → d < f → s_X4_parcelsAimedAt_L4 fu t x S f (sm (fun p => b2 (v 4 p 7 = x)) k) (nI k) = some (sm (fun p => b2 (v 4 p 7 = x)) nq) := by
  intro d
  induction d with
  | zero =>
    intro k f hk hf
    obtain ⟨f, rfl⟩ : ∃ g, f = g + 1 := ⟨f - 1, by omega⟩
    obtain rfl : k = nq := by omega
    rw [s_X4_parcelsAimedAt_L4, rcl S, h4, if_pos (nI_le (by omega) (by omega))]
  | succ d ih =>
    intro k f hk hf
    obtain ⟨f, rfl⟩ : ∃ g, f = g + 1 := ⟨f - 1, by omega⟩
    have h9 := ih (k + 1) f (by omega) (by omega)
    rw [sm] at h9
    rw [s_X4_parcelsAimedAt_L4, rcl S, h4, if_neg (nI_ge (by omega) (by omega)), gd_t (inb_nI (by omega) (by decide)), nI_clamp (by omega), show S 1 t k 7 = v 4 k 7 from hP k (by omega), nI_1]
    by_cases h : v 4 k 7 = x
    · rw [b2_t h] at h9; rw [if_pos h]; exact h9
    · rw [b2_f h, show ∀ y : Int32, y + 0 = y from fun y => by grind] at h9; rw [if_neg h]; exact h9
theorem k_are_L {x : Int32} {v : Vw} (h4 : cls S t 4 0 6 = nI nq) (h60 : nq ≤ 60) (hP : ∀ p, p < nq → cls S t 1 p 4 = v 4 p 4) : ∀ (d k f : Nat), k + d = nq → d < f → s_X4_parcelsThatAre_L4 fu t x S f (sm (fun p => b2 (v 4 p 4 = x)) k) (nI k) = some (sm (fun p => b2 (v 4 p 4 = x)) nq) := by
  intro d
  induction d with
  | zero =>
    intro k f hk hf
    obtain ⟨f, rfl⟩ : ∃ g, f = g + 1 := ⟨f - 1, by omega⟩
    obtain rfl : k = nq := by omega
    rw [s_X4_parcelsThatAre_L4, rcl S, h4, if_pos (nI_le (by omega) (by omega))]
  | succ d ih =>
    intro k f hk hf
    obtain ⟨f, rfl⟩ : ∃ g, f = g + 1 := ⟨f - 1, by omega⟩
    have h9 := ih (k + 1) f (by omega) (by omega)
    rw [sm] at h9
    rw [s_X4_parcelsThatAre_L4, rcl S, h4, if_neg (nI_ge (by omega) (by omega)), gd_t (inb_nI (by omega) (by decide)), nI_clamp (by omega), show S 1 t k 4 = v 4 k 4 from hP k (by omega), nI_1]
    by_cases h : v 4 k 4 = x
    · rw [b2_t h] at h9; rw [if_pos h]; exact h9
    · rw [b2_f h, show ∀ y : Int32, y + 0 = y from fun y => by grind] at h9; rw [if_neg h]; exact h9
theorem k_are {x : Int32} {v : Vw} (h4 : cls S t 4 0 6 = nI nq) (h60 : nq ≤ 60) (hP : ∀ p, p < nq → cls S t 1 p 4 = v 4 p 4) (hf : 60 < fu) : s_X4_parcelsThatAre fu t x S = some (sm (fun p => b2 (v 4 p 4 = x)) nq) := k_are_L h4 h60 hP nq 0 fu (by omega) (by omega)
theorem k_wait_L {v : Vw} (h4 : cls S t 4 0 3 = nI ns) (h3 : ns ≤ 3) (hP : ∀ s, s < ns → cls S t 5 s 1 = v 1 s 1) : ∀ (d k f : Nat), k + d = ns → d < f → s_X4_waitingInStations_L4 fu t S f (sm (fun s => v 1 s 1) k) (nI k) = some (sm (fun s => v 1 s 1) ns) := by
  intro d
  induction d with
  | zero =>
    intro k f hk hf
    obtain ⟨f, rfl⟩ : ∃ g, f = g + 1 := ⟨f - 1, by omega⟩
    obtain rfl : k = ns := by omega
    rw [s_X4_waitingInStations_L4, rcl S, h4, if_pos (nI_le (by omega) (by omega))]
  | succ d ih =>
    intro k f hk hf
    obtain ⟨f, rfl⟩ : ∃ g, f = g + 1 := ⟨f - 1, by omega⟩
    rw [s_X4_waitingInStations_L4, rcl S, h4, if_neg (nI_ge (by omega) (by omega)), gd_t (inb_nI (by omega) (by decide)), nI_clamp (by omega), show S 5 t k 1 = v 1 k 1 from hP k (by omega), nI_1]
    exact ih (k + 1) f (by omega) (by omega)
theorem k_wait {v : Vw} (h4 : cls S t 4 0 3 = nI ns) (h3 : ns ≤ 3) (hP : ∀ s, s < ns → cls S t 5 s 1 = v 1 s 1) (hf : 60 < fu) : s_X4_waitingInStations fu t S = some (sm (fun s => v 1 s 1) ns) := k_wait_L h4 h3 hP ns 0 fu (by omega) (by omega)
theorem k_loop_L (h4 : cls S t 4 0 1 = nI pc) (h30 : pc ≤ 30) : ∀ (d k f : Nat), k + d = pc → d < f → s_X4_carriedOnLoop_L4 fu t S f (sm (fun i => b2 (¬ cls S t 19 0 i = -1)) k) (nI k) = some (sm (fun i => b2 (¬ cls S t 19 0 i = -1)) pc) := by
  intro d
  induction d with
  | zero =>
    intro k f hk hf
    obtain ⟨f, rfl⟩ : ∃ g, f = g + 1 := ⟨f - 1, by omega⟩
    obtain rfl : k = pc := by omega
    rw [s_X4_carriedOnLoop_L4, rcl S, h4, if_pos (nI_le (by omega) (by omega))]
  | succ d ih =>
    intro k f hk hf
    obtain ⟨f, rfl⟩ : ∃ g, f = g + 1 := ⟨f - 1, by omega⟩
    have h9 := ih (k + 1) f (by omega) (by omega)
    rw [sm] at h9
    rw [s_X4_carriedOnLoop_L4, rcl S, h4, if_neg (nI_ge (by omega) (by omega)), gd_t (inb_nI (by omega) (by decide)), nI_clamp (by omega), rcl S, nI_1]
    by_cases h : cls S t 19 0 k = -1
    · rw [b2_f (fun z => z h), show ∀ y : Int32, y + 0 = y from fun y => by grind] at h9; rw [if_pos h]; exact h9
    · rw [b2_t h] at h9; rw [if_neg h]; exact h9
theorem k_loop (h4 : cls S t 4 0 1 = nI pc) (h30 : pc ≤ 30) (hf : 60 < fu) : s_X4_carriedOnLoop fu t S = some (sm (fun i => b2 (¬ cls S t 19 0 i = -1)) pc) := k_loop_L h4 h30 pc 0 fu (by omega) (by omega)
theorem k_jams_L {v : Vw} (h4 : cls S t 4 0 4 = nI nc) (h8 : nc ≤ 8) (hP : ∀ c, c < nc → cls S t 0 c 12 = v 2 c 12) : ∀ (d k f : Nat), k + d = nc → d < f → s_X4_jamsOfChutes_L4 fu t S f (sm (fun c => v 2 c 12) k) (nI k) = some (sm (fun c => v 2 c 12) nc) := by
  intro d
  induction d with
  | zero =>
    intro k f hk hf
    obtain ⟨f, rfl⟩ : ∃ g, f = g + 1 := ⟨f - 1, by omega⟩
    obtain rfl : k = nc := by omega
    rw [s_X4_jamsOfChutes_L4, rcl S, h4, if_pos (nI_le (by omega) (by omega))]
  | succ d ih =>
    intro k f hk hf
    obtain ⟨f, rfl⟩ : ∃ g, f = g + 1 := ⟨f - 1, by omega⟩
    rw [s_X4_jamsOfChutes_L4, rcl S, h4, if_neg (nI_ge (by omega) (by omega)), gd_t (inb_nI (by omega) (by decide)), nI_clamp (by omega), show S 0 t k 12 = v 2 k 12 from hP k (by omega), nI_1]
    exact ih (k + 1) f (by omega) (by omega)
theorem k_bags_L {v : Vw} (h4 : cls S t 4 0 4 = nI nc) (h8 : nc ≤ 8) (hP : ∀ c, c < nc → cls S t 0 c 14 = v 2 c 14) : ∀ (d k f : Nat), k + d = nc → d < f → s_X4_bagsOfChutes_L4 fu t S f (sm (fun c => v 2 c 14) k) (nI k) = some (sm (fun c => v 2 c 14) nc) := by
  intro d
  induction d with
  | zero =>
    intro k f hk hf
    obtain ⟨f, rfl⟩ : ∃ g, f = g + 1 := ⟨f - 1, by omega⟩
    obtain rfl : k = nc := by omega
    rw [s_X4_bagsOfChutes_L4, rcl S, h4, if_pos (nI_le (by omega) (by omega))]
  | succ d ih =>
    intro k f hk hf
    obtain ⟨f, rfl⟩ : ∃ g, f = g + 1 := ⟨f - 1, by omega⟩
    rw [s_X4_bagsOfChutes_L4, rcl S, h4, if_neg (nI_ge (by omega) (by omega)), gd_t (inb_nI (by omega) (by decide)), nI_clamp (by omega), show S 0 t k 14 = v 2 k 14 from hP k (by omega), nI_1]
    exact ih (k + 1) f (by omega) (by omega)
theorem rnd_sc {v : Vw} {p sc : Nat} (h : v 4 p 6 = nI sc) (hs : sc < 2 ^ 31) : rnd v p = nI (sc - 1) := by
  unfold rnd
  rw [h]
  cases sc with
  | zero => rfl
  | succ n => exact rnd_1 hs
theorem k_rnd {v : Vw} {p : Nat} (h6 : cls S t 1 p 6 = v 4 p 6) (hsc : ∃ sc, v 4 p 6 = nI sc ∧ sc ≤ T) (hT : T < 2 ^ 31) : s_X1_rounds t p S = some (rnd v p) := by
  obtain ⟨sc, h1, h2⟩ := hsc
  rw [k_rounds (sc := sc) (by rw [h6, h1]) (by omega), rnd_sc h1 (by omega)]
theorem k_great_L {v : Vw} (h4 : cls S t 4 0 6 = nI nq) (h60 : nq ≤ 60) (hP : ∀ p, p < nq → s_X1_rounds t p S = some (rnd v p)) : ∀ (d k f : Nat), k + d = nq → d < f → s_X4_greatestRounds_L4 fu t S f (mxr v k) (nI k) = some (mxr v nq) := by
  intro d
  induction d with
  | zero =>
    intro k f hk hf
    obtain ⟨f, rfl⟩ : ∃ g, f = g + 1 := ⟨f - 1, by omega⟩
    obtain rfl : k = nq := by omega
    rw [s_X4_greatestRounds_L4, rcl S, h4, if_pos (nI_le (by omega) (by omega))]
  | succ d ih =>
    intro k f hk hf
    obtain ⟨f, rfl⟩ : ∃ g, f = g + 1 := ⟨f - 1, by omega⟩
    rw [s_X4_greatestRounds_L4, rcl S, h4, if_neg (nI_ge (by omega) (by omega)), gd_t (inb_nI (by omega) (by decide)), nI_clamp (by omega), hP k (by omega), bd_s, nI_1]
    exact ih (k + 1) f (by omega) (by omega)
theorem k_rdrop_L {v : Vw} (h4 : cls S t 4 0 6 = nI nq) (h60 : nq ≤ 60) (hQ : ∀ p, p < nq → cls S t 1 p 4 = v 4 p 4) (hP : ∀ p, p < nq → s_X1_rounds t p S = some (rnd v p)) : ∀ (d k f : Nat), k + d = nq → d < f → s_X4_roundsOfDropped_L4 fu t S f (sm (fun p => if v 4 p 4 = 2 then rnd v p else 0) k) (nI k) = some (sm (fun p => if v 4 p 4 = 2 then rnd v p else 0) nq) := by
  intro d
  induction d with
  | zero =>
    intro k f hk hf
    obtain ⟨f, rfl⟩ : ∃ g, f = g + 1 := ⟨f - 1, by omega⟩
    obtain rfl : k = nq := by omega
    rw [s_X4_roundsOfDropped_L4, rcl S, h4, if_pos (nI_le (by omega) (by omega))]
  | succ d ih =>
    intro k f hk hf
    obtain ⟨f, rfl⟩ : ∃ g, f = g + 1 := ⟨f - 1, by omega⟩
    have h9 := ih (k + 1) f (by omega) (by omega)
    rw [sm] at h9
    rw [s_X4_roundsOfDropped_L4, rcl S, h4, if_neg (nI_ge (by omega) (by omega)), gd_t (inb_nI (by omega) (by decide)), show S 1 t (nI k).toNatClampNeg 4 = v 4 k 4 from by rw [nI_clamp (by omega)]; exact hQ k (by omega), nI_1]
    by_cases h : v 4 k 4 = 2
    · rw [if_pos h] at h9 ⊢
      rw [gd_t (inb_nI (by omega) (by decide)), nI_clamp (by omega), hP k (by omega), bd_s]
      exact h9
    · rw [if_neg h, show ∀ y : Int32, y + 0 = y from fun y => by grind] at h9
      rw [if_neg h]; exact h9
theorem k_ragree_L {v : Vw} (h4 : cls S t 4 0 6 = nI nq) (h60 : nq ≤ 60) (hP : ∀ p, p < nq → s_X1_rounds t p S = some (rnd v p)) (h8 : cls S t 4 0 8 = sm (fun p => rnd v p) nq) : ∀ (d k f : Nat), k + d = nq → d < f → s_X4_roundsAgree_L4 fu t S f (sm (fun p => rnd v p) k) (nI k) = some 1 := by
  intro d
  induction d with
  | zero =>
    intro k f hk hf
    obtain ⟨f, rfl⟩ : ∃ g, f = g + 1 := ⟨f - 1, by omega⟩
    obtain rfl : k = nq := by omega
    rw [s_X4_roundsAgree_L4, show S 4 t 0 6 = nI k from h4, show S 4 t 0 8 = sm (fun p => rnd v p) k from h8, if_pos (nI_le (by omega) (by omega)), if_pos rfl]
  | succ d ih =>
    intro k f hk hf
    obtain ⟨f, rfl⟩ : ∃ g, f = g + 1 := ⟨f - 1, by omega⟩
    rw [s_X4_roundsAgree_L4, show S 4 t 0 6 = nI nq from h4, if_neg (nI_ge (by omega) (by omega)), gd_t (inb_nI (by omega) (by decide)), nI_clamp (by omega), hP k (by omega), bd_s, nI_1]
    exact ih (k + 1) f (by omega) (by omega)
theorem k_cagree_L14 {v : Vw} {K : Int32 → Option Int32} {c : Nat} (hc : c < 8) (h4 : cls S t 4 0 6 = nI nq) (h60 : nq ≤ 60) (hQ : ∀ p, p < nq → cls S t 1 p 4 = v 4 p 4 ∧ (v 4 p 4 = 2 → cls S t 1 p 5 = v 4 p 5)) (h11 : cls S t 0 c 11 = sm (fun p => b2 (v 4 p 4 = 2 ∧ v 4 p 5 = nI c)) nq) : ∀ (d k f : Nat), k + d = nq → d < f → s_X4_chutesAgree_L14 fu t K S f (nI c) (sm (fun p => b2 (v 4 p 4 = 2 ∧ v 4 p 5 = nI c)) k) (nI k) = K (nI (c + 1)) := by
  intro d
  induction d with
  | zero =>
    intro k f hk hf
    obtain ⟨f, rfl⟩ : ∃ g, f = g + 1 := ⟨f - 1, by omega⟩
    obtain rfl : k = nq := by omega
    rw [s_X4_chutesAgree_L14, show S 4 t 0 6 = nI k from h4, if_pos (nI_le (by omega) (by omega)), gd_t (inb_nI (by omega) (by decide)), nI_clamp (by omega), show S 0 t c 11 = _ from h11, if_pos rfl, nI_1]
  | succ d ih =>
    intro k f hk hf
    obtain ⟨f, rfl⟩ : ∃ g, f = g + 1 := ⟨f - 1, by omega⟩
    have h9 := ih (k + 1) f (by omega) (by omega)
    rw [sm] at h9
    obtain ⟨q1, q2⟩ := hQ k (by omega)
    rw [s_X4_chutesAgree_L14, show S 4 t 0 6 = nI nq from h4, if_neg (nI_ge (by omega) (by omega)), gd_t (inb_nI (by omega) (by decide)), show S 1 t (nI k).toNatClampNeg 4 = v 4 k 4 from by rw [nI_clamp (by omega)]; exact q1, nI_1 k]
    by_cases h : v 4 k 4 = 2
    · rw [if_pos h, gd_t (inb_nI (by omega) (by decide)), nI_clamp (n := k) (by omega), show S 1 t k 5 = v 4 k 5 from q2 h]
      by_cases h5 : v 4 k 5 = nI c
      · rw [if_pos h5]
        rw [b2_t ⟨h, h5⟩] at h9
        exact h9
      · rw [if_neg h5]
        rw [b2_f (fun z => h5 z.2), show ∀ y : Int32, y + 0 = y from fun y => by grind] at h9
        exact h9
    · rw [if_neg h]
      rw [b2_f (fun z => h z.1), show ∀ y : Int32, y + 0 = y from fun y => by grind] at h9
      exact h9
theorem k_cagree_L {v : Vw} (hnc : cls S t 4 0 4 = nI nc) (h8 : nc ≤ 8) (h4 : cls S t 4 0 6 = nI nq) (h60 : nq ≤ 60) (hQ : ∀ p, p < nq → cls S t 1 p 4 = v 4 p 4 ∧ (v 4 p 4 = 2 → cls S t 1 p 5 = v 4 p 5)) (h11 : ∀ c, c < nc → cls S t 0 c 11 = sm (fun p => b2 (v 4 p 4 = 2 ∧ v 4 p 5 = nI c)) nq) (hf : 60 < fu) : ∀ (d c f : Nat), c + d = nc → d < f → s_X4_chutesAgree_L2 fu t S f (nI c) = some 1 := by
  intro d
  induction d with
  | zero =>
    intro c f hk hf'
    obtain ⟨f, rfl⟩ : ∃ g, f = g + 1 := ⟨f - 1, by omega⟩
    rw [s_X4_chutesAgree_L2, show S 4 t 0 4 = nI nc from hnc, if_pos (nI_le (by omega) (by omega))]
  | succ d ih =>
    intro c f hk hf'
    obtain ⟨f, rfl⟩ : ∃ g, f = g + 1 := ⟨f - 1, by omega⟩
    rw [s_X4_chutesAgree_L2, show S 4 t 0 4 = nI nc from hnc, if_neg (nI_ge (by omega) (by omega)), show (0 : Int32) = nI 0 from rfl, show ∀ K, s_X4_chutesAgree_L14 fu t K S fu (nI c) (nI 0) (nI 0) = K (nI (c + 1)) from fun K => k_cagree_L14 (K := K) (by omega) h4 h60 hQ (h11 c (by omega)) nq 0 fu (by omega) (by omega)]
    exact ih (c + 1) f (by omega) (by omega)
theorem k_vagree_L11 {v : Vw} {K : Int32 → Option Int32} {w : Nat} (hw : w < 4) (h4 : cls S t 4 0 6 = nI nq) (h60 : nq ≤ 60) (hQ : ∀ p, p < nq → cls S t 1 p 10 = v 4 p 10) (h11 : cls S t 21 0 w = sm (fun p => b2 (v 4 p 10 = nI w)) nq) : ∀ (d k f : Nat), k + d = nq → d < f → s_X4_verdictsAgree_L11 fu t K S f (nI w) (sm (fun p => b2 (v 4 p 10 = nI w)) k) (nI k) = K (nI (w + 1)) := by
  intro d
  induction d with
  | zero =>
    intro k f hk hf
    obtain ⟨f, rfl⟩ : ∃ g, f = g + 1 := ⟨f - 1, by omega⟩
    obtain rfl : k = nq := by omega
    rw [s_X4_verdictsAgree_L11, show S 4 t 0 6 = nI k from h4, if_pos (nI_le (by omega) (by omega)), gd_t (inb_nI (by omega) (by decide)), nI_clamp (by omega), show S 21 t 0 w = _ from h11, if_pos rfl, nI_1]
  | succ d ih =>
    intro k f hk hf
    obtain ⟨f, rfl⟩ : ∃ g, f = g + 1 := ⟨f - 1, by omega⟩
    have h9 := ih (k + 1) f (by omega) (by omega)
    rw [sm] at h9
    rw [s_X4_verdictsAgree_L11, show S 4 t 0 6 = nI nq from h4, if_neg (nI_ge (by omega) (by omega)), gd_t (inb_nI (by omega) (by decide)), nI_clamp (n := k) (by omega), show S 1 t k 10 = v 4 k 10 from hQ k (by omega), nI_1 k]
    by_cases h : v 4 k 10 = nI w
    · rw [if_pos h]
      rw [b2_t h] at h9
      exact h9
    · rw [if_neg h]
      rw [b2_f h, show ∀ y : Int32, y + 0 = y from fun y => by grind] at h9
      exact h9
theorem k_vagree_L {v : Vw} (h4 : cls S t 4 0 6 = nI nq) (h60 : nq ≤ 60) (hQ : ∀ p, p < nq → cls S t 1 p 10 = v 4 p 10) (h11 : ∀ w, w < 4 → cls S t 21 0 w = sm (fun p => b2 (v 4 p 10 = nI w)) nq) (hf : 60 < fu) : ∀ (d c f : Nat), c + d = 4 → d < f → s_X4_verdictsAgree_L2 fu t S f (nI c) = some 1 := by
  intro d
  induction d with
  | zero =>
    intro c f hk hf'
    obtain ⟨f, rfl⟩ : ∃ g, f = g + 1 := ⟨f - 1, by omega⟩
    rw [s_X4_verdictsAgree_L2, if_pos (show (4 : Int32) ≤ nI c from nI_le (a := 4) (by omega) (by omega))]
  | succ d ih =>
    intro c f hk hf'
    obtain ⟨f, rfl⟩ : ∃ g, f = g + 1 := ⟨f - 1, by omega⟩
    rw [s_X4_verdictsAgree_L2, if_neg (show ¬ (4 : Int32) ≤ nI c from nI_ge (b := 4) (by omega) (by decide)), show (0 : Int32) = nI 0 from rfl, show ∀ K, s_X4_verdictsAgree_L11 fu t K S fu (nI c) (nI 0) (nI 0) = K (nI (c + 1)) from fun K => k_vagree_L11 (K := K) (by omega) h4 h60 hQ (h11 c (by omega)) nq 0 fu (by omega) (by omega)]
    exact ih (c + 1) f (by omega) (by omega)
/-- every parcel is in one of three places -/
theorem sum_three {f : Nat → Int32} {n : Nat} (h : ∀ p, p < n → f p = 0 ∨ f p = 1 ∨ f p = 2) : sm (fun p => b2 (f p = 0)) n + sm (fun p => b2 (f p = 1)) n + sm (fun p => b2 (f p = 2)) n = nI n := by
  induction n with
  | zero => rfl
  | succ n ih =>
    have h1 := ih (fun p hp => h p (by omega))
    rw [sm, sm, sm, ← nI_1, ← h1]
    rcases h n (by omega) with z | z | z
    · rw [b2_t (p := f n = 0) z, b2_f (p := f n = 1) (by rw [z]; decide), b2_f (p := f n = 2) (by rw [z]; decide)]; grind
    · rw [b2_f (p := f n = 0) (by rw [z]; decide), b2_t (p := f n = 1) z, b2_f (p := f n = 2) (by rw [z]; decide)]; grind
    · rw [b2_f (p := f n = 0) (by rw [z]; decide), b2_f (p := f n = 1) (by rw [z]; decide), b2_t (p := f n = 2) z]; grind
end SU
