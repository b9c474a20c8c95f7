/-! numbers -/
def b2 (p : Prop) [Decidable p] : Int32 := if p then 1 else 0
theorem b2_t {p : Prop} [Decidable p] (h : p) : b2 p = 1 := if_pos h
theorem b2_f {p : Prop} [Decidable p] (h : ¬ p) : b2 p = 0 := if_neg h
theorem b2_eq0 {p : Prop} [Decidable p] : b2 p = 0 ↔ ¬ p := by
  by_cases h : p
  · simp [b2, h]
  · simp [b2, h]
theorem inb_nI {n N : Nat} (h : n < N) (hN : N < 2 ^ 31) : inb (nI n) N := vp_in_nI h hN
theorem lit_nI (n : Nat) : Int32.ofNat n = nI n := rfl
theorem bd_s {α β : Type} (x : α) (f : α → Option β) : (some x).bind f = f x := rfl
theorem idx_nI {N n : Nat} {x : Int32} (e : x = nI n) (h : n < N) (hN : N < 2 ^ 31) : inb x N ∧ x.toNatClampNeg = n := by
  subst e
  exact ⟨inb_nI h hN, nI_clamp (by omega)⟩
/-! the reference's readers and writers, by places -/
theorem p_ofStation {Z : S4} {s w : Nat} (hs : s < 3) (hw : w < 13) : s_X7_ofStation (nI s) (nI w) Z = some (Z 25 0 0 (13 * s + w)) := by
  have e : (13 : Int32) * nI s + nI w = nI (13 * s + w) := by rw [show (13 : Int32) = nI 13 from rfl, pk_mul, nI_add]
  obtain ⟨h1, h2⟩ := idx_nI (N := 39) e (by omega) (by omega)
  unfold s_X7_ofStation
  rw [gd_t h1, h2]
theorem p_ofChute {Z : S4} {c w : Nat} (hc : c < 8) (hw : w < 15) : s_X7_ofChute (nI c) (nI w) Z = some (Z 26 0 0 (15 * c + w)) := by
  have e : (15 : Int32) * nI c + nI w = nI (15 * c + w) := by rw [show (15 : Int32) = nI 15 from rfl, pk_mul, nI_add]
  obtain ⟨h1, h2⟩ := idx_nI (N := 120) e (by omega) (by omega)
  unfold s_X7_ofChute
  rw [gd_t h1, h2]
theorem p_ofParcel {Z : S4} {c w : Nat} (hc : c < 60) (hw : w < 12) : s_X7_ofParcel (nI c) (nI w) Z = some (Z 28 0 0 (12 * c + w)) := by
  have e : (12 : Int32) * nI c + nI w = nI (12 * c + w) := by rw [show (12 : Int32) = nI 12 from rfl, pk_mul, nI_add]
  obtain ⟨h1, h2⟩ := idx_nI (N := 720) e (by omega) (by omega)
  unfold s_X7_ofParcel
  rw [gd_t h1, h2]
theorem p_ofPlan {Z : S4} {c w : Nat} (hc : c < 5) (hw : w < 52) : s_X7_ofPlan (nI c) (nI w) Z = some (Z 27 0 0 (52 * c + w)) := by
  have e : (52 : Int32) * nI c + nI w = nI (52 * c + w) := by rw [show (52 : Int32) = nI 52 from rfl, pk_mul, nI_add]
  obtain ⟨h1, h2⟩ := idx_nI (N := 260) e (by omega) (by omega)
  unfold s_X7_ofPlan
  rw [gd_t h1, h2]
theorem p_setsChute {Z : S4} {c w : Nat} {v : Int32} (hc : c < 8) (hw : w < 15) : s_X7_setsChute (nI c) (nI w) v Z = some (u4 Z 26 0 0 (15 * c + w) v) := by
  have e : (15 : Int32) * nI c + nI w = nI (15 * c + w) := by rw [show (15 : Int32) = nI 15 from rfl, pk_mul, nI_add]
  obtain ⟨h1, h2⟩ := idx_nI (N := 120) e (by omega) (by omega)
  unfold s_X7_setsChute
  rw [gd_t h1, h2]
  rfl
theorem p_isBetween {Z : S4} {v a b : Int32} : s_X7_isBetween v a b Z = some (b2 (a ≤ v ∧ v ≤ b)) := by
  unfold s_X7_isBetween b2
  by_cases h1 : v < a
  · rw [if_pos h1, if_neg (fun h => by have := h.1; exact absurd h1 (Int32.not_lt.mpr this))]
  · rw [if_neg h1]
    by_cases h2 : b < v
    · rw [if_pos h2, if_neg (fun h => absurd h2 (Int32.not_lt.mpr h.2))]
    · rw [if_neg h2, if_pos ⟨Int32.not_lt.mp h1, Int32.not_lt.mp h2⟩]
theorem tst_grind (x y : Int32) (h : ¬ x < 0) (h2 : x < 10) (h3 : y = x + 1) : y ≤ 10 := by grind
