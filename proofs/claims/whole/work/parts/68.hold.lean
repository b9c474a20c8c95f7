/-! a cell that doesn't look at the new name stays as it was -/
section HO
variable {cA : Nat → ClassId} {ad : Ad} {κ i z k' t' i' : Nat} {r : Nat → Int32}
theorem rc_0 {x : Int32} {a b : Nat} (h : x = 0) : rc x a = rc x b := by unfold rc; rw [if_pos h, if_pos h]
theorem rc_1 {a : Nat} : rc 1 a = .ref a := rfl
theorem adk {k : Nat} (h : k ≠ κ) : adu ad κ 0 i z k = ad k := by
  funext t j
  exact adu_ne (fun q => h q.1)
/-- Plan's four arrays: kinds 10 to 13 -/
theorem holdP (hκ : 10 ≤ κ ∧ κ ≤ 13) (h2 : ¬ (k' = 2 ∧ i' = i)) (h42 : k' = 42 → i' = i → r (κ - 6) = 0) : ct cA (adu ad κ 0 i z) k' t' i' r = ct cA ad k' t' i' r := by
  have b : ∀ k, ¬ (10 ≤ k ∧ k ≤ 13) → adu ad κ 0 i z k = ad k := fun k hk => adk (by omega)
  by_cases e2 : k' = 2
  · subst e2
    have ne : ∀ k, adu ad κ 0 i z k 0 i' = ad k 0 i' := fun k => adu_ne (fun q => h2 ⟨rfl, q.2.2⟩)
    simp only [ct, ne]
  · by_cases e42 : k' = 42
    · subst e42
      by_cases ei : i' = i
      · subst ei
        have h0 := h42 rfl rfl
        rcases (by omega : κ = 10 ∨ κ = 11 ∨ κ = 12 ∨ κ = 13) with rfl | rfl | rfl | rfl
        · simp only [ct, adk (show (11 : Nat) ≠ 10 by decide), adk (show (12 : Nat) ≠ 10 by decide), adk (show (13 : Nat) ≠ 10 by decide), rc_0 (b := 0) (show r 4 = 0 from h0)]
        · simp only [ct, adk (show (10 : Nat) ≠ 11 by decide), adk (show (12 : Nat) ≠ 11 by decide), adk (show (13 : Nat) ≠ 11 by decide), rc_0 (b := 0) (show r 5 = 0 from h0)]
        · simp only [ct, adk (show (10 : Nat) ≠ 12 by decide), adk (show (11 : Nat) ≠ 12 by decide), adk (show (13 : Nat) ≠ 12 by decide), rc_0 (b := 0) (show r 6 = 0 from h0)]
        · simp only [ct, adk (show (10 : Nat) ≠ 13 by decide), adk (show (11 : Nat) ≠ 13 by decide), adk (show (12 : Nat) ≠ 13 by decide), rc_0 (b := 0) (show r 7 = 0 from h0)]
      · have ne : ∀ k, adu ad κ 0 i z k 0 i' = ad k 0 i' := fun k => adu_ne (fun q => ei q.2.2)
        simp only [ct, ne]
    · unfold ct
      split
      all_goals first
        | rfl
        | (exfalso; omega)
        | simp only [b _ (show ¬ (10 ≤ (0 : Nat) ∧ (0 : Nat) ≤ 13) by decide), b _ (show ¬ (10 ≤ (1 : Nat) ∧ (1 : Nat) ≤ 13) by decide), b _ (show ¬ (10 ≤ (2 : Nat) ∧ (2 : Nat) ≤ 13) by decide), b _ (show ¬ (10 ≤ (4 : Nat) ∧ (4 : Nat) ≤ 13) by decide), b _ (show ¬ (10 ≤ (5 : Nat) ∧ (5 : Nat) ≤ 13) by decide), b _ (show ¬ (10 ≤ (8 : Nat) ∧ (8 : Nat) ≤ 13) by decide), b _ (show ¬ (10 ≤ (9 : Nat) ∧ (9 : Nat) ≤ 13) by decide), b _ (show ¬ (10 ≤ (14 : Nat) ∧ (14 : Nat) ≤ 13) by decide), b _ (show ¬ (10 ≤ (15 : Nat) ∧ (15 : Nat) ≤ 13) by decide), b _ (show ¬ (10 ≤ (16 : Nat) ∧ (16 : Nat) ≤ 13) by decide), b _ (show ¬ (10 ≤ (17 : Nat) ∧ (17 : Nat) ≤ 13) by decide), b _ (show ¬ (10 ≤ (18 : Nat) ∧ (18 : Nat) ≤ 13) by decide), b _ (show ¬ (10 ≤ (19 : Nat) ∧ (19 : Nat) ≤ 13) by decide), b _ (show ¬ (10 ≤ (20 : Nat) ∧ (20 : Nat) ≤ 13) by decide), b _ (show ¬ (10 ≤ (21 : Nat) ∧ (21 : Nat) ≤ 13) by decide), b _ (show ¬ (10 ≤ (22 : Nat) ∧ (22 : Nat) ≤ 13) by decide), b _ (show ¬ (10 ≤ (23 : Nat) ∧ (23 : Nat) ≤ 13) by decide), b _ (show ¬ (10 ≤ (24 : Nat) ∧ (24 : Nat) ≤ 13) by decide), b _ (show ¬ (10 ≤ (25 : Nat) ∧ (25 : Nat) ≤ 13) by decide), b _ (show ¬ (10 ≤ (26 : Nat) ∧ (26 : Nat) ≤ 13) by decide), b _ (show ¬ (10 ≤ (27 : Nat) ∧ (27 : Nat) ≤ 13) by decide), b _ (show ¬ (10 ≤ (28 : Nat) ∧ (28 : Nat) ≤ 13) by decide), b _ (show ¬ (10 ≤ (29 : Nat) ∧ (29 : Nat) ≤ 13) by decide), b _ (show ¬ (10 ≤ (30 : Nat) ∧ (30 : Nat) ≤ 13) by decide), b _ (show ¬ (10 ≤ (31 : Nat) ∧ (31 : Nat) ≤ 13) by decide), b _ (show ¬ (10 ≤ (32 : Nat) ∧ (32 : Nat) ≤ 13) by decide), b _ (show ¬ (10 ≤ (33 : Nat) ∧ (33 : Nat) ≤ 13) by decide), b _ (show ¬ (10 ≤ (34 : Nat) ∧ (34 : Nat) ≤ 13) by decide), b _ (show ¬ (10 ≤ (35 : Nat) ∧ (35 : Nat) ≤ 13) by decide)]
end HO
