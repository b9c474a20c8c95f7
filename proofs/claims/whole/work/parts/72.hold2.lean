/-! a new plan's name: cells that could look at it -/
section H2
variable {D : va_G} {cA : Nat → ClassId} {ad : Ad} {i z k' t' i' q : Nat} {r : Nat → Int32} {H : Heap}
theorem hold2_eq (h3 : ¬ (k' = 3 ∧ i' = i)) (h43 : k' = 43 → i' = i → r 0 = 0) (h17 : k' ≠ 17) : ct cA (adu ad 2 0 i z) k' t' i' r = ct cA ad k' t' i' r := by
  by_cases e3 : k' = 3
  · subst e3
    have ne : adu ad 2 0 i z 2 0 i' = ad 2 0 i' := adu_ne (fun p => h3 ⟨rfl, p.2.2⟩)
    simp only [ct, ne, adk (κ := 2) (show (23 : Nat) ≠ 2 by decide)]
  · by_cases e43 : k' = 43
    · subst e43
      by_cases ei : i' = i
      · simp only [ct, rc_0 (b := 0) (h43 rfl ei), adk (κ := 2) (show (23 : Nat) ≠ 2 by decide)]
      · have ne : adu ad 2 0 i z 2 0 i' = ad 2 0 i' := adu_ne (fun p => ei p.2.2)
        simp only [ct, ne, adk (κ := 2) (show (23 : Nat) ≠ 2 by decide)]
    · unfold ct
      have b : ∀ k, k ≠ 2 → adu ad 2 0 i z k = ad k := fun k hk => adk hk
      split
      all_goals first
        | rfl
        | (exfalso; omega)
        | simp only [b 0 (by decide), b 1 (by decide), b 4 (by decide), b 5 (by decide), b 8 (by decide), b 9 (by decide), b 10 (by decide), b 11 (by decide), b 12 (by decide), b 13 (by decide), b 14 (by decide), b 15 (by decide), b 16 (by decide), b 17 (by decide), b 18 (by decide), b 19 (by decide), b 20 (by decide), b 21 (by decide), b 22 (by decide), b 23 (by decide), b 24 (by decide), b 25 (by decide), b 26 (by decide), b 27 (by decide), b 28 (by decide), b 29 (by decide), b 30 (by decide), b 31 (by decide), b 32 (by decide), b 33 (by decide), b 34 (by decide), b 35 (by decide)]
theorem hold2 (h3 : ¬ (k' = 3 ∧ i' = i)) (h43 : k' = 43 → i' = i → r 0 = 0) (h17 : k' = 17 → ∀ j, j < 5 → pcd (r j) ≠ some i) (h : va_at D gCl (q, ct cA ad k' t' i' r) H) : va_at D gCl (q, ct cA (adu ad 2 0 i z) k' t' i' r) H := by
  by_cases e : k' = 17
  · subst e
    have h0 : H[q]? = some (arrV (cA 5) 5 (fun j => va_rf ((pcd (r j)).map (ad 2 0)))) := h
    show H[q]? = some (arrV (cA 5) 5 (fun j => va_rf ((pcd (r j)).map (adu ad 2 0 i z 2 0))))
    rw [h0]
    congr 1
    unfold arrV
    congr 1
    apply Array.ext
    · simp
    · intro j h1 h2
      have hj : j < 5 := by simpa using h1
      have hq := h17 rfl j hj
      simp only [Array.getElem_ofFn, Array.getElem_map, Array.getElem_range]
      cases ep : pcd (r j) with
      | none => rfl
      | some x =>
        have hx : x ≠ i := fun e => hq (by rw [ep, e])
        show va_rf (some (ad 2 0 x)) = va_rf (some (adu ad 2 0 i z 2 0 x))
        rw [adu_ne (fun p => hx p.2.2)]
  · rw [hold2_eq h3 h43 e]
    exact h
end H2
