/-! the two just made -/
theorem GG_init {S : S4} (c41 : S 4 0 0 1 = nI 12) (c4 : ∀ j, j ≠ 1 → j < 9 → S 4 0 0 j = 0) (c19 : ∀ k, k < 12 → S 19 0 0 k = -1) (c21 : ∀ w, w < 4 → S 21 0 0 w = 0) (r7 : S 7 0 0 7 = nI 12) (r8 : ∀ j, 8 ≤ j → j < 14 → S 7 0 0 j = 0) (r24 : ∀ k, k < 12 → S 24 0 0 k = -1) (k64 : S 6 0 0 4 = 0) (k65 : S 6 0 0 5 = 0) (k66 : S 6 0 0 6 = 0) (k68 : S 6 0 0 8 = 0) (r21 : S 7 0 0 21 = 0) (r24' : S 7 0 0 24 = 0) (r16 : S 7 0 0 16 = 0) (k8 : S 8 0 0 0 = 0) (k9 : S 9 0 0 200 = nI 16) (r26 : S 7 0 0 26 = 0) : GG 0 0 S S := by
  refine ⟨⟨0, 0, 0, 0, 0, 0, 12, RR_new (by decide) (by decide) ?_ (fun j g1 g2 => ?_) (fun k hk => ?_) c41 c4 c19 c21⟩, ⟨0, 0, k64, r21, by decide, k65, by decide, fun j hj => absurd hj (by omega)⟩, ⟨by rw [k66, r24'], Or.inl k66⟩, ⟨0, by decide, k68, r16, fun j hj => absurd hj (by omega)⟩, ⟨0, by decide, k8, r26, ⟨16, Or.inl rfl, k9, by decide⟩, fun j hj => absurd hj (by omega)⟩⟩
  · show live S 6 0 0 = nI 12
    simp [live, inV]
    exact r7
  · show live S 6 0 j = 0
    have : inV 6 0 j = true := by simp [inV]; omega
    unfold live
    rw [if_pos this, if_pos rfl]
    exact r8 (7 + j) (by omega) (by omega)
  · show live S 0 0 k = -1
    have : inV 0 0 k = true := by simp [inV]; omega
    unfold live
    rw [if_pos this, if_neg (by decide)]
    exact r24 k hk
