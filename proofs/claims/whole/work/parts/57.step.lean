/-! one store for both: a call of the class, then the same call of the reference -/
section SS
variable {np T np' T' fu : Nat} {S Z : S4}
theorem RO.cg {np T : Nat} {S S' : S4} {t : Nat} {v v' : Vw} (h : RO np T S t v) (hs : ∀ k, mdk k = false → k ≠ 36 → k ≠ 37 → S' k = S k) (hv : v' = v) : RO np T S' t v' := by
  subst hv
  obtain ⟨ns, nc, nl, nq, nd, fo, pc, hR⟩ := h
  refine ⟨ns, nc, nl, nq, nd, fo, pc, hR.cs (fun k hk => ?_) (fun k i j _ => ?_)⟩
  · have e : mdk k = false ∧ k ≠ 36 ∧ k ≠ 37 := by
      simp only [stk, decide_eq_true_eq] at hk
      simp only [mdk, decide_eq_false_iff_not]
      omega
    funext i j
    show S' k t i j = S k t i j
    rw [hs k e.1 e.2.1 e.2.2]
  · unfold pln
    by_cases hk : k = 2 ∨ (10 ≤ k ∧ k ≤ 13)
    · rw [if_pos hk, if_pos hk, hs k (by simp only [mdk, decide_eq_false_iff_not]; omega) (by omega) (by omega)]
    · rw [if_neg hk, if_neg hk]
theorem GG.s {S' : S4} (h : GG np T S Z) (hs : ∀ k, mdk k = false → k ≠ 36 → k ≠ 37 → S' k = S k) : GG np T S' Z := by
  obtain ⟨h1, ⟨pn, pe, a1, a2, a3, a4, a5, a6⟩, ⟨b1, b2⟩, h4, h5⟩ := h
  have s6 : S' 6 = S 6 := hs 6 (by decide) (by decide) (by decide)
  refine ⟨h1.cg hs rfl, ⟨pn, pe, by rw [s6]; exact a1, a2, a3, by rw [s6]; exact a4, a5, fun j hj => (a6 j hj).cg hs rfl⟩, ⟨by rw [s6]; exact b1, ?_⟩, ?_, ?_⟩
  · rw [s6]
    rcases b2 with b2 | ⟨b2, b3⟩
    · exact Or.inl b2
    · exact Or.inr ⟨b2, b3.cg hs rfl⟩
  · exact (FK.refl Z).gt h4 (by rw [s6]) (hs 23 (by decide) (by decide) (by decide))
  · exact (FK.refl Z).gw h5 (hs 8 (by decide) (by decide) (by decide)) (hs 9 (by decide) (by decide) (by decide))
theorem GG.z {Z' : S4} (h : GG np T S Z) (hz : ∀ k, mdk k = true → Z' k = Z k) : GG np T S Z' := by
  have h7 : Z' 7 = Z 7 := hz 7 (by decide)
  have hk : FK Z Z' := ⟨hz 30 (by decide), hz 33 (by decide), hz 34 (by decide), hz 35 (by decide), by rw [h7], by rw [h7], by rw [h7], by rw [h7]⟩
  refine h.now (FS.refl 0 S) hk ?_ (Nat.le_refl _)
  rw [show live Z' = live Z from live_of (fun k j g1 g2 => by rw [hz k (by simp only [mdk, decide_eq_true_eq]; omega)]) (fun j _ _ => by rw [h7])]
  exact h.1
theorem st_mix {S0 S' S1 Z' : S4} (hG : GG np T S' Z') (hF : FM S1 Z') (h1 : ∀ k, k ≠ 36 → k ≠ 37 → S1 k = S' k) : GG np T Z' Z' :=
  hG.s (fun k hk h36 h37 => by rw [hF k (by rw [hk]; decide), h1 k h36 h37])
theorem step {A : S4 → Option ((Int32 × S4) ⊕ (Nat × S4))} {B L : S4 → Option (Int32 × S4)} {cs : List (Nat × Int32)} {Wx : Nat × S4 → Option (Int32 × S4)} (hG : GG np T S S)
    (hP : ∀ Z, GG np T S Z → PR np' T' S (A S) (B Z) cs) (hF : ∀ Z out, B Z = some out → FM Z out.2)
    (hL : L S = (A S).bind fun r1 => Sum.elim (fun q2 => sv (u4 q2.2 36 0 0 ((0 : Int32).toNatClampNeg) q2.1) fun Z4 => some ((0 : Int32), Z4)) Wx r1)
    (hW : ∀ e c, (e, c) ∈ cs → c ≠ 0 ∧ ∀ S', Wx (e, S') = some (c, S')) :
    ∃ k S1 b S2, L S = some (k, S1) ∧ B S1 = some (b, S2) ∧ S2 7 0 0 0 = k ∧ (k = 0 → S2 36 0 0 0 = b) ∧ GG np' T' S2 S2 := by
  obtain ⟨r, S', b0, Z0, a1, b1, h3, h4, h5⟩ := hP S hG
  rcases h3 with ⟨rfl, h0⟩ | ⟨e, c, rfl, hc, h0⟩
  · have m1 : ∀ k, k ≠ 36 → k ≠ 37 → u4 S' 36 0 0 0 b0 k = S' k := fun k h36 _ => by funext t i j; rw [u4_app, if_neg (fun z => h36 z.1)]
    have md : ∀ k, mdk k = true → u4 S' 36 0 0 0 b0 k = S k := fun k hk => by
      rw [m1 k (by rintro rfl; exact absurd hk (by decide)) (by rintro rfl; exact absurd hk (by decide)), h5 k hk]
    obtain ⟨r', S'', b, Z', a1', b1', h3', h4', h5'⟩ := hP _ (hG.z md)
    have er := Option.some.inj (a1.symm.trans a1')
    rcases h3' with ⟨rfl, h0'⟩ | ⟨e', c', rfl, -, -⟩
    · cases er
      refine ⟨0, _, b0, Z', by rw [hL, a1]; rfl, b1', h0', fun _ => ?_, st_mix (S0 := S) h4' (hF _ _ b1') m1⟩
      rw [show Z' 36 = _ from hF _ _ b1' 36 (by decide), u4_app]
      exact if_pos ⟨rfl, rfl, rfl, rfl⟩
    · cases er
  · obtain ⟨hc0, hw⟩ := hW e c hc
    obtain ⟨r', S'', b, Z', a1', b1', h3', h4', h5'⟩ := hP _ (hG.z (Z' := S') h5)
    have er := Option.some.inj (a1.symm.trans a1')
    rcases h3' with ⟨rfl, h0'⟩ | ⟨e', c', rfl, hc', h0'⟩
    · cases er
    · cases er
      obtain ⟨-, hw'⟩ := hW e c' hc'
      have ec : c' = c := by
        have := (hw S').symm.trans (hw' S')
        exact (congrArg Prod.fst (Option.some.inj this)).symm
      exact ⟨c, S', b, Z', by rw [hL, a1]; exact hw S', b1', by rw [h0', ec], fun z => absurd z hc0, st_mix (S0 := S) h4' (hF _ _ b1') (fun _ _ _ => rfl)⟩
end SS
