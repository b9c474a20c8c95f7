section SU
variable {np T np' T' fu : Nat} {S Z : S4}
theorem stepg {A : S4 → Option ((Int32 × S4) ⊕ (Nat × S4))} {B L : S4 → Option (Int32 × S4)} {cs : List (Nat × Int32)} {g : Int32 → Int32} (hG : GG np T S S)
    (hP : ∀ Z, GG np T S Z → PR np' T' S (A S) (B Z) cs) (hF : ∀ Z out, B Z = some out → FM Z out.2)
    (hV : ∀ x S', A S = some (.inl (x, S')) → L S = some (0, u4 S' 36 0 0 0 (g x)))
    (hW : ∀ e c S', (e, c) ∈ cs → A S = some (.inr (e, S')) → c ≠ 0 ∧ L S = some (c, S')) :
    ∃ k S1 b S2, L S = some (k, S1) ∧ B S1 = some (b, S2) ∧ S2 7 0 0 0 = k ∧ (k = 0 → S2 36 0 0 0 = g b) ∧ GG np' T' S2 S2 := by
  obtain ⟨r, S', b0, Z0, a1, b1, h3, h4, h5⟩ := hP S hG
  rcases h3 with ⟨rfl, h0⟩ | ⟨e, c, rfl, hc, h0⟩
  · have m1 : ∀ k, k ≠ 36 → k ≠ 37 → u4 S' 36 0 0 0 (g b0) k = S' k := fun k h36 _ => by funext t i j; rw [u4_app, if_neg (fun z => h36 z.1)]
    have md : ∀ k, mdk k = true → u4 S' 36 0 0 0 (g b0) k = S k := fun k hk => by
      rw [m1 k (by rintro rfl; exact absurd hk (by decide)) (by rintro rfl; exact absurd hk (by decide)), h5 k hk]
    obtain ⟨r', S'', b, Z', a1', b1', h3', h4', h5'⟩ := hP _ (hG.z md)
    have er := Option.some.inj (a1.symm.trans a1')
    rcases h3' with ⟨rfl, h0'⟩ | ⟨e', c', rfl, -, -⟩
    · cases er
      refine ⟨0, _, b0, Z', hV _ _ a1, b1', h0', fun _ => ?_, st_mix (S0 := S) h4' (hF _ _ b1') m1⟩
      rw [show Z' 36 = _ from hF _ _ b1' 36 (by decide), u4_app]
      exact if_pos ⟨rfl, rfl, rfl, rfl⟩
    · cases er
  · obtain ⟨hc0, hw⟩ := hW e c S' hc a1
    obtain ⟨r', S'', b, Z', a1', b1', h3', h4', h5'⟩ := hP _ (hG.z (Z' := S') h5)
    have er := Option.some.inj (a1.symm.trans a1')
    rcases h3' with ⟨rfl, h0'⟩ | ⟨e', c', rfl, hc', h0'⟩
    · cases er
    · cases er
      obtain ⟨-, hw'⟩ := hW e c' S' hc' a1
      have ec : c' = c := (congrArg Prod.fst (Option.some.inj (hw.symm.trans hw'))).symm
      exact ⟨c, S', b, Z', hw, b1', by rw [h0', ec], fun z => absurd z hc0, st_mix (S0 := S) h4' (hF _ _ b1') (fun _ _ _ => rfl)⟩
theorem st_setClosed {p2 p3 : Int32} (hG : GG np T S S) (hx : isB p3) (hnp : np < 2 ^ 31) (hf : 9600 < fu) : ∃ k S1 b S2, s_L_setClosed np fu p2 p3 S = some (k, S1) ∧ s_X7_setClosed fu p2 p3 S1 = some (b, S2) ∧ S2 7 0 0 0 = k ∧ (k = 0 → S2 36 0 0 0 = if b = 0 then 0 else 1) ∧ GG np T S2 S2 :=
  stepg (A := fun S => s_X6_setClosed np fu p2 p3 S) (B := fun Z => s_X7_setClosed fu p2 p3 Z) (L := fun S => s_L_setClosed np fu p2 p3 S) (g := fun b => if b = 0 then 0 else 1) hG (fun Z h => pr_setClosed h hx hnp hf) (fun Z o h => fr_X7_setClosed h) (fun x S' h => by
    show s_L_setClosed np fu p2 p3 S = _
    rw [s_L_setClosed, show s_X6_setClosed np fu p2 p3 S = _ from h, bd_s]
    show (if x = 0 then _ else _) = _
    by_cases e : x = 0
    · rw [if_pos e, if_pos e]; rfl
    · rw [if_neg e, if_neg e]; rfl) (fun e c S' hm h => by
    simp only [List.mem_cons, Prod.mk.injEq, List.not_mem_nil, or_false] at hm
    obtain ⟨rfl, rfl⟩ := hm
    refine ⟨by decide, ?_⟩
    show s_L_setClosed np fu p2 p3 S = _
    rw [s_L_setClosed, show s_X6_setClosed np fu p2 p3 S = _ from h, bd_s]
    rfl)
theorem st_saveSnapshot (hG : GG np T S S) (hnp : np < 2 ^ 31) (hf : 9600 < fu) : ∃ b S1 S2, s_X6_saveSnapshot np fu S = some (b, S1) ∧ s_X7_saveSnapshot fu S1 = some (b, S2) ∧ GG np T S2 S2 := by
  obtain ⟨b, S', Z0, a1, a2, a3, a4⟩ := pr_save (fu := fu) hG hnp hf
  obtain ⟨b', S'', Z', a1', a2', a3', a4'⟩ := pr_save (fu := fu) (hG.z (Z' := S') a4) hnp hf
  obtain ⟨rfl, rfl⟩ := Prod.mk.inj (Option.some.inj (a1.symm.trans a1'))
  exact ⟨b, S', Z', a1, a2', st_mix (S0 := S) a3' (fr_X7_saveSnapshot a2') (fun _ _ _ => rfl)⟩
theorem st_audit (hG : GG np T S S) (hT : T < 2 ^ 31) (hf : 60 < fu) : s_X6_audit fu S = some 1 ∧ ∃ S2, s_X7_audit fu S = some (1, S2) ∧ GG np T S2 S2 := by
  obtain ⟨h1, h2⟩ := pr_audit (fu := fu) hG hT hf
  exact ⟨h1, _, h2, st_mix (S0 := S) hG.th (fr_X7_audit h2) (fun _ _ _ => rfl)⟩
theorem st_meanRounds (hG : GG np T S S) (hT : T < 2 ^ 31) (hf : 60 < fu) : ∃ k S1 a b S2, s_L_meanRounds fu S = some (k, S1) ∧ s_X7_meanRounds fu S1 = some ((a, b), S2) ∧ S2 7 0 0 0 = k ∧ (k = 0 → S2 37 0 0 0 = a ∧ S2 37 0 0 1 = b ∧ S2 37 0 0 2 = 1 ∧ ¬ b = 0) ∧ GG np T S2 S2 := by
  rcases pr_mean (fu := fu) hG hT hf with ⟨h1, h2⟩ | ⟨a, b, h1, h2, hb⟩
  · refine ⟨1, S, 0, 0, u4 S 7 0 0 0 1, ?_, h2, by rw [u4_app, if_pos ⟨rfl, rfl, rfl, rfl⟩], fun z => absurd z (by decide), ?_⟩
    · rw [s_L_meanRounds, h1, bd_s]; rfl
    · exact hG.th.s (fun k hk _ _ => by funext t i j; rw [u4_app, if_neg (by rintro ⟨rfl, -⟩; exact absurd hk (by decide))])
  · have hz : GG np T S (w4 S 37 0 0 (upd (upd (upd (S 37 0 0) 0 a) 1 b) 2 1)) := hG.z (fun k hk => by
      funext t i
      exact w4_ne (by rintro ⟨rfl, -⟩; exact absurd hk (by decide)))
    rcases pr_mean (fu := fu) hz hT hf with ⟨h1', h2'⟩ | ⟨a', b', h1', h2', hb'⟩
    · rw [h1] at h1'; cases h1'
    · rw [h1] at h1'
      cases h1'
      refine ⟨0, _, a, b, _, ?_, h2', by rw [u4_app, if_pos ⟨rfl, rfl, rfl, rfl⟩], fun _ => ?_, ?_⟩
      · rw [s_L_meanRounds, h1, bd_s]; rfl
      · refine ⟨?_, ?_, ?_, hb⟩
        · rw [u4_app, if_neg (by omega), w4_self]; rfl
        · rw [u4_app, if_neg (by omega), w4_self]; rfl
        · rw [u4_app, if_neg (by omega), w4_self]; rfl
      · refine (hz.th (c := 0)).s (fun k hk _ h37 => ?_)
        funext t i j
        rw [u4_app, if_neg (by rintro ⟨rfl, -⟩; exact absurd hk (by decide)), w4_ne (by rintro ⟨rfl, -⟩; exact h37 rfl)]
def s_L_addPlan (np : Nat) (fu : Nat) (S : S4) : Option (Int32 × S4) := (s_X6_addPlan np fu S).bind fun r1 => Sum.elim (fun q2 => sv (u4 q2.2 36 0 0 ((0 : Int32).toNatClampNeg) q2.1) fun Z4 => some ((0 : Int32), Z4)) (fun e3 => if e3.1 = 3 then some ((1 : Int32), e3.2) else if e3.1 = 2 then some ((2 : Int32), e3.2) else none) r1
theorem st_addPlan (hG : GG np T S S) (hnp : np + 1 < 2 ^ 31) (hf : 9600 < fu) : ∃ k S1 b S2, s_L_addPlan np fu S = some (k, S1) ∧ s_X7_addPlan fu S1 = some (b, S2) ∧ S2 7 0 0 0 = k ∧ (k = 0 → S2 36 0 0 0 = b) ∧ GG (np + 1) T S2 S2 :=
  step (A := fun S => s_X6_addPlan np fu S) (B := fun Z => s_X7_addPlan fu Z) hG (fun Z h => pr_addPlan hnp hf h) (fun Z o h => fr_X7_addPlan h) rfl (fun e c hm => by
    simp only [List.mem_cons, Prod.mk.injEq, List.not_mem_nil, or_false] at hm
    rcases hm with ⟨rfl, rfl⟩ | ⟨rfl, rfl⟩ <;> exact ⟨by decide, fun _ => rfl⟩)
end SU
