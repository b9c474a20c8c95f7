/-! what a printed function leaves alone -/
def stk : Nat → Bool := fun k => decide (k = 0 ∨ k = 1 ∨ k = 4 ∨ k = 5 ∨ (14 ≤ k ∧ k ≤ 21))
def mdk : Nat → Bool := fun k => decide (k = 7 ∨ (24 ≤ k ∧ k ≤ 35))
def plk : Nat → Bool := fun k => decide (k = 2 ∨ k = 3 ∨ (10 ≤ k ∧ k ≤ 13))
def FS (t : Nat) (S S' : S4) : Prop := ∀ k t', ¬ (stk k = true ∧ t' = t) → S' k t' = S k t'
def FM (S S' : S4) : Prop := ∀ k, ¬ mdk k = true → S' k = S k
def FP (S S' : S4) : Prop := ∀ k, ¬ plk k = true → S' k = S k
def FA (k t i : Nat) (S S' : S4) : Prop := ∀ k' t' i', ¬ (k' = k ∧ t' = t ∧ i' = i) → S' k' t' i' = S k' t' i'
theorem FS.refl (t : Nat) (S : S4) : FS t S S := fun _ _ _ => rfl
theorem FM.refl (S : S4) : FM S S := fun _ _ => rfl
theorem FP.refl (S : S4) : FP S S := fun _ _ => rfl
theorem FA.refl (k t i : Nat) (S : S4) : FA k t i S S := fun _ _ _ _ => rfl
theorem FS.trans {t : Nat} {S1 S2 S3 : S4} (a : FS t S1 S2) (b : FS t S2 S3) : FS t S1 S3 := fun k t' h => (b k t' h).trans (a k t' h)
theorem FM.trans {S1 S2 S3 : S4} (a : FM S1 S2) (b : FM S2 S3) : FM S1 S3 := fun k h => (b k h).trans (a k h)
theorem FP.trans {S1 S2 S3 : S4} (a : FP S1 S2) (b : FP S2 S3) : FP S1 S3 := fun k h => (b k h).trans (a k h)
theorem FA.trans {k t i : Nat} {S1 S2 S3 : S4} (a : FA k t i S1 S2) (b : FA k t i S2 S3) : FA k t i S1 S3 := fun k' t' i' h => (b k' t' i' h).trans (a k' t' i' h)
theorem FS.putw {t k i : Nat} {S Z : S4} {r : Nat → Int32} (e : Z = w4 S k t i r) (hk : stk k = true) : FS t S Z := by
  subst e
  intro k' t' h
  funext i'
  exact w4_ne (fun z => h ⟨by rw [z.1]; exact hk, z.2.1⟩)
theorem FS.putu {t k i j : Nat} {S Z : S4} {x : Int32} (e : Z = u4 S k t i j x) (hk : stk k = true) : FS t S Z := FS.putw e hk
theorem FM.putw {t k i : Nat} {S Z : S4} {r : Nat → Int32} (e : Z = w4 S k t i r) (hk : mdk k = true) : FM S Z := by
  subst e
  intro k' h
  funext t' i'
  exact w4_ne (fun z => h (by rw [z.1]; exact hk))
theorem FM.putu {t k i j : Nat} {S Z : S4} {x : Int32} (e : Z = u4 S k t i j x) (hk : mdk k = true) : FM S Z := FM.putw e hk
theorem FP.putu {t k i j : Nat} {S Z : S4} {x : Int32} (e : Z = u4 S k t i j x) (hk : plk k = true) : FP S Z := by
  subst e
  intro k' h
  funext t' i'
  exact w4_ne (fun z => h (by rw [z.1]; exact hk))
theorem FA.putu {t k i j : Nat} {S Z : S4} {x : Int32} (e : Z = u4 S k t i j x) : FA k t i S Z := by
  subst e
  intro k' t' i' h
  exact w4_ne h
theorem FA.fs {k t i : Nat} {S Z : S4} (h : FA k t i S Z) (hk : stk k = true) : FS t S Z := fun k' t' h' => funext fun i' => h k' t' i' (fun z => h' ⟨by rw [z.1]; exact hk, z.2.1⟩)
theorem sv_ex {α β : Type} {x : α} {f : α → Option β} {o : β} (h : sv x f = some o) : ∃ y, y = x ∧ f y = some o := ⟨x, rfl, h⟩
theorem ite_or {α : Type} {c : Prop} [Decidable c] {a b o : α} (h : (if c then a else b) = o) : a = o ∨ b = o := by
  by_cases hc : c
  · rw [if_pos hc] at h; exact Or.inl h
  · rw [if_neg hc] at h; exact Or.inr h

theorem fr_s_JA_fill_L5 {fu : Nat} {k1 : Nat} {t1 : Nat} {i1 : Nat} {ln1 : Nat} {p2 : Int32} {out : S4} : ∀ (n : Nat) (v2 : Int32) (v3 : Int32) (S : S4), s_JA_fill_L5 fu k1 t1 i1 ln1 p2 n v2 v3 S = some out → FA k1 t1 i1 S out := by
  intro n
  induction n with
  | zero => intro v2 v3 Z1 hs; rw [s_JA_fill_L5] at hs; cases hs
  | succ n ih =>
    intro v2 v3 Z1 hs
    rw [s_JA_fill_L5] at hs
    have F := FA.refl k1 t1 i1 Z1
    rcases ite_or hs with hs | hs
    · obtain rfl := Option.some.inj hs; exact F
    · obtain ⟨-, hs⟩ := gd_some hs
      obtain ⟨Z4, eZ4, hs⟩ := sv_ex hs
      replace F := F.trans (FA.putu eZ4)
      exact F.trans (ih _ _ _ hs)
theorem fr_JA_fill {fu : Nat} {k1 : Nat} {t1 : Nat} {i1 : Nat} {ln1 : Nat} {p2 : Int32} {S : S4} {out : S4} (hs : s_JA_fill fu k1 t1 i1 ln1 p2 S = some out) : FA k1 t1 i1 S out := by
  unfold s_JA_fill at hs
  have F := FA.refl k1 t1 i1 S
  exact F.trans (fr_s_JA_fill_L5 _ _ _ _ hs)

theorem fr_s_X7_empties_L2 {fu : Nat}  {out : S4} : ∀ (n : Nat) (v1 : Int32) (S : S4), s_X7_empties_L2 fu n v1 S = some out → FM S out := by
  intro n
  induction n with
  | zero => intro v1 Z1 hs; rw [s_X7_empties_L2] at hs; cases hs
  | succ n ih =>
    intro v1 Z1 hs
    rw [s_X7_empties_L2] at hs
    have F := FM.refl Z1
    rcases ite_or hs with hs | hs
    · obtain ⟨Z3, eZ3, hs⟩ := sv_ex hs
      replace F := F.trans (FM.putu eZ3 (by decide))
      obtain ⟨Z4, eZ4, hs⟩ := sv_ex hs
      replace F := F.trans (FM.putu eZ4 (by decide))
      obtain ⟨Z5, eZ5, hs⟩ := sv_ex hs
      replace F := F.trans (FM.putu eZ5 (by decide))
      obtain ⟨Z6, eZ6, hs⟩ := sv_ex hs
      replace F := F.trans (FM.putu eZ6 (by decide))
      obtain ⟨Z7, eZ7, hs⟩ := sv_ex hs
      replace F := F.trans (FM.putu eZ7 (by decide))
      obtain ⟨Z8, eZ8, hs⟩ := sv_ex hs
      replace F := F.trans (FM.putu eZ8 (by decide))
      obtain rfl := Option.some.inj hs; exact F
    · obtain ⟨-, hs⟩ := gd_some hs
      obtain ⟨Z10, eZ10, hs⟩ := sv_ex hs
      replace F := F.trans (FM.putu eZ10 (by decide))
      exact F.trans (ih _ _ hs)
theorem fr_X7_empties {fu : Nat}  {S : S4} {out : S4} (hs : s_X7_empties fu S = some out) : FM S out := by
  unfold s_X7_empties at hs
  have F := FM.refl S
  exact F.trans (fr_s_X7_empties_L2 _ _ _ hs)

theorem fr_X7_fails {p1 : Int32} {S : S4} {out : (Int32 × S4)} (hs : s_X7_fails p1 S = some out) : FM S out.2 := by
  unfold s_X7_fails at hs
  have F := FM.refl S
  obtain ⟨Z1, eZ1, hs⟩ := sv_ex hs
  replace F := F.trans (FM.putu eZ1 (by decide))
  obtain rfl := Option.some.inj hs; exact F

theorem fr_X7_build {fu : Nat} {p1 : Int32} {S : S4} {out : (Int32 × S4)} (hs : s_X7_build fu p1 S = some out) : FM S out.2 := by
  unfold s_X7_build at hs
  have F := FM.refl S
  obtain ⟨q1, -, hs⟩ := bd_some hs
  rcases ite_or hs with hs | hs
  · obtain ⟨q8, eq8, hs⟩ := bd_some hs
    replace F := F.trans (fr_X7_fails eq8)
    obtain rfl := Option.some.inj hs; exact F
  · obtain ⟨Z3, eZ3, hs⟩ := sv_ex hs
    replace F := F.trans (FM.putu eZ3 (by decide))
    obtain ⟨Z5, eZ5, hs⟩ := bd_some hs
    replace F := F.trans (fr_X7_empties eZ5)
    obtain ⟨Z6, eZ6, hs⟩ := sv_ex hs
    replace F := F.trans (FM.putu eZ6 (by decide))
    obtain ⟨Z7, eZ7, hs⟩ := sv_ex hs
    replace F := F.trans (FM.putu eZ7 (by decide))
    obtain rfl := Option.some.inj hs; exact F

theorem fr_s_X7_hands_L2 {fu : Nat} {k1 : Nat} {t1 : Nat} {i1 : Nat} {ln1 : Nat} {k2 : Nat} {t2 : Nat} {i2 : Nat} {ln2 : Nat} {out : S4} (hk1 : mdk k1 = true) (hk2 : mdk k2 = true) : ∀ (n : Nat) (v3 : Int32) (S : S4), s_X7_hands_L2 fu k1 t1 i1 ln1 k2 t2 i2 ln2 n v3 S = some out → FM S out := by
  intro n
  induction n with
  | zero => intro v3 Z1 hs; rw [s_X7_hands_L2] at hs; cases hs
  | succ n ih =>
    intro v3 Z1 hs
    rw [s_X7_hands_L2] at hs
    have F := FM.refl Z1
    rcases ite_or hs with hs | hs
    · obtain rfl := Option.some.inj hs; exact F
    · rcases ite_or hs with hs | hs
      · obtain ⟨-, hs⟩ := gd_some hs
        obtain ⟨-, hs⟩ := gd_some hs
        obtain ⟨Z6, eZ6, hs⟩ := sv_ex hs
        replace F := F.trans (FM.putu eZ6 hk1)
        obtain ⟨Z7, eZ7, hs⟩ := sv_ex hs
        replace F := F.trans (FM.putu eZ7 (by decide))
        exact F.trans (ih _ _ hs)
      · obtain ⟨-, hs⟩ := gd_some hs
        obtain ⟨-, hs⟩ := gd_some hs
        obtain ⟨Z10, eZ10, hs⟩ := sv_ex hs
        replace F := F.trans (FM.putu eZ10 hk2)
        obtain ⟨Z11, eZ11, hs⟩ := sv_ex hs
        replace F := F.trans (FM.putu eZ11 (by decide))
        exact F.trans (ih _ _ hs)
theorem fr_X7_hands {fu : Nat} {k1 : Nat} {t1 : Nat} {i1 : Nat} {ln1 : Nat} {k2 : Nat} {t2 : Nat} {i2 : Nat} {ln2 : Nat} {S : S4} {out : S4} (hk1 : mdk k1 = true) (hk2 : mdk k2 = true) (hs : s_X7_hands fu k1 t1 i1 ln1 k2 t2 i2 ln2 S = some out) : FM S out := by
  unfold s_X7_hands at hs
  have F := FM.refl S
  exact F.trans (fr_s_X7_hands_L2 hk1 hk2 _ _ _ hs)

theorem fr_X7_hand {p1 : Int32} {k2 : Nat} {t2 : Nat} {i2 : Nat} {ln2 : Nat} {S : S4} {out : (Int32 × S4)} (hk2 : mdk k2 = true) (hs : s_X7_hand p1 k2 t2 i2 ln2 S = some out) : FM S out.2 := by
  unfold s_X7_hand at hs
  have F := FM.refl S
  obtain ⟨q1, -, hs⟩ := bd_some hs
  obtain ⟨-, hs⟩ := gd_some hs
  obtain ⟨Z3, eZ3, hs⟩ := sv_ex hs
  replace F := F.trans (FM.putu eZ3 hk2)
  obtain ⟨Z4, eZ4, hs⟩ := sv_ex hs
  replace F := F.trans (FM.putu eZ4 (by decide))
  obtain rfl := Option.some.inj hs; exact F

theorem fr_X7_handsAll {fu : Nat} {k1 : Nat} {t1 : Nat} {i1 : Nat} {ln1 : Nat} {p2 : Int32} {p3 : Int32} {S : S4} {out : S4} (hk1 : mdk k1 = true) (hs : s_X7_handsAll fu k1 t1 i1 ln1 p2 p3 S = some out) : FM S out := by
  unfold s_X7_handsAll at hs
  have F := FM.refl S
  obtain ⟨-, hs⟩ := gd_some hs
  obtain ⟨Z2, eZ2, hs⟩ := sv_ex hs
  replace F := F.trans (FM.putu eZ2 (by decide))
  obtain ⟨Z3, eZ3, hs⟩ := sv_ex hs
  replace F := F.trans (FM.putu eZ3 (by decide))
  obtain ⟨Z5, eZ5, hs⟩ := bd_some hs
  replace F := F.trans (fr_X7_hands (by decide) hk1 eZ5)
  obtain ⟨Z7, eZ7, hs⟩ := bd_some hs
  replace F := F.trans (fr_X7_hands (by decide) hk1 eZ7)
  obtain ⟨Z9, eZ9, hs⟩ := bd_some hs
  replace F := F.trans (fr_X7_hands (by decide) hk1 eZ9)
  obtain ⟨Z11, eZ11, hs⟩ := bd_some hs
  replace F := F.trans (fr_X7_hands (by decide) hk1 eZ11)
  obtain ⟨Z13, eZ13, hs⟩ := bd_some hs
  replace F := F.trans (fr_X7_hands (by decide) hk1 eZ13)
  obtain ⟨Z15, eZ15, hs⟩ := bd_some hs
  replace F := F.trans (fr_X7_hands (by decide) hk1 eZ15)
  obtain ⟨q16, eq16, hs⟩ := bd_some hs
  replace F := F.trans (fr_X7_hand hk1 eq16)
  obtain ⟨Z17, eZ17, hs⟩ := sv_ex hs
  replace F := F.trans (FM.putu eZ17 (by decide))
  obtain ⟨q18, eq18, hs⟩ := bd_some hs
  replace F := F.trans (fr_X7_hand hk1 eq18)
  obtain ⟨Z19, eZ19, hs⟩ := sv_ex hs
  replace F := F.trans (FM.putu eZ19 (by decide))
  obtain ⟨q20, eq20, hs⟩ := bd_some hs
  replace F := F.trans (fr_X7_hand hk1 eq20)
  obtain ⟨Z21, eZ21, hs⟩ := sv_ex hs
  replace F := F.trans (FM.putu eZ21 (by decide))
  obtain ⟨q22, eq22, hs⟩ := bd_some hs
  replace F := F.trans (fr_X7_hand hk1 eq22)
  obtain ⟨Z23, eZ23, hs⟩ := sv_ex hs
  replace F := F.trans (FM.putu eZ23 (by decide))
  obtain ⟨q24, eq24, hs⟩ := bd_some hs
  replace F := F.trans (fr_X7_hand hk1 eq24)
  obtain ⟨Z25, eZ25, hs⟩ := sv_ex hs
  replace F := F.trans (FM.putu eZ25 (by decide))
  obtain ⟨q26, eq26, hs⟩ := bd_some hs
  replace F := F.trans (fr_X7_hand hk1 eq26)
  obtain ⟨Z27, eZ27, hs⟩ := sv_ex hs
  replace F := F.trans (FM.putu eZ27 (by decide))
  obtain ⟨q28, eq28, hs⟩ := bd_some hs
  replace F := F.trans (fr_X7_hand hk1 eq28)
  obtain ⟨Z29, eZ29, hs⟩ := sv_ex hs
  replace F := F.trans (FM.putu eZ29 (by decide))
  obtain rfl := Option.some.inj hs; exact F

theorem fr_s_X7_remembers_L11 {fu : Nat}  {out : S4} : ∀ (n : Nat) (v1 : Int32) (S : S4), s_X7_remembers_L11 fu n v1 S = some out → FM S out := by
  intro n
  induction n with
  | zero => intro v1 Z5 hs; rw [s_X7_remembers_L11] at hs; cases hs
  | succ n ih =>
    intro v1 Z5 hs
    rw [s_X7_remembers_L11] at hs
    have F := FM.refl Z5
    rcases ite_or hs with hs | hs
    · obtain ⟨Z7, eZ7, hs⟩ := sv_ex hs
      replace F := F.trans (FM.putu eZ7 (by decide))
      obtain ⟨Z9, eZ9, hs⟩ := bd_some hs
      replace F := F.trans (fr_X7_handsAll (by decide) eZ9)
      obtain ⟨Z10, eZ10, hs⟩ := sv_ex hs
      replace F := F.trans (FM.putu eZ10 (by decide))
      obtain rfl := Option.some.inj hs; exact F
    · obtain ⟨-, hs⟩ := gd_some hs
      obtain ⟨-, hs⟩ := gd_some hs
      obtain ⟨Z13, eZ13, hs⟩ := sv_ex hs
      replace F := F.trans (FM.putu eZ13 (by decide))
      exact F.trans (ih _ _ hs)
theorem fr_X7_remembers {fu : Nat}  {S : S4} {out : S4} (hs : s_X7_remembers fu S = some out) : FM S out := by
  unfold s_X7_remembers at hs
  have F := FM.refl S
  rcases ite_or hs with hs | hs
  · exact F.trans (fr_s_X7_remembers_L11 _ _ _ hs)
  · obtain ⟨Z3, eZ3, hs⟩ := bd_some hs
    replace F := F.trans (fr_X7_handsAll (by decide) eZ3)
    obtain ⟨Z4, eZ4, hs⟩ := sv_ex hs
    replace F := F.trans (FM.putu eZ4 (by decide))
    obtain rfl := Option.some.inj hs; exact F

theorem fr_s_X7_addStation_L39 {fu : Nat} {p1 : Int32} {out : (Int32 × S4)} : ∀ (n : Nat) (v2 : Int32) (S : S4), s_X7_addStation_L39 fu p1 n v2 S = some out → FM S out.2 := by
  intro n
  induction n with
  | zero => intro v2 Z7 hs; rw [s_X7_addStation_L39] at hs; cases hs
  | succ n ih =>
    intro v2 Z7 hs
    rw [s_X7_addStation_L39] at hs
    have F := FM.refl Z7
    rcases ite_or hs with hs | hs
    · obtain ⟨Z9, eZ9, hs⟩ := sv_ex hs
      replace F := F.trans (FM.putu eZ9 (by decide))
      obtain rfl := Option.some.inj hs; exact F
    · obtain ⟨q10, -, hs⟩ := bd_some hs
      obtain ⟨-, hs⟩ := gd_some hs
      obtain ⟨Z12, eZ12, hs⟩ := sv_ex hs
      replace F := F.trans (FM.putu eZ12 (by decide))
      exact F.trans (ih _ _ hs)
theorem fr_X7_addStation {fu : Nat} {p1 : Int32} {S : S4} {out : (Int32 × S4)} (hs : s_X7_addStation fu p1 S = some out) : FM S out.2 := by
  unfold s_X7_addStation at hs
  have F := FM.refl S
  obtain ⟨q1, -, hs⟩ := bd_some hs
  rcases ite_or hs with hs | hs
  · obtain ⟨q15, eq15, hs⟩ := bd_some hs
    replace F := F.trans (fr_X7_fails eq15)
    obtain rfl := Option.some.inj hs; exact F
  · rcases ite_or hs with hs | hs
    · obtain ⟨q14, eq14, hs⟩ := bd_some hs
      replace F := F.trans (fr_X7_fails eq14)
      obtain rfl := Option.some.inj hs; exact F
    · obtain ⟨Z4, eZ4, hs⟩ := sv_ex hs
      replace F := F.trans (FM.putu eZ4 (by decide))
      obtain ⟨Z6, eZ6, hs⟩ := bd_some hs
      replace F := F.trans (fr_X7_remembers eZ6)
      exact F.trans (fr_s_X7_addStation_L39 _ _ _ hs)

theorem fr_X7_setsChute {p1 : Int32} {p2 : Int32} {p3 : Int32} {S : S4} {out : S4} (hs : s_X7_setsChute p1 p2 p3 S = some out) : FM S out := by
  unfold s_X7_setsChute at hs
  have F := FM.refl S
  obtain ⟨-, hs⟩ := gd_some hs
  obtain ⟨Z2, eZ2, hs⟩ := sv_ex hs
  replace F := F.trans (FM.putu eZ2 (by decide))
  obtain rfl := Option.some.inj hs; exact F

theorem fr_s_X7_addChute_L93 {fu : Nat} {p1 : Int32} {p2 : Int32} {p3 : Int32} {p4 : Int32} {p5 : Int32} {p6 : Int32} {out : (Int32 × S4)} : ∀ (n : Nat) (v7 : Int32) (S : S4), s_X7_addChute_L93 fu p1 p2 p3 p4 p5 p6 n v7 S = some out → FM S out.2 := by
  intro n
  induction n with
  | zero => intro v7 Z22 hs; rw [s_X7_addChute_L93] at hs; cases hs
  | succ n ih =>
    intro v7 Z22 hs
    rw [s_X7_addChute_L93] at hs
    have F := FM.refl Z22
    rcases ite_or hs with hs | hs
    · obtain ⟨Z25, eZ25, hs⟩ := bd_some hs
      replace F := F.trans (fr_X7_setsChute eZ25)
      obtain ⟨Z27, eZ27, hs⟩ := bd_some hs
      replace F := F.trans (fr_X7_setsChute eZ27)
      obtain ⟨Z29, eZ29, hs⟩ := bd_some hs
      replace F := F.trans (fr_X7_setsChute eZ29)
      obtain ⟨Z31, eZ31, hs⟩ := bd_some hs
      replace F := F.trans (fr_X7_setsChute eZ31)
      obtain ⟨Z33, eZ33, hs⟩ := bd_some hs
      replace F := F.trans (fr_X7_setsChute eZ33)
      obtain ⟨Z35, eZ35, hs⟩ := bd_some hs
      replace F := F.trans (fr_X7_setsChute eZ35)
      obtain ⟨Z37, eZ37, hs⟩ := bd_some hs
      replace F := F.trans (fr_X7_setsChute eZ37)
      obtain ⟨Z38, eZ38, hs⟩ := sv_ex hs
      replace F := F.trans (FM.putu eZ38 (by decide))
      obtain rfl := Option.some.inj hs; exact F
    · obtain ⟨Z40, eZ40, hs⟩ := bd_some hs
      replace F := F.trans (fr_X7_setsChute eZ40)
      exact F.trans (ih _ _ hs)
theorem fr_X7_addChute {fu : Nat} {p1 : Int32} {p2 : Int32} {p3 : Int32} {p4 : Int32} {p5 : Int32} {p6 : Int32} {S : S4} {out : (Int32 × S4)} (hs : s_X7_addChute fu p1 p2 p3 p4 p5 p6 S = some out) : FM S out.2 := by
  unfold s_X7_addChute at hs
  have F := FM.refl S
  obtain ⟨q1, -, hs⟩ := bd_some hs
  rcases ite_or hs with hs | hs
  · obtain ⟨q3, eq3, hs⟩ := bd_some hs
    replace F := F.trans (fr_X7_fails eq3)
    obtain rfl := Option.some.inj hs; exact F
  · obtain ⟨q4, -, hs⟩ := bd_some hs
    rcases ite_or hs with hs | hs
    · obtain ⟨q6, eq6, hs⟩ := bd_some hs
      replace F := F.trans (fr_X7_fails eq6)
      obtain rfl := Option.some.inj hs; exact F
    · obtain ⟨q7, -, hs⟩ := bd_some hs
      rcases ite_or hs with hs | hs
      · obtain ⟨q9, eq9, hs⟩ := bd_some hs
        replace F := F.trans (fr_X7_fails eq9)
        obtain rfl := Option.some.inj hs; exact F
      · obtain ⟨q10, -, hs⟩ := bd_some hs
        rcases ite_or hs with hs | hs
        · obtain ⟨q12, eq12, hs⟩ := bd_some hs
          replace F := F.trans (fr_X7_fails eq12)
          obtain rfl := Option.some.inj hs; exact F
        · obtain ⟨q13, -, hs⟩ := bd_some hs
          rcases ite_or hs with hs | hs
          · obtain ⟨q15, eq15, hs⟩ := bd_some hs
            replace F := F.trans (fr_X7_fails eq15)
            obtain rfl := Option.some.inj hs; exact F
          · obtain ⟨q16, -, hs⟩ := bd_some hs
            rcases ite_or hs with hs | hs
            · obtain ⟨q42, eq42, hs⟩ := bd_some hs
              replace F := F.trans (fr_X7_fails eq42)
              obtain rfl := Option.some.inj hs; exact F
            · rcases ite_or hs with hs | hs
              · obtain ⟨q41, eq41, hs⟩ := bd_some hs
                replace F := F.trans (fr_X7_fails eq41)
                obtain rfl := Option.some.inj hs; exact F
              · obtain ⟨Z19, eZ19, hs⟩ := sv_ex hs
                replace F := F.trans (FM.putu eZ19 (by decide))
                obtain ⟨Z21, eZ21, hs⟩ := bd_some hs
                replace F := F.trans (fr_X7_remembers eZ21)
                exact F.trans (fr_s_X7_addChute_L93 _ _ _ hs)

theorem fr_X7_feed {p1 : Int32} {S : S4} {out : (Int32 × S4)} (hs : s_X7_feed p1 S = some out) : FM S out.2 := by
  unfold s_X7_feed at hs
  have F := FM.refl S
  rcases ite_or hs with hs | hs
  · obtain ⟨q6, eq6, hs⟩ := bd_some hs
    replace F := F.trans (fr_X7_fails eq6)
    obtain rfl := Option.some.inj hs; exact F
  · obtain ⟨Z2, eZ2, hs⟩ := sv_ex hs
    replace F := F.trans (FM.putu eZ2 (by decide))
    obtain ⟨-, hs⟩ := gd_some hs
    obtain ⟨Z4, eZ4, hs⟩ := sv_ex hs
    replace F := F.trans (FM.putu eZ4 (by decide))
    obtain ⟨Z5, eZ5, hs⟩ := sv_ex hs
    replace F := F.trans (FM.putu eZ5 (by decide))
    obtain rfl := Option.some.inj hs; exact F

theorem fr_X7_skips {p1 : Int32} {S : S4} {out : (Int32 × S4)} (hs : s_X7_skips p1 S = some out) : FM S out.2 := by
  unfold s_X7_skips at hs
  have F := FM.refl S
  obtain ⟨q1, -, hs⟩ := bd_some hs
  rcases ite_or hs with hs | hs
  · obtain rfl := Option.some.inj hs; exact F
  · obtain ⟨Z3, eZ3, hs⟩ := sv_ex hs
    replace F := F.trans (FM.putu eZ3 (by decide))
    obtain rfl := Option.some.inj hs; exact F

theorem fr_s_X7_takesNumber_L4 {fu : Nat}  {out : (Int32 × S4)} : ∀ (n : Nat) (v1 : Int32) (v2 : Int32) (S : S4), s_X7_takesNumber_L4 fu n v1 v2 S = some out → FM S out.2 := by
  intro n
  induction n with
  | zero => intro v1 v2 Z1 hs; rw [s_X7_takesNumber_L4] at hs; cases hs
  | succ n ih =>
    intro v1 v2 Z1 hs
    rw [s_X7_takesNumber_L4] at hs
    have F := FM.refl Z1
    rcases ite_or hs with hs | hs
    · obtain rfl := Option.some.inj hs; exact F
    · obtain ⟨q3, -, hs⟩ := bd_some hs
      rcases ite_or hs with hs | hs
      · obtain rfl := Option.some.inj hs; exact F
      · obtain ⟨q5, -, hs⟩ := bd_some hs
        obtain ⟨-, hs⟩ := gd_some hs
        obtain ⟨Z7, eZ7, hs⟩ := sv_ex hs
        replace F := F.trans (FM.putu eZ7 (by decide))
        exact F.trans (ih _ _ _ hs)
theorem fr_X7_takesNumber {fu : Nat}  {S : S4} {out : (Int32 × S4)} (hs : s_X7_takesNumber fu S = some out) : FM S out.2 := by
  unfold s_X7_takesNumber at hs
  have F := FM.refl S
  exact F.trans (fr_s_X7_takesNumber_L4 _ _ _ _ hs)

theorem fr_s_X7_takesChute_L28 {fu : Nat} {p1 : Int32} {out : (Int32 × S4)} : ∀ (n : Nat) (v2 : Int32) (v3 : Int32) (S : S4), s_X7_takesChute_L28 fu p1 n v2 v3 S = some out → FM S out.2 := by
  intro n
  induction n with
  | zero => intro v2 v3 Z4 hs; rw [s_X7_takesChute_L28] at hs; cases hs
  | succ n ih =>
    intro v2 v3 Z4 hs
    rw [s_X7_takesChute_L28] at hs
    have F := FM.refl Z4
    obtain ⟨-, hs⟩ := gd_some hs
    rcases ite_or hs with hs | hs
    · obtain ⟨-, hs⟩ := gd_some hs
      obtain ⟨-, hs⟩ := gd_some hs
      obtain ⟨Z9, eZ9, hs⟩ := sv_ex hs
      replace F := F.trans (FM.putu eZ9 (by decide))
      obtain ⟨-, hs⟩ := gd_some hs
      obtain ⟨-, hs⟩ := gd_some hs
      obtain ⟨Z12, eZ12, hs⟩ := sv_ex hs
      replace F := F.trans (FM.putu eZ12 (by decide))
      obtain ⟨Z13, eZ13, hs⟩ := sv_ex hs
      replace F := F.trans (FM.putu eZ13 (by decide))
      obtain rfl := Option.some.inj hs; exact F
    · obtain ⟨-, hs⟩ := gd_some hs
      rcases ite_or hs with hs | hs
      · obtain rfl := Option.some.inj hs; exact F
      · exact F.trans (ih _ _ _ hs)
theorem fr_X7_takesChute {fu : Nat} {p1 : Int32} {S : S4} {out : (Int32 × S4)} (hs : s_X7_takesChute fu p1 S = some out) : FM S out.2 := by
  unfold s_X7_takesChute at hs
  have F := FM.refl S
  obtain ⟨q1, -, hs⟩ := bd_some hs
  rcases ite_or hs with hs | hs
  · obtain rfl := Option.some.inj hs; exact F
  · obtain ⟨-, hs⟩ := gd_some hs
    exact F.trans (fr_s_X7_takesChute_L28 _ _ _ _ hs)

theorem fr_s_X7_takesRule_L99 {fu : Nat} {p1 : Int32} {out : (Int32 × S4)} : ∀ (n : Nat) (S : S4), s_X7_takesRule_L99 fu p1 n S = some out → FM S out.2 := by
  intro n
  induction n with
  | zero => intro Z17 hs; rw [s_X7_takesRule_L99] at hs; cases hs
  | succ n ih =>
    intro Z17 hs
    rw [s_X7_takesRule_L99] at hs
    have F := FM.refl Z17
    obtain ⟨-, hs⟩ := gd_some hs
    rcases ite_or hs with hs | hs
    · obtain rfl := Option.some.inj hs; exact F
    · obtain ⟨q20, eq20, hs⟩ := bd_some hs
      replace F := F.trans (fr_X7_skips eq20)
      rcases ite_or hs with hs | hs
      · obtain rfl := Option.some.inj hs; exact F
      · obtain ⟨q22, eq22, hs⟩ := bd_some hs
        replace F := F.trans (fr_X7_takesChute eq22)
        rcases ite_or hs with hs | hs
        · obtain rfl := Option.some.inj hs; exact F
        · exact F.trans (ih _ hs)
theorem fr_X7_takesRule {fu : Nat} {p1 : Int32} {S : S4} {out : (Int32 × S4)} (hs : s_X7_takesRule fu p1 S = some out) : FM S out.2 := by
  unfold s_X7_takesRule at hs
  have F := FM.refl S
  obtain ⟨q1, eq1, hs⟩ := bd_some hs
  replace F := F.trans (fr_X7_takesNumber eq1)
  obtain ⟨-, hs⟩ := gd_some hs
  obtain ⟨Z3, eZ3, hs⟩ := sv_ex hs
  replace F := F.trans (FM.putu eZ3 (by decide))
  obtain ⟨-, hs⟩ := gd_some hs
  rcases ite_or hs with hs | hs
  · obtain ⟨-, hs⟩ := gd_some hs
    obtain ⟨-, hs⟩ := gd_some hs
    obtain ⟨Z8, eZ8, hs⟩ := sv_ex hs
    replace F := F.trans (FM.putu eZ8 (by decide))
    obtain ⟨q9, eq9, hs⟩ := bd_some hs
    replace F := F.trans (fr_X7_skips eq9)
    rcases ite_or hs with hs | hs
    · obtain ⟨q11, eq11, hs⟩ := bd_some hs
      replace F := F.trans (fr_X7_skips eq11)
      rcases ite_or hs with hs | hs
      · obtain rfl := Option.some.inj hs; exact F
      · obtain ⟨-, hs⟩ := gd_some hs
        obtain ⟨Z14, eZ14, hs⟩ := sv_ex hs
        replace F := F.trans (FM.putu eZ14 (by decide))
        obtain ⟨q15, eq15, hs⟩ := bd_some hs
        replace F := F.trans (fr_X7_takesChute eq15)
        rcases ite_or hs with hs | hs
        · obtain rfl := Option.some.inj hs; exact F
        · exact F.trans (fr_s_X7_takesRule_L99 _ _ hs)
    · obtain ⟨q24, eq24, hs⟩ := bd_some hs
      replace F := F.trans (fr_X7_takesNumber eq24)
      obtain ⟨-, hs⟩ := gd_some hs
      obtain ⟨Z26, eZ26, hs⟩ := sv_ex hs
      replace F := F.trans (FM.putu eZ26 (by decide))
      obtain ⟨-, hs⟩ := gd_some hs
      rcases ite_or hs with hs | hs
      · obtain ⟨q29, eq29, hs⟩ := bd_some hs
        replace F := F.trans (fr_X7_skips eq29)
        rcases ite_or hs with hs | hs
        · obtain rfl := Option.some.inj hs; exact F
        · obtain ⟨-, hs⟩ := gd_some hs
          obtain ⟨Z32, eZ32, hs⟩ := sv_ex hs
          replace F := F.trans (FM.putu eZ32 (by decide))
          obtain ⟨q33, eq33, hs⟩ := bd_some hs
          replace F := F.trans (fr_X7_takesChute eq33)
          rcases ite_or hs with hs | hs
          · obtain rfl := Option.some.inj hs; exact F
          · exact F.trans (fr_s_X7_takesRule_L99 _ _ hs)
      · obtain rfl := Option.some.inj hs; exact F
  · obtain rfl := Option.some.inj hs; exact F

theorem fr_s_X7_takesRules_L7 {fu : Nat}  {out : (Int32 × S4)} : ∀ (n : Nat) (S : S4), s_X7_takesRules_L7 fu n S = some out → FM S out.2 := by
  intro n
  induction n with
  | zero => intro Z3 hs; rw [s_X7_takesRules_L7] at hs; cases hs
  | succ n ih =>
    intro Z3 hs
    rw [s_X7_takesRules_L7] at hs
    have F := FM.refl Z3
    obtain ⟨-, hs⟩ := gd_some hs
    obtain ⟨q5, eq5, hs⟩ := bd_some hs
    replace F := F.trans (fr_X7_takesRule eq5)
    rcases ite_or hs with hs | hs
    · obtain rfl := Option.some.inj hs; exact F
    · obtain ⟨-, hs⟩ := gd_some hs
      obtain ⟨-, hs⟩ := gd_some hs
      obtain ⟨Z9, eZ9, hs⟩ := sv_ex hs
      replace F := F.trans (FM.putu eZ9 (by decide))
      obtain ⟨-, hs⟩ := gd_some hs
      rcases ite_or hs with hs | hs
      · obtain rfl := Option.some.inj hs; exact F
      · obtain ⟨q12, eq12, hs⟩ := bd_some hs
        replace F := F.trans (fr_X7_skips eq12)
        rcases ite_or hs with hs | hs
        · obtain rfl := Option.some.inj hs; exact F
        · exact F.trans (ih _ hs)
theorem fr_X7_takesRules {fu : Nat}  {S : S4} {out : (Int32 × S4)} (hs : s_X7_takesRules fu S = some out) : FM S out.2 := by
  unfold s_X7_takesRules at hs
  have F := FM.refl S
  obtain ⟨-, hs⟩ := gd_some hs
  obtain ⟨Z2, eZ2, hs⟩ := sv_ex hs
  replace F := F.trans (FM.putu eZ2 (by decide))
  exact F.trans (fr_s_X7_takesRules_L7 _ _ hs)

theorem fr_X7_takesPlan {fu : Nat}  {S : S4} {out : (Int32 × S4)} (hs : s_X7_takesPlan fu S = some out) : FM S out.2 := by
  unfold s_X7_takesPlan at hs
  have F := FM.refl S
  obtain ⟨Z1, eZ1, hs⟩ := sv_ex hs
  replace F := F.trans (FM.putu eZ1 (by decide))
  obtain ⟨q2, eq2, hs⟩ := bd_some hs
  replace F := F.trans (fr_X7_skips eq2)
  rcases ite_or hs with hs | hs
  · obtain rfl := Option.some.inj hs; exact F
  · obtain ⟨q4, eq4, hs⟩ := bd_some hs
    replace F := F.trans (fr_X7_takesNumber eq4)
    obtain ⟨-, hs⟩ := gd_some hs
    obtain ⟨Z6, eZ6, hs⟩ := sv_ex hs
    replace F := F.trans (FM.putu eZ6 (by decide))
    obtain ⟨-, hs⟩ := gd_some hs
    rcases ite_or hs with hs | hs
    · obtain rfl := Option.some.inj hs; exact F
    · obtain ⟨q9, eq9, hs⟩ := bd_some hs
      replace F := F.trans (fr_X7_skips eq9)
      rcases ite_or hs with hs | hs
      · obtain rfl := Option.some.inj hs; exact F
      · obtain ⟨q11, eq11, hs⟩ := bd_some hs
        replace F := F.trans (fr_X7_takesRules eq11)
        rcases ite_or hs with hs | hs
        · obtain rfl := Option.some.inj hs; exact F
        · obtain ⟨q13, eq13, hs⟩ := bd_some hs
          replace F := F.trans (fr_X7_skips eq13)
          rcases ite_or hs with hs | hs
          · obtain rfl := Option.some.inj hs; exact F
          · obtain ⟨q15, -, hs⟩ := bd_some hs
            rcases ite_or hs with hs | hs
            · obtain rfl := Option.some.inj hs; exact F
            · obtain ⟨-, hs⟩ := gd_some hs
              obtain ⟨-, hs⟩ := gd_some hs
              obtain ⟨Z19, eZ19, hs⟩ := sv_ex hs
              replace F := F.trans (FM.putu eZ19 (by decide))
              obtain ⟨Z20, eZ20, hs⟩ := sv_ex hs
              replace F := F.trans (FM.putu eZ20 (by decide))
              obtain ⟨-, hs⟩ := gd_some hs
              obtain ⟨Z22, eZ22, hs⟩ := sv_ex hs
              replace F := F.trans (FM.putu eZ22 (by decide))
              obtain ⟨q23, eq23, hs⟩ := bd_some hs
              replace F := F.trans (fr_X7_skips eq23)
              rcases ite_or hs with hs | hs
              · rcases ite_or hs with hs | hs
                · obtain rfl := Option.some.inj hs; exact F
                · obtain rfl := Option.some.inj hs; exact F
              · obtain ⟨q26, -, hs⟩ := bd_some hs
                rcases ite_or hs with hs | hs
                · obtain rfl := Option.some.inj hs; exact F
                · obtain ⟨-, hs⟩ := gd_some hs
                  obtain ⟨-, hs⟩ := gd_some hs
                  obtain ⟨Z30, eZ30, hs⟩ := sv_ex hs
                  replace F := F.trans (FM.putu eZ30 (by decide))
                  obtain ⟨Z31, eZ31, hs⟩ := sv_ex hs
                  replace F := F.trans (FM.putu eZ31 (by decide))
                  rcases ite_or hs with hs | hs
                  · obtain rfl := Option.some.inj hs; exact F
                  · obtain rfl := Option.some.inj hs; exact F

theorem fr_s_X7_addPlan_L182 {fu : Nat}  {out : (Int32 × S4)} : ∀ (n : Nat) (v2 : Int32) (v4 : Int32) (S : S4), s_X7_addPlan_L182 fu n v2 v4 S = some out → FM S out.2 := by
  intro n
  induction n with
  | zero => intro v2 v4 Z14 hs; rw [s_X7_addPlan_L182] at hs; cases hs
  | succ n ih =>
    intro v2 v4 Z14 hs
    rw [s_X7_addPlan_L182] at hs
    have F := FM.refl Z14
    rcases ite_or hs with hs | hs
    · obtain rfl := Option.some.inj hs; exact F
    · obtain ⟨-, hs⟩ := gd_some hs
      obtain ⟨-, hs⟩ := gd_some hs
      obtain ⟨Z18, eZ18, hs⟩ := sv_ex hs
      replace F := F.trans (FM.putu eZ18 (by decide))
      exact F.trans (ih _ _ _ hs)
theorem fr_s_X7_addPlan_L137 {fu : Nat}  {out : (Int32 × S4)} : ∀ (n : Nat) (v2 : Int32) (v4 : Int32) (S : S4), s_X7_addPlan_L137 fu n v2 v4 S = some out → FM S out.2 := by
  intro n
  induction n with
  | zero => intro v2 v4 Z19 hs; rw [s_X7_addPlan_L137] at hs; cases hs
  | succ n ih =>
    intro v2 v4 Z19 hs
    rw [s_X7_addPlan_L137] at hs
    have F := FM.refl Z19
    rcases ite_or hs with hs | hs
    · obtain ⟨Z21, eZ21, hs⟩ := sv_ex hs
      replace F := F.trans (FM.putu eZ21 (by decide))
      exact F.trans (fr_s_X7_addPlan_L182 _ _ _ _ hs)
    · obtain ⟨-, hs⟩ := gd_some hs
      obtain ⟨-, hs⟩ := gd_some hs
      obtain ⟨Z29, eZ29, hs⟩ := sv_ex hs
      replace F := F.trans (FM.putu eZ29 (by decide))
      exact F.trans (ih _ _ _ hs)
theorem fr_s_X7_addPlan_L42 {fu : Nat}  {out : (Int32 × S4)} : ∀ (n : Nat) (v2 : Int32) (S : S4), s_X7_addPlan_L42 fu n v2 S = some out → FM S out.2 := by
  intro n
  induction n with
  | zero => intro v2 Z7 hs; rw [s_X7_addPlan_L42] at hs; cases hs
  | succ n ih =>
    intro v2 Z7 hs
    rw [s_X7_addPlan_L42] at hs
    have F := FM.refl Z7
    rcases ite_or hs with hs | hs
    · obtain ⟨q9, -, hs⟩ := bd_some hs
      rcases ite_or hs with hs | hs
      · rcases ite_or hs with hs | hs
        · obtain ⟨q50, eq50, hs⟩ := bd_some hs
          replace F := F.trans (fr_X7_fails eq50)
          obtain rfl := Option.some.inj hs; exact F
        · obtain ⟨Z32, eZ32, hs⟩ := bd_some hs
          replace F := F.trans (fr_X7_remembers eZ32)
          rcases ite_or hs with hs | hs
          · exact F.trans (fr_s_X7_addPlan_L137 _ _ _ _ hs)
          · exact F.trans (fr_s_X7_addPlan_L182 _ _ _ _ hs)
      · obtain ⟨Z12, eZ12, hs⟩ := bd_some hs
        replace F := F.trans (fr_X7_remembers eZ12)
        rcases ite_or hs with hs | hs
        · exact F.trans (fr_s_X7_addPlan_L137 _ _ _ _ hs)
        · exact F.trans (fr_s_X7_addPlan_L182 _ _ _ _ hs)
    · obtain ⟨q55, -, hs⟩ := bd_some hs
      obtain ⟨-, hs⟩ := gd_some hs
      rcases ite_or hs with hs | hs
      · obtain ⟨q58, -, hs⟩ := bd_some hs
        rcases ite_or hs with hs | hs
        · rcases ite_or hs with hs | hs
          · obtain ⟨q99, eq99, hs⟩ := bd_some hs
            replace F := F.trans (fr_X7_fails eq99)
            obtain rfl := Option.some.inj hs; exact F
          · obtain ⟨Z81, eZ81, hs⟩ := bd_some hs
            replace F := F.trans (fr_X7_remembers eZ81)
            rcases ite_or hs with hs | hs
            · exact F.trans (fr_s_X7_addPlan_L137 _ _ _ _ hs)
            · exact F.trans (fr_s_X7_addPlan_L182 _ _ _ _ hs)
        · obtain ⟨Z61, eZ61, hs⟩ := bd_some hs
          replace F := F.trans (fr_X7_remembers eZ61)
          rcases ite_or hs with hs | hs
          · exact F.trans (fr_s_X7_addPlan_L137 _ _ _ _ hs)
          · exact F.trans (fr_s_X7_addPlan_L182 _ _ _ _ hs)
      · exact F.trans (ih _ _ hs)
theorem fr_X7_addPlan {fu : Nat}  {S : S4} {out : (Int32 × S4)} (hs : s_X7_addPlan fu S = some out) : FM S out.2 := by
  unfold s_X7_addPlan at hs
  have F := FM.refl S
  obtain ⟨q1, eq1, hs⟩ := bd_some hs
  replace F := F.trans (fr_X7_takesPlan eq1)
  obtain ⟨Z2, eZ2, hs⟩ := sv_ex hs
  replace F := F.trans (FM.putu eZ2 (by decide))
  obtain ⟨Z3, eZ3, hs⟩ := sv_ex hs
  replace F := F.trans (FM.putu eZ3 (by decide))
  rcases ite_or hs with hs | hs
  · obtain rfl := Option.some.inj hs; exact F
  · obtain ⟨q5, -, hs⟩ := bd_some hs
    rcases ite_or hs with hs | hs
    · obtain ⟨q104, eq104, hs⟩ := bd_some hs
      replace F := F.trans (fr_X7_fails eq104)
      obtain rfl := Option.some.inj hs; exact F
    · exact F.trans (fr_s_X7_addPlan_L42 _ _ _ hs)

theorem fr_s_X7_plan_L51 {fu : Nat} {p1 : Int32} {p2 : Int32} {out : (Int32 × S4)} : ∀ (n : Nat) (v3 : Int32) (v4 : Int32) (S : S4), s_X7_plan_L51 fu p1 p2 n v3 v4 S = some out → FM S out.2 := by
  intro n
  induction n with
  | zero => intro v3 v4 Z7 hs; rw [s_X7_plan_L51] at hs; cases hs
  | succ n ih =>
    intro v3 v4 Z7 hs
    rw [s_X7_plan_L51] at hs
    have F := FM.refl Z7
    rcases ite_or hs with hs | hs
    · obtain rfl := Option.some.inj hs; exact F
    · obtain ⟨q9, -, hs⟩ := bd_some hs
      obtain ⟨q10, -, hs⟩ := bd_some hs
      exact F.trans (ih _ _ _ hs)
theorem fr_X7_plan {fu : Nat} {p1 : Int32} {p2 : Int32} {S : S4} {out : (Int32 × S4)} (hs : s_X7_plan fu p1 p2 S = some out) : FM S out.2 := by
  unfold s_X7_plan at hs
  have F := FM.refl S
  obtain ⟨q1, -, hs⟩ := bd_some hs
  rcases ite_or hs with hs | hs
  · obtain ⟨q14, eq14, hs⟩ := bd_some hs
    replace F := F.trans (fr_X7_fails eq14)
    obtain rfl := Option.some.inj hs; exact F
  · obtain ⟨q3, -, hs⟩ := bd_some hs
    rcases ite_or hs with hs | hs
    · obtain ⟨q13, eq13, hs⟩ := bd_some hs
      replace F := F.trans (fr_X7_fails eq13)
      obtain rfl := Option.some.inj hs; exact F
    · obtain ⟨Z5, eZ5, hs⟩ := sv_ex hs
      replace F := F.trans (FM.putu eZ5 (by decide))
      rcases ite_or hs with hs | hs
      · exact F.trans (fr_s_X7_plan_L51 _ _ _ _ hs)
      · obtain ⟨q12, -, hs⟩ := bd_some hs
        obtain rfl := Option.some.inj hs; exact F

theorem fr_X7_route {fu : Nat} {p1 : Int32} {p2 : Int32} {p3 : Int32} {S : S4} {out : (Int32 × S4)} (hs : s_X7_route fu p1 p2 p3 S = some out) : FM S out.2 := by
  unfold s_X7_route at hs
  have F := FM.refl S
  rcases ite_or hs with hs | hs
  · obtain ⟨q2, eq2, hs⟩ := bd_some hs
    replace F := F.trans (fr_X7_fails eq2)
    obtain rfl := Option.some.inj hs; exact F
  · obtain ⟨q3, -, hs⟩ := bd_some hs
    rcases ite_or hs with hs | hs
    · obtain ⟨q19, eq19, hs⟩ := bd_some hs
      replace F := F.trans (fr_X7_fails eq19)
      obtain rfl := Option.some.inj hs; exact F
    · obtain ⟨q5, -, hs⟩ := bd_some hs
      rcases ite_or hs with hs | hs
      · obtain ⟨q7, -, hs⟩ := bd_some hs
        rcases ite_or hs with hs | hs
        · obtain ⟨q9, eq9, hs⟩ := bd_some hs
          replace F := F.trans (fr_X7_fails eq9)
          obtain rfl := Option.some.inj hs; exact F
        · obtain ⟨q10, -, hs⟩ := bd_some hs
          obtain ⟨q11, -, hs⟩ := bd_some hs
          rcases ite_or hs with hs | hs
          · obtain ⟨q17, eq17, hs⟩ := bd_some hs
            replace F := F.trans (fr_X7_fails eq17)
            obtain rfl := Option.some.inj hs; exact F
          · obtain ⟨Z13, eZ13, hs⟩ := sv_ex hs
            replace F := F.trans (FM.putu eZ13 (by decide))
            obtain ⟨q14, -, hs⟩ := bd_some hs
            obtain ⟨q15, -, hs⟩ := bd_some hs
            obtain rfl := Option.some.inj hs; exact F
      · obtain ⟨q18, eq18, hs⟩ := bd_some hs
        replace F := F.trans (fr_X7_fails eq18)
        obtain rfl := Option.some.inj hs; exact F

theorem fr_X7_setsParcel {p1 : Int32} {p2 : Int32} {p3 : Int32} {S : S4} {out : S4} (hs : s_X7_setsParcel p1 p2 p3 S = some out) : FM S out := by
  unfold s_X7_setsParcel at hs
  have F := FM.refl S
  obtain ⟨-, hs⟩ := gd_some hs
  obtain ⟨Z2, eZ2, hs⟩ := sv_ex hs
  replace F := F.trans (FM.putu eZ2 (by decide))
  obtain rfl := Option.some.inj hs; exact F

theorem fr_s_X7_arrive_L208 {fu : Nat} {p1 : Int32} {p2 : Int32} {p3 : Int32} {p4 : Int32} {out : (Int32 × S4)} : ∀ (n : Nat) (v5 : Int32) (v7 : Int32) (v8 : Int32) (S : S4), s_X7_arrive_L208 fu p1 p2 p3 p4 n v5 v7 v8 S = some out → FM S out.2 := by
  intro n
  induction n with
  | zero => intro v5 v7 v8 Z32 hs; rw [s_X7_arrive_L208] at hs; cases hs
  | succ n ih =>
    intro v5 v7 v8 Z32 hs
    rw [s_X7_arrive_L208] at hs
    have F := FM.refl Z32
    rcases ite_or hs with hs | hs
    · obtain ⟨-, hs⟩ := gd_some hs
      obtain ⟨Z35, eZ35, hs⟩ := sv_ex hs
      replace F := F.trans (FM.putu eZ35 (by decide))
      obtain ⟨-, hs⟩ := gd_some hs
      obtain ⟨-, hs⟩ := gd_some hs
      obtain ⟨Z38, eZ38, hs⟩ := sv_ex hs
      replace F := F.trans (FM.putu eZ38 (by decide))
      obtain ⟨Z39, eZ39, hs⟩ := sv_ex hs
      replace F := F.trans (FM.putu eZ39 (by decide))
      obtain rfl := Option.some.inj hs; exact F
    · obtain ⟨Z41, eZ41, hs⟩ := bd_some hs
      replace F := F.trans (fr_X7_setsParcel eZ41)
      exact F.trans (ih _ _ _ _ hs)
theorem fr_s_X7_arrive_L140 {fu : Nat} {p1 : Int32} {p2 : Int32} {p3 : Int32} {p4 : Int32} {out : (Int32 × S4)} : ∀ (n : Nat) (v5 : Int32) (v6 : Int32) (v7 : Int32) (v8 : Int32) (S : S4), s_X7_arrive_L140 fu p1 p2 p3 p4 n v5 v6 v7 v8 S = some out → FM S out.2 := by
  intro n
  induction n with
  | zero => intro v5 v6 v7 v8 Z20 hs; rw [s_X7_arrive_L140] at hs; cases hs
  | succ n ih =>
    intro v5 v6 v7 v8 Z20 hs
    rw [s_X7_arrive_L140] at hs
    have F := FM.refl Z20
    rcases ite_or hs with hs | hs
    · obtain ⟨Z23, eZ23, hs⟩ := bd_some hs
      replace F := F.trans (fr_X7_setsParcel eZ23)
      obtain ⟨Z25, eZ25, hs⟩ := bd_some hs
      replace F := F.trans (fr_X7_setsParcel eZ25)
      obtain ⟨Z27, eZ27, hs⟩ := bd_some hs
      replace F := F.trans (fr_X7_setsParcel eZ27)
      obtain ⟨Z29, eZ29, hs⟩ := bd_some hs
      replace F := F.trans (fr_X7_setsParcel eZ29)
      obtain ⟨Z31, eZ31, hs⟩ := bd_some hs
      replace F := F.trans (fr_X7_setsParcel eZ31)
      exact F.trans (fr_s_X7_arrive_L208 _ _ _ _ _ hs)
    · obtain ⟨Z43, eZ43, hs⟩ := bd_some hs
      replace F := F.trans (fr_X7_setsParcel eZ43)
      exact F.trans (ih _ _ _ _ _ hs)
theorem fr_s_X7_arrive_L95 {fu : Nat} {p1 : Int32} {p2 : Int32} {p3 : Int32} {p4 : Int32} {out : (Int32 × S4)} : ∀ (n : Nat) (v5 : Int32) (v6 : Int32) (v7 : Int32) (S : S4), s_X7_arrive_L95 fu p1 p2 p3 p4 n v5 v6 v7 S = some out → FM S out.2 := by
  intro n
  induction n with
  | zero => intro v5 v6 v7 Z18 hs; rw [s_X7_arrive_L95] at hs; cases hs
  | succ n ih =>
    intro v5 v6 v7 Z18 hs
    rw [s_X7_arrive_L95] at hs
    have F := FM.refl Z18
    rcases ite_or hs with hs | hs
    · exact F.trans (fr_s_X7_arrive_L140 _ _ _ _ _ _ hs)
    · obtain ⟨q44, -, hs⟩ := bd_some hs
      obtain ⟨q45, -, hs⟩ := bd_some hs
      exact F.trans (ih _ _ _ _ hs)
theorem fr_X7_arrive {fu : Nat} {p1 : Int32} {p2 : Int32} {p3 : Int32} {p4 : Int32} {S : S4} {out : (Int32 × S4)} (hs : s_X7_arrive fu p1 p2 p3 p4 S = some out) : FM S out.2 := by
  unfold s_X7_arrive at hs
  have F := FM.refl S
  obtain ⟨q1, -, hs⟩ := bd_some hs
  rcases ite_or hs with hs | hs
  · obtain ⟨q49, eq49, hs⟩ := bd_some hs
    replace F := F.trans (fr_X7_fails eq49)
    obtain rfl := Option.some.inj hs; exact F
  · obtain ⟨q3, -, hs⟩ := bd_some hs
    rcases ite_or hs with hs | hs
    · obtain ⟨q5, eq5, hs⟩ := bd_some hs
      replace F := F.trans (fr_X7_fails eq5)
      obtain rfl := Option.some.inj hs; exact F
    · obtain ⟨q6, -, hs⟩ := bd_some hs
      rcases ite_or hs with hs | hs
      · obtain ⟨q8, eq8, hs⟩ := bd_some hs
        replace F := F.trans (fr_X7_fails eq8)
        obtain rfl := Option.some.inj hs; exact F
      · obtain ⟨q9, -, hs⟩ := bd_some hs
        rcases ite_or hs with hs | hs
        · obtain ⟨q48, eq48, hs⟩ := bd_some hs
          replace F := F.trans (fr_X7_fails eq48)
          obtain rfl := Option.some.inj hs; exact F
        · obtain ⟨q11, -, hs⟩ := bd_some hs
          rcases ite_or hs with hs | hs
          · obtain ⟨q13, eq13, hs⟩ := bd_some hs
            replace F := F.trans (fr_X7_fails eq13)
            obtain rfl := Option.some.inj hs; exact F
          · rcases ite_or hs with hs | hs
            · obtain ⟨q47, eq47, hs⟩ := bd_some hs
              replace F := F.trans (fr_X7_fails eq47)
              obtain rfl := Option.some.inj hs; exact F
            · obtain ⟨Z15, eZ15, hs⟩ := sv_ex hs
              replace F := F.trans (FM.putu eZ15 (by decide))
              obtain ⟨Z17, eZ17, hs⟩ := bd_some hs
              replace F := F.trans (fr_X7_remembers eZ17)
              exact F.trans (fr_s_X7_arrive_L95 _ _ _ _ _ hs)

theorem fr_s_X7_find_L2 {fu : Nat} {p1 : Int32} {p2 : Int32} {out : (Int32 × S4)} : ∀ (n : Nat) (v3 : Int32) (S : S4), s_X7_find_L2 fu p1 p2 n v3 S = some out → FM S out.2 := by
  intro n
  induction n with
  | zero => intro v3 Z1 hs; rw [s_X7_find_L2] at hs; cases hs
  | succ n ih =>
    intro v3 Z1 hs
    rw [s_X7_find_L2] at hs
    have F := FM.refl Z1
    rcases ite_or hs with hs | hs
    · obtain ⟨q3, eq3, hs⟩ := bd_some hs
      replace F := F.trans (fr_X7_fails eq3)
      obtain rfl := Option.some.inj hs; exact F
    · obtain ⟨q4, -, hs⟩ := bd_some hs
      rcases ite_or hs with hs | hs
      · obtain ⟨q6, -, hs⟩ := bd_some hs
        rcases ite_or hs with hs | hs
        · obtain ⟨Z8, eZ8, hs⟩ := sv_ex hs
          replace F := F.trans (FM.putu eZ8 (by decide))
          obtain rfl := Option.some.inj hs; exact F
        · exact F.trans (ih _ _ hs)
      · exact F.trans (ih _ _ hs)
theorem fr_X7_find {fu : Nat} {p1 : Int32} {p2 : Int32} {S : S4} {out : (Int32 × S4)} (hs : s_X7_find fu p1 p2 S = some out) : FM S out.2 := by
  unfold s_X7_find at hs
  have F := FM.refl S
  exact F.trans (fr_s_X7_find_L2 _ _ _ hs)

theorem fr_X7_parcel {p1 : Int32} {p2 : Int32} {S : S4} {out : (Int32 × S4)} (hs : s_X7_parcel p1 p2 S = some out) : FM S out.2 := by
  unfold s_X7_parcel at hs
  have F := FM.refl S
  obtain ⟨q1, -, hs⟩ := bd_some hs
  rcases ite_or hs with hs | hs
  · obtain ⟨q8, eq8, hs⟩ := bd_some hs
    replace F := F.trans (fr_X7_fails eq8)
    obtain rfl := Option.some.inj hs; exact F
  · obtain ⟨q3, -, hs⟩ := bd_some hs
    rcases ite_or hs with hs | hs
    · obtain ⟨q7, eq7, hs⟩ := bd_some hs
      replace F := F.trans (fr_X7_fails eq7)
      obtain rfl := Option.some.inj hs; exact F
    · obtain ⟨Z5, eZ5, hs⟩ := sv_ex hs
      replace F := F.trans (FM.putu eZ5 (by decide))
      obtain ⟨q6, -, hs⟩ := bd_some hs
      obtain rfl := Option.some.inj hs; exact F

theorem fr_X7_carried {p1 : Int32} {S : S4} {out : (Int32 × S4)} (hs : s_X7_carried p1 S = some out) : FM S out.2 := by
  unfold s_X7_carried at hs
  have F := FM.refl S
  obtain ⟨q1, -, hs⟩ := bd_some hs
  rcases ite_or hs with hs | hs
  · obtain ⟨q8, eq8, hs⟩ := bd_some hs
    replace F := F.trans (fr_X7_fails eq8)
    obtain rfl := Option.some.inj hs; exact F
  · obtain ⟨-, hs⟩ := gd_some hs
    rcases ite_or hs with hs | hs
    · obtain ⟨Z5, eZ5, hs⟩ := sv_ex hs
      replace F := F.trans (FM.putu eZ5 (by decide))
      obtain ⟨-, hs⟩ := gd_some hs
      obtain rfl := Option.some.inj hs; exact F
    · obtain ⟨q7, eq7, hs⟩ := bd_some hs
      replace F := F.trans (fr_X7_fails eq7)
      obtain rfl := Option.some.inj hs; exact F

theorem fr_X7_addsChute {p1 : Int32} {p2 : Int32} {p3 : Int32} {S : S4} {out : S4} (hs : s_X7_addsChute p1 p2 p3 S = some out) : FM S out := by
  unfold s_X7_addsChute at hs
  have F := FM.refl S
  obtain ⟨-, hs⟩ := gd_some hs
  obtain ⟨-, hs⟩ := gd_some hs
  obtain ⟨Z3, eZ3, hs⟩ := sv_ex hs
  replace F := F.trans (FM.putu eZ3 (by decide))
  obtain rfl := Option.some.inj hs; exact F

theorem fr_X7_waitsLess {p1 : Int32} {S : S4} {out : S4} (hs : s_X7_waitsLess p1 S = some out) : FM S out := by
  unfold s_X7_waitsLess at hs
  have F := FM.refl S
  obtain ⟨q1, -, hs⟩ := bd_some hs
  rcases ite_or hs with hs | hs
  · obtain ⟨q3, -, hs⟩ := bd_some hs
    rcases ite_or hs with hs | hs
    · obtain rfl := Option.some.inj hs; exact F
    · obtain ⟨Z6, eZ6, hs⟩ := bd_some hs
      replace F := F.trans (fr_X7_addsChute eZ6)
      obtain ⟨q7, -, hs⟩ := bd_some hs
      rcases ite_or hs with hs | hs
      · obtain ⟨Z10, eZ10, hs⟩ := bd_some hs
        replace F := F.trans (fr_X7_setsChute eZ10)
        obtain rfl := Option.some.inj hs; exact F
      · obtain rfl := Option.some.inj hs; exact F
  · obtain ⟨Z12, eZ12, hs⟩ := bd_some hs
    replace F := F.trans (fr_X7_addsChute eZ12)
    obtain ⟨q13, -, hs⟩ := bd_some hs
    rcases ite_or hs with hs | hs
    · obtain rfl := Option.some.inj hs; exact F
    · obtain ⟨Z16, eZ16, hs⟩ := bd_some hs
      replace F := F.trans (fr_X7_addsChute eZ16)
      obtain ⟨q17, -, hs⟩ := bd_some hs
      rcases ite_or hs with hs | hs
      · obtain ⟨Z20, eZ20, hs⟩ := bd_some hs
        replace F := F.trans (fr_X7_setsChute eZ20)
        obtain rfl := Option.some.inj hs; exact F
      · obtain rfl := Option.some.inj hs; exact F

theorem fr_s_X7_turns_L52 {fu : Nat}  {out : S4} : ∀ (n : Nat) (v2 : Int32) (S : S4), s_X7_turns_L52 fu n v2 S = some out → FM S out := by
  intro n
  induction n with
  | zero => intro v2 Z6 hs; rw [s_X7_turns_L52] at hs; cases hs
  | succ n ih =>
    intro v2 Z6 hs
    rw [s_X7_turns_L52] at hs
    have F := FM.refl Z6
    rcases ite_or hs with hs | hs
    · obtain rfl := Option.some.inj hs; exact F
    · obtain ⟨-, hs⟩ := gd_some hs
      rcases ite_or hs with hs | hs
      · exact F.trans (ih _ _ hs)
      · obtain ⟨-, hs⟩ := gd_some hs
        obtain ⟨Z12, eZ12, hs⟩ := bd_some hs
        replace F := F.trans (fr_X7_setsParcel eZ12)
        exact F.trans (ih _ _ hs)
theorem fr_s_X7_turns_L19 {fu : Nat}  {out : S4} : ∀ (n : Nat) (v1 : Int32) (v2 : Int32) (S : S4), s_X7_turns_L19 fu n v1 v2 S = some out → FM S out := by
  intro n
  induction n with
  | zero => intro v1 v2 Z2 hs; rw [s_X7_turns_L19] at hs; cases hs
  | succ n ih =>
    intro v1 v2 Z2 hs
    rw [s_X7_turns_L19] at hs
    have F := FM.refl Z2
    rcases ite_or hs with hs | hs
    · obtain ⟨-, hs⟩ := gd_some hs
      obtain ⟨Z5, eZ5, hs⟩ := sv_ex hs
      replace F := F.trans (FM.putu eZ5 (by decide))
      exact F.trans (fr_s_X7_turns_L52 _ _ _ hs)
    · obtain ⟨-, hs⟩ := gd_some hs
      obtain ⟨-, hs⟩ := gd_some hs
      obtain ⟨Z15, eZ15, hs⟩ := sv_ex hs
      replace F := F.trans (FM.putu eZ15 (by decide))
      exact F.trans (ih _ _ _ hs)
theorem fr_X7_turns {fu : Nat}  {S : S4} {out : S4} (hs : s_X7_turns fu S = some out) : FM S out := by
  unfold s_X7_turns at hs
  have F := FM.refl S
  obtain ⟨-, hs⟩ := gd_some hs
  exact F.trans (fr_s_X7_turns_L19 _ _ _ _ hs)

theorem fr_X7_aims {p1 : Int32} {p2 : Int32} {p3 : Int32} {S : S4} {out : S4} (hs : s_X7_aims p1 p2 p3 S = some out) : FM S out := by
  unfold s_X7_aims at hs
  have F := FM.refl S
  obtain ⟨Z2, eZ2, hs⟩ := bd_some hs
  replace F := F.trans (fr_X7_setsParcel eZ2)
  obtain ⟨Z4, eZ4, hs⟩ := bd_some hs
  replace F := F.trans (fr_X7_setsParcel eZ4)
  obtain rfl := Option.some.inj hs; exact F

theorem fr_X7_excepts {p1 : Int32} {p2 : Int32} {p3 : Int32} {S : S4} {out : S4} (hs : s_X7_excepts p1 p2 p3 S = some out) : FM S out := by
  unfold s_X7_excepts at hs
  have F := FM.refl S
  obtain ⟨q1, -, hs⟩ := bd_some hs
  obtain ⟨q2, -, hs⟩ := bd_some hs
  rcases ite_or hs with hs | hs
  · obtain ⟨Z5, eZ5, hs⟩ := bd_some hs
    replace F := F.trans (fr_X7_aims eZ5)
    obtain rfl := Option.some.inj hs; exact F
  · obtain ⟨Z7, eZ7, hs⟩ := bd_some hs
    replace F := F.trans (fr_X7_aims eZ7)
    obtain rfl := Option.some.inj hs; exact F

theorem fr_s_X7_scans_L128 {fu : Nat} {p1 : Int32} {out : S4} : ∀ (n : Nat) (v2 : Int32) (v3 : Int32) (v5 : Int32) (S : S4), s_X7_scans_L128 fu p1 n v2 v3 v5 S = some out → FM S out := by
  intro n
  induction n with
  | zero => intro v2 v3 v5 Z14 hs; rw [s_X7_scans_L128] at hs; cases hs
  | succ n ih =>
    intro v2 v3 v5 Z14 hs
    rw [s_X7_scans_L128] at hs
    have F := FM.refl Z14
    rcases ite_or hs with hs | hs
    · obtain rfl := Option.some.inj hs; exact F
    · obtain ⟨q16, -, hs⟩ := bd_some hs
      obtain ⟨q17, -, hs⟩ := bd_some hs
      rcases ite_or hs with hs | hs
      · exact F.trans (ih _ _ _ _ hs)
      · obtain ⟨q19, -, hs⟩ := bd_some hs
        obtain ⟨Z21, eZ21, hs⟩ := bd_some hs
        replace F := F.trans (fr_X7_aims eZ21)
        exact F.trans (ih _ _ _ _ hs)
theorem fr_X7_scans {fu : Nat} {p1 : Int32} {S : S4} {out : S4} (hs : s_X7_scans fu p1 S = some out) : FM S out := by
  unfold s_X7_scans at hs
  have F := FM.refl S
  obtain ⟨-, hs⟩ := gd_some hs
  obtain ⟨-, hs⟩ := gd_some hs
  obtain ⟨Z3, eZ3, hs⟩ := sv_ex hs
  replace F := F.trans (FM.putu eZ3 (by decide))
  obtain ⟨q4, -, hs⟩ := bd_some hs
  rcases ite_or hs with hs | hs
  · obtain ⟨q6, -, hs⟩ := bd_some hs
    obtain ⟨q7, -, hs⟩ := bd_some hs
    obtain ⟨q8, -, hs⟩ := bd_some hs
    obtain ⟨q9, -, hs⟩ := bd_some hs
    rcases ite_or hs with hs | hs
    · obtain ⟨Z12, eZ12, hs⟩ := bd_some hs
      replace F := F.trans (fr_X7_aims eZ12)
      obtain ⟨q13, -, hs⟩ := bd_some hs
      exact F.trans (fr_s_X7_scans_L128 _ _ _ _ _ hs)
    · obtain ⟨Z24, eZ24, hs⟩ := bd_some hs
      replace F := F.trans (fr_X7_excepts eZ24)
      obtain rfl := Option.some.inj hs; exact F
  · obtain ⟨Z31, eZ31, hs⟩ := bd_some hs
    replace F := F.trans (fr_X7_aims eZ31)
    obtain rfl := Option.some.inj hs; exact F

theorem fr_X7_drops {fu : Nat} {p1 : Int32} {p2 : Int32} {S : S4} {out : S4} (hs : s_X7_drops fu p1 p2 S = some out) : FM S out := by
  unfold s_X7_drops at hs
  have F := FM.refl S
  obtain ⟨q1, -, hs⟩ := bd_some hs
  obtain ⟨-, hs⟩ := gd_some hs
  obtain ⟨Z3, eZ3, hs⟩ := sv_ex hs
  replace F := F.trans (FM.putu eZ3 (by decide))
  obtain ⟨q4, -, hs⟩ := bd_some hs
  obtain ⟨Z6, eZ6, hs⟩ := bd_some hs
  replace F := F.trans (fr_X7_setsParcel eZ6)
  obtain ⟨Z8, eZ8, hs⟩ := bd_some hs
  replace F := F.trans (fr_X7_setsParcel eZ8)
  obtain ⟨Z10, eZ10, hs⟩ := bd_some hs
  replace F := F.trans (fr_X7_setsParcel eZ10)
  obtain ⟨Z12, eZ12, hs⟩ := bd_some hs
  replace F := F.trans (fr_X7_setsParcel eZ12)
  obtain ⟨Z14, eZ14, hs⟩ := bd_some hs
  replace F := F.trans (fr_X7_setsParcel eZ14)
  obtain ⟨-, hs⟩ := gd_some hs
  obtain ⟨Z16, eZ16, hs⟩ := sv_ex hs
  replace F := F.trans (FM.putu eZ16 (by decide))
  obtain ⟨Z17, eZ17, hs⟩ := sv_ex hs
  replace F := F.trans (FM.putu eZ17 (by decide))
  obtain ⟨Z19, eZ19, hs⟩ := bd_some hs
  replace F := F.trans (fr_X7_setsChute eZ19)
  obtain ⟨Z21, eZ21, hs⟩ := bd_some hs
  replace F := F.trans (fr_X7_addsChute eZ21)
  obtain ⟨Z23, eZ23, hs⟩ := bd_some hs
  replace F := F.trans (fr_X7_addsChute eZ23)
  obtain ⟨q24, -, hs⟩ := bd_some hs
  obtain ⟨q25, -, hs⟩ := bd_some hs
  rcases ite_or hs with hs | hs
  · obtain ⟨Z28, eZ28, hs⟩ := bd_some hs
    replace F := F.trans (fr_X7_addsChute eZ28)
    obtain ⟨q29, -, hs⟩ := bd_some hs
    obtain ⟨Z31, eZ31, hs⟩ := bd_some hs
    replace F := F.trans (fr_X7_setsChute eZ31)
    obtain ⟨q32, -, hs⟩ := bd_some hs
    rcases ite_or hs with hs | hs
    · obtain ⟨Z35, eZ35, hs⟩ := bd_some hs
      replace F := F.trans (fr_X7_setsChute eZ35)
      obtain rfl := Option.some.inj hs; exact F
    · obtain rfl := Option.some.inj hs; exact F
  · obtain rfl := Option.some.inj hs; exact F

theorem fr_X7_tries {fu : Nat} {p1 : Int32} {p2 : Int32} {S : S4} {out : S4} (hs : s_X7_tries fu p1 p2 S = some out) : FM S out := by
  unfold s_X7_tries at hs
  have F := FM.refl S
  obtain ⟨q1, -, hs⟩ := bd_some hs
  obtain ⟨q2, -, hs⟩ := bd_some hs
  obtain ⟨q3, -, hs⟩ := bd_some hs
  obtain ⟨q4, -, hs⟩ := bd_some hs
  obtain ⟨q5, -, hs⟩ := bd_some hs
  obtain ⟨q6, -, hs⟩ := bd_some hs
  rcases ite_or hs with hs | hs
  · obtain ⟨Z9, eZ9, hs⟩ := bd_some hs
    replace F := F.trans (fr_X7_setsParcel eZ9)
    obtain ⟨q10, -, hs⟩ := bd_some hs
    rcases ite_or hs with hs | hs
    · obtain ⟨Z27, eZ27, hs⟩ := bd_some hs
      replace F := F.trans (fr_X7_addsChute eZ27)
      obtain rfl := Option.some.inj hs; exact F
    · rcases ite_or hs with hs | hs
      · obtain ⟨q13, -, hs⟩ := bd_some hs
        obtain ⟨Z15, eZ15, hs⟩ := bd_some hs
        replace F := F.trans (fr_X7_setsChute eZ15)
        obtain ⟨Z17, eZ17, hs⟩ := bd_some hs
        replace F := F.trans (fr_X7_addsChute eZ17)
        obtain rfl := Option.some.inj hs; exact F
      · obtain ⟨q18, -, hs⟩ := bd_some hs
        obtain ⟨Z20, eZ20, hs⟩ := bd_some hs
        replace F := F.trans (fr_X7_setsParcel eZ20)
        obtain ⟨q21, -, hs⟩ := bd_some hs
        obtain ⟨Z23, eZ23, hs⟩ := bd_some hs
        replace F := F.trans (fr_X7_setsChute eZ23)
        obtain ⟨Z25, eZ25, hs⟩ := bd_some hs
        replace F := F.trans (fr_X7_addsChute eZ25)
        obtain rfl := Option.some.inj hs; exact F
  · rcases ite_or hs with hs | hs
    · rcases ite_or hs with hs | hs
      · obtain ⟨Z71, eZ71, hs⟩ := bd_some hs
        replace F := F.trans (fr_X7_drops eZ71)
        obtain rfl := Option.some.inj hs; exact F
      · obtain ⟨Z51, eZ51, hs⟩ := bd_some hs
        replace F := F.trans (fr_X7_setsParcel eZ51)
        obtain ⟨q52, -, hs⟩ := bd_some hs
        rcases ite_or hs with hs | hs
        · obtain ⟨Z69, eZ69, hs⟩ := bd_some hs
          replace F := F.trans (fr_X7_addsChute eZ69)
          obtain rfl := Option.some.inj hs; exact F
        · rcases ite_or hs with hs | hs
          · obtain ⟨q55, -, hs⟩ := bd_some hs
            obtain ⟨Z57, eZ57, hs⟩ := bd_some hs
            replace F := F.trans (fr_X7_setsChute eZ57)
            obtain ⟨Z59, eZ59, hs⟩ := bd_some hs
            replace F := F.trans (fr_X7_addsChute eZ59)
            obtain rfl := Option.some.inj hs; exact F
          · obtain ⟨q60, -, hs⟩ := bd_some hs
            obtain ⟨Z62, eZ62, hs⟩ := bd_some hs
            replace F := F.trans (fr_X7_setsParcel eZ62)
            obtain ⟨q63, -, hs⟩ := bd_some hs
            obtain ⟨Z65, eZ65, hs⟩ := bd_some hs
            replace F := F.trans (fr_X7_setsChute eZ65)
            obtain ⟨Z67, eZ67, hs⟩ := bd_some hs
            replace F := F.trans (fr_X7_addsChute eZ67)
            obtain rfl := Option.some.inj hs; exact F
    · obtain ⟨Z30, eZ30, hs⟩ := bd_some hs
      replace F := F.trans (fr_X7_setsParcel eZ30)
      obtain ⟨q31, -, hs⟩ := bd_some hs
      rcases ite_or hs with hs | hs
      · obtain ⟨Z48, eZ48, hs⟩ := bd_some hs
        replace F := F.trans (fr_X7_addsChute eZ48)
        obtain rfl := Option.some.inj hs; exact F
      · rcases ite_or hs with hs | hs
        · obtain ⟨q34, -, hs⟩ := bd_some hs
          obtain ⟨Z36, eZ36, hs⟩ := bd_some hs
          replace F := F.trans (fr_X7_setsChute eZ36)
          obtain ⟨Z38, eZ38, hs⟩ := bd_some hs
          replace F := F.trans (fr_X7_addsChute eZ38)
          obtain rfl := Option.some.inj hs; exact F
        · obtain ⟨q39, -, hs⟩ := bd_some hs
          obtain ⟨Z41, eZ41, hs⟩ := bd_some hs
          replace F := F.trans (fr_X7_setsParcel eZ41)
          obtain ⟨q42, -, hs⟩ := bd_some hs
          obtain ⟨Z44, eZ44, hs⟩ := bd_some hs
          replace F := F.trans (fr_X7_setsChute eZ44)
          obtain ⟨Z46, eZ46, hs⟩ := bd_some hs
          replace F := F.trans (fr_X7_addsChute eZ46)
          obtain rfl := Option.some.inj hs; exact F

theorem fr_s_X7_sends_L39 {fu : Nat} {p1 : Int32} {out : S4} : ∀ (n : Nat) (v2 : Int32) (v3 : Int32) (v4 : Int32) (v5 : Int32) (S : S4), s_X7_sends_L39 fu p1 n v2 v3 v4 v5 S = some out → FM S out := by
  intro n
  induction n with
  | zero => intro v2 v3 v4 v5 Z7 hs; rw [s_X7_sends_L39] at hs; cases hs
  | succ n ih =>
    intro v2 v3 v4 v5 Z7 hs
    rw [s_X7_sends_L39] at hs
    have F := FM.refl Z7
    rcases ite_or hs with hs | hs
    · obtain ⟨-, hs⟩ := gd_some hs
      obtain ⟨-, hs⟩ := gd_some hs
      obtain ⟨Z11, eZ11, hs⟩ := sv_ex hs
      replace F := F.trans (FM.putu eZ11 (by decide))
      obtain ⟨-, hs⟩ := gd_some hs
      obtain ⟨-, hs⟩ := gd_some hs
      obtain ⟨Z14, eZ14, hs⟩ := sv_ex hs
      replace F := F.trans (FM.putu eZ14 (by decide))
      obtain ⟨-, hs⟩ := gd_some hs
      obtain ⟨Z16, eZ16, hs⟩ := sv_ex hs
      replace F := F.trans (FM.putu eZ16 (by decide))
      obtain ⟨Z18, eZ18, hs⟩ := bd_some hs
      replace F := F.trans (fr_X7_setsParcel eZ18)
      obtain ⟨Z20, eZ20, hs⟩ := bd_some hs
      replace F := F.trans (fr_X7_setsParcel eZ20)
      obtain rfl := Option.some.inj hs; exact F
    · obtain ⟨-, hs⟩ := gd_some hs
      obtain ⟨-, hs⟩ := gd_some hs
      obtain ⟨Z23, eZ23, hs⟩ := sv_ex hs
      replace F := F.trans (FM.putu eZ23 (by decide))
      exact F.trans (ih _ _ _ _ _ hs)
theorem fr_X7_sends {fu : Nat} {p1 : Int32} {S : S4} {out : S4} (hs : s_X7_sends fu p1 S = some out) : FM S out := by
  unfold s_X7_sends at hs
  have F := FM.refl S
  obtain ⟨q1, -, hs⟩ := bd_some hs
  obtain ⟨q2, -, hs⟩ := bd_some hs
  obtain ⟨-, hs⟩ := gd_some hs
  rcases ite_or hs with hs | hs
  · obtain rfl := Option.some.inj hs; exact F
  · rcases ite_or hs with hs | hs
    · obtain rfl := Option.some.inj hs; exact F
    · obtain ⟨q6, -, hs⟩ := bd_some hs
      exact F.trans (fr_s_X7_sends_L39 _ _ _ _ _ _ hs)

theorem fr_s_X7_ticks_L105 {fu : Nat}  {out : S4} : ∀ (n : Nat) (v1 : Int32) (S : S4), s_X7_ticks_L105 fu n v1 S = some out → FM S out := by
  intro n
  induction n with
  | zero => intro v1 Z10 hs; rw [s_X7_ticks_L105] at hs; cases hs
  | succ n ih =>
    intro v1 Z10 hs
    rw [s_X7_ticks_L105] at hs
    have F := FM.refl Z10
    rcases ite_or hs with hs | hs
    · obtain rfl := Option.some.inj hs; exact F
    · obtain ⟨Z13, eZ13, hs⟩ := bd_some hs
      replace F := F.trans (fr_X7_sends eZ13)
      exact F.trans (ih _ _ hs)
theorem fr_s_X7_ticks_L56 {fu : Nat}  {out : S4} : ∀ (n : Nat) (v1 : Int32) (S : S4), s_X7_ticks_L56 fu n v1 S = some out → FM S out := by
  intro n
  induction n with
  | zero => intro v1 Z8 hs; rw [s_X7_ticks_L56] at hs; cases hs
  | succ n ih =>
    intro v1 Z8 hs
    rw [s_X7_ticks_L56] at hs
    have F := FM.refl Z8
    rcases ite_or hs with hs | hs
    · exact F.trans (fr_s_X7_ticks_L105 _ _ _ hs)
    · obtain ⟨q14, -, hs⟩ := bd_some hs
      obtain ⟨-, hs⟩ := gd_some hs
      rcases ite_or hs with hs | hs
      · exact F.trans (ih _ _ hs)
      · obtain ⟨q17, -, hs⟩ := bd_some hs
        rcases ite_or hs with hs | hs
        · obtain ⟨Z20, eZ20, hs⟩ := bd_some hs
          replace F := F.trans (fr_X7_tries eZ20)
          exact F.trans (ih _ _ hs)
        · exact F.trans (ih _ _ hs)
theorem fr_s_X7_ticks_L12 {fu : Nat}  {out : S4} : ∀ (n : Nat) (v1 : Int32) (S : S4), s_X7_ticks_L12 fu n v1 S = some out → FM S out := by
  intro n
  induction n with
  | zero => intro v1 Z2 hs; rw [s_X7_ticks_L12] at hs; cases hs
  | succ n ih =>
    intro v1 Z2 hs
    rw [s_X7_ticks_L12] at hs
    have F := FM.refl Z2
    rcases ite_or hs with hs | hs
    · obtain ⟨Z5, eZ5, hs⟩ := bd_some hs
      replace F := F.trans (fr_X7_turns eZ5)
      obtain ⟨-, hs⟩ := gd_some hs
      rcases ite_or hs with hs | hs
      · exact F.trans (fr_s_X7_ticks_L56 _ _ _ hs)
      · obtain ⟨-, hs⟩ := gd_some hs
        obtain ⟨Z23, eZ23, hs⟩ := bd_some hs
        replace F := F.trans (fr_X7_scans eZ23)
        exact F.trans (fr_s_X7_ticks_L56 _ _ _ hs)
    · obtain ⟨Z38, eZ38, hs⟩ := bd_some hs
      replace F := F.trans (fr_X7_waitsLess eZ38)
      exact F.trans (ih _ _ hs)
theorem fr_X7_ticks {fu : Nat}  {S : S4} {out : S4} (hs : s_X7_ticks fu S = some out) : FM S out := by
  unfold s_X7_ticks at hs
  have F := FM.refl S
  obtain ⟨Z1, eZ1, hs⟩ := sv_ex hs
  replace F := F.trans (FM.putu eZ1 (by decide))
  exact F.trans (fr_s_X7_ticks_L12 _ _ _ hs)

theorem fr_s_X7_run_L32 {fu : Nat} {p1 : Int32} {out : (Int32 × S4)} : ∀ (n : Nat) (v2 : Int32) (v3 : Int32) (S : S4), s_X7_run_L32 fu p1 n v2 v3 S = some out → FM S out.2 := by
  intro n
  induction n with
  | zero => intro v2 v3 Z6 hs; rw [s_X7_run_L32] at hs; cases hs
  | succ n ih =>
    intro v2 v3 Z6 hs
    rw [s_X7_run_L32] at hs
    have F := FM.refl Z6
    rcases ite_or hs with hs | hs
    · obtain rfl := Option.some.inj hs; exact F
    · obtain ⟨Z9, eZ9, hs⟩ := bd_some hs
      replace F := F.trans (fr_X7_ticks eZ9)
      exact F.trans (ih _ _ _ hs)
theorem fr_X7_run {fu : Nat} {p1 : Int32} {S : S4} {out : (Int32 × S4)} (hs : s_X7_run fu p1 S = some out) : FM S out.2 := by
  unfold s_X7_run at hs
  have F := FM.refl S
  obtain ⟨q1, -, hs⟩ := bd_some hs
  rcases ite_or hs with hs | hs
  · obtain ⟨q10, eq10, hs⟩ := bd_some hs
    replace F := F.trans (fr_X7_fails eq10)
    obtain rfl := Option.some.inj hs; exact F
  · obtain ⟨Z3, eZ3, hs⟩ := sv_ex hs
    replace F := F.trans (FM.putu eZ3 (by decide))
    obtain ⟨Z5, eZ5, hs⟩ := bd_some hs
    replace F := F.trans (fr_X7_remembers eZ5)
    exact F.trans (fr_s_X7_run_L32 _ _ _ _ hs)

theorem fr_X7_setClosed {fu : Nat} {p1 : Int32} {p2 : Int32} {S : S4} {out : (Int32 × S4)} (hs : s_X7_setClosed fu p1 p2 S = some out) : FM S out.2 := by
  unfold s_X7_setClosed at hs
  have F := FM.refl S
  obtain ⟨q1, -, hs⟩ := bd_some hs
  obtain ⟨q2, -, hs⟩ := bd_some hs
  obtain ⟨Z3, eZ3, hs⟩ := sv_ex hs
  replace F := F.trans (FM.putu eZ3 (by decide))
  rcases ite_or hs with hs | hs
  · obtain ⟨Z6, eZ6, hs⟩ := bd_some hs
    replace F := F.trans (fr_X7_remembers eZ6)
    obtain ⟨q7, -, hs⟩ := bd_some hs
    obtain ⟨q8, -, hs⟩ := bd_some hs
    obtain ⟨q9, -, hs⟩ := bd_some hs
    obtain ⟨Z11, eZ11, hs⟩ := bd_some hs
    replace F := F.trans (fr_X7_setsChute eZ11)
    obtain ⟨-, hs⟩ := gd_some hs
    obtain rfl := Option.some.inj hs; exact F
  · obtain rfl := Option.some.inj hs; exact F

theorem fr_X7_clear {fu : Nat} {p1 : Int32} {S : S4} {out : (Int32 × S4)} (hs : s_X7_clear fu p1 S = some out) : FM S out.2 := by
  unfold s_X7_clear at hs
  have F := FM.refl S
  obtain ⟨q1, -, hs⟩ := bd_some hs
  rcases ite_or hs with hs | hs
  · obtain ⟨q12, eq12, hs⟩ := bd_some hs
    replace F := F.trans (fr_X7_fails eq12)
    obtain rfl := Option.some.inj hs; exact F
  · obtain ⟨q3, -, hs⟩ := bd_some hs
    rcases ite_or hs with hs | hs
    · obtain ⟨q11, eq11, hs⟩ := bd_some hs
      replace F := F.trans (fr_X7_fails eq11)
      obtain rfl := Option.some.inj hs; exact F
    · obtain ⟨Z5, eZ5, hs⟩ := sv_ex hs
      replace F := F.trans (FM.putu eZ5 (by decide))
      obtain ⟨Z7, eZ7, hs⟩ := bd_some hs
      replace F := F.trans (fr_X7_remembers eZ7)
      obtain ⟨q8, -, hs⟩ := bd_some hs
      obtain ⟨Z10, eZ10, hs⟩ := bd_some hs
      replace F := F.trans (fr_X7_setsChute eZ10)
      obtain rfl := Option.some.inj hs; exact F

theorem fr_X7_chute {fu : Nat} {p1 : Int32} {p2 : Int32} {S : S4} {out : (Int32 × S4)} (hs : s_X7_chute fu p1 p2 S = some out) : FM S out.2 := by
  unfold s_X7_chute at hs
  have F := FM.refl S
  obtain ⟨q1, -, hs⟩ := bd_some hs
  rcases ite_or hs with hs | hs
  · obtain ⟨q33, eq33, hs⟩ := bd_some hs
    replace F := F.trans (fr_X7_fails eq33)
    obtain rfl := Option.some.inj hs; exact F
  · obtain ⟨q3, -, hs⟩ := bd_some hs
    rcases ite_or hs with hs | hs
    · obtain ⟨q32, eq32, hs⟩ := bd_some hs
      replace F := F.trans (fr_X7_fails eq32)
      obtain rfl := Option.some.inj hs; exact F
    · obtain ⟨Z5, eZ5, hs⟩ := sv_ex hs
      replace F := F.trans (FM.putu eZ5 (by decide))
      rcases ite_or hs with hs | hs
      · obtain ⟨q7, -, hs⟩ := bd_some hs
        obtain rfl := Option.some.inj hs; exact F
      · rcases ite_or hs with hs | hs
        · obtain ⟨q9, -, hs⟩ := bd_some hs
          obtain rfl := Option.some.inj hs; exact F
        · rcases ite_or hs with hs | hs
          · obtain ⟨q11, -, hs⟩ := bd_some hs
            obtain rfl := Option.some.inj hs; exact F
          · rcases ite_or hs with hs | hs
            · obtain ⟨q13, -, hs⟩ := bd_some hs
              obtain rfl := Option.some.inj hs; exact F
            · rcases ite_or hs with hs | hs
              · obtain ⟨q15, -, hs⟩ := bd_some hs
                obtain rfl := Option.some.inj hs; exact F
              · rcases ite_or hs with hs | hs
                · obtain ⟨q17, -, hs⟩ := bd_some hs
                  rcases ite_or hs with hs | hs
                  · obtain rfl := Option.some.inj hs; exact F
                  · obtain rfl := Option.some.inj hs; exact F
                · rcases ite_or hs with hs | hs
                  · obtain ⟨q20, -, hs⟩ := bd_some hs
                    obtain rfl := Option.some.inj hs; exact F
                  · rcases ite_or hs with hs | hs
                    · obtain ⟨q22, -, hs⟩ := bd_some hs
                      obtain rfl := Option.some.inj hs; exact F
                    · rcases ite_or hs with hs | hs
                      · obtain ⟨q24, -, hs⟩ := bd_some hs
                        obtain rfl := Option.some.inj hs; exact F
                      · rcases ite_or hs with hs | hs
                        · obtain ⟨q26, -, hs⟩ := bd_some hs
                          obtain rfl := Option.some.inj hs; exact F
                        · rcases ite_or hs with hs | hs
                          · obtain ⟨q28, -, hs⟩ := bd_some hs
                            obtain rfl := Option.some.inj hs; exact F
                          · rcases ite_or hs with hs | hs
                            · obtain ⟨q30, -, hs⟩ := bd_some hs
                              obtain rfl := Option.some.inj hs; exact F
                            · obtain ⟨q31, -, hs⟩ := bd_some hs
                              obtain rfl := Option.some.inj hs; exact F

theorem fr_X7_station {p1 : Int32} {p2 : Int32} {S : S4} {out : (Int32 × S4)} (hs : s_X7_station p1 p2 S = some out) : FM S out.2 := by
  unfold s_X7_station at hs
  have F := FM.refl S
  obtain ⟨q1, -, hs⟩ := bd_some hs
  rcases ite_or hs with hs | hs
  · obtain ⟨q14, eq14, hs⟩ := bd_some hs
    replace F := F.trans (fr_X7_fails eq14)
    obtain rfl := Option.some.inj hs; exact F
  · obtain ⟨q3, -, hs⟩ := bd_some hs
    rcases ite_or hs with hs | hs
    · obtain ⟨q13, eq13, hs⟩ := bd_some hs
      replace F := F.trans (fr_X7_fails eq13)
      obtain rfl := Option.some.inj hs; exact F
    · obtain ⟨Z5, eZ5, hs⟩ := sv_ex hs
      replace F := F.trans (FM.putu eZ5 (by decide))
      rcases ite_or hs with hs | hs
      · obtain ⟨q10, -, hs⟩ := bd_some hs
        rcases ite_or hs with hs | hs
        · obtain rfl := Option.some.inj hs; exact F
        · obtain ⟨q12, -, hs⟩ := bd_some hs
          obtain rfl := Option.some.inj hs; exact F
      · obtain ⟨q7, -, hs⟩ := bd_some hs
        obtain ⟨q8, -, hs⟩ := bd_some hs
        obtain rfl := Option.some.inj hs; exact F

theorem fr_X7_count {fu : Nat} {p1 : Int32} {S : S4} {out : (Int32 × S4)} (hs : s_X7_count fu p1 S = some out) : FM S out.2 := by
  unfold s_X7_count at hs
  have F := FM.refl S
  obtain ⟨q1, -, hs⟩ := bd_some hs
  rcases ite_or hs with hs | hs
  · obtain ⟨q37, eq37, hs⟩ := bd_some hs
    replace F := F.trans (fr_X7_fails eq37)
    obtain rfl := Option.some.inj hs; exact F
  · obtain ⟨Z3, eZ3, hs⟩ := sv_ex hs
    replace F := F.trans (FM.putu eZ3 (by decide))
    rcases ite_or hs with hs | hs
    · obtain rfl := Option.some.inj hs; exact F
    · rcases ite_or hs with hs | hs
      · obtain rfl := Option.some.inj hs; exact F
      · rcases ite_or hs with hs | hs
        · obtain rfl := Option.some.inj hs; exact F
        · rcases ite_or hs with hs | hs
          · obtain rfl := Option.some.inj hs; exact F
          · rcases ite_or hs with hs | hs
            · obtain rfl := Option.some.inj hs; exact F
            · rcases ite_or hs with hs | hs
              · obtain rfl := Option.some.inj hs; exact F
              · rcases ite_or hs with hs | hs
                · obtain ⟨q11, -, hs⟩ := bd_some hs
                  obtain rfl := Option.some.inj hs; exact F
                · rcases ite_or hs with hs | hs
                  · obtain ⟨q13, -, hs⟩ := bd_some hs
                    obtain rfl := Option.some.inj hs; exact F
                  · rcases ite_or hs with hs | hs
                    · obtain ⟨q15, -, hs⟩ := bd_some hs
                      obtain rfl := Option.some.inj hs; exact F
                    · rcases ite_or hs with hs | hs
                      · obtain ⟨q17, -, hs⟩ := bd_some hs
                        obtain rfl := Option.some.inj hs; exact F
                      · rcases ite_or hs with hs | hs
                        · obtain ⟨q19, -, hs⟩ := bd_some hs
                          obtain rfl := Option.some.inj hs; exact F
                        · rcases ite_or hs with hs | hs
                          · obtain ⟨q21, -, hs⟩ := bd_some hs
                            obtain rfl := Option.some.inj hs; exact F
                          · rcases ite_or hs with hs | hs
                            · obtain ⟨q23, -, hs⟩ := bd_some hs
                              obtain rfl := Option.some.inj hs; exact F
                            · rcases ite_or hs with hs | hs
                              · obtain ⟨q25, -, hs⟩ := bd_some hs
                                obtain ⟨q26, -, hs⟩ := bd_some hs
                                obtain rfl := Option.some.inj hs; exact F
                              · rcases ite_or hs with hs | hs
                                · obtain ⟨q29, -, hs⟩ := bd_some hs
                                  obtain rfl := Option.some.inj hs; exact F
                                · rcases ite_or hs with hs | hs
                                  · obtain ⟨q31, -, hs⟩ := bd_some hs
                                    obtain rfl := Option.some.inj hs; exact F
                                  · rcases ite_or hs with hs | hs
                                    · obtain ⟨q33, -, hs⟩ := bd_some hs
                                      obtain ⟨q34, -, hs⟩ := bd_some hs
                                      obtain rfl := Option.some.inj hs; exact F
                                    · obtain ⟨q36, -, hs⟩ := bd_some hs
                                      obtain rfl := Option.some.inj hs; exact F

theorem fr_s_X7_meanRounds_L23 {fu : Nat}  {out : ((Int32 × Int32) × S4)} : ∀ (n : Nat) (v1 : Int32) (v2 : Int32) (S : S4), s_X7_meanRounds_L23 fu n v1 v2 S = some out → FM S out.2 := by
  intro n
  induction n with
  | zero => intro v1 v2 Z3 hs; rw [s_X7_meanRounds_L23] at hs; cases hs
  | succ n ih =>
    intro v1 v2 Z3 hs
    rw [s_X7_meanRounds_L23] at hs
    have F := FM.refl Z3
    rcases ite_or hs with hs | hs
    · obtain ⟨-, hs⟩ := gd_some hs
      obtain rfl := Option.some.inj hs; exact F
    · obtain ⟨-, hs⟩ := gd_some hs
      obtain ⟨q7, -, hs⟩ := bd_some hs
      exact F.trans (ih _ _ _ hs)
theorem fr_X7_meanRounds {fu : Nat}  {S : S4} {out : ((Int32 × Int32) × S4)} (hs : s_X7_meanRounds fu S = some out) : FM S out.2 := by
  unfold s_X7_meanRounds at hs
  have F := FM.refl S
  rcases ite_or hs with hs | hs
  · obtain ⟨q8, eq8, hs⟩ := bd_some hs
    replace F := F.trans (fr_X7_fails eq8)
    obtain rfl := Option.some.inj hs; exact F
  · obtain ⟨Z2, eZ2, hs⟩ := sv_ex hs
    replace F := F.trans (FM.putu eZ2 (by decide))
    exact F.trans (fr_s_X7_meanRounds_L23 _ _ _ _ hs)

theorem fr_s_X7_foresee_L44 {fu : Nat} {p1 : Int32} {p2 : Int32} {p3 : Int32} {out : (Int32 × S4)} : ∀ (n : Nat) (v4 : Int32) (S : S4), s_X7_foresee_L44 fu p1 p2 p3 n v4 S = some out → FM S out.2 := by
  intro n
  induction n with
  | zero => intro v4 Z7 hs; rw [s_X7_foresee_L44] at hs; cases hs
  | succ n ih =>
    intro v4 Z7 hs
    rw [s_X7_foresee_L44] at hs
    have F := FM.refl Z7
    rcases ite_or hs with hs | hs
    · obtain ⟨q9, -, hs⟩ := bd_some hs
      obtain ⟨q10, -, hs⟩ := bd_some hs
      obtain ⟨Z11, eZ11, hs⟩ := sv_ex hs
      replace F := F.trans (FM.putu eZ11 (by decide))
      obtain ⟨q12, -, hs⟩ := bd_some hs
      obtain ⟨Z14, eZ14, hs⟩ := bd_some hs
      replace F := F.trans (fr_X7_handsAll (by decide) eZ14)
      obtain rfl := Option.some.inj hs; exact F
    · obtain ⟨q20, -, hs⟩ := bd_some hs
      rcases ite_or hs with hs | hs
      · obtain ⟨q22, -, hs⟩ := bd_some hs
        obtain ⟨q23, -, hs⟩ := bd_some hs
        obtain ⟨Z24, eZ24, hs⟩ := sv_ex hs
        replace F := F.trans (FM.putu eZ24 (by decide))
        obtain ⟨q25, -, hs⟩ := bd_some hs
        obtain ⟨Z27, eZ27, hs⟩ := bd_some hs
        replace F := F.trans (fr_X7_handsAll (by decide) eZ27)
        obtain rfl := Option.some.inj hs; exact F
      · obtain ⟨Z34, eZ34, hs⟩ := bd_some hs
        replace F := F.trans (fr_X7_ticks eZ34)
        exact F.trans (ih _ _ hs)
theorem fr_X7_foresee {fu : Nat} {p1 : Int32} {p2 : Int32} {p3 : Int32} {S : S4} {out : (Int32 × S4)} (hs : s_X7_foresee fu p1 p2 p3 S = some out) : FM S out.2 := by
  unfold s_X7_foresee at hs
  have F := FM.refl S
  obtain ⟨q1, -, hs⟩ := bd_some hs
  rcases ite_or hs with hs | hs
  · obtain ⟨q36, eq36, hs⟩ := bd_some hs
    replace F := F.trans (fr_X7_fails eq36)
    obtain rfl := Option.some.inj hs; exact F
  · obtain ⟨q3, -, hs⟩ := bd_some hs
    rcases ite_or hs with hs | hs
    · obtain ⟨q35, eq35, hs⟩ := bd_some hs
      replace F := F.trans (fr_X7_fails eq35)
      obtain rfl := Option.some.inj hs; exact F
    · obtain ⟨Z6, eZ6, hs⟩ := bd_some hs
      replace F := F.trans (fr_X7_handsAll (by decide) eZ6)
      exact F.trans (fr_s_X7_foresee_L44 _ _ _ hs)

theorem fr_s_X7_untilEmpty_L29 {fu : Nat} {p1 : Int32} {out : (Int32 × S4)} : ∀ (n : Nat) (v2 : Int32) (S : S4), s_X7_untilEmpty_L29 fu p1 n v2 S = some out → FM S out.2 := by
  intro n
  induction n with
  | zero => intro v2 Z5 hs; rw [s_X7_untilEmpty_L29] at hs; cases hs
  | succ n ih =>
    intro v2 Z5 hs
    rw [s_X7_untilEmpty_L29] at hs
    have F := FM.refl Z5
    rcases ite_or hs with hs | hs
    · obtain ⟨q7, -, hs⟩ := bd_some hs
      obtain ⟨Z8, eZ8, hs⟩ := sv_ex hs
      replace F := F.trans (FM.putu eZ8 (by decide))
      obtain ⟨Z10, eZ10, hs⟩ := bd_some hs
      replace F := F.trans (fr_X7_handsAll (by decide) eZ10)
      rcases ite_or hs with hs | hs
      · obtain rfl := Option.some.inj hs; exact F
      · obtain rfl := Option.some.inj hs; exact F
    · rcases ite_or hs with hs | hs
      · obtain ⟨q14, -, hs⟩ := bd_some hs
        obtain ⟨Z15, eZ15, hs⟩ := sv_ex hs
        replace F := F.trans (FM.putu eZ15 (by decide))
        obtain ⟨Z17, eZ17, hs⟩ := bd_some hs
        replace F := F.trans (fr_X7_handsAll (by decide) eZ17)
        rcases ite_or hs with hs | hs
        · obtain rfl := Option.some.inj hs; exact F
        · obtain rfl := Option.some.inj hs; exact F
      · obtain ⟨Z21, eZ21, hs⟩ := bd_some hs
        replace F := F.trans (fr_X7_ticks eZ21)
        exact F.trans (ih _ _ hs)
theorem fr_X7_untilEmpty {fu : Nat} {p1 : Int32} {S : S4} {out : (Int32 × S4)} (hs : s_X7_untilEmpty fu p1 S = some out) : FM S out.2 := by
  unfold s_X7_untilEmpty at hs
  have F := FM.refl S
  obtain ⟨q1, -, hs⟩ := bd_some hs
  rcases ite_or hs with hs | hs
  · obtain ⟨q22, eq22, hs⟩ := bd_some hs
    replace F := F.trans (fr_X7_fails eq22)
    obtain rfl := Option.some.inj hs; exact F
  · obtain ⟨Z4, eZ4, hs⟩ := bd_some hs
    replace F := F.trans (fr_X7_handsAll (by decide) eZ4)
    exact F.trans (fr_s_X7_untilEmpty_L29 _ _ _ hs)

theorem fr_s_X7_audit_L19 {fu : Nat}  {k7 : Int32 → S4 → Option (Int32 × S4)} {out : (Int32 × S4)} (hk7 : ∀ (a0 : Int32) (S : S4), k7 a0 S = some out → FM S out.2) : ∀ (n : Nat) (v1 : Int32) (v2 : Int32) (v3 : Int32) (S : S4), s_X7_audit_L19 fu k7 n v1 v2 v3 S = some out → FM S out.2 := by
  intro n
  induction n with
  | zero => intro v1 v2 v3 Z10 hs; rw [s_X7_audit_L19] at hs; cases hs
  | succ n ih =>
    intro v1 v2 v3 Z10 hs
    rw [s_X7_audit_L19] at hs
    have F := FM.refl Z10
    rcases ite_or hs with hs | hs
    · obtain ⟨q12, -, hs⟩ := bd_some hs
      rcases ite_or hs with hs | hs
      · exact F.trans (hk7 _ _ hs)
      · obtain rfl := Option.some.inj hs; exact F
    · obtain ⟨q14, -, hs⟩ := bd_some hs
      obtain ⟨q15, -, hs⟩ := bd_some hs
      exact F.trans (ih _ _ _ _ hs)
theorem fr_s_X7_audit_L7 {fu : Nat}  {out : (Int32 × S4)} : ∀ (n : Nat) (v1 : Int32) (S : S4), s_X7_audit_L7 fu n v1 S = some out → FM S out.2 := by
  intro n
  induction n with
  | zero => intro v1 Z2 hs; rw [s_X7_audit_L7] at hs; cases hs
  | succ n ih =>
    intro v1 Z2 hs
    rw [s_X7_audit_L7] at hs
    have F := FM.refl Z2
    rcases ite_or hs with hs | hs
    · obtain ⟨q4, -, hs⟩ := bd_some hs
      rcases ite_or hs with hs | hs
      · obtain ⟨q6, -, hs⟩ := bd_some hs
        obtain ⟨q7, -, hs⟩ := bd_some hs
        obtain ⟨q8, -, hs⟩ := bd_some hs
        rcases ite_or hs with hs | hs
        · obtain rfl := Option.some.inj hs; exact F
        · obtain rfl := Option.some.inj hs; exact F
      · obtain rfl := Option.some.inj hs; exact F
    · exact F.trans (fr_s_X7_audit_L19 (fun _ _ hs => ih _ _ hs) _ _ _ _ _ hs)
theorem fr_X7_audit {fu : Nat}  {S : S4} {out : (Int32 × S4)} (hs : s_X7_audit fu S = some out) : FM S out.2 := by
  unfold s_X7_audit at hs
  have F := FM.refl S
  obtain ⟨Z1, eZ1, hs⟩ := sv_ex hs
  replace F := F.trans (FM.putu eZ1 (by decide))
  exact F.trans (fr_s_X7_audit_L7 _ _ _ hs)

theorem fr_X7_ledger {p1 : Int32} {p2 : Int32} {S : S4} {out : (Int32 × S4)} (hs : s_X7_ledger p1 p2 S = some out) : FM S out.2 := by
  unfold s_X7_ledger at hs
  have F := FM.refl S
  obtain ⟨q1, -, hs⟩ := bd_some hs
  rcases ite_or hs with hs | hs
  · obtain ⟨q13, eq13, hs⟩ := bd_some hs
    replace F := F.trans (fr_X7_fails eq13)
    obtain rfl := Option.some.inj hs; exact F
  · obtain ⟨q3, -, hs⟩ := bd_some hs
    rcases ite_or hs with hs | hs
    · obtain ⟨q12, eq12, hs⟩ := bd_some hs
      replace F := F.trans (fr_X7_fails eq12)
      obtain rfl := Option.some.inj hs; exact F
    · obtain ⟨Z5, eZ5, hs⟩ := sv_ex hs
      replace F := F.trans (FM.putu eZ5 (by decide))
      obtain ⟨-, hs⟩ := gd_some hs
      rcases ite_or hs with hs | hs
      · obtain rfl := Option.some.inj hs; exact F
      · obtain ⟨q8, -, hs⟩ := bd_some hs
        obtain ⟨q9, -, hs⟩ := bd_some hs
        obtain rfl := Option.some.inj hs; exact F

theorem fr_X7_undo {fu : Nat}  {S : S4} {out : (Int32 × S4)} (hs : s_X7_undo fu S = some out) : FM S out.2 := by
  unfold s_X7_undo at hs
  have F := FM.refl S
  rcases ite_or hs with hs | hs
  · obtain ⟨q6, eq6, hs⟩ := bd_some hs
    replace F := F.trans (fr_X7_fails eq6)
    obtain rfl := Option.some.inj hs; exact F
  · obtain ⟨Z2, eZ2, hs⟩ := sv_ex hs
    replace F := F.trans (FM.putu eZ2 (by decide))
    obtain ⟨Z3, eZ3, hs⟩ := sv_ex hs
    replace F := F.trans (FM.putu eZ3 (by decide))
    obtain ⟨Z5, eZ5, hs⟩ := bd_some hs
    replace F := F.trans (fr_X7_handsAll (by decide) eZ5)
    obtain rfl := Option.some.inj hs; exact F

theorem fr_X7_saveSnapshot {fu : Nat}  {S : S4} {out : (Int32 × S4)} (hs : s_X7_saveSnapshot fu S = some out) : FM S out.2 := by
  unfold s_X7_saveSnapshot at hs
  have F := FM.refl S
  obtain ⟨Z1, eZ1, hs⟩ := sv_ex hs
  replace F := F.trans (FM.putu eZ1 (by decide))
  obtain ⟨Z2, eZ2, hs⟩ := sv_ex hs
  replace F := F.trans (FM.putu eZ2 (by decide))
  obtain ⟨Z4, eZ4, hs⟩ := bd_some hs
  replace F := F.trans (fr_X7_handsAll (by decide) eZ4)
  obtain rfl := Option.some.inj hs; exact F

theorem fr_X7_restoreSnapshot {fu : Nat}  {S : S4} {out : (Int32 × S4)} (hs : s_X7_restoreSnapshot fu S = some out) : FM S out.2 := by
  unfold s_X7_restoreSnapshot at hs
  have F := FM.refl S
  rcases ite_or hs with hs | hs
  · obtain ⟨q6, eq6, hs⟩ := bd_some hs
    replace F := F.trans (fr_X7_fails eq6)
    obtain rfl := Option.some.inj hs; exact F
  · obtain ⟨Z2, eZ2, hs⟩ := sv_ex hs
    replace F := F.trans (FM.putu eZ2 (by decide))
    obtain ⟨Z4, eZ4, hs⟩ := bd_some hs
    replace F := F.trans (fr_X7_handsAll (by decide) eZ4)
    obtain ⟨Z5, eZ5, hs⟩ := sv_ex hs
    replace F := F.trans (FM.putu eZ5 (by decide))
    obtain rfl := Option.some.inj hs; exact F

theorem fr_X7_prints {p1 : Int32} {S : S4} {out : S4} (hs : s_X7_prints p1 S = some out) : FM S out := by
  unfold s_X7_prints at hs
  have F := FM.refl S
  obtain ⟨-, hs⟩ := gd_some hs
  obtain ⟨Z2, eZ2, hs⟩ := sv_ex hs
  replace F := F.trans (FM.putu eZ2 (by decide))
  obtain ⟨Z3, eZ3, hs⟩ := sv_ex hs
  replace F := F.trans (FM.putu eZ3 (by decide))
  obtain rfl := Option.some.inj hs; exact F

theorem fr_s_X7_printsNumber_L18 {fu : Nat} {p1 : Int32} {out : S4} : ∀ (n : Nat) (v2 : Int32) (S : S4), s_X7_printsNumber_L18 fu p1 n v2 S = some out → FM S out := by
  intro n
  induction n with
  | zero => intro v2 Z4 hs; rw [s_X7_printsNumber_L18] at hs; cases hs
  | succ n ih =>
    intro v2 Z4 hs
    rw [s_X7_printsNumber_L18] at hs
    have F := FM.refl Z4
    rcases ite_or hs with hs | hs
    · obtain rfl := Option.some.inj hs; exact F
    · obtain ⟨-, hs⟩ := gd_some hs
      obtain ⟨Z8, eZ8, hs⟩ := bd_some hs
      replace F := F.trans (fr_X7_prints eZ8)
      exact F.trans (ih _ _ hs)
theorem fr_s_X7_printsNumber_L2 {fu : Nat} {p1 : Int32} {out : S4} : ∀ (n : Nat) (v2 : Int32) (S : S4), s_X7_printsNumber_L2 fu p1 n v2 S = some out → FM S out := by
  intro n
  induction n with
  | zero => intro v2 Z1 hs; rw [s_X7_printsNumber_L2] at hs; cases hs
  | succ n ih =>
    intro v2 Z1 hs
    rw [s_X7_printsNumber_L2] at hs
    have F := FM.refl Z1
    obtain ⟨-, hs⟩ := gd_some hs
    rcases ite_or hs with hs | hs
    · exact F.trans (fr_s_X7_printsNumber_L18 _ _ _ hs)
    · exact F.trans (ih _ _ hs)
theorem fr_X7_printsNumber {fu : Nat} {p1 : Int32} {S : S4} {out : S4} (hs : s_X7_printsNumber fu p1 S = some out) : FM S out := by
  unfold s_X7_printsNumber at hs
  have F := FM.refl S
  exact F.trans (fr_s_X7_printsNumber_L2 _ _ _ hs)

theorem fr_s_X7_printsRule_L47 {fu : Nat} {p1 : Int32} {p2 : Int32} {out : S4} : ∀ (n : Nat) (v3 : Int32) (S : S4), s_X7_printsRule_L47 fu p1 p2 n v3 S = some out → FM S out := by
  intro n
  induction n with
  | zero => intro v3 Z7 hs; rw [s_X7_printsRule_L47] at hs; cases hs
  | succ n ih =>
    intro v3 Z7 hs
    rw [s_X7_printsRule_L47] at hs
    have F := FM.refl Z7
    obtain ⟨q8, -, hs⟩ := bd_some hs
    rcases ite_or hs with hs | hs
    · obtain rfl := Option.some.inj hs; exact F
    · obtain ⟨q10, -, hs⟩ := bd_some hs
      obtain ⟨Z12, eZ12, hs⟩ := bd_some hs
      replace F := F.trans (fr_X7_prints eZ12)
      obtain ⟨q13, -, hs⟩ := bd_some hs
      obtain ⟨Z15, eZ15, hs⟩ := bd_some hs
      replace F := F.trans (fr_X7_printsNumber eZ15)
      exact F.trans (ih _ _ hs)
theorem fr_X7_printsRule {fu : Nat} {p1 : Int32} {p2 : Int32} {S : S4} {out : S4} (hs : s_X7_printsRule fu p1 p2 S = some out) : FM S out := by
  unfold s_X7_printsRule at hs
  have F := FM.refl S
  obtain ⟨q1, -, hs⟩ := bd_some hs
  obtain ⟨Z3, eZ3, hs⟩ := bd_some hs
  replace F := F.trans (fr_X7_printsNumber eZ3)
  obtain ⟨q4, -, hs⟩ := bd_some hs
  obtain ⟨q5, -, hs⟩ := bd_some hs
  rcases ite_or hs with hs | hs
  · exact F.trans (fr_s_X7_printsRule_L47 _ _ _ hs)
  · obtain ⟨Z18, eZ18, hs⟩ := bd_some hs
    replace F := F.trans (fr_X7_prints eZ18)
    obtain ⟨q19, -, hs⟩ := bd_some hs
    obtain ⟨Z21, eZ21, hs⟩ := bd_some hs
    replace F := F.trans (fr_X7_printsNumber eZ21)
    exact F.trans (fr_s_X7_printsRule_L47 _ _ _ hs)

theorem fr_s_X7_write_L42 {fu : Nat} {p1 : Int32} {out : (Int32 × S4)} : ∀ (n : Nat) (v2 : Int32) (S : S4), s_X7_write_L42 fu p1 n v2 S = some out → FM S out.2 := by
  intro n
  induction n with
  | zero => intro v2 Z10 hs; rw [s_X7_write_L42] at hs; cases hs
  | succ n ih =>
    intro v2 Z10 hs
    rw [s_X7_write_L42] at hs
    have F := FM.refl Z10
    obtain ⟨q11, -, hs⟩ := bd_some hs
    rcases ite_or hs with hs | hs
    · obtain ⟨Z14, eZ14, hs⟩ := bd_some hs
      replace F := F.trans (fr_X7_prints eZ14)
      obtain ⟨q15, -, hs⟩ := bd_some hs
      obtain ⟨Z17, eZ17, hs⟩ := bd_some hs
      replace F := F.trans (fr_X7_printsNumber eZ17)
      obtain ⟨q18, -, hs⟩ := bd_some hs
      rcases ite_or hs with hs | hs
      · obtain rfl := Option.some.inj hs; exact F
      · obtain ⟨Z21, eZ21, hs⟩ := bd_some hs
        replace F := F.trans (fr_X7_prints eZ21)
        obtain ⟨q22, -, hs⟩ := bd_some hs
        obtain ⟨Z24, eZ24, hs⟩ := bd_some hs
        replace F := F.trans (fr_X7_printsNumber eZ24)
        obtain rfl := Option.some.inj hs; exact F
    · obtain ⟨q25, -, hs⟩ := bd_some hs
      obtain ⟨Z27, eZ27, hs⟩ := bd_some hs
      replace F := F.trans (fr_X7_prints eZ27)
      obtain ⟨Z29, eZ29, hs⟩ := bd_some hs
      replace F := F.trans (fr_X7_printsRule eZ29)
      exact F.trans (ih _ _ hs)
theorem fr_X7_write {fu : Nat} {p1 : Int32} {S : S4} {out : (Int32 × S4)} (hs : s_X7_write fu p1 S = some out) : FM S out.2 := by
  unfold s_X7_write at hs
  have F := FM.refl S
  obtain ⟨q1, -, hs⟩ := bd_some hs
  rcases ite_or hs with hs | hs
  · obtain ⟨q31, eq31, hs⟩ := bd_some hs
    replace F := F.trans (fr_X7_fails eq31)
    obtain rfl := Option.some.inj hs; exact F
  · obtain ⟨Z3, eZ3, hs⟩ := sv_ex hs
    replace F := F.trans (FM.putu eZ3 (by decide))
    obtain ⟨Z4, eZ4, hs⟩ := sv_ex hs
    replace F := F.trans (FM.putu eZ4 (by decide))
    obtain ⟨Z6, eZ6, hs⟩ := bd_some hs
    replace F := F.trans (fr_X7_prints eZ6)
    obtain ⟨q7, -, hs⟩ := bd_some hs
    obtain ⟨Z9, eZ9, hs⟩ := bd_some hs
    replace F := F.trans (fr_X7_printsNumber eZ9)
    exact F.trans (fr_s_X7_write_L42 _ _ _ hs)

theorem fr_X7_paper {p1 : Int32} {S : S4} {out : (Int32 × S4)} (hs : s_X7_paper p1 S = some out) : FM S out.2 := by
  unfold s_X7_paper at hs
  have F := FM.refl S
  obtain ⟨q1, -, hs⟩ := bd_some hs
  obtain ⟨q2, -, hs⟩ := bd_some hs
  obtain ⟨Z3, eZ3, hs⟩ := sv_ex hs
  replace F := F.trans (FM.putu eZ3 (by decide))
  rcases ite_or hs with hs | hs
  · obtain ⟨-, hs⟩ := gd_some hs
    obtain ⟨-, hs⟩ := gd_some hs
    obtain rfl := Option.some.inj hs; exact F
  · obtain rfl := Option.some.inj hs; exact F

theorem fr_X4_reset {fu : Nat} {t : Nat} {p1 : Int32} {S : S4} {out : S4} (hs : s_X4_reset fu t p1 S = some out) : FS t S out := by
  unfold s_X4_reset at hs
  have F := FS.refl t S
  obtain ⟨Z1, eZ1, hs⟩ := sv_ex hs
  replace F := F.trans (FS.putu eZ1 (by decide))
  obtain ⟨Z2, eZ2, hs⟩ := sv_ex hs
  replace F := F.trans (FS.putu eZ2 (by decide))
  obtain ⟨Z3, eZ3, hs⟩ := sv_ex hs
  replace F := F.trans (FS.putu eZ3 (by decide))
  obtain ⟨Z4, eZ4, hs⟩ := sv_ex hs
  replace F := F.trans (FS.putu eZ4 (by decide))
  obtain ⟨Z5, eZ5, hs⟩ := sv_ex hs
  replace F := F.trans (FS.putu eZ5 (by decide))
  obtain ⟨Z6, eZ6, hs⟩ := sv_ex hs
  replace F := F.trans (FS.putu eZ6 (by decide))
  obtain ⟨Z7, eZ7, hs⟩ := sv_ex hs
  replace F := F.trans (FS.putu eZ7 (by decide))
  obtain ⟨Z8, eZ8, hs⟩ := sv_ex hs
  replace F := F.trans (FS.putu eZ8 (by decide))
  obtain ⟨Z9, eZ9, hs⟩ := sv_ex hs
  replace F := F.trans (FS.putu eZ9 (by decide))
  obtain ⟨Z11, eZ11, hs⟩ := bd_some hs
  replace F := F.trans ((fr_JA_fill eZ11).fs (by decide))
  obtain ⟨Z13, eZ13, hs⟩ := bd_some hs
  replace F := F.trans ((fr_JA_fill eZ13).fs (by decide))
  obtain rfl := Option.some.inj hs; exact F

theorem fr_X5_copyFrom {t : Nat} {i : Nat} {t1 : Nat} {i1 : Nat} {S : S4} {out : S4} (hs : s_X5_copyFrom t i t1 i1 S = some out) : FS t S out := by
  unfold s_X5_copyFrom at hs
  have F := FS.refl t S
  obtain ⟨Z1, eZ1, hs⟩ := sv_ex hs
  replace F := F.trans (FS.putu eZ1 (by decide))
  obtain ⟨Z2, eZ2, hs⟩ := sv_ex hs
  replace F := F.trans (FS.putu eZ2 (by decide))
  obtain ⟨Z3, eZ3, hs⟩ := sv_ex hs
  replace F := F.trans (FS.putu eZ3 (by decide))
  obtain ⟨Z4, eZ4, hs⟩ := sv_ex hs
  replace F := F.trans (FS.putw eZ4 (by decide))
  obtain rfl := Option.some.inj hs; exact F

theorem fr_X0_copyFrom {t : Nat} {i : Nat} {t1 : Nat} {i1 : Nat} {S : S4} {out : S4} (hs : s_X0_copyFrom t i t1 i1 S = some out) : FS t S out := by
  unfold s_X0_copyFrom at hs
  have F := FS.refl t S
  obtain ⟨Z1, eZ1, hs⟩ := sv_ex hs
  replace F := F.trans (FS.putu eZ1 (by decide))
  obtain ⟨Z2, eZ2, hs⟩ := sv_ex hs
  replace F := F.trans (FS.putu eZ2 (by decide))
  obtain ⟨Z3, eZ3, hs⟩ := sv_ex hs
  replace F := F.trans (FS.putu eZ3 (by decide))
  obtain ⟨Z4, eZ4, hs⟩ := sv_ex hs
  replace F := F.trans (FS.putu eZ4 (by decide))
  obtain ⟨Z5, eZ5, hs⟩ := sv_ex hs
  replace F := F.trans (FS.putu eZ5 (by decide))
  obtain ⟨Z6, eZ6, hs⟩ := sv_ex hs
  replace F := F.trans (FS.putu eZ6 (by decide))
  obtain ⟨Z7, eZ7, hs⟩ := sv_ex hs
  replace F := F.trans (FS.putu eZ7 (by decide))
  obtain ⟨Z8, eZ8, hs⟩ := sv_ex hs
  replace F := F.trans (FS.putu eZ8 (by decide))
  obtain ⟨Z9, eZ9, hs⟩ := sv_ex hs
  replace F := F.trans (FS.putu eZ9 (by decide))
  obtain ⟨-, hs⟩ := gd_some hs
  obtain ⟨Z11, eZ11, hs⟩ := sv_ex hs
  replace F := F.trans (FS.putu eZ11 (by decide))
  obtain ⟨Z12, eZ12, hs⟩ := sv_ex hs
  replace F := F.trans (FS.putu eZ12 (by decide))
  obtain ⟨Z13, eZ13, hs⟩ := sv_ex hs
  replace F := F.trans (FS.putu eZ13 (by decide))
  obtain ⟨Z14, eZ14, hs⟩ := sv_ex hs
  replace F := F.trans (FS.putu eZ14 (by decide))
  obtain ⟨Z15, eZ15, hs⟩ := sv_ex hs
  replace F := F.trans (FS.putu eZ15 (by decide))
  obtain ⟨Z16, eZ16, hs⟩ := sv_ex hs
  replace F := F.trans (FS.putu eZ16 (by decide))
  obtain rfl := Option.some.inj hs; exact F

theorem fr_X1_copyFrom {t : Nat} {i : Nat} {t1 : Nat} {i1 : Nat} {S : S4} {out : S4} (hs : s_X1_copyFrom t i t1 i1 S = some out) : FS t S out := by
  unfold s_X1_copyFrom at hs
  have F := FS.refl t S
  obtain ⟨Z1, eZ1, hs⟩ := sv_ex hs
  replace F := F.trans (FS.putu eZ1 (by decide))
  obtain ⟨Z2, eZ2, hs⟩ := sv_ex hs
  replace F := F.trans (FS.putu eZ2 (by decide))
  obtain ⟨Z3, eZ3, hs⟩ := sv_ex hs
  replace F := F.trans (FS.putu eZ3 (by decide))
  obtain ⟨Z4, eZ4, hs⟩ := sv_ex hs
  replace F := F.trans (FS.putu eZ4 (by decide))
  obtain ⟨Z5, eZ5, hs⟩ := sv_ex hs
  replace F := F.trans (FS.putu eZ5 (by decide))
  obtain ⟨Z6, eZ6, hs⟩ := sv_ex hs
  replace F := F.trans (FS.putu eZ6 (by decide))
  obtain ⟨Z7, eZ7, hs⟩ := sv_ex hs
  replace F := F.trans (FS.putu eZ7 (by decide))
  obtain ⟨Z8, eZ8, hs⟩ := sv_ex hs
  replace F := F.trans (FS.putu eZ8 (by decide))
  obtain ⟨Z9, eZ9, hs⟩ := sv_ex hs
  replace F := F.trans (FS.putu eZ9 (by decide))
  obtain ⟨Z10, eZ10, hs⟩ := sv_ex hs
  replace F := F.trans (FS.putu eZ10 (by decide))
  obtain ⟨Z11, eZ11, hs⟩ := sv_ex hs
  replace F := F.trans (FS.putu eZ11 (by decide))
  obtain ⟨Z12, eZ12, hs⟩ := sv_ex hs
  replace F := F.trans (FS.putu eZ12 (by decide))
  obtain rfl := Option.some.inj hs; exact F

theorem fr_s_X4_copyParts_L92 {np : Nat} {fu : Nat} {t : Nat} {t1 : Nat} {out : S4} : ∀ (n : Nat) (v2 : Int32) (S : S4), s_X4_copyParts_L92 np fu t t1 n v2 S = some out → FS t S out := by
  intro n
  induction n with
  | zero => intro v2 Z7 hs; rw [s_X4_copyParts_L92] at hs; cases hs
  | succ n ih =>
    intro v2 Z7 hs
    rw [s_X4_copyParts_L92] at hs
    have F := FS.refl t Z7
    rcases ite_or hs with hs | hs
    · obtain rfl := Option.some.inj hs; exact F
    · obtain ⟨-, hs⟩ := gd_some hs
      obtain ⟨-, hs⟩ := gd_some hs
      obtain ⟨Z12, eZ12, hs⟩ := bd_some hs
      replace F := F.trans (fr_X1_copyFrom eZ12)
      exact F.trans (ih _ _ hs)
theorem fr_s_X4_copyParts_L64 {np : Nat} {fu : Nat} {t : Nat} {t1 : Nat} {out : S4} : ∀ (n : Nat) (v2 : Int32) (S : S4), s_X4_copyParts_L64 np fu t t1 n v2 S = some out → FS t S out := by
  intro n
  induction n with
  | zero => intro v2 Z5 hs; rw [s_X4_copyParts_L64] at hs; cases hs
  | succ n ih =>
    intro v2 Z5 hs
    rw [s_X4_copyParts_L64] at hs
    have F := FS.refl t Z5
    rcases ite_or hs with hs | hs
    · exact F.trans (fr_s_X4_copyParts_L92 _ _ _ hs)
    · obtain ⟨-, hs⟩ := gd_some hs
      obtain ⟨-, hs⟩ := gd_some hs
      obtain ⟨-, hs⟩ := gd_some hs
      obtain ⟨Z16, eZ16, hs⟩ := sv_ex hs
      replace F := F.trans (FS.putu eZ16 (by decide))
      exact F.trans (ih _ _ hs)
theorem fr_s_X4_copyParts_L33 {np : Nat} {fu : Nat} {t : Nat} {t1 : Nat} {out : S4} : ∀ (n : Nat) (v2 : Int32) (S : S4), s_X4_copyParts_L33 np fu t t1 n v2 S = some out → FS t S out := by
  intro n
  induction n with
  | zero => intro v2 Z3 hs; rw [s_X4_copyParts_L33] at hs; cases hs
  | succ n ih =>
    intro v2 Z3 hs
    rw [s_X4_copyParts_L33] at hs
    have F := FS.refl t Z3
    rcases ite_or hs with hs | hs
    · exact F.trans (fr_s_X4_copyParts_L64 _ _ _ hs)
    · obtain ⟨-, hs⟩ := gd_some hs
      obtain ⟨-, hs⟩ := gd_some hs
      obtain ⟨Z20, eZ20, hs⟩ := bd_some hs
      replace F := F.trans (fr_X0_copyFrom eZ20)
      exact F.trans (ih _ _ hs)
theorem fr_s_X4_copyParts_L2 {np : Nat} {fu : Nat} {t : Nat} {t1 : Nat} {out : S4} : ∀ (n : Nat) (v2 : Int32) (S : S4), s_X4_copyParts_L2 np fu t t1 n v2 S = some out → FS t S out := by
  intro n
  induction n with
  | zero => intro v2 Z1 hs; rw [s_X4_copyParts_L2] at hs; cases hs
  | succ n ih =>
    intro v2 Z1 hs
    rw [s_X4_copyParts_L2] at hs
    have F := FS.refl t Z1
    rcases ite_or hs with hs | hs
    · exact F.trans (fr_s_X4_copyParts_L33 _ _ _ hs)
    · obtain ⟨-, hs⟩ := gd_some hs
      obtain ⟨-, hs⟩ := gd_some hs
      obtain ⟨Z24, eZ24, hs⟩ := bd_some hs
      replace F := F.trans (fr_X5_copyFrom eZ24)
      exact F.trans (ih _ _ hs)
theorem fr_X4_copyParts {np : Nat} {fu : Nat} {t : Nat} {t1 : Nat} {S : S4} {out : S4} (hs : s_X4_copyParts np fu t t1 S = some out) : FS t S out := by
  unfold s_X4_copyParts at hs
  have F := FS.refl t S
  exact F.trans (fr_s_X4_copyParts_L2 _ _ _ hs)

theorem fr_X4_copyFrom {np : Nat} {fu : Nat} {t : Nat} {t1 : Nat} {S : S4} {out : S4} (hs : s_X4_copyFrom np fu t t1 S = some out) : FS t S out := by
  unfold s_X4_copyFrom at hs
  have F := FS.refl t S
  obtain ⟨Z1, eZ1, hs⟩ := sv_ex hs
  replace F := F.trans (FS.putu eZ1 (by decide))
  obtain ⟨Z2, eZ2, hs⟩ := sv_ex hs
  replace F := F.trans (FS.putu eZ2 (by decide))
  obtain ⟨Z3, eZ3, hs⟩ := sv_ex hs
  replace F := F.trans (FS.putu eZ3 (by decide))
  obtain ⟨Z4, eZ4, hs⟩ := sv_ex hs
  replace F := F.trans (FS.putu eZ4 (by decide))
  obtain ⟨Z5, eZ5, hs⟩ := sv_ex hs
  replace F := F.trans (FS.putu eZ5 (by decide))
  obtain ⟨Z6, eZ6, hs⟩ := sv_ex hs
  replace F := F.trans (FS.putu eZ6 (by decide))
  obtain ⟨Z7, eZ7, hs⟩ := sv_ex hs
  replace F := F.trans (FS.putu eZ7 (by decide))
  obtain ⟨Z8, eZ8, hs⟩ := sv_ex hs
  replace F := F.trans (FS.putu eZ8 (by decide))
  obtain ⟨Z9, eZ9, hs⟩ := sv_ex hs
  replace F := F.trans (FS.putu eZ9 (by decide))
  obtain ⟨Z11, eZ11, hs⟩ := bd_some hs
  replace F := F.trans (fr_X4_copyParts eZ11)
  obtain ⟨Z12, eZ12, hs⟩ := sv_ex hs
  replace F := F.trans (FS.putw eZ12 (by decide))
  obtain ⟨Z13, eZ13, hs⟩ := sv_ex hs
  replace F := F.trans (FS.putw eZ13 (by decide))
  obtain ⟨Z14, eZ14, hs⟩ := sv_ex hs
  replace F := F.trans (FS.putw eZ14 (by decide))
  obtain rfl := Option.some.inj hs; exact F

theorem fr_X5_reset {t : Nat} {i : Nat} {p1 : Int32} {S : S4} {out : S4} (hs : s_X5_reset t i p1 S = some out) : FS t S out := by
  unfold s_X5_reset at hs
  have F := FS.refl t S
  obtain ⟨Z1, eZ1, hs⟩ := sv_ex hs
  replace F := F.trans (FS.putu eZ1 (by decide))
  obtain ⟨Z2, eZ2, hs⟩ := sv_ex hs
  replace F := F.trans (FS.putu eZ2 (by decide))
  obtain ⟨Z3, eZ3, hs⟩ := sv_ex hs
  replace F := F.trans (FS.putu eZ3 (by decide))
  obtain rfl := Option.some.inj hs; exact F

theorem fr_X4_putStation {t : Nat} {p1 : Int32} {S : S4} {out : (Int32 × S4)} (hs : s_X4_putStation t p1 S = some out) : FS t S out.2 := by
  unfold s_X4_putStation at hs
  have F := FS.refl t S
  obtain ⟨-, hs⟩ := gd_some hs
  obtain ⟨Z3, eZ3, hs⟩ := bd_some hs
  replace F := F.trans (fr_X5_reset eZ3)
  obtain ⟨Z4, eZ4, hs⟩ := sv_ex hs
  replace F := F.trans (FS.putu eZ4 (by decide))
  obtain rfl := Option.some.inj hs; exact F

theorem fr_X0_reset {t : Nat} {i : Nat} {S : S4} {out : S4} (hs : s_X0_reset t i S = some out) : FS t S out := by
  unfold s_X0_reset at hs
  have F := FS.refl t S
  obtain ⟨Z1, eZ1, hs⟩ := sv_ex hs
  replace F := F.trans (FS.putu eZ1 (by decide))
  obtain ⟨Z2, eZ2, hs⟩ := sv_ex hs
  replace F := F.trans (FS.putu eZ2 (by decide))
  obtain ⟨Z3, eZ3, hs⟩ := sv_ex hs
  replace F := F.trans (FS.putu eZ3 (by decide))
  obtain ⟨Z4, eZ4, hs⟩ := sv_ex hs
  replace F := F.trans (FS.putu eZ4 (by decide))
  obtain ⟨Z5, eZ5, hs⟩ := sv_ex hs
  replace F := F.trans (FS.putu eZ5 (by decide))
  obtain ⟨Z6, eZ6, hs⟩ := sv_ex hs
  replace F := F.trans (FS.putu eZ6 (by decide))
  obtain ⟨Z7, eZ7, hs⟩ := sv_ex hs
  replace F := F.trans (FS.putu eZ7 (by decide))
  obtain ⟨Z8, eZ8, hs⟩ := sv_ex hs
  replace F := F.trans (FS.putu eZ8 (by decide))
  obtain ⟨Z9, eZ9, hs⟩ := sv_ex hs
  replace F := F.trans (FS.putu eZ9 (by decide))
  obtain rfl := Option.some.inj hs; exact F

theorem fr_X4_putChute {t : Nat} {S : S4} {out : (Nat × S4)} (hs : s_X4_putChute t S = some out) : FS t S out.2 := by
  unfold s_X4_putChute at hs
  have F := FS.refl t S
  obtain ⟨-, hs⟩ := gd_some hs
  obtain ⟨Z3, eZ3, hs⟩ := bd_some hs
  replace F := F.trans (fr_X0_reset eZ3)
  obtain ⟨Z4, eZ4, hs⟩ := sv_ex hs
  replace F := F.trans (FS.putu eZ4 (by decide))
  obtain rfl := Option.some.inj hs; exact F

theorem fr_s_X4_putPlan_L45 {np : Nat} {fu : Nat} {t : Nat} {i1 : Nat} {out : S4} : ∀ (n : Nat) (v2 : Int32) (v3 : Int32) (S : S4), s_X4_putPlan_L45 np fu t i1 n v2 v3 S = some out → FS t S out := by
  intro n
  induction n with
  | zero => intro v2 v3 Z5 hs; rw [s_X4_putPlan_L45] at hs; cases hs
  | succ n ih =>
    intro v2 v3 Z5 hs
    rw [s_X4_putPlan_L45] at hs
    have F := FS.refl t Z5
    rcases ite_or hs with hs | hs
    · obtain ⟨-, hs⟩ := gd_some hs
      obtain ⟨-, hs⟩ := gd_some hs
      obtain ⟨Z9, eZ9, hs⟩ := sv_ex hs
      replace F := F.trans (FS.putu eZ9 (by decide))
      obtain ⟨Z10, eZ10, hs⟩ := sv_ex hs
      replace F := F.trans (FS.putu eZ10 (by decide))
      obtain rfl := Option.some.inj hs; exact F
    · obtain ⟨-, hs⟩ := gd_some hs
      obtain ⟨-, hs⟩ := gd_some hs
      obtain ⟨-, hs⟩ := gd_some hs
      obtain ⟨Z14, eZ14, hs⟩ := sv_ex hs
      replace F := F.trans (FS.putu eZ14 (by decide))
      exact F.trans (ih _ _ _ hs)
theorem fr_X4_putPlan {np : Nat} {fu : Nat} {t : Nat} {i1 : Nat} {S : S4} {out : S4} (hs : s_X4_putPlan np fu t i1 S = some out) : FS t S out := by
  unfold s_X4_putPlan at hs
  have F := FS.refl t S
  obtain ⟨q1, -, hs⟩ := bd_some hs
  obtain ⟨q2, -, hs⟩ := bd_some hs
  rcases ite_or hs with hs | hs
  · rcases ite_or hs with hs | hs
    · obtain rfl := Option.some.inj hs; exact F
    · exact F.trans (fr_s_X4_putPlan_L45 _ _ _ _ hs)
  · obtain ⟨-, hs⟩ := gd_some hs
    obtain ⟨-, hs⟩ := gd_some hs
    obtain ⟨Z17, eZ17, hs⟩ := sv_ex hs
    replace F := F.trans (FS.putu eZ17 (by decide))
    obtain rfl := Option.some.inj hs; exact F

theorem fr_X1_reset {t : Nat} {i : Nat} {p1 : Int32} {p2 : Int32} {p3 : Int32} {S : S4} {out : S4} (hs : s_X1_reset t i p1 p2 p3 S = some out) : FS t S out := by
  unfold s_X1_reset at hs
  have F := FS.refl t S
  obtain ⟨Z1, eZ1, hs⟩ := sv_ex hs
  replace F := F.trans (FS.putu eZ1 (by decide))
  obtain ⟨Z2, eZ2, hs⟩ := sv_ex hs
  replace F := F.trans (FS.putu eZ2 (by decide))
  obtain ⟨Z3, eZ3, hs⟩ := sv_ex hs
  replace F := F.trans (FS.putu eZ3 (by decide))
  obtain ⟨Z4, eZ4, hs⟩ := sv_ex hs
  replace F := F.trans (FS.putu eZ4 (by decide))
  obtain ⟨Z5, eZ5, hs⟩ := sv_ex hs
  replace F := F.trans (FS.putu eZ5 (by decide))
  obtain ⟨Z6, eZ6, hs⟩ := sv_ex hs
  replace F := F.trans (FS.putu eZ6 (by decide))
  obtain ⟨Z7, eZ7, hs⟩ := sv_ex hs
  replace F := F.trans (FS.putu eZ7 (by decide))
  obtain ⟨Z8, eZ8, hs⟩ := sv_ex hs
  replace F := F.trans (FS.putu eZ8 (by decide))
  obtain ⟨Z9, eZ9, hs⟩ := sv_ex hs
  replace F := F.trans (FS.putu eZ9 (by decide))
  obtain ⟨Z10, eZ10, hs⟩ := sv_ex hs
  replace F := F.trans (FS.putu eZ10 (by decide))
  obtain rfl := Option.some.inj hs; exact F

theorem fr_X5_append {t : Nat} {i : Nat} {p1 : Int32} {S : S4} {out : S4} (hs : s_X5_append t i p1 S = some out) : FS t S out := by
  unfold s_X5_append at hs
  have F := FS.refl t S
  obtain ⟨q1, -, hs⟩ := bd_some hs
  rcases ite_or hs with hs | hs
  · obtain ⟨-, hs⟩ := gd_some hs
    obtain ⟨Z4, eZ4, hs⟩ := sv_ex hs
    replace F := F.trans (FS.putu eZ4 (by decide))
    obtain ⟨Z5, eZ5, hs⟩ := sv_ex hs
    replace F := F.trans (FS.putu eZ5 (by decide))
    obtain rfl := Option.some.inj hs; exact F
  · obtain rfl := Option.some.inj hs; exact F

theorem fr_s_X4_putParcel_L5 {fu : Nat} {t : Nat} {p1 : Int32} {p2 : Int32} {out : (Int32 × S4)} : ∀ (n : Nat) (v3 : Int32) (v4 : Int32) (S : S4), s_X4_putParcel_L5 fu t p1 p2 n v3 v4 S = some out → FS t S out.2 := by
  intro n
  induction n with
  | zero => intro v3 v4 Z1 hs; rw [s_X4_putParcel_L5] at hs; cases hs
  | succ n ih =>
    intro v3 v4 Z1 hs
    rw [s_X4_putParcel_L5] at hs
    have F := FS.refl t Z1
    rcases ite_or hs with hs | hs
    · obtain ⟨-, hs⟩ := gd_some hs
      obtain ⟨Z5, eZ5, hs⟩ := bd_some hs
      replace F := F.trans (fr_X1_reset eZ5)
      obtain ⟨-, hs⟩ := gd_some hs
      obtain ⟨Z8, eZ8, hs⟩ := bd_some hs
      replace F := F.trans (fr_X5_append eZ8)
      obtain ⟨Z9, eZ9, hs⟩ := sv_ex hs
      replace F := F.trans (FS.putu eZ9 (by decide))
      obtain rfl := Option.some.inj hs; exact F
    · obtain ⟨-, hs⟩ := gd_some hs
      rcases ite_or hs with hs | hs
      · exact F.trans (ih _ _ _ hs)
      · exact F.trans (ih _ _ _ hs)
theorem fr_X4_putParcel {fu : Nat} {t : Nat} {p1 : Int32} {p2 : Int32} {S : S4} {out : (Int32 × S4)} (hs : s_X4_putParcel fu t p1 p2 S = some out) : FS t S out.2 := by
  unfold s_X4_putParcel at hs
  have F := FS.refl t S
  exact F.trans (fr_s_X4_putParcel_L5 _ _ _ _ hs)

theorem fr_X0_passTick {t : Nat} {i : Nat} {S : S4} {out : S4} (hs : s_X0_passTick t i S = some out) : FS t S out := by
  unfold s_X0_passTick at hs
  have F := FS.refl t S
  rcases ite_or hs with hs | hs
  · rcases ite_or hs with hs | hs
    · obtain rfl := Option.some.inj hs; exact F
    · obtain ⟨Z3, eZ3, hs⟩ := sv_ex hs
      replace F := F.trans (FS.putu eZ3 (by decide))
      rcases ite_or hs with hs | hs
      · obtain ⟨Z5, eZ5, hs⟩ := sv_ex hs
        replace F := F.trans (FS.putu eZ5 (by decide))
        obtain rfl := Option.some.inj hs; exact F
      · obtain rfl := Option.some.inj hs; exact F
  · obtain ⟨Z6, eZ6, hs⟩ := sv_ex hs
    replace F := F.trans (FS.putu eZ6 (by decide))
    rcases ite_or hs with hs | hs
    · obtain rfl := Option.some.inj hs; exact F
    · obtain ⟨Z8, eZ8, hs⟩ := sv_ex hs
      replace F := F.trans (FS.putu eZ8 (by decide))
      rcases ite_or hs with hs | hs
      · obtain ⟨Z10, eZ10, hs⟩ := sv_ex hs
        replace F := F.trans (FS.putu eZ10 (by decide))
        obtain rfl := Option.some.inj hs; exact F
      · obtain rfl := Option.some.inj hs; exact F

theorem fr_X4_aimAtException {t : Nat} {t1 : Nat} {i1 : Nat} {p2 : Int32} {p3 : Int32} {S : S4} {out : S4} (h1 : t1 = t) (hs : s_X4_aimAtException t t1 i1 p2 p3 S = some out) : FS t S out := by
  subst h1
  unfold s_X4_aimAtException at hs
  have F := FS.refl t1 S
  obtain ⟨q1, -, hs⟩ := bd_some hs
  rcases ite_or hs with hs | hs
  · obtain ⟨Z3, eZ3, hs⟩ := sv_ex hs
    replace F := F.trans (FS.putu eZ3 (by decide))
    obtain rfl := Option.some.inj hs; exact F
  · obtain ⟨Z4, eZ4, hs⟩ := sv_ex hs
    replace F := F.trans (FS.putu eZ4 (by decide))
    obtain ⟨Z5, eZ5, hs⟩ := sv_ex hs
    replace F := F.trans (FS.putu eZ5 (by decide))
    obtain rfl := Option.some.inj hs; exact F

theorem fr_s_X4_aimByRule_L28 {fu : Nat} {t : Nat} {t1 : Nat} {i1 : Nat} {i2 : Nat} {out : S4} (h1 : t1 = t) : ∀ (n : Nat) (v3 : Int32) (v4 : Int32) (S : S4), s_X4_aimByRule_L28 fu t t1 i1 i2 n v3 v4 S = some out → FS t S out := by
  subst h1
  intro n
  induction n with
  | zero => intro v3 v4 Z4 hs; rw [s_X4_aimByRule_L28] at hs; cases hs
  | succ n ih =>
    intro v3 v4 Z4 hs
    rw [s_X4_aimByRule_L28] at hs
    have F := FS.refl t1 Z4
    obtain ⟨-, hs⟩ := gd_some hs
    rcases ite_or hs with hs | hs
    · obtain ⟨Z7, eZ7, hs⟩ := sv_ex hs
      replace F := F.trans (FS.putu eZ7 (by decide))
      obtain rfl := Option.some.inj hs; exact F
    · obtain ⟨q8, -, hs⟩ := bd_some hs
      obtain ⟨q9, -, hs⟩ := bd_some hs
      rcases ite_or hs with hs | hs
      · exact F.trans (ih _ _ _ hs)
      · obtain ⟨Z11, eZ11, hs⟩ := sv_ex hs
        replace F := F.trans (FS.putu eZ11 (by decide))
        obtain ⟨q12, -, hs⟩ := bd_some hs
        obtain ⟨Z13, eZ13, hs⟩ := sv_ex hs
        replace F := F.trans (FS.putu eZ13 (by decide))
        obtain rfl := Option.some.inj hs; exact F
theorem fr_X4_aimByRule {fu : Nat} {t : Nat} {t1 : Nat} {i1 : Nat} {i2 : Nat} {S : S4} {out : S4} (h1 : t1 = t) (hs : s_X4_aimByRule fu t t1 i1 i2 S = some out) : FS t S out := by
  subst h1
  unfold s_X4_aimByRule at hs
  have F := FS.refl t1 S
  obtain ⟨q1, -, hs⟩ := bd_some hs
  obtain ⟨q2, -, hs⟩ := bd_some hs
  rcases ite_or hs with hs | hs
  · obtain ⟨Z16, eZ16, hs⟩ := bd_some hs
    replace F := F.trans (fr_X4_aimAtException rfl eZ16)
    obtain rfl := Option.some.inj hs; exact F
  · exact F.trans (fr_s_X4_aimByRule_L28 rfl _ _ _ _ hs)

theorem fr_X4_scan {np : Nat} {fu : Nat} {t : Nat} {t1 : Nat} {i1 : Nat} {S : S4} {out : S4} (h1 : t1 = t) (hs : s_X4_scan np fu t t1 i1 S = some out) : FS t S out := by
  subst h1
  unfold s_X4_scan at hs
  have F := FS.refl t1 S
  obtain ⟨Z1, eZ1, hs⟩ := sv_ex hs
  replace F := F.trans (FS.putu eZ1 (by decide))
  rcases ite_or hs with hs | hs
  · obtain ⟨Z3, eZ3, hs⟩ := sv_ex hs
    replace F := F.trans (FS.putu eZ3 (by decide))
    obtain ⟨q4, -, hs⟩ := bd_some hs
    rcases ite_or hs with hs | hs
    · obtain ⟨Z7, eZ7, hs⟩ := sv_ex hs
      replace F := F.trans (FS.putu eZ7 (by decide))
      obtain rfl := Option.some.inj hs; exact F
    · obtain ⟨i8, -, hs⟩ := bd_some hs
      obtain ⟨-, hs⟩ := gd_some hs
      rcases ite_or hs with hs | hs
      · obtain ⟨Z19, eZ19, hs⟩ := bd_some hs
        replace F := F.trans (fr_X4_aimAtException rfl eZ19)
        obtain rfl := Option.some.inj hs; exact F
      · obtain ⟨q12, -, hs⟩ := bd_some hs
        rcases ite_or hs with hs | hs
        · obtain ⟨Z15, eZ15, hs⟩ := bd_some hs
          replace F := F.trans (fr_X4_aimByRule rfl eZ15)
          obtain rfl := Option.some.inj hs; exact F
        · obtain ⟨Z17, eZ17, hs⟩ := bd_some hs
          replace F := F.trans (fr_X4_aimAtException rfl eZ17)
          obtain rfl := Option.some.inj hs; exact F
  · obtain ⟨Z20, eZ20, hs⟩ := sv_ex hs
    replace F := F.trans (FS.putu eZ20 (by decide))
    obtain ⟨Z21, eZ21, hs⟩ := sv_ex hs
    replace F := F.trans (FS.putu eZ21 (by decide))
    obtain ⟨q22, -, hs⟩ := bd_some hs
    rcases ite_or hs with hs | hs
    · obtain ⟨Z25, eZ25, hs⟩ := sv_ex hs
      replace F := F.trans (FS.putu eZ25 (by decide))
      obtain rfl := Option.some.inj hs; exact F
    · obtain ⟨i26, -, hs⟩ := bd_some hs
      obtain ⟨-, hs⟩ := gd_some hs
      rcases ite_or hs with hs | hs
      · obtain ⟨Z37, eZ37, hs⟩ := bd_some hs
        replace F := F.trans (fr_X4_aimAtException rfl eZ37)
        obtain rfl := Option.some.inj hs; exact F
      · obtain ⟨q30, -, hs⟩ := bd_some hs
        rcases ite_or hs with hs | hs
        · obtain ⟨Z33, eZ33, hs⟩ := bd_some hs
          replace F := F.trans (fr_X4_aimByRule rfl eZ33)
          obtain rfl := Option.some.inj hs; exact F
        · obtain ⟨Z35, eZ35, hs⟩ := bd_some hs
          replace F := F.trans (fr_X4_aimAtException rfl eZ35)
          obtain rfl := Option.some.inj hs; exact F

theorem fr_X1_spoil {t : Nat} {i : Nat} {p1 : Int32} {S : S4} {out : S4} (hs : s_X1_spoil t i p1 S = some out) : FS t S out := by
  unfold s_X1_spoil at hs
  have F := FS.refl t S
  obtain ⟨Z1, eZ1, hs⟩ := sv_ex hs
  replace F := F.trans (FS.putu eZ1 (by decide))
  obtain rfl := Option.some.inj hs; exact F

theorem fr_X0_jam {t : Nat} {i : Nat} {S : S4} {out : S4} (hs : s_X0_jam t i S = some out) : FS t S out := by
  unfold s_X0_jam at hs
  have F := FS.refl t S
  obtain ⟨Z1, eZ1, hs⟩ := sv_ex hs
  replace F := F.trans (FS.putu eZ1 (by decide))
  obtain ⟨Z2, eZ2, hs⟩ := sv_ex hs
  replace F := F.trans (FS.putu eZ2 (by decide))
  obtain rfl := Option.some.inj hs; exact F

theorem fr_X0_finishBag {t : Nat} {i : Nat} {S : S4} {out : S4} (hs : s_X0_finishBag t i S = some out) : FS t S out := by
  unfold s_X0_finishBag at hs
  have F := FS.refl t S
  obtain ⟨Z1, eZ1, hs⟩ := sv_ex hs
  replace F := F.trans (FS.putu eZ1 (by decide))
  obtain ⟨Z2, eZ2, hs⟩ := sv_ex hs
  replace F := F.trans (FS.putu eZ2 (by decide))
  rcases ite_or hs with hs | hs
  · obtain ⟨Z4, eZ4, hs⟩ := sv_ex hs
    replace F := F.trans (FS.putu eZ4 (by decide))
    obtain rfl := Option.some.inj hs; exact F
  · obtain rfl := Option.some.inj hs; exact F

theorem fr_X0_receive {t : Nat} {i : Nat} {p1 : Int32} {S : S4} {out : S4} (hs : s_X0_receive t i p1 S = some out) : FS t S out := by
  unfold s_X0_receive at hs
  have F := FS.refl t S
  obtain ⟨Z1, eZ1, hs⟩ := sv_ex hs
  replace F := F.trans (FS.putu eZ1 (by decide))
  obtain ⟨Z2, eZ2, hs⟩ := sv_ex hs
  replace F := F.trans (FS.putu eZ2 (by decide))
  obtain ⟨Z3, eZ3, hs⟩ := sv_ex hs
  replace F := F.trans (FS.putu eZ3 (by decide))
  rcases ite_or hs with hs | hs
  · obtain ⟨Z6, eZ6, hs⟩ := bd_some hs
    replace F := F.trans (fr_X0_finishBag eZ6)
    obtain rfl := Option.some.inj hs; exact F
  · obtain rfl := Option.some.inj hs; exact F

theorem fr_X4_enter {t : Nat} {p1 : Int32} {S : S4} {out : S4} (hs : s_X4_enter t p1 S = some out) : FS t S out := by
  unfold s_X4_enter at hs
  have F := FS.refl t S
  rcases ite_or hs with hs | hs
  · obtain rfl := Option.some.inj hs; exact F
  · obtain ⟨-, hs⟩ := gd_some hs
    obtain ⟨Z3, eZ3, hs⟩ := sv_ex hs
    replace F := F.trans (FS.putu eZ3 (by decide))
    obtain ⟨Z4, eZ4, hs⟩ := sv_ex hs
    replace F := F.trans (FS.putu eZ4 (by decide))
    obtain rfl := Option.some.inj hs; exact F

theorem fr_X4_drop {np : Nat} {fu : Nat} {t : Nat} {p1 : Int32} {p2 : Int32} {S : S4} {out : S4} (hs : s_X4_drop np fu t p1 p2 S = some out) : FS t S out := by
  unfold s_X4_drop at hs
  have F := FS.refl t S
  obtain ⟨-, hs⟩ := gd_some hs
  obtain ⟨-, hs⟩ := gd_some hs
  obtain ⟨q3, -, hs⟩ := bd_some hs
  obtain ⟨-, hs⟩ := gd_some hs
  obtain ⟨Z5, eZ5, hs⟩ := sv_ex hs
  replace F := F.trans (FS.putu eZ5 (by decide))
  obtain ⟨Z6, eZ6, hs⟩ := sv_ex hs
  replace F := F.trans (FS.putu eZ6 (by decide))
  obtain ⟨Z7, eZ7, hs⟩ := sv_ex hs
  replace F := F.trans (FS.putu eZ7 (by decide))
  obtain ⟨Z8, eZ8, hs⟩ := sv_ex hs
  replace F := F.trans (FS.putu eZ8 (by decide))
  obtain ⟨q9, -, hs⟩ := bd_some hs
  obtain ⟨Z10, eZ10, hs⟩ := sv_ex hs
  replace F := F.trans (FS.putu eZ10 (by decide))
  obtain ⟨-, hs⟩ := gd_some hs
  obtain ⟨Z13, eZ13, hs⟩ := bd_some hs
  replace F := F.trans (fr_X0_receive eZ13)
  obtain ⟨-, hs⟩ := gd_some hs
  obtain ⟨-, hs⟩ := gd_some hs
  obtain ⟨Z16, eZ16, hs⟩ := sv_ex hs
  replace F := F.trans (FS.putu eZ16 (by decide))
  obtain ⟨Z18, eZ18, hs⟩ := bd_some hs
  replace F := F.trans (fr_X4_enter eZ18)
  obtain rfl := Option.some.inj hs; exact F

theorem fr_X4_tryParcel {np : Nat} {fu : Nat} {t : Nat} {p1 : Int32} {p2 : Int32} {S : S4} {out : S4} (hs : s_X4_tryParcel np fu t p1 p2 S = some out) : FS t S out := by
  unfold s_X4_tryParcel at hs
  have F := FS.refl t S
  obtain ⟨-, hs⟩ := gd_some hs
  obtain ⟨-, hs⟩ := gd_some hs
  obtain ⟨Z3, eZ3, hs⟩ := sv_ex hs
  replace F := F.trans (FS.putu eZ3 (by decide))
  obtain ⟨q4, -, hs⟩ := bd_some hs
  rcases ite_or hs with hs | hs
  · obtain ⟨Z17, eZ17, hs⟩ := sv_ex hs
    replace F := F.trans (FS.putu eZ17 (by decide))
    obtain rfl := Option.some.inj hs; exact F
  · rcases ite_or hs with hs | hs
    · obtain ⟨q7, -, hs⟩ := bd_some hs
      rcases ite_or hs with hs | hs
      · obtain ⟨Z10, eZ10, hs⟩ := bd_some hs
        replace F := F.trans (fr_X4_drop eZ10)
        obtain rfl := Option.some.inj hs; exact F
      · obtain ⟨Z12, eZ12, hs⟩ := bd_some hs
        replace F := F.trans (fr_X0_jam eZ12)
        obtain rfl := Option.some.inj hs; exact F
    · obtain ⟨Z14, eZ14, hs⟩ := bd_some hs
      replace F := F.trans (fr_X1_spoil eZ14)
      obtain ⟨Z16, eZ16, hs⟩ := bd_some hs
      replace F := F.trans (fr_X0_jam eZ16)
      obtain rfl := Option.some.inj hs; exact F

theorem fr_X5_releaseFirst {t : Nat} {i : Nat} {S : S4} {out : S4} (hs : s_X5_releaseFirst t i S = some out) : FS t S out := by
  unfold s_X5_releaseFirst at hs
  have F := FS.refl t S
  rcases ite_or hs with hs | hs
  · obtain rfl := Option.some.inj hs; exact F
  · obtain ⟨Z2, eZ2, hs⟩ := sv_ex hs
    replace F := F.trans (FS.putw eZ2 (by decide))
    obtain ⟨Z3, eZ3, hs⟩ := sv_ex hs
    replace F := F.trans (FS.putu eZ3 (by decide))
    obtain ⟨Z4, eZ4, hs⟩ := sv_ex hs
    replace F := F.trans (FS.putu eZ4 (by decide))
    obtain rfl := Option.some.inj hs; exact F

theorem fr_X4_load {t : Nat} {t1 : Nat} {i1 : Nat} {S : S4} {out : S4} (h1 : t1 = t) (hs : s_X4_load t t1 i1 S = some out) : FS t S out := by
  subst h1
  unfold s_X4_load at hs
  have F := FS.refl t1 S
  obtain ⟨q1, -, hs⟩ := bd_some hs
  obtain ⟨q2, -, hs⟩ := bd_some hs
  obtain ⟨-, hs⟩ := gd_some hs
  rcases ite_or hs with hs | hs
  · obtain ⟨q5, -, hs⟩ := bd_some hs
    rcases ite_or hs with hs | hs
    · obtain rfl := Option.some.inj hs; exact F
    · obtain ⟨Z8, eZ8, hs⟩ := bd_some hs
      replace F := F.trans (fr_X5_releaseFirst eZ8)
      obtain ⟨-, hs⟩ := gd_some hs
      obtain ⟨Z10, eZ10, hs⟩ := sv_ex hs
      replace F := F.trans (FS.putu eZ10 (by decide))
      obtain ⟨-, hs⟩ := gd_some hs
      obtain ⟨Z12, eZ12, hs⟩ := sv_ex hs
      replace F := F.trans (FS.putu eZ12 (by decide))
      obtain ⟨-, hs⟩ := gd_some hs
      obtain ⟨Z14, eZ14, hs⟩ := sv_ex hs
      replace F := F.trans (FS.putu eZ14 (by decide))
      obtain rfl := Option.some.inj hs; exact F
  · obtain rfl := Option.some.inj hs; exact F

theorem fr_s_X4_passTick_L144 {np : Nat} {fu : Nat} {t : Nat} {out : S4} : ∀ (n : Nat) (v2 : Int32) (S : S4), s_X4_passTick_L144 np fu t n v2 S = some out → FS t S out := by
  intro n
  induction n with
  | zero => intro v2 Z11 hs; rw [s_X4_passTick_L144] at hs; cases hs
  | succ n ih =>
    intro v2 Z11 hs
    rw [s_X4_passTick_L144] at hs
    have F := FS.refl t Z11
    rcases ite_or hs with hs | hs
    · obtain rfl := Option.some.inj hs; exact F
    · obtain ⟨-, hs⟩ := gd_some hs
      obtain ⟨Z15, eZ15, hs⟩ := bd_some hs
      replace F := F.trans (fr_X4_load rfl eZ15)
      exact F.trans (ih _ _ hs)
theorem fr_s_X4_passTick_L87 {np : Nat} {fu : Nat} {t : Nat} {out : S4} : ∀ (n : Nat) (v2 : Int32) (S : S4), s_X4_passTick_L87 np fu t n v2 S = some out → FS t S out := by
  intro n
  induction n with
  | zero => intro v2 Z9 hs; rw [s_X4_passTick_L87] at hs; cases hs
  | succ n ih =>
    intro v2 Z9 hs
    rw [s_X4_passTick_L87] at hs
    have F := FS.refl t Z9
    rcases ite_or hs with hs | hs
    · exact F.trans (fr_s_X4_passTick_L144 _ _ _ hs)
    · obtain ⟨-, hs⟩ := gd_some hs
      obtain ⟨q17, -, hs⟩ := bd_some hs
      obtain ⟨q18, -, hs⟩ := bd_some hs
      rcases ite_or hs with hs | hs
      · exact F.trans (ih _ _ hs)
      · obtain ⟨-, hs⟩ := gd_some hs
        rcases ite_or hs with hs | hs
        · obtain ⟨Z23, eZ23, hs⟩ := bd_some hs
          replace F := F.trans (fr_X4_tryParcel eZ23)
          exact F.trans (ih _ _ hs)
        · exact F.trans (ih _ _ hs)
theorem fr_s_X4_passTick_L12 {np : Nat} {fu : Nat} {t : Nat} {out : S4} : ∀ (n : Nat) (v1 : Int32) (S : S4), s_X4_passTick_L12 np fu t n v1 S = some out → FS t S out := by
  intro n
  induction n with
  | zero => intro v1 Z2 hs; rw [s_X4_passTick_L12] at hs; cases hs
  | succ n ih =>
    intro v1 Z2 hs
    rw [s_X4_passTick_L12] at hs
    have F := FS.refl t Z2
    rcases ite_or hs with hs | hs
    · obtain ⟨q4, -, hs⟩ := bd_some hs
      obtain ⟨Z5, eZ5, hs⟩ := sv_ex hs
      replace F := F.trans (FS.putu eZ5 (by decide))
      obtain ⟨q6, -, hs⟩ := bd_some hs
      obtain ⟨q7, -, hs⟩ := bd_some hs
      rcases ite_or hs with hs | hs
      · exact F.trans (fr_s_X4_passTick_L87 _ _ _ hs)
      · obtain ⟨-, hs⟩ := gd_some hs
        obtain ⟨Z26, eZ26, hs⟩ := bd_some hs
        replace F := F.trans (fr_X4_scan rfl eZ26)
        exact F.trans (fr_s_X4_passTick_L87 _ _ _ hs)
    · obtain ⟨-, hs⟩ := gd_some hs
      obtain ⟨Z45, eZ45, hs⟩ := bd_some hs
      replace F := F.trans (fr_X0_passTick eZ45)
      exact F.trans (ih _ _ hs)
theorem fr_X4_passTick {np : Nat} {fu : Nat} {t : Nat} {S : S4} {out : S4} (hs : s_X4_passTick np fu t S = some out) : FS t S out := by
  unfold s_X4_passTick at hs
  have F := FS.refl t S
  obtain ⟨Z1, eZ1, hs⟩ := sv_ex hs
  replace F := F.trans (FS.putu eZ1 (by decide))
  exact F.trans (fr_s_X4_passTick_L12 _ _ _ hs)

theorem fr_X2_addRule {i : Nat} {p1 : Int32} {p2 : Int32} {S : S4} {out : S4} (hs : s_X2_addRule i p1 p2 S = some out) : FP S out := by
  unfold s_X2_addRule at hs
  have F := FP.refl S
  rcases ite_or hs with hs | hs
  · obtain rfl := Option.some.inj hs; exact F
  · obtain ⟨-, hs⟩ := gd_some hs
    obtain ⟨Z3, eZ3, hs⟩ := sv_ex hs
    replace F := F.trans (FP.putu eZ3 (by decide))
    obtain ⟨-, hs⟩ := gd_some hs
    obtain ⟨Z5, eZ5, hs⟩ := sv_ex hs
    replace F := F.trans (FP.putu eZ5 (by decide))
    obtain ⟨Z6, eZ6, hs⟩ := sv_ex hs
    replace F := F.trans (FP.putu eZ6 (by decide))
    obtain rfl := Option.some.inj hs; exact F

theorem fr_X2_addChuteToLatestRule {i : Nat} {p1 : Int32} {S : S4} {out : S4} (hs : s_X2_addChuteToLatestRule i p1 S = some out) : FP S out := by
  unfold s_X2_addChuteToLatestRule at hs
  have F := FP.refl S
  rcases ite_or hs with hs | hs
  · obtain rfl := Option.some.inj hs; exact F
  · obtain ⟨-, hs⟩ := gd_some hs
    rcases ite_or hs with hs | hs
    · obtain rfl := Option.some.inj hs; exact F
    · obtain ⟨-, hs⟩ := gd_some hs
      obtain ⟨-, hs⟩ := gd_some hs
      obtain ⟨Z6, eZ6, hs⟩ := sv_ex hs
      replace F := F.trans (FP.putu eZ6 (by decide))
      obtain ⟨-, hs⟩ := gd_some hs
      obtain ⟨-, hs⟩ := gd_some hs
      obtain ⟨Z9, eZ9, hs⟩ := sv_ex hs
      replace F := F.trans (FP.putu eZ9 (by decide))
      obtain rfl := Option.some.inj hs; exact F

theorem fr_X3_skip {i : Nat} {p1 : Int32} {S : S4} {out : (Int32 × S4)} (hs : s_X3_skip i p1 S = some out) : FP S out.2 := by
  unfold s_X3_skip at hs
  have F := FP.refl S
  obtain ⟨q1, -, hs⟩ := bd_some hs
  rcases ite_or hs with hs | hs
  · obtain ⟨-, hs⟩ := gd_some hs
    obtain rfl := Option.some.inj hs; exact F
  · obtain ⟨Z4, eZ4, hs⟩ := sv_ex hs
    replace F := F.trans (FP.putu eZ4 (by decide))
    obtain ⟨-, hs⟩ := gd_some hs
    obtain rfl := Option.some.inj hs; exact F

theorem fr_X3_readDigit {i : Nat} {p1 : Int32} {S : S4} {out : (Int32 × S4)} (hs : s_X3_readDigit i p1 S = some out) : FP S out.2 := by
  unfold s_X3_readDigit at hs
  have F := FP.refl S
  obtain ⟨q1, -, hs⟩ := bd_some hs
  rcases ite_or hs with hs | hs
  · obtain rfl := Option.some.inj hs; exact F
  · obtain ⟨Z3, eZ3, hs⟩ := sv_ex hs
    replace F := F.trans (FP.putu eZ3 (by decide))
    obtain rfl := Option.some.inj hs; exact F

theorem fr_s_X3_readNumber_L16 {fu : Nat} {i : Nat} {out : (Int32 × S4)} : ∀ (n : Nat) (v1 : Int32) (v2 : Int32) (S : S4), s_X3_readNumber_L16 fu i n v1 v2 S = some out → FP S out.2 := by
  intro n
  induction n with
  | zero => intro v1 v2 Z3 hs; rw [s_X3_readNumber_L16] at hs; cases hs
  | succ n ih =>
    intro v1 v2 Z3 hs
    rw [s_X3_readNumber_L16] at hs
    have F := FP.refl Z3
    rcases ite_or hs with hs | hs
    · obtain rfl := Option.some.inj hs; exact F
    · obtain ⟨q5, eq5, hs⟩ := bd_some hs
      replace F := F.trans (fr_X3_readDigit eq5)
      rcases ite_or hs with hs | hs
      · obtain rfl := Option.some.inj hs; exact F
      · exact F.trans (ih _ _ _ hs)
theorem fr_X3_readNumber {fu : Nat} {i : Nat} {S : S4} {out : (Int32 × S4)} (hs : s_X3_readNumber fu i S = some out) : FP S out.2 := by
  unfold s_X3_readNumber at hs
  have F := FP.refl S
  obtain ⟨q1, eq1, hs⟩ := bd_some hs
  replace F := F.trans (fr_X3_readDigit eq1)
  rcases ite_or hs with hs | hs
  · obtain rfl := Option.some.inj hs; exact F
  · exact F.trans (fr_s_X3_readNumber_L16 _ _ _ _ hs)

theorem fr_s_X3_readChutes_L4 {fu : Nat} {i : Nat} {out : (Int32 × S4)} : ∀ (n : Nat) (v1 : Int32) (v2 : Int32) (S : S4), s_X3_readChutes_L4 fu i n v1 v2 S = some out → FP S out.2 := by
  intro n
  induction n with
  | zero => intro v1 v2 Z1 hs; rw [s_X3_readChutes_L4] at hs; cases hs
  | succ n ih =>
    intro v1 v2 Z1 hs
    rw [s_X3_readChutes_L4] at hs
    have F := FP.refl Z1
    rcases ite_or hs with hs | hs
    · obtain rfl := Option.some.inj hs; exact F
    · rcases ite_or hs with hs | hs
      · obtain rfl := Option.some.inj hs; exact F
      · obtain ⟨q4, -, hs⟩ := bd_some hs
        rcases ite_or hs with hs | hs
        · obtain rfl := Option.some.inj hs; exact F
        · obtain ⟨q6, -, hs⟩ := bd_some hs
          rcases ite_or hs with hs | hs
          · obtain ⟨Z8, eZ8, hs⟩ := sv_ex hs
            replace F := F.trans (FP.putu eZ8 (by decide))
            obtain ⟨Z10, eZ10, hs⟩ := bd_some hs
            replace F := F.trans (fr_X2_addChuteToLatestRule eZ10)
            rcases ite_or hs with hs | hs
            · exact F.trans (ih _ _ _ hs)
            · obtain ⟨q12, eq12, hs⟩ := bd_some hs
              replace F := F.trans (fr_X3_skip eq12)
              obtain ⟨q13, -, hs⟩ := bd_some hs
              exact F.trans (ih _ _ _ hs)
          · obtain rfl := Option.some.inj hs; exact F
theorem fr_X3_readChutes {fu : Nat} {i : Nat} {S : S4} {out : (Int32 × S4)} (hs : s_X3_readChutes fu i S = some out) : FP S out.2 := by
  unfold s_X3_readChutes at hs
  have F := FP.refl S
  exact F.trans (fr_s_X3_readChutes_L4 _ _ _ _ hs)

theorem fr_X3_readRule {fu : Nat} {i : Nat} {S : S4} {out : (Int32 × S4)} (hs : s_X3_readRule fu i S = some out) : FP S out.2 := by
  unfold s_X3_readRule at hs
  have F := FP.refl S
  obtain ⟨q1, eq1, hs⟩ := bd_some hs
  replace F := F.trans (fr_X3_readNumber eq1)
  rcases ite_or hs with hs | hs
  · obtain rfl := Option.some.inj hs; exact F
  · obtain ⟨q3, eq3, hs⟩ := bd_some hs
    replace F := F.trans (fr_X3_skip eq3)
    rcases ite_or hs with hs | hs
    · rcases ite_or hs with hs | hs
      · obtain rfl := Option.some.inj hs; exact F
      · obtain ⟨q6, eq6, hs⟩ := bd_some hs
        replace F := F.trans (fr_X3_skip eq6)
        rcases ite_or hs with hs | hs
        · obtain rfl := Option.some.inj hs; exact F
        · obtain ⟨Z9, eZ9, hs⟩ := bd_some hs
          replace F := F.trans (fr_X2_addRule eZ9)
          obtain ⟨q10, eq10, hs⟩ := bd_some hs
          replace F := F.trans (fr_X3_readChutes eq10)
          obtain ⟨-, hs⟩ := gd_some hs
          obtain rfl := Option.some.inj hs; exact F
    · obtain ⟨q12, eq12, hs⟩ := bd_some hs
      replace F := F.trans (fr_X3_readNumber eq12)
      rcases ite_or hs with hs | hs
      · obtain rfl := Option.some.inj hs; exact F
      · obtain ⟨q14, eq14, hs⟩ := bd_some hs
        replace F := F.trans (fr_X3_skip eq14)
        rcases ite_or hs with hs | hs
        · obtain rfl := Option.some.inj hs; exact F
        · obtain ⟨Z17, eZ17, hs⟩ := bd_some hs
          replace F := F.trans (fr_X2_addRule eZ17)
          obtain ⟨q18, eq18, hs⟩ := bd_some hs
          replace F := F.trans (fr_X3_readChutes eq18)
          obtain ⟨-, hs⟩ := gd_some hs
          obtain rfl := Option.some.inj hs; exact F

theorem fr_s_X3_readRules_L4 {fu : Nat} {i : Nat} {out : (Int32 × S4)} : ∀ (n : Nat) (v1 : Int32) (v2 : Int32) (S : S4), s_X3_readRules_L4 fu i n v1 v2 S = some out → FP S out.2 := by
  intro n
  induction n with
  | zero => intro v1 v2 Z1 hs; rw [s_X3_readRules_L4] at hs; cases hs
  | succ n ih =>
    intro v1 v2 Z1 hs
    rw [s_X3_readRules_L4] at hs
    have F := FP.refl Z1
    rcases ite_or hs with hs | hs
    · obtain rfl := Option.some.inj hs; exact F
    · rcases ite_or hs with hs | hs
      · obtain rfl := Option.some.inj hs; exact F
      · obtain ⟨q4, eq4, hs⟩ := bd_some hs
        replace F := F.trans (fr_X3_readRule eq4)
        rcases ite_or hs with hs | hs
        · obtain rfl := Option.some.inj hs; exact F
        · rcases ite_or hs with hs | hs
          · exact F.trans (ih _ _ _ hs)
          · obtain ⟨q7, eq7, hs⟩ := bd_some hs
            replace F := F.trans (fr_X3_skip eq7)
            obtain ⟨q8, -, hs⟩ := bd_some hs
            exact F.trans (ih _ _ _ hs)
theorem fr_X3_readRules {fu : Nat} {i : Nat} {S : S4} {out : (Int32 × S4)} (hs : s_X3_readRules fu i S = some out) : FP S out.2 := by
  unfold s_X3_readRules at hs
  have F := FP.refl S
  exact F.trans (fr_s_X3_readRules_L4 _ _ _ _ hs)

theorem fr_X3_readBound {i : Nat} {S : S4} {out : (Int32 × S4)} (hs : s_X3_readBound i S = some out) : FP S out.2 := by
  unfold s_X3_readBound at hs
  have F := FP.refl S
  obtain ⟨q1, eq1, hs⟩ := bd_some hs
  replace F := F.trans (fr_X3_skip eq1)
  rcases ite_or hs with hs | hs
  · rcases ite_or hs with hs | hs
    · obtain rfl := Option.some.inj hs; exact F
    · obtain rfl := Option.some.inj hs; exact F
  · obtain ⟨q4, eq4, hs⟩ := bd_some hs
    replace F := F.trans (fr_X3_readDigit eq4)
    obtain ⟨Z5, eZ5, hs⟩ := sv_ex hs
    replace F := F.trans (FP.putu eZ5 (by decide))
    rcases ite_or hs with hs | hs
    · obtain rfl := Option.some.inj hs; exact F
    · obtain rfl := Option.some.inj hs; exact F

theorem fr_X3_readPlan {fu : Nat} {i : Nat} {S : S4} {out : (Int32 × S4)} (hs : s_X3_readPlan fu i S = some out) : FP S out.2 := by
  unfold s_X3_readPlan at hs
  have F := FP.refl S
  obtain ⟨q1, eq1, hs⟩ := bd_some hs
  replace F := F.trans (fr_X3_skip eq1)
  rcases ite_or hs with hs | hs
  · obtain rfl := Option.some.inj hs; exact F
  · obtain ⟨q3, eq3, hs⟩ := bd_some hs
    replace F := F.trans (fr_X3_readNumber eq3)
    obtain ⟨Z4, eZ4, hs⟩ := sv_ex hs
    replace F := F.trans (FP.putu eZ4 (by decide))
    rcases ite_or hs with hs | hs
    · obtain rfl := Option.some.inj hs; exact F
    · obtain ⟨q6, eq6, hs⟩ := bd_some hs
      replace F := F.trans (fr_X3_skip eq6)
      rcases ite_or hs with hs | hs
      · obtain rfl := Option.some.inj hs; exact F
      · obtain ⟨q8, eq8, hs⟩ := bd_some hs
        replace F := F.trans (fr_X3_readRules eq8)
        rcases ite_or hs with hs | hs
        · obtain rfl := Option.some.inj hs; exact F
        · obtain ⟨q10, eq10, hs⟩ := bd_some hs
          replace F := F.trans (fr_X3_skip eq10)
          rcases ite_or hs with hs | hs
          · obtain rfl := Option.some.inj hs; exact F
          · obtain ⟨q12, eq12, hs⟩ := bd_some hs
            replace F := F.trans (fr_X3_readDigit eq12)
            obtain ⟨Z13, eZ13, hs⟩ := sv_ex hs
            replace F := F.trans (FP.putu eZ13 (by decide))
            rcases ite_or hs with hs | hs
            · obtain rfl := Option.some.inj hs; exact F
            · obtain ⟨q15, eq15, hs⟩ := bd_some hs
              replace F := F.trans (fr_X3_readBound eq15)
              rcases ite_or hs with hs | hs
              · obtain rfl := Option.some.inj hs; exact F
              · rcases ite_or hs with hs | hs
                · obtain rfl := Option.some.inj hs; exact F
                · obtain rfl := Option.some.inj hs; exact F
