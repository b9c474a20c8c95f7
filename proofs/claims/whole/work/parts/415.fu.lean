/-! what the reference's inner methods leave alone: the time too -/
def flu (k j : Nat) : Bool := (Nat.ble 24 k && Nat.blt k 30) || (Nat.beq k 7 && Nat.beq j 12)
def FU (S S' : S4) : Prop := ∀ k t i j, ¬ flu k j = true → S' k t i j = S k t i j
theorem FU.refl (S : S4) : FU S S := fun _ _ _ _ _ => rfl
theorem FU.trans {S1 S2 S3 : S4} (a : FU S1 S2) (b : FU S2 S3) : FU S1 S3 := fun k t i j h => (b k t i j h).trans (a k t i j h)
theorem FU.putu {t k i j : Nat} {S Z : S4} {x : Int32} (e : Z = u4 S k t i j x) (hk : flu k j = true) : FU S Z := by
  subst e
  intro k' t' i' j' h
  rw [u4_app, if_neg]
  rintro ⟨rfl, rfl, rfl, rfl⟩
  exact h hk

theorem fu_X7_setsChute {p1 : Int32} {p2 : Int32} {p3 : Int32} {S : S4} {out : S4} (hs : s_X7_setsChute p1 p2 p3 S = some out) : FU S out := by
  unfold s_X7_setsChute at hs
  have F := FU.refl S
  obtain ⟨-, hs⟩ := gd_some hs
  obtain ⟨Z2, eZ2, hs⟩ := sv_ex hs
  replace F := F.trans (FU.putu eZ2 rfl)
  obtain rfl := Option.some.inj hs; exact F

theorem fu_X7_addsChute {p1 : Int32} {p2 : Int32} {p3 : Int32} {S : S4} {out : S4} (hs : s_X7_addsChute p1 p2 p3 S = some out) : FU S out := by
  unfold s_X7_addsChute at hs
  have F := FU.refl S
  obtain ⟨-, hs⟩ := gd_some hs
  obtain ⟨-, hs⟩ := gd_some hs
  obtain ⟨Z3, eZ3, hs⟩ := sv_ex hs
  replace F := F.trans (FU.putu eZ3 rfl)
  obtain rfl := Option.some.inj hs; exact F

theorem fu_X7_setsParcel {p1 : Int32} {p2 : Int32} {p3 : Int32} {S : S4} {out : S4} (hs : s_X7_setsParcel p1 p2 p3 S = some out) : FU S out := by
  unfold s_X7_setsParcel at hs
  have F := FU.refl S
  obtain ⟨-, hs⟩ := gd_some hs
  obtain ⟨Z2, eZ2, hs⟩ := sv_ex hs
  replace F := F.trans (FU.putu eZ2 rfl)
  obtain rfl := Option.some.inj hs; exact F

theorem fu_X7_waitsLess {p1 : Int32} {S : S4} {out : S4} (hs : s_X7_waitsLess p1 S = some out) : FU S out := by
  unfold s_X7_waitsLess at hs
  have F := FU.refl S
  obtain ⟨q1, -, hs⟩ := bd_some hs
  rcases ite_or hs with hs | hs
  · obtain ⟨q3, -, hs⟩ := bd_some hs
    rcases ite_or hs with hs | hs
    · obtain rfl := Option.some.inj hs; exact F
    · obtain ⟨Z6, eZ6, hs⟩ := bd_some hs
      replace F := F.trans (fu_X7_addsChute eZ6)
      obtain ⟨q7, -, hs⟩ := bd_some hs
      rcases ite_or hs with hs | hs
      · obtain ⟨Z10, eZ10, hs⟩ := bd_some hs
        replace F := F.trans (fu_X7_setsChute eZ10)
        obtain rfl := Option.some.inj hs; exact F
      · obtain rfl := Option.some.inj hs; exact F
  · obtain ⟨Z12, eZ12, hs⟩ := bd_some hs
    replace F := F.trans (fu_X7_addsChute eZ12)
    obtain ⟨q13, -, hs⟩ := bd_some hs
    rcases ite_or hs with hs | hs
    · obtain rfl := Option.some.inj hs; exact F
    · obtain ⟨Z16, eZ16, hs⟩ := bd_some hs
      replace F := F.trans (fu_X7_addsChute eZ16)
      obtain ⟨q17, -, hs⟩ := bd_some hs
      rcases ite_or hs with hs | hs
      · obtain ⟨Z20, eZ20, hs⟩ := bd_some hs
        replace F := F.trans (fu_X7_setsChute eZ20)
        obtain rfl := Option.some.inj hs; exact F
      · obtain rfl := Option.some.inj hs; exact F

theorem fu_s_X7_turns_L52 {fu : Nat}  {out : S4} : ∀ (n : Nat) (v2 : Int32) (S : S4), s_X7_turns_L52 fu n v2 S = some out → FU S out := by
  intro n
  induction n with
  | zero => intro v2 Z6 hs; rw [s_X7_turns_L52] at hs; cases hs
  | succ n ih =>
    intro v2 Z6 hs
    rw [s_X7_turns_L52] at hs
    have F := FU.refl Z6
    rcases ite_or hs with hs | hs
    · obtain rfl := Option.some.inj hs; exact F
    · obtain ⟨-, hs⟩ := gd_some hs
      rcases ite_or hs with hs | hs
      · exact F.trans (ih _ _ hs)
      · obtain ⟨-, hs⟩ := gd_some hs
        obtain ⟨Z12, eZ12, hs⟩ := bd_some hs
        replace F := F.trans (fu_X7_setsParcel eZ12)
        exact F.trans (ih _ _ hs)
theorem fu_s_X7_turns_L19 {fu : Nat}  {out : S4} : ∀ (n : Nat) (v1 : Int32) (v2 : Int32) (S : S4), s_X7_turns_L19 fu n v1 v2 S = some out → FU S out := by
  intro n
  induction n with
  | zero => intro v1 v2 Z2 hs; rw [s_X7_turns_L19] at hs; cases hs
  | succ n ih =>
    intro v1 v2 Z2 hs
    rw [s_X7_turns_L19] at hs
    have F := FU.refl Z2
    rcases ite_or hs with hs | hs
    · obtain ⟨-, hs⟩ := gd_some hs
      obtain ⟨Z5, eZ5, hs⟩ := sv_ex hs
      replace F := F.trans (FU.putu eZ5 rfl)
      exact F.trans (fu_s_X7_turns_L52 _ _ _ hs)
    · obtain ⟨-, hs⟩ := gd_some hs
      obtain ⟨-, hs⟩ := gd_some hs
      obtain ⟨Z15, eZ15, hs⟩ := sv_ex hs
      replace F := F.trans (FU.putu eZ15 rfl)
      exact F.trans (ih _ _ _ hs)
theorem fu_X7_turns {fu : Nat}  {S : S4} {out : S4} (hs : s_X7_turns fu S = some out) : FU S out := by
  unfold s_X7_turns at hs
  have F := FU.refl S
  obtain ⟨-, hs⟩ := gd_some hs
  exact F.trans (fu_s_X7_turns_L19 _ _ _ _ hs)

theorem fu_X7_aims {p1 : Int32} {p2 : Int32} {p3 : Int32} {S : S4} {out : S4} (hs : s_X7_aims p1 p2 p3 S = some out) : FU S out := by
  unfold s_X7_aims at hs
  have F := FU.refl S
  obtain ⟨Z2, eZ2, hs⟩ := bd_some hs
  replace F := F.trans (fu_X7_setsParcel eZ2)
  obtain ⟨Z4, eZ4, hs⟩ := bd_some hs
  replace F := F.trans (fu_X7_setsParcel eZ4)
  obtain rfl := Option.some.inj hs; exact F

theorem fu_X7_excepts {p1 : Int32} {p2 : Int32} {p3 : Int32} {S : S4} {out : S4} (hs : s_X7_excepts p1 p2 p3 S = some out) : FU S out := by
  unfold s_X7_excepts at hs
  have F := FU.refl S
  obtain ⟨q1, -, hs⟩ := bd_some hs
  obtain ⟨q2, -, hs⟩ := bd_some hs
  rcases ite_or hs with hs | hs
  · obtain ⟨Z5, eZ5, hs⟩ := bd_some hs
    replace F := F.trans (fu_X7_aims eZ5)
    obtain rfl := Option.some.inj hs; exact F
  · obtain ⟨Z7, eZ7, hs⟩ := bd_some hs
    replace F := F.trans (fu_X7_aims eZ7)
    obtain rfl := Option.some.inj hs; exact F

theorem fu_s_X7_scans_L128 {fu : Nat} {p1 : Int32} {out : S4} : ∀ (n : Nat) (v2 : Int32) (v3 : Int32) (v5 : Int32) (S : S4), s_X7_scans_L128 fu p1 n v2 v3 v5 S = some out → FU S out := by
  intro n
  induction n with
  | zero => intro v2 v3 v5 Z14 hs; rw [s_X7_scans_L128] at hs; cases hs
  | succ n ih =>
    intro v2 v3 v5 Z14 hs
    rw [s_X7_scans_L128] at hs
    have F := FU.refl Z14
    rcases ite_or hs with hs | hs
    · obtain rfl := Option.some.inj hs; exact F
    · obtain ⟨q16, -, hs⟩ := bd_some hs
      obtain ⟨q17, -, hs⟩ := bd_some hs
      rcases ite_or hs with hs | hs
      · exact F.trans (ih _ _ _ _ hs)
      · obtain ⟨q19, -, hs⟩ := bd_some hs
        obtain ⟨Z21, eZ21, hs⟩ := bd_some hs
        replace F := F.trans (fu_X7_aims eZ21)
        exact F.trans (ih _ _ _ _ hs)
theorem fu_X7_scans {fu : Nat} {p1 : Int32} {S : S4} {out : S4} (hs : s_X7_scans fu p1 S = some out) : FU S out := by
  unfold s_X7_scans at hs
  have F := FU.refl S
  obtain ⟨-, hs⟩ := gd_some hs
  obtain ⟨-, hs⟩ := gd_some hs
  obtain ⟨Z3, eZ3, hs⟩ := sv_ex hs
  replace F := F.trans (FU.putu eZ3 rfl)
  obtain ⟨q4, -, hs⟩ := bd_some hs
  rcases ite_or hs with hs | hs
  · obtain ⟨q6, -, hs⟩ := bd_some hs
    obtain ⟨q7, -, hs⟩ := bd_some hs
    obtain ⟨q8, -, hs⟩ := bd_some hs
    obtain ⟨q9, -, hs⟩ := bd_some hs
    rcases ite_or hs with hs | hs
    · obtain ⟨Z12, eZ12, hs⟩ := bd_some hs
      replace F := F.trans (fu_X7_aims eZ12)
      obtain ⟨q13, -, hs⟩ := bd_some hs
      exact F.trans (fu_s_X7_scans_L128 _ _ _ _ _ hs)
    · obtain ⟨Z24, eZ24, hs⟩ := bd_some hs
      replace F := F.trans (fu_X7_excepts eZ24)
      obtain rfl := Option.some.inj hs; exact F
  · obtain ⟨Z31, eZ31, hs⟩ := bd_some hs
    replace F := F.trans (fu_X7_aims eZ31)
    obtain rfl := Option.some.inj hs; exact F

theorem fu_X7_drops {fu : Nat} {p1 : Int32} {p2 : Int32} {S : S4} {out : S4} (hs : s_X7_drops fu p1 p2 S = some out) : FU S out := by
  unfold s_X7_drops at hs
  have F := FU.refl S
  obtain ⟨q1, -, hs⟩ := bd_some hs
  obtain ⟨-, hs⟩ := gd_some hs
  obtain ⟨Z3, eZ3, hs⟩ := sv_ex hs
  replace F := F.trans (FU.putu eZ3 rfl)
  obtain ⟨q4, -, hs⟩ := bd_some hs
  obtain ⟨Z6, eZ6, hs⟩ := bd_some hs
  replace F := F.trans (fu_X7_setsParcel eZ6)
  obtain ⟨Z8, eZ8, hs⟩ := bd_some hs
  replace F := F.trans (fu_X7_setsParcel eZ8)
  obtain ⟨Z10, eZ10, hs⟩ := bd_some hs
  replace F := F.trans (fu_X7_setsParcel eZ10)
  obtain ⟨Z12, eZ12, hs⟩ := bd_some hs
  replace F := F.trans (fu_X7_setsParcel eZ12)
  obtain ⟨Z14, eZ14, hs⟩ := bd_some hs
  replace F := F.trans (fu_X7_setsParcel eZ14)
  obtain ⟨-, hs⟩ := gd_some hs
  obtain ⟨Z16, eZ16, hs⟩ := sv_ex hs
  replace F := F.trans (FU.putu eZ16 rfl)
  obtain ⟨Z17, eZ17, hs⟩ := sv_ex hs
  replace F := F.trans (FU.putu eZ17 rfl)
  obtain ⟨Z19, eZ19, hs⟩ := bd_some hs
  replace F := F.trans (fu_X7_setsChute eZ19)
  obtain ⟨Z21, eZ21, hs⟩ := bd_some hs
  replace F := F.trans (fu_X7_addsChute eZ21)
  obtain ⟨Z23, eZ23, hs⟩ := bd_some hs
  replace F := F.trans (fu_X7_addsChute eZ23)
  obtain ⟨q24, -, hs⟩ := bd_some hs
  obtain ⟨q25, -, hs⟩ := bd_some hs
  rcases ite_or hs with hs | hs
  · obtain ⟨Z28, eZ28, hs⟩ := bd_some hs
    replace F := F.trans (fu_X7_addsChute eZ28)
    obtain ⟨q29, -, hs⟩ := bd_some hs
    obtain ⟨Z31, eZ31, hs⟩ := bd_some hs
    replace F := F.trans (fu_X7_setsChute eZ31)
    obtain ⟨q32, -, hs⟩ := bd_some hs
    rcases ite_or hs with hs | hs
    · obtain ⟨Z35, eZ35, hs⟩ := bd_some hs
      replace F := F.trans (fu_X7_setsChute eZ35)
      obtain rfl := Option.some.inj hs; exact F
    · obtain rfl := Option.some.inj hs; exact F
  · obtain rfl := Option.some.inj hs; exact F

theorem fu_X7_tries {fu : Nat} {p1 : Int32} {p2 : Int32} {S : S4} {out : S4} (hs : s_X7_tries fu p1 p2 S = some out) : FU S out := by
  unfold s_X7_tries at hs
  have F := FU.refl S
  obtain ⟨q1, -, hs⟩ := bd_some hs
  obtain ⟨q2, -, hs⟩ := bd_some hs
  obtain ⟨q3, -, hs⟩ := bd_some hs
  obtain ⟨q4, -, hs⟩ := bd_some hs
  obtain ⟨q5, -, hs⟩ := bd_some hs
  obtain ⟨q6, -, hs⟩ := bd_some hs
  rcases ite_or hs with hs | hs
  · obtain ⟨Z9, eZ9, hs⟩ := bd_some hs
    replace F := F.trans (fu_X7_setsParcel eZ9)
    obtain ⟨q10, -, hs⟩ := bd_some hs
    rcases ite_or hs with hs | hs
    · obtain ⟨Z27, eZ27, hs⟩ := bd_some hs
      replace F := F.trans (fu_X7_addsChute eZ27)
      obtain rfl := Option.some.inj hs; exact F
    · rcases ite_or hs with hs | hs
      · obtain ⟨q13, -, hs⟩ := bd_some hs
        obtain ⟨Z15, eZ15, hs⟩ := bd_some hs
        replace F := F.trans (fu_X7_setsChute eZ15)
        obtain ⟨Z17, eZ17, hs⟩ := bd_some hs
        replace F := F.trans (fu_X7_addsChute eZ17)
        obtain rfl := Option.some.inj hs; exact F
      · obtain ⟨q18, -, hs⟩ := bd_some hs
        obtain ⟨Z20, eZ20, hs⟩ := bd_some hs
        replace F := F.trans (fu_X7_setsParcel eZ20)
        obtain ⟨q21, -, hs⟩ := bd_some hs
        obtain ⟨Z23, eZ23, hs⟩ := bd_some hs
        replace F := F.trans (fu_X7_setsChute eZ23)
        obtain ⟨Z25, eZ25, hs⟩ := bd_some hs
        replace F := F.trans (fu_X7_addsChute eZ25)
        obtain rfl := Option.some.inj hs; exact F
  · rcases ite_or hs with hs | hs
    · rcases ite_or hs with hs | hs
      · obtain ⟨Z71, eZ71, hs⟩ := bd_some hs
        replace F := F.trans (fu_X7_drops eZ71)
        obtain rfl := Option.some.inj hs; exact F
      · obtain ⟨Z51, eZ51, hs⟩ := bd_some hs
        replace F := F.trans (fu_X7_setsParcel eZ51)
        obtain ⟨q52, -, hs⟩ := bd_some hs
        rcases ite_or hs with hs | hs
        · obtain ⟨Z69, eZ69, hs⟩ := bd_some hs
          replace F := F.trans (fu_X7_addsChute eZ69)
          obtain rfl := Option.some.inj hs; exact F
        · rcases ite_or hs with hs | hs
          · obtain ⟨q55, -, hs⟩ := bd_some hs
            obtain ⟨Z57, eZ57, hs⟩ := bd_some hs
            replace F := F.trans (fu_X7_setsChute eZ57)
            obtain ⟨Z59, eZ59, hs⟩ := bd_some hs
            replace F := F.trans (fu_X7_addsChute eZ59)
            obtain rfl := Option.some.inj hs; exact F
          · obtain ⟨q60, -, hs⟩ := bd_some hs
            obtain ⟨Z62, eZ62, hs⟩ := bd_some hs
            replace F := F.trans (fu_X7_setsParcel eZ62)
            obtain ⟨q63, -, hs⟩ := bd_some hs
            obtain ⟨Z65, eZ65, hs⟩ := bd_some hs
            replace F := F.trans (fu_X7_setsChute eZ65)
            obtain ⟨Z67, eZ67, hs⟩ := bd_some hs
            replace F := F.trans (fu_X7_addsChute eZ67)
            obtain rfl := Option.some.inj hs; exact F
    · obtain ⟨Z30, eZ30, hs⟩ := bd_some hs
      replace F := F.trans (fu_X7_setsParcel eZ30)
      obtain ⟨q31, -, hs⟩ := bd_some hs
      rcases ite_or hs with hs | hs
      · obtain ⟨Z48, eZ48, hs⟩ := bd_some hs
        replace F := F.trans (fu_X7_addsChute eZ48)
        obtain rfl := Option.some.inj hs; exact F
      · rcases ite_or hs with hs | hs
        · obtain ⟨q34, -, hs⟩ := bd_some hs
          obtain ⟨Z36, eZ36, hs⟩ := bd_some hs
          replace F := F.trans (fu_X7_setsChute eZ36)
          obtain ⟨Z38, eZ38, hs⟩ := bd_some hs
          replace F := F.trans (fu_X7_addsChute eZ38)
          obtain rfl := Option.some.inj hs; exact F
        · obtain ⟨q39, -, hs⟩ := bd_some hs
          obtain ⟨Z41, eZ41, hs⟩ := bd_some hs
          replace F := F.trans (fu_X7_setsParcel eZ41)
          obtain ⟨q42, -, hs⟩ := bd_some hs
          obtain ⟨Z44, eZ44, hs⟩ := bd_some hs
          replace F := F.trans (fu_X7_setsChute eZ44)
          obtain ⟨Z46, eZ46, hs⟩ := bd_some hs
          replace F := F.trans (fu_X7_addsChute eZ46)
          obtain rfl := Option.some.inj hs; exact F

theorem fu_s_X7_sends_L39 {fu : Nat} {p1 : Int32} {out : S4} : ∀ (n : Nat) (v2 : Int32) (v3 : Int32) (v4 : Int32) (v5 : Int32) (S : S4), s_X7_sends_L39 fu p1 n v2 v3 v4 v5 S = some out → FU S out := by
  intro n
  induction n with
  | zero => intro v2 v3 v4 v5 Z7 hs; rw [s_X7_sends_L39] at hs; cases hs
  | succ n ih =>
    intro v2 v3 v4 v5 Z7 hs
    rw [s_X7_sends_L39] at hs
    have F := FU.refl Z7
    rcases ite_or hs with hs | hs
    · obtain ⟨-, hs⟩ := gd_some hs
      obtain ⟨-, hs⟩ := gd_some hs
      obtain ⟨Z11, eZ11, hs⟩ := sv_ex hs
      replace F := F.trans (FU.putu eZ11 rfl)
      obtain ⟨-, hs⟩ := gd_some hs
      obtain ⟨-, hs⟩ := gd_some hs
      obtain ⟨Z14, eZ14, hs⟩ := sv_ex hs
      replace F := F.trans (FU.putu eZ14 rfl)
      obtain ⟨-, hs⟩ := gd_some hs
      obtain ⟨Z16, eZ16, hs⟩ := sv_ex hs
      replace F := F.trans (FU.putu eZ16 rfl)
      obtain ⟨Z18, eZ18, hs⟩ := bd_some hs
      replace F := F.trans (fu_X7_setsParcel eZ18)
      obtain ⟨Z20, eZ20, hs⟩ := bd_some hs
      replace F := F.trans (fu_X7_setsParcel eZ20)
      obtain rfl := Option.some.inj hs; exact F
    · obtain ⟨-, hs⟩ := gd_some hs
      obtain ⟨-, hs⟩ := gd_some hs
      obtain ⟨Z23, eZ23, hs⟩ := sv_ex hs
      replace F := F.trans (FU.putu eZ23 rfl)
      exact F.trans (ih _ _ _ _ _ hs)
theorem fu_X7_sends {fu : Nat} {p1 : Int32} {S : S4} {out : S4} (hs : s_X7_sends fu p1 S = some out) : FU S out := by
  unfold s_X7_sends at hs
  have F := FU.refl S
  obtain ⟨q1, -, hs⟩ := bd_some hs
  obtain ⟨q2, -, hs⟩ := bd_some hs
  obtain ⟨-, hs⟩ := gd_some hs
  rcases ite_or hs with hs | hs
  · obtain rfl := Option.some.inj hs; exact F
  · rcases ite_or hs with hs | hs
    · obtain rfl := Option.some.inj hs; exact F
    · obtain ⟨q6, -, hs⟩ := bd_some hs
      exact F.trans (fu_s_X7_sends_L39 _ _ _ _ _ _ hs)

theorem fu_s_X7_ticks_L105 {fu : Nat}  {out : S4} : ∀ (n : Nat) (v1 : Int32) (S : S4), s_X7_ticks_L105 fu n v1 S = some out → FU S out := by
  intro n
  induction n with
  | zero => intro v1 Z10 hs; rw [s_X7_ticks_L105] at hs; cases hs
  | succ n ih =>
    intro v1 Z10 hs
    rw [s_X7_ticks_L105] at hs
    have F := FU.refl Z10
    rcases ite_or hs with hs | hs
    · obtain rfl := Option.some.inj hs; exact F
    · obtain ⟨Z13, eZ13, hs⟩ := bd_some hs
      replace F := F.trans (fu_X7_sends eZ13)
      exact F.trans (ih _ _ hs)
theorem fu_s_X7_ticks_L56 {fu : Nat}  {out : S4} : ∀ (n : Nat) (v1 : Int32) (S : S4), s_X7_ticks_L56 fu n v1 S = some out → FU S out := by
  intro n
  induction n with
  | zero => intro v1 Z8 hs; rw [s_X7_ticks_L56] at hs; cases hs
  | succ n ih =>
    intro v1 Z8 hs
    rw [s_X7_ticks_L56] at hs
    have F := FU.refl Z8
    rcases ite_or hs with hs | hs
    · exact F.trans (fu_s_X7_ticks_L105 _ _ _ hs)
    · obtain ⟨q14, -, hs⟩ := bd_some hs
      obtain ⟨-, hs⟩ := gd_some hs
      rcases ite_or hs with hs | hs
      · exact F.trans (ih _ _ hs)
      · obtain ⟨q17, -, hs⟩ := bd_some hs
        rcases ite_or hs with hs | hs
        · obtain ⟨Z20, eZ20, hs⟩ := bd_some hs
          replace F := F.trans (fu_X7_tries eZ20)
          exact F.trans (ih _ _ hs)
        · exact F.trans (ih _ _ hs)
theorem fu_s_X7_ticks_L12 {fu : Nat}  {out : S4} : ∀ (n : Nat) (v1 : Int32) (S : S4), s_X7_ticks_L12 fu n v1 S = some out → FU S out := by
  intro n
  induction n with
  | zero => intro v1 Z2 hs; rw [s_X7_ticks_L12] at hs; cases hs
  | succ n ih =>
    intro v1 Z2 hs
    rw [s_X7_ticks_L12] at hs
    have F := FU.refl Z2
    rcases ite_or hs with hs | hs
    · obtain ⟨Z5, eZ5, hs⟩ := bd_some hs
      replace F := F.trans (fu_X7_turns eZ5)
      obtain ⟨-, hs⟩ := gd_some hs
      rcases ite_or hs with hs | hs
      · exact F.trans (fu_s_X7_ticks_L56 _ _ _ hs)
      · obtain ⟨-, hs⟩ := gd_some hs
        obtain ⟨Z23, eZ23, hs⟩ := bd_some hs
        replace F := F.trans (fu_X7_scans eZ23)
        exact F.trans (fu_s_X7_ticks_L56 _ _ _ hs)
    · obtain ⟨Z38, eZ38, hs⟩ := bd_some hs
      replace F := F.trans (fu_X7_waitsLess eZ38)
      exact F.trans (ih _ _ hs)
