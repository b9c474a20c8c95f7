section SV
variable {np T fu : Nat} {S : S4}
def s_L_write (np : Nat) (fu : Nat) (p2 : Int32) (S : S4) : Option (Int32 × S4) := (s_X6_write np fu p2 S).bind fun r1 => Sum.elim (fun q2 => sv (u4 q2.2 36 0 0 ((0 : Int32).toNatClampNeg) q2.1) fun Z4 => some ((0 : Int32), Z4)) (fun e3 => if e3.1 = 5 then some ((1 : Int32), e3.2) else none) r1
def s_L_paper (p2 : Int32) (S : S4) : Option (Int32 × S4) := (s_X6_paper p2 S).bind fun r1 => Sum.elim (fun q2 => sv (u4 q2.2 36 0 0 ((0 : Int32).toNatClampNeg) q2.1) fun Z4 => some ((0 : Int32), Z4)) (fun e3 => if e3.1 = 5 then some ((1 : Int32), e3.2) else none) r1
theorem st_write {p2 : Int32} (hG : GG np T S S) (hnp : np < 2 ^ 31) (hf : 100 < fu) : ∃ k S1 b S2, s_L_write np fu p2 S = some (k, S1) ∧ s_X7_write fu p2 S1 = some (b, S2) ∧ S2 7 0 0 0 = k ∧ (k = 0 → S2 36 0 0 0 = b) ∧ GG np T S2 S2 :=
  step (A := fun S => s_X6_write np fu p2 S) (B := fun Z => s_X7_write fu p2 Z) hG (fun Z h => pr_write h hnp hf) (fun Z o h => fr_X7_write h) rfl (fun e c hm => by
    simp only [List.mem_cons, Prod.mk.injEq, List.not_mem_nil, or_false] at hm
    obtain ⟨rfl, rfl⟩ := hm
    exact ⟨by decide, fun _ => rfl⟩)
theorem st_paper {p2 : Int32} (hG : GG np T S S) : ∃ k S1 b S2, s_L_paper p2 S = some (k, S1) ∧ s_X7_paper p2 S1 = some (b, S2) ∧ S2 7 0 0 0 = k ∧ (k = 0 → S2 36 0 0 0 = b) ∧ GG np T S2 S2 :=
  step (A := fun S => s_X6_paper p2 S) (B := fun Z => s_X7_paper p2 Z) hG (fun Z h => pr_paper h) (fun Z o h => fr_X7_paper h) rfl (fun e c hm => by
    simp only [List.mem_cons, Prod.mk.injEq, List.not_mem_nil, or_false] at hm
    obtain ⟨rfl, rfl⟩ := hm
    exact ⟨by decide, fun _ => rfl⟩)
end SV
