section ST
variable {np T fu : Nat} {S : S4}
theorem st_build {p2 : Int32} (hG : GG np T S S) (hT : T + 400 < 2 ^ 31) (hnp : np < 2 ^ 31) (hf : 9600 < fu) : ∃ k S1 b S2, s_L_build fu p2 S = some (k, S1) ∧ s_X7_build fu p2 S1 = some (b, S2) ∧ S2 7 0 0 0 = k ∧ (k = 0 → S2 36 0 0 0 = b) ∧ GG np T S2 S2 :=
  step (A := fun S => s_X6_build fu p2 S) (B := fun Z => s_X7_build fu p2 Z) hG (fun Z h => pr_build h hf) (fun Z o h => fr_X7_build h) rfl (fun e c hm => by
    simp only [List.mem_cons, Prod.mk.injEq, List.not_mem_nil, or_false] at hm
    obtain ⟨rfl, rfl⟩ := hm
    exact ⟨by decide, fun _ => rfl⟩)
theorem st_addStation {p2 : Int32} (hG : GG np T S S) (hT : T + 400 < 2 ^ 31) (hnp : np < 2 ^ 31) (hf : 9600 < fu) : ∃ k S1 b S2, s_L_addStation np fu p2 S = some (k, S1) ∧ s_X7_addStation fu p2 S1 = some (b, S2) ∧ S2 7 0 0 0 = k ∧ (k = 0 → S2 36 0 0 0 = b) ∧ GG np T S2 S2 :=
  step (A := fun S => s_X6_addStation np fu p2 S) (B := fun Z => s_X7_addStation fu p2 Z) hG (fun Z h => pr_addStation h hnp hf) (fun Z o h => fr_X7_addStation h) rfl (fun e c hm => by
    simp only [List.mem_cons, Prod.mk.injEq, List.not_mem_nil, or_false] at hm
    rcases hm with ⟨rfl, rfl⟩ | ⟨rfl, rfl⟩ <;> exact ⟨by decide, fun _ => rfl⟩)
theorem st_addChute {p2 p3 p4 p5 p6 p7 : Int32} (hG : GG np T S S) (hT : T + 400 < 2 ^ 31) (hnp : np < 2 ^ 31) (hf : 9600 < fu) : ∃ k S1 b S2, s_L_addChute np fu p2 p3 p4 p5 p6 p7 S = some (k, S1) ∧ s_X7_addChute fu p2 p3 p4 p5 p6 p7 S1 = some (b, S2) ∧ S2 7 0 0 0 = k ∧ (k = 0 → S2 36 0 0 0 = b) ∧ GG np T S2 S2 :=
  step (A := fun S => s_X6_addChute np fu p2 p3 p4 p5 p6 p7 S) (B := fun Z => s_X7_addChute fu p2 p3 p4 p5 p6 p7 Z) hG (fun Z h => pr_addChute h hnp hf) (fun Z o h => fr_X7_addChute h) rfl (fun e c hm => by
    simp only [List.mem_cons, Prod.mk.injEq, List.not_mem_nil, or_false] at hm
    rcases hm with ⟨rfl, rfl⟩ | ⟨rfl, rfl⟩ <;> exact ⟨by decide, fun _ => rfl⟩)
theorem st_feed {p2 : Int32} (hG : GG np T S S) (hT : T + 400 < 2 ^ 31) (hnp : np < 2 ^ 31) (hf : 9600 < fu) : ∃ k S1 b S2, s_L_feed p2 S = some (k, S1) ∧ s_X7_feed p2 S1 = some (b, S2) ∧ S2 7 0 0 0 = k ∧ (k = 0 → S2 36 0 0 0 = b) ∧ GG np T S2 S2 :=
  step (A := fun S => s_X6_feed p2 S) (B := fun Z => s_X7_feed p2 Z) hG (fun Z h => pr_feed h) (fun Z o h => fr_X7_feed h) rfl (fun e c hm => by
    simp only [List.mem_cons, Prod.mk.injEq, List.not_mem_nil, or_false] at hm
    obtain ⟨rfl, rfl⟩ := hm
    exact ⟨by decide, fun _ => rfl⟩)
theorem st_plan {p2 p3 : Int32} (hG : GG np T S S) (hT : T + 400 < 2 ^ 31) (hnp : np < 2 ^ 31) (hf : 9600 < fu) : ∃ k S1 b S2, s_L_plan np fu p2 p3 S = some (k, S1) ∧ s_X7_plan fu p2 p3 S1 = some (b, S2) ∧ S2 7 0 0 0 = k ∧ (k = 0 → S2 36 0 0 0 = b) ∧ GG np T S2 S2 :=
  step (A := fun S => s_X6_plan np fu p2 p3 S) (B := fun Z => s_X7_plan fu p2 p3 Z) hG (fun Z h => pr_plan h hnp (by omega)) (fun Z o h => fr_X7_plan h) rfl (fun e c hm => by
    simp only [List.mem_cons, Prod.mk.injEq, List.not_mem_nil, or_false] at hm
    rcases hm with ⟨rfl, rfl⟩ | ⟨rfl, rfl⟩ <;> exact ⟨by decide, fun _ => rfl⟩)
theorem st_route {p2 p3 p4 : Int32} (hG : GG np T S S) (hT : T + 400 < 2 ^ 31) (hnp : np < 2 ^ 31) (hf : 9600 < fu) : ∃ k S1 b S2, s_L_route np fu p2 p3 p4 S = some (k, S1) ∧ s_X7_route fu p2 p3 p4 S1 = some (b, S2) ∧ S2 7 0 0 0 = k ∧ (k = 0 → S2 36 0 0 0 = b) ∧ GG np T S2 S2 :=
  step (A := fun S => s_X6_route np fu p2 p3 p4 S) (B := fun Z => s_X7_route fu p2 p3 p4 Z) hG (fun Z h => pr_route h hnp (by omega)) (fun Z o h => fr_X7_route h) rfl (fun e c hm => by
    simp only [List.mem_cons, Prod.mk.injEq, List.not_mem_nil, or_false] at hm
    rcases hm with ⟨rfl, rfl⟩ | ⟨rfl, rfl⟩ | ⟨rfl, rfl⟩ <;> exact ⟨by decide, fun _ => rfl⟩)
theorem st_arrive {p2 p3 p4 p5 : Int32} (hG : GG np T S S) (hT : T + 400 < 2 ^ 31) (hnp : np < 2 ^ 31) (hf : 9600 < fu) : ∃ k S1 b S2, s_L_arrive np fu p2 p3 p4 p5 S = some (k, S1) ∧ s_X7_arrive fu p2 p3 p4 p5 S1 = some (b, S2) ∧ S2 7 0 0 0 = k ∧ (k = 0 → S2 36 0 0 0 = b) ∧ GG np T S2 S2 :=
  step (A := fun S => s_X6_arrive np fu p2 p3 p4 p5 S) (B := fun Z => s_X7_arrive fu p2 p3 p4 p5 Z) hG (fun Z h => pr_arrive h hnp hf) (fun Z o h => fr_X7_arrive h) rfl (fun e c hm => by
    simp only [List.mem_cons, Prod.mk.injEq, List.not_mem_nil, or_false] at hm
    rcases hm with ⟨rfl, rfl⟩ | ⟨rfl, rfl⟩ | ⟨rfl, rfl⟩ <;> exact ⟨by decide, fun _ => rfl⟩)
theorem st_find {p2 p3 : Int32} (hG : GG np T S S) (hT : T + 400 < 2 ^ 31) (hnp : np < 2 ^ 31) (hf : 9600 < fu) : ∃ k S1 b S2, s_L_find fu p2 p3 S = some (k, S1) ∧ s_X7_find fu p2 p3 S1 = some (b, S2) ∧ S2 7 0 0 0 = k ∧ (k = 0 → S2 36 0 0 0 = b) ∧ GG np T S2 S2 :=
  step (A := fun S => s_X6_find fu p2 p3 S) (B := fun Z => s_X7_find fu p2 p3 Z) hG (fun Z h => pr_find h (by omega)) (fun Z o h => fr_X7_find h) rfl (fun e c hm => by
    simp only [List.mem_cons, Prod.mk.injEq, List.not_mem_nil, or_false] at hm
    obtain ⟨rfl, rfl⟩ := hm
    exact ⟨by decide, fun _ => rfl⟩)
theorem st_parcel {p2 p3 : Int32} (hG : GG np T S S) (hT : T + 400 < 2 ^ 31) (hnp : np < 2 ^ 31) (hf : 9600 < fu) : ∃ k S1 b S2, s_L_parcel p2 p3 S = some (k, S1) ∧ s_X7_parcel p2 p3 S1 = some (b, S2) ∧ S2 7 0 0 0 = k ∧ (k = 0 → S2 36 0 0 0 = b) ∧ GG np T S2 S2 :=
  step (A := fun S => s_X6_parcel p2 p3 S) (B := fun Z => s_X7_parcel p2 p3 Z) hG (fun Z h => pr_parcel h) (fun Z o h => fr_X7_parcel h) rfl (fun e c hm => by
    simp only [List.mem_cons, Prod.mk.injEq, List.not_mem_nil, or_false] at hm
    rcases hm with ⟨rfl, rfl⟩ | ⟨rfl, rfl⟩ <;> exact ⟨by decide, fun _ => rfl⟩)
theorem st_carried {p2 : Int32} (hG : GG np T S S) (hT : T + 400 < 2 ^ 31) (hnp : np < 2 ^ 31) (hf : 9600 < fu) : ∃ k S1 b S2, s_L_carried p2 S = some (k, S1) ∧ s_X7_carried p2 S1 = some (b, S2) ∧ S2 7 0 0 0 = k ∧ (k = 0 → S2 36 0 0 0 = b) ∧ GG np T S2 S2 :=
  step (A := fun S => s_X6_carried p2 S) (B := fun Z => s_X7_carried p2 Z) hG (fun Z h => pr_carried h) (fun Z o h => fr_X7_carried h) rfl (fun e c hm => by
    simp only [List.mem_cons, Prod.mk.injEq, List.not_mem_nil, or_false] at hm
    rcases hm with ⟨rfl, rfl⟩ | ⟨rfl, rfl⟩ <;> exact ⟨by decide, fun _ => rfl⟩)
theorem st_run {p2 : Int32} (hG : GG np T S S) (hT : T + 400 < 2 ^ 31) (hnp : np < 2 ^ 31) (hf : 9600 < fu) : ∃ k S1 b S2, s_L_run np fu p2 S = some (k, S1) ∧ s_X7_run fu p2 S1 = some (b, S2) ∧ S2 7 0 0 0 = k ∧ (k = 0 → S2 36 0 0 0 = b) ∧ GG np (T + 200) S2 S2 :=
  step (A := fun S => s_X6_run np fu p2 S) (B := fun Z => s_X7_run fu p2 Z) hG (fun Z h => pr_run h (by omega) hnp hf) (fun Z o h => fr_X7_run h) rfl (fun e c hm => by
    simp only [List.mem_cons, Prod.mk.injEq, List.not_mem_nil, or_false] at hm
    obtain ⟨rfl, rfl⟩ := hm
    exact ⟨by decide, fun _ => rfl⟩)
theorem st_clear {p2 : Int32} (hG : GG np T S S) (hT : T + 400 < 2 ^ 31) (hnp : np < 2 ^ 31) (hf : 9600 < fu) : ∃ k S1 b S2, s_L_clear np fu p2 S = some (k, S1) ∧ s_X7_clear fu p2 S1 = some (b, S2) ∧ S2 7 0 0 0 = k ∧ (k = 0 → S2 36 0 0 0 = b) ∧ GG np T S2 S2 :=
  step (A := fun S => s_X6_clear np fu p2 S) (B := fun Z => s_X7_clear fu p2 Z) hG (fun Z h => pr_clear h hnp hf) (fun Z o h => fr_X7_clear h) rfl (fun e c hm => by
    simp only [List.mem_cons, Prod.mk.injEq, List.not_mem_nil, or_false] at hm
    rcases hm with ⟨rfl, rfl⟩ | ⟨rfl, rfl⟩ <;> exact ⟨by decide, fun _ => rfl⟩)
theorem st_chute {p2 p3 : Int32} (hG : GG np T S S) (hT : T + 400 < 2 ^ 31) (hnp : np < 2 ^ 31) (hf : 9600 < fu) : ∃ k S1 b S2, s_L_chute fu p2 p3 S = some (k, S1) ∧ s_X7_chute fu p2 p3 S1 = some (b, S2) ∧ S2 7 0 0 0 = k ∧ (k = 0 → S2 36 0 0 0 = b) ∧ GG np T S2 S2 :=
  step (A := fun S => s_X6_chute fu p2 p3 S) (B := fun Z => s_X7_chute fu p2 p3 Z) hG (fun Z h => pr_chute h (by omega)) (fun Z o h => fr_X7_chute h) rfl (fun e c hm => by
    simp only [List.mem_cons, Prod.mk.injEq, List.not_mem_nil, or_false] at hm
    rcases hm with ⟨rfl, rfl⟩ | ⟨rfl, rfl⟩ <;> exact ⟨by decide, fun _ => rfl⟩)
theorem st_station {p2 p3 : Int32} (hG : GG np T S S) (hT : T + 400 < 2 ^ 31) (hnp : np < 2 ^ 31) (hf : 9600 < fu) : ∃ k S1 b S2, s_L_station p2 p3 S = some (k, S1) ∧ s_X7_station p2 p3 S1 = some (b, S2) ∧ S2 7 0 0 0 = k ∧ (k = 0 → S2 36 0 0 0 = b) ∧ GG np T S2 S2 :=
  step (A := fun S => s_X6_station p2 p3 S) (B := fun Z => s_X7_station p2 p3 Z) hG (fun Z h => pr_station h) (fun Z o h => fr_X7_station h) rfl (fun e c hm => by
    simp only [List.mem_cons, Prod.mk.injEq, List.not_mem_nil, or_false] at hm
    rcases hm with ⟨rfl, rfl⟩ | ⟨rfl, rfl⟩ <;> exact ⟨by decide, fun _ => rfl⟩)
theorem st_count {p2 : Int32} (hG : GG np T S S) (hT : T + 400 < 2 ^ 31) (hnp : np < 2 ^ 31) (hf : 9600 < fu) : ∃ k S1 b S2, s_L_count fu p2 S = some (k, S1) ∧ s_X7_count fu p2 S1 = some (b, S2) ∧ S2 7 0 0 0 = k ∧ (k = 0 → S2 36 0 0 0 = b) ∧ GG np T S2 S2 :=
  step (A := fun S => s_X6_count fu p2 S) (B := fun Z => s_X7_count fu p2 Z) hG (fun Z h => pr_count h (by omega) (by omega)) (fun Z o h => fr_X7_count h) rfl (fun e c hm => by
    simp only [List.mem_cons, Prod.mk.injEq, List.not_mem_nil, or_false] at hm
    obtain ⟨rfl, rfl⟩ := hm
    exact ⟨by decide, fun _ => rfl⟩)
theorem st_foresee {p2 p3 p4 : Int32} (hG : GG np T S S) (hT : T + 400 < 2 ^ 31) (hnp : np < 2 ^ 31) (hf : 9600 < fu) : ∃ k S1 b S2, s_L_foresee np fu p2 p3 p4 S = some (k, S1) ∧ s_X7_foresee fu p2 p3 p4 S1 = some (b, S2) ∧ S2 7 0 0 0 = k ∧ (k = 0 → S2 36 0 0 0 = b) ∧ GG np T S2 S2 :=
  step (A := fun S => s_X6_foresee np fu p2 p3 p4 S) (B := fun Z => s_X7_foresee fu p2 p3 p4 Z) hG (fun Z h => pr_foresee h hT hnp hf) (fun Z o h => fr_X7_foresee h) rfl (fun e c hm => by
    simp only [List.mem_cons, Prod.mk.injEq, List.not_mem_nil, or_false] at hm
    rcases hm with ⟨rfl, rfl⟩ | ⟨rfl, rfl⟩ | ⟨rfl, rfl⟩ <;> exact ⟨by decide, fun _ => rfl⟩)
theorem st_untilEmpty {p2 : Int32} (hG : GG np T S S) (hT : T + 400 < 2 ^ 31) (hnp : np < 2 ^ 31) (hf : 9600 < fu) : ∃ k S1 b S2, s_L_untilEmpty np fu p2 S = some (k, S1) ∧ s_X7_untilEmpty fu p2 S1 = some (b, S2) ∧ S2 7 0 0 0 = k ∧ (k = 0 → S2 36 0 0 0 = b) ∧ GG np T S2 S2 :=
  step (A := fun S => s_X6_untilEmpty np fu p2 S) (B := fun Z => s_X7_untilEmpty fu p2 Z) hG (fun Z h => pr_until h hT hnp hf) (fun Z o h => fr_X7_untilEmpty h) rfl (fun e c hm => by
    simp only [List.mem_cons, Prod.mk.injEq, List.not_mem_nil, or_false] at hm
    rcases hm with ⟨rfl, rfl⟩ | ⟨rfl, rfl⟩ <;> exact ⟨by decide, fun _ => rfl⟩)
theorem st_ledger {p2 p3 : Int32} (hG : GG np T S S) (hT : T + 400 < 2 ^ 31) (hnp : np < 2 ^ 31) (hf : 9600 < fu) : ∃ k S1 b S2, s_L_ledger p2 p3 S = some (k, S1) ∧ s_X7_ledger p2 p3 S1 = some (b, S2) ∧ S2 7 0 0 0 = k ∧ (k = 0 → S2 36 0 0 0 = b) ∧ GG np T S2 S2 :=
  step (A := fun S => s_X6_ledger p2 p3 S) (B := fun Z => s_X7_ledger p2 p3 Z) hG (fun Z h => pr_ledger h) (fun Z o h => fr_X7_ledger h) rfl (fun e c hm => by
    simp only [List.mem_cons, Prod.mk.injEq, List.not_mem_nil, or_false] at hm
    rcases hm with ⟨rfl, rfl⟩ | ⟨rfl, rfl⟩ <;> exact ⟨by decide, fun _ => rfl⟩)
theorem st_undo (hG : GG np T S S) (hT : T + 400 < 2 ^ 31) (hnp : np < 2 ^ 31) (hf : 9600 < fu) : ∃ k S1 b S2, s_L_undo np fu S = some (k, S1) ∧ s_X7_undo fu S1 = some (b, S2) ∧ S2 7 0 0 0 = k ∧ (k = 0 → S2 36 0 0 0 = b) ∧ GG np T S2 S2 :=
  step (A := fun S => s_X6_undo np fu S) (B := fun Z => s_X7_undo fu Z) hG (fun Z h => pr_undo h hnp hf) (fun Z o h => fr_X7_undo h) rfl (fun e c hm => by
    simp only [List.mem_cons, Prod.mk.injEq, List.not_mem_nil, or_false] at hm
    obtain ⟨rfl, rfl⟩ := hm
    exact ⟨by decide, fun _ => rfl⟩)
theorem st_restoreSnapshot (hG : GG np T S S) (hT : T + 400 < 2 ^ 31) (hnp : np < 2 ^ 31) (hf : 9600 < fu) : ∃ k S1 b S2, s_L_restoreSnapshot np fu S = some (k, S1) ∧ s_X7_restoreSnapshot fu S1 = some (b, S2) ∧ S2 7 0 0 0 = k ∧ (k = 0 → S2 36 0 0 0 = b) ∧ GG np T S2 S2 :=
  step (A := fun S => s_X6_restoreSnapshot np fu S) (B := fun Z => s_X7_restoreSnapshot fu Z) hG (fun Z h => pr_restore h hnp hf) (fun Z o h => fr_X7_restoreSnapshot h) rfl (fun e c hm => by
    simp only [List.mem_cons, Prod.mk.injEq, List.not_mem_nil, or_false] at hm
    obtain ⟨rfl, rfl⟩ := hm
    exact ⟨by decide, fun _ => rfl⟩)
end ST
