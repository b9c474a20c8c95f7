/-! where the law's cells come to lie; what they hold -/
def bt (n t : Nat) : Nat := if t < 3 then n + 82 * t else n + (250 + 82 * (t - 3))
def adX (s0 : Nat) : Ad := fun k t x =>
  if k = 44 ∨ k = 4 then bt (s0 + 1) t else if k = 55 ∨ k = 15 then bt (s0 + 1) t + 1 else if k = 56 ∨ k = 16 then bt (s0 + 1) t + 2 else if k = 17 then bt (s0 + 1) t + 3 else if k = 58 ∨ k = 18 then bt (s0 + 1) t + 4 else if k = 19 then bt (s0 + 1) t + 5 else if k = 20 then bt (s0 + 1) t + 6 else if k = 21 then bt (s0 + 1) t + 7
  else if k = 45 ∨ k = 5 then bt (s0 + 1) t + 8 + 2 * x else if k = 14 then bt (s0 + 1) t + 9 + 2 * x else if k = 0 then bt (s0 + 1) t + 14 + x else if k = 1 then bt (s0 + 1) t + 22 + x
  else if k = 62 ∨ k = 22 then s0 + 1 + 246 else if k = 23 then s0 + 1 + 247 else if k = 48 ∨ k = 8 then s0 + 1 + 248 else if k = 9 then s0 + 1 + 249 else if k = 6 ∨ k = 46 then s0 else if k = 7 ∨ k = 47 then s0 + 907 else if k = 36 then s0 + 920 else if k = 37 then s0 + 921 else s0 + 908 + (k - 24)
theorem adX_S (s0 t : Nat) : aS (adX s0) t (bt (s0 + 1) t) := ⟨⟨rfl, rfl, rfl, rfl, rfl, rfl, rfl, rfl, rfl, rfl, rfl, rfl⟩, fun _ _ => ⟨rfl, rfl, rfl⟩, fun _ _ => rfl, fun _ _ => rfl⟩
theorem bt_3 (n x : Nat) : bt n (3 + x) = n + (250 + 82 * x) := by
  unfold bt
  rw [if_neg (by omega), Nat.add_sub_cancel_left]
theorem ad_ex (s0 : Nat) : ∃ ad : Ad, aX ad (s0 + 1) ∧ ad 46 0 0 = s0 ∧ ad 47 0 0 = s0 + 907 ∧ ad 7 0 0 = ad 47 0 0 ∧ (∀ k, 24 ≤ k → k ≤ 35 → ad k 0 0 = s0 + 908 + (k - 24)) ∧ ad 36 0 0 = s0 + 920 ∧ ad 37 0 0 = s0 + 921 := by
  refine ⟨adX s0, ⟨⟨adX_S s0 0, adX_S s0 1, adX_S s0 2⟩, ⟨rfl, rfl, rfl, rfl, rfl, rfl⟩, fun x _ => ?_, rfl⟩, rfl, rfl, rfl, fun k h1 h2 => ?_, rfl, rfl⟩
  · have h := adX_S s0 (3 + x)
    rw [bt_3] at h
    exact h
  · rcases (by omega : k = 24 ∨ k = 25 ∨ k = 26 ∨ k = 27 ∨ k = 28 ∨ k = 29 ∨ k = 30 ∨ k = 31 ∨ k = 32 ∨ k = 33 ∨ k = 34 ∨ k = 35) with rfl | rfl | rfl | rfl | rfl | rfl | rfl | rfl | rfl | rfl | rfl | rfl <;> rfl
theorem start_ref (S1 : S4) : ∃ S2, s_X7_empties 9601 (zM S1) = some S2 ∧ S2 7 0 0 7 = nI 12 ∧ (∀ j, 8 ≤ j → j < 14 → S2 7 0 0 j = 0) ∧ (∀ k, k < 12 → S2 24 0 0 k = -1) ∧ (∀ j, (j = 16 ∨ j = 21 ∨ j = 24 ∨ j = 26) → S2 7 0 0 j = 0) ∧ ∀ k t x, ¬ (k = 7 ∨ k = 47 ∨ (24 ≤ k ∧ k ≤ 35)) → S2 k t x = S1 k t x := by
  obtain ⟨Z1, z1, z2, z3, z4, z5⟩ := r_empties_L (fu := 9601) 30 0 9601 (zM S1) (zM S1) (by omega) (by omega) (fun _ _ _ _ => rfl) (FV.refl _) (fun w hw => absurd hw (by omega))
  have l6 : ∀ (Z : S4) (j : Nat), j < 7 → live Z 6 0 j = Z 7 0 0 (7 + j) := fun Z j hj => by
    have : inV 6 0 j = true := by simp [inV]; omega
    unfold live
    rw [if_pos this, if_pos rfl]
  have z7 : ∀ j, zM S1 7 0 0 j = if j = 7 then 12 else 0 := fun j => by
    rw [zM_in (by omega)]
    unfold zmrow
    rw [if_neg (by decide), if_pos rfl]
  refine ⟨Z1, z1, ?_, fun j g1 g2 => ?_, fun k hk => ?_, fun j hj => ?_, fun k t x h => ?_⟩
  · have h := z3
    rw [l6 _ 0 (by decide), l6 _ 0 (by decide)] at h
    rw [show Z1 7 0 0 7 = _ from h, z7]
    rfl
  · have h := z4 (j - 7) (by omega) (by omega)
    rw [l6 _ _ (by omega), show 7 + (j - 7) = j by omega] at h
    exact h
  · have h := z5 k (by omega)
    have : inV 0 0 k = true := by simp [inV]; omega
    unfold live at h
    rw [if_pos this, if_neg (by decide)] at h
    exact h
  · rw [z2 7 0 0 j (by rcases hj with rfl | rfl | rfl | rfl <;> decide), z7, if_neg (by omega)]
  · rw [fr_X7_empties z1 k (by simp only [mdk, decide_eq_true_eq]; omega)]
    exact zM_out (fun z => h (by omega))
def S00 : S4 := fun k _ _ _ => if k = 17 then -1 else 0
noncomputable def Sb0 : S4 := x6S 9601 (w4 S00 46 0 0 (fun _ => 0))
theorem law_LI {S2 : S4} (r7 : S2 7 0 0 7 = nI 12) (r8 : ∀ j, 8 ≤ j → j < 14 → S2 7 0 0 j = 0) (r24 : ∀ k, k < 12 → S2 24 0 0 k = -1) (rz : ∀ j, (j = 16 ∨ j = 21 ∨ j = 24 ∨ j = 26) → S2 7 0 0 j = 0) (hk : ∀ k t x, ¬ (k = 7 ∨ k = 47 ∨ (24 ≤ k ∧ k ≤ 35)) → S2 k t x = w4 Sb0 47 0 0 (fun _ => 0) k t x) : LI 0 0 (w4 (w4 S2 36 0 0 (fun _ => 0)) 37 0 0 (fun _ => 0)) := by
  have hf : 60 < 9601 := by decide
  have e7 : ∀ k t x, k ≠ 36 → k ≠ 37 → w4 (w4 S2 36 0 0 (fun _ => 0)) 37 0 0 (fun _ => 0) k t x = S2 k t x := fun k t x h1 h2 => by
    rw [w4_ne (fun z => h2 z.1), w4_ne (fun z => h1 z.1)]
  have eb : ∀ k t x, (k < 7 ∨ k = 8 ∨ k = 9 ∨ (10 ≤ k ∧ k < 24)) → w4 (w4 S2 36 0 0 (fun _ => 0)) 37 0 0 (fun _ => 0) k t x = Sb0 k t x := fun k t x h => by
    rw [e7 k t x (by omega) (by omega), hk k t x (by omega), w4_ne (by omega)]
  obtain ⟨m1, m2, m3, m4⟩ := mkS_new (fu := 9601) (t := 0) (S := w4 S00 46 0 0 (fun _ => 0)) hf
  have c4 : ∀ j, Sb0 4 0 0 j = mkS 9601 0 (w4 S00 46 0 0 (fun _ => 0)) 4 0 0 j := fun j => by unfold Sb0; rw [x6_0 hf (by omega)]
  have c8 : ∀ j, Sb0 8 0 0 j = 0 := fun j => x6_8 hf
  have c9 : ∀ j, Sb0 9 0 0 j = if j = 200 then nI 16 else 0 := fun j => x6_9 hf
  have c6 : ∀ j, Sb0 6 0 0 j = 0 := fun j => x6_6
  have c17 : ∀ t i j, Sb0 17 t i j = -1 := x6_17 hf (fun t i j => by
    rw [w4_ne (by omega)]
    rfl)
  refine ⟨GG_init ?_ (fun j g1 g2 => ?_) (fun k h => ?_) (fun w h => ?_) ?_ (fun j g1 g2 => ?_) (fun k h => ?_) ?_ ?_ ?_ ?_ ?_ ?_ ?_ ?_ ?_ ?_, fun t i j q e => ?_, ?_, fun j hj => ?_⟩
  · rw [eb 4 0 0 (by omega), c4, m1]; rfl
  · rw [eb 4 0 0 (by omega), c4, m2 j g1 g2]
  · rw [eb 19 0 0 (by omega)]
    unfold Sb0
    rw [x6_0 hf (by omega), m3 k (by omega)]
  · rw [eb 21 0 0 (by omega)]
    unfold Sb0
    rw [x6_0 hf (by omega), m4 w h]
  · rw [e7 7 0 0 (by decide) (by decide), r7]
  · rw [e7 7 0 0 (by decide) (by decide), r8 j g1 g2]
  · rw [e7 24 0 0 (by decide) (by decide), r24 k h]
  · rw [eb 6 0 0 (by omega), c6]
  · rw [eb 6 0 0 (by omega), c6]
  · rw [eb 6 0 0 (by omega), c6]
  · rw [eb 6 0 0 (by omega), c6]
  · rw [e7 7 0 0 (by decide) (by decide), rz 21 (by omega)]
  · rw [e7 7 0 0 (by decide) (by decide), rz 24 (by omega)]
  · rw [e7 7 0 0 (by decide) (by decide), rz 16 (by omega)]
  · rw [eb 8 0 0 (by omega), c8]
  · rw [eb 9 0 0 (by omega), c9, if_pos rfl]
  · rw [e7 7 0 0 (by decide) (by decide), rz 26 (by omega)]
  · rw [eb 17 t i (by omega), c17] at e
    rw [show pcd (-1) = none from by decide] at e
    cases e
  · rw [eb 8 0 0 (by omega), c8]
  · rw [eb 9 0 0 (by omega), c9, if_neg hj]
    decide
