/-! ParcelSorter's constructor (printed by jk.py) -/
def aX (ad : Ad) (n : Nat) : Prop := (aS ad 0 n ∧ aS ad 1 (n + 82) ∧ aS ad 2 (n + 164)) ∧ (ad 62 0 0 = n + 246 ∧ ad 22 0 0 = n + 246 ∧ ad 23 0 0 = n + 247 ∧ ad 48 0 0 = n + 248 ∧ ad 8 0 0 = n + 248 ∧ ad 9 0 0 = n + 249) ∧ (∀ x, x < 8 → aS ad (3 + x) (n + (250 + 82 * x))) ∧ ad 6 0 0 = ad 46 0 0
section XS
variable {fu x j k t i : Nat} {S Z : S4}
noncomputable def x6a (fu : Nat) (S : S4) : S4 := u4 (mkS fu 0 S) 46 0 0 0 1
noncomputable def x6b (fu : Nat) (S : S4) : S4 := u4 (mkS fu 1 (x6a fu S)) 46 0 0 1 1
noncomputable def x6c (fu : Nat) (S : S4) : S4 := u4 (mkS fu 2 (x6b fu S)) 46 0 0 2 1
noncomputable def x6d (fu : Nat) (S : S4) : S4 := u4 (w4 (x6c fu S) 62 0 0 (fun _ => 0)) 46 0 0 3 1
noncomputable def x6e (fu : Nat) (S : S4) : S4 := u4 (w4 (x6d fu S) 23 0 0 (fun _ => 0)) 46 0 0 7 1
noncomputable def x6f (fu : Nat) (S : S4) : S4 := w4 (sbI (w4 (x6e fu S) 48 0 0 (fun _ => 0))) 8 0 0 (fun _ => 0)
noncomputable def x6g (fu : Nat) (S : S4) : S4 := u4 (x6f fu S) 46 0 0 9 1
noncomputable def lpS (fu : Nat) : Nat → S4 → S4
  | 0, Z => Z
  | x + 1, Z => u4 (mkS fu (3 + x) (lpS fu x Z)) 62 0 0 x 1
noncomputable def x6S (fu : Nat) (S : S4) : S4 := w4 (lpS fu 8 (x6g fu S)) 6 0 0 (fun _ => 0)
theorem nsk (h : k = 6 ∨ k = 7 ∨ k = 8 ∨ k = 9 ∨ k = 22 ∨ k = 23 ∨ (24 ≤ k ∧ k ≤ 37) ∨ k = 46 ∨ k = 47 ∨ k = 48 ∨ k = 62) : ¬ sk k := by
  unfold sk
  omega
theorem lpS_k (hf : 60 < fu) (h : ¬ sk k) (h62 : k ≠ 62) (x : Nat) : lpS fu x Z k t i = Z k t i := by
  induction x with
  | zero => rfl
  | succ x ih =>
    rw [lpS]
    funext j
    rw [u4_app, if_neg (fun z => h62 z.1), mkS_k hf h, ih]
theorem lpS_62 (hf : 60 < fu) : ∀ x j, j < x → lpS fu x Z 62 0 0 j = 1 := by
  intro x
  induction x with
  | zero => intro j hj; omega
  | succ x ih =>
    intro j hj
    rw [lpS, u4_app]
    by_cases e : j = x
    · rw [if_pos ⟨rfl, rfl, rfl, e⟩]
    · rw [if_neg (fun z => e z.2.2.2), mkS_k hf (nsk (by omega)), ih j (by omega)]
theorem lpS_t (hf : 60 < fu) (ht : t < 3) (h62 : k ≠ 62) (x : Nat) : lpS fu x Z k t i = Z k t i := by
  induction x with
  | zero => rfl
  | succ x ih =>
    rw [lpS]
    funext j
    rw [u4_app, if_neg (fun z => h62 z.1), mkS_out hf (fun z => by omega), ih]
theorem lpS_17 (hf : 60 < fu) (h : ∀ t i j, Z 17 t i j = -1) (x : Nat) : ∀ t i j, lpS fu x Z 17 t i j = -1 := by
  induction x with
  | zero => exact h
  | succ x ih =>
    intro t i j
    rw [lpS, u4_app, if_neg (by omega)]
    by_cases e : t = 3 + x
    · rw [e]; exact mkS_17 hf j
    · rw [mkS_out hf (fun z => e z.1)]; exact ih t i j
theorem mkS_17a (hf : 60 < fu) (h : ∀ t i j, Z 17 t i j = -1) (t0 : Nat) : ∀ t i j, mkS fu t0 Z 17 t i j = -1 := by
  intro t i j
  by_cases e : t = t0
  · rw [e]; exact mkS_17 hf j
  · rw [mkS_out hf (fun z => e z.1)]; exact h t i j
theorem p46 {f : Nat → Int32} {a : Nat} (h : ∀ j, Z 46 0 0 j = f j) (j : Nat) : u4 Z 46 0 0 a 1 46 0 0 j = if j = a then 1 else f j := by
  rw [u4_app]
  by_cases e : j = a
  · rw [if_pos ⟨rfl, rfl, rfl, e⟩, if_pos e]
  · rw [if_neg (fun z => e z.2.2.2), if_neg e, h]
theorem x6_46 (hf : 60 < fu) (hz : ∀ j, S 46 0 0 j = 0) (j : Nat) : x6g fu S 46 0 0 j = if j = 9 then 1 else if j = 7 then 1 else if j = 3 then 1 else if j = 2 then 1 else if j = 1 then 1 else if j = 0 then 1 else 0 := by
  have n46 : ¬ sk 46 := nsk (by omega)
  have ha : ∀ j, x6a fu S 46 0 0 j = if j = 0 then 1 else 0 := fun j => p46 (f := fun _ => 0) (fun j => by rw [mkS_k hf n46, hz]) j
  have hb : ∀ j, x6b fu S 46 0 0 j = if j = 1 then 1 else if j = 0 then 1 else 0 := fun j => by unfold x6b; exact p46 (f := fun j => if j = 0 then 1 else 0) (fun j => by rw [mkS_k hf n46, ha]) j
  have hc : ∀ j, x6c fu S 46 0 0 j = if j = 2 then 1 else if j = 1 then 1 else if j = 0 then 1 else 0 := fun j => by unfold x6c; exact p46 (f := fun j => if j = 1 then 1 else if j = 0 then 1 else 0) (fun j => by rw [mkS_k hf n46, hb]) j
  have hd : ∀ j, x6d fu S 46 0 0 j = if j = 3 then 1 else if j = 2 then 1 else if j = 1 then 1 else if j = 0 then 1 else 0 := fun j => by unfold x6d; exact p46 (f := fun j => if j = 2 then 1 else if j = 1 then 1 else if j = 0 then 1 else 0) (fun j => by rw [w4_ne (by omega), hc]) j
  have he : ∀ j, x6e fu S 46 0 0 j = if j = 7 then 1 else if j = 3 then 1 else if j = 2 then 1 else if j = 1 then 1 else if j = 0 then 1 else 0 := fun j => by unfold x6e; exact p46 (f := fun j => if j = 3 then 1 else if j = 2 then 1 else if j = 1 then 1 else if j = 0 then 1 else 0) (fun j => by rw [w4_ne (by omega), hd]) j
  unfold x6g
  exact p46 (f := fun j => if j = 7 then 1 else if j = 3 then 1 else if j = 2 then 1 else if j = 1 then 1 else if j = 0 then 1 else 0) (fun j => by
    unfold x6f sbI
    rw [w4_ne (by omega), u4_app, if_neg (by omega), u4_app, if_neg (by omega), w4_ne (by omega), w4_ne (by omega), he]) j
theorem x6_far (hf : 60 < fu) (h : ¬ sk k) (h2 : k ≠ 46 ∧ k ≠ 62 ∧ k ≠ 23 ∧ k ≠ 48 ∧ k ≠ 8 ∧ k ≠ 9 ∧ k ≠ 6) : x6S fu S k t i = S k t i := by
  obtain ⟨n46, n62, n23, n48, n8, n9, n6⟩ := h2
  unfold x6S
  rw [w4_ne (fun z => n6 z.1), lpS_k hf h n62]
  funext j
  unfold x6g x6f sbI
  rw [u4_app, if_neg (fun z => n46 z.1), w4_ne (fun z => n8 z.1), u4_app, if_neg (fun z => n48 z.1), u4_app, if_neg (fun z => n48 z.1), w4_ne (fun z => n9 z.1), w4_ne (fun z => n48 z.1)]
  unfold x6e
  rw [u4_app, if_neg (fun z => n46 z.1), w4_ne (fun z => n23 z.1)]
  unfold x6d
  rw [u4_app, if_neg (fun z => n46 z.1), w4_ne (fun z => n62 z.1)]
  unfold x6c
  rw [u4_app, if_neg (fun z => n46 z.1), mkS_k hf h]
  unfold x6b
  rw [u4_app, if_neg (fun z => n46 z.1), mkS_k hf h]
  unfold x6a
  rw [u4_app, if_neg (fun z => n46 z.1), mkS_k hf h]
/-- what the class's own state holds -/
theorem x6_0 (hf : 60 < fu) (hk : k = 4 ∨ k = 19 ∨ k = 21) : x6S fu S k 0 0 = mkS fu 0 S k 0 0 := by
  unfold x6S
  rw [w4_ne (by omega), lpS_t hf (by omega) (by omega)]
  funext j
  unfold x6g x6f sbI
  rw [u4_app, if_neg (by omega), w4_ne (by omega), u4_app, if_neg (by omega), u4_app, if_neg (by omega), w4_ne (by omega), w4_ne (by omega)]
  unfold x6e
  rw [u4_app, if_neg (by omega), w4_ne (by omega)]
  unfold x6d
  rw [u4_app, if_neg (by omega), w4_ne (by omega)]
  unfold x6c
  rw [u4_app, if_neg (by omega), mkS_out hf (by omega)]
  unfold x6b
  rw [u4_app, if_neg (by omega), mkS_out hf (by omega)]
  unfold x6a
  rw [u4_app, if_neg (by omega)]
theorem x6_6 : x6S fu S 6 0 0 j = 0 := by unfold x6S; rw [w4_self]
theorem x6_8 (hf : 60 < fu) : x6S fu S 8 0 0 j = 0 := by
  unfold x6S
  rw [w4_ne (by omega), lpS_k hf (nsk (by omega)) (by omega)]
  unfold x6g x6f
  rw [u4_app, if_neg (by omega), w4_self]
theorem x6_9 (hf : 60 < fu) : x6S fu S 9 0 0 j = if j = 200 then nI 16 else 0 := by
  unfold x6S
  rw [w4_ne (by omega), lpS_k hf (nsk (by omega)) (by omega)]
  unfold x6g x6f sbI
  rw [u4_app, if_neg (by omega), w4_ne (by omega), u4_app, if_neg (by omega), u4_app, if_neg (by omega), w4_self]
theorem x6_17 (hf : 60 < fu) (h : ∀ t i j, S 17 t i j = -1) : ∀ t i j, x6S fu S 17 t i j = -1 := by
  have ha : ∀ t i j, x6a fu S 17 t i j = -1 := fun t i j => by unfold x6a; rw [u4_app, if_neg (by omega)]; exact mkS_17a hf h 0 t i j
  have hb : ∀ t i j, x6b fu S 17 t i j = -1 := fun t i j => by unfold x6b; rw [u4_app, if_neg (by omega)]; exact mkS_17a hf ha 1 t i j
  have hc : ∀ t i j, x6c fu S 17 t i j = -1 := fun t i j => by unfold x6c; rw [u4_app, if_neg (by omega)]; exact mkS_17a hf hb 2 t i j
  have hg : ∀ t i j, x6g fu S 17 t i j = -1 := fun t i j => by
    unfold x6g x6f sbI
    rw [u4_app, if_neg (by omega), w4_ne (by omega), u4_app, if_neg (by omega), u4_app, if_neg (by omega), w4_ne (by omega), w4_ne (by omega)]
    unfold x6e
    rw [u4_app, if_neg (by omega), w4_ne (by omega)]
    unfold x6d
    rw [u4_app, if_neg (by omega), w4_ne (by omega)]
    exact hc t i j
  intro t i j
  unfold x6S
  rw [w4_ne (by omega)]
  exact lpS_17 hf hg 8 t i j
theorem lastS {ad : Ad} {n b c t : Nat} {ee P : Nat → Prop} (ha : aS ad t b) (hP : P t) (h : b + 82 = n + c) : lastN (dF ee P) ad n c := Or.inr ⟨1, t, 59, Or.inr ⟨hP, Or.inr (Or.inl ⟨rfl, by decide⟩)⟩, by rw [as1 ha (by decide)]; omega⟩
theorem nxL (x : Nat) : 250 + 82 * x + 1 + 81 = 250 + 82 * (x + 1) ∧ 3312 + 1068 * x + 16 + 1052 = 3312 + 1068 * (x + 1) := by omega
theorem rmL {x : Nat} (hx : x < 8) : 250 + 82 * x + 1 + 81 ≤ 906 ∧ 3312 + 1068 * x + 16 + 1052 ≤ 11856 := by omega
theorem ctF_6 {cA : Nat → ClassId} {ad : Ad} (hf : 60 < fu) (hz : ∀ j, S 46 0 0 j = 0) : ct cA ad 6 0 0 (x6S fu S 6 0 0) = ct cA ad 46 0 0 (lpS fu 8 (x6g fu S) 46 0 0) := by
  have e6 : ∀ j, x6S fu S 6 0 0 j = 0 := fun j => x6_6
  have e46 : ∀ j, lpS fu 8 (x6g fu S) 46 0 0 j = if j = 9 then 1 else if j = 7 then 1 else if j = 3 then 1 else if j = 2 then 1 else if j = 1 then 1 else if j = 0 then 1 else 0 := fun j => by rw [lpS_k hf (nsk (by omega)) (by omega), x6_46 hf hz]
  simp only [ct, e6, e46]
  rfl
end XS
set_option maxHeartbeats 4000000 in
theorem X6_loop {l : Launch} {D : va_G} {cA : Nat → ClassId} {ad : Ad} {n fu : Nat} {S : S4} (hfu : 60 < fu) (ha : aX ad n) (hz : ∀ j, S 46 0 0 j = 0) {p : Program} {e : Env} {s : State} {m : MethodId} {args : Array Value} {below : List Frame} {meth : Method} {c : Code} {A : Nat → Prop} (hr : meth.sig.returnType = none) (hY : gY A s s.heap) (hsz : s.heap.size = n) : ∀ (d x : Nat), x + d = 8 → GX D cA (dF (fun k => k = 46 ∨ k = 62 ∨ k = 23 ∨ k = 8 ∨ k = 9) (fun t => t < 3 + x)) ad A 2 p s m args meth c yX6_init.cls cX6_init → V D cA (dF (fun k => k = 46 ∨ k = 62 ∨ k = 23 ∨ k = 8 ∨ k = 9) (fun t => t < 3 + x)) ad A 2 p l e ({ frames := 3, cells := 906, slots := 11856, locals := 100 }) s m args below meth c (250 + 82 * x) (3312 + 1068 * x) (MQ below (gQF D cA (dF (fun k => k = 6 ∨ k = 22 ∨ k = 23 ∨ k = 8 ∨ k = 9) (fun t => t < 11)) ad (x6S fu S) A) args s 906 11856 A) (lpS fu x (x6g fu S)) 67 [(1, .int (nI x)), (0, .ref (ad 46 0 0))] [] := by
  obtain ⟨-, ⟨a62, a22, -, -, -, a9⟩, hL, a6⟩ := id ha
  intro d
  induction d with
  | zero =>
    intro x hx X
    obtain rfl : x = 8 := by omega
    refine V_iload_n X dX6_init_67 rfl 0 rfl ?_
    refine V_bipush X (8 : Int32) dX6_init_68 (by decide) ?_
    refine V_icmp_ge X 92 dX6_init_70 (by decide) (fun _ => ?_) (fun c9 => absurd (show nI 8 ≤ nI 8 from nI_le (Nat.le_refl _) (by decide)) c9)
    refine V_renF X (k := 62) (k2 := 22) (t := 0) (i := 0) (dm' := ren (dF (fun k => k = 46 ∨ k = 62 ∨ k = 23 ∨ k = 8 ∨ k = 9) (fun t => t < 3 + 8)) 62 0 0 22) (S' := lpS fu 8 (x6g fu S)) (Or.inl ⟨rfl, rfl, by decide⟩) (a22.trans a62.symm) (fun H hv => ?_) (fun k t x h => h.imp id (fun h => ⟨h.1, h.2, rfl⟩)) (fun X1 => ?_)
    · have hv : H[ad 62 0 0]? = some (arrV (cA 2) 8 (fun j => va_rf (ro (lpS fu 8 (x6g fu S) 62 0 0 j) (ad 4 (3 + j) 0)))) := hv
      show H[ad 62 0 0]? = some (arrV (cA 2) 8 (fun j => va_rf (some (ad 4 (3 + j) 0))))
      rw [hv]
      exact congrArg some (arrV_same (fun j hj => by rw [ro_v (lpS_62 hfu 8 j hj)]))
    refine V_renF X1 (k := 46) (k2 := 6) (t := 0) (i := 0) (dm' := ren (ren (dF (fun k => k = 46 ∨ k = 62 ∨ k = 23 ∨ k = 8 ∨ k = 9) (fun t => t < 3 + 8)) 62 0 0 22) 46 0 0 6) (S' := x6S fu S) (Or.inr ⟨Or.inl ⟨rfl, rfl, by decide⟩, by decide⟩) a6 (fun H hv => ?_) (fun k t x h => ?_) (fun X2 => ?_)
    · rw [ctF_6 hfu hz]; exact hv
    · rcases h with h | ⟨h1, h2⟩
      · exact Or.inl h
      · by_cases e6 : k = 6 ∧ t = 0 ∧ x = 0
        · exact Or.inl e6
        · exact Or.inr ⟨h1, h2, by unfold x6S; rw [w4_ne e6]⟩
    refine V_dom X2 (dm' := dF (fun k => k = 6 ∨ k = 22 ∨ k = 23 ∨ k = 8 ∨ k = 9) (fun t => t < 11)) (S' := x6S fu S) (fun k t x h => ⟨?_, rfl⟩) (fun X3 => ?_)
    · rcases h with ⟨rfl, rfl, h⟩ | ⟨h1, h2⟩
      · unfold ren dF
        rcases h with rfl | rfl | rfl | rfl | rfl
        · exact Or.inl ⟨rfl, rfl, rfl⟩
        · exact Or.inr ⟨Or.inl ⟨rfl, rfl, rfl⟩, by decide⟩
        · exact Or.inr ⟨Or.inr ⟨Or.inl ⟨rfl, rfl, by decide⟩, by decide⟩, by decide⟩
        · exact Or.inr ⟨Or.inr ⟨Or.inl ⟨rfl, rfl, by decide⟩, by decide⟩, by decide⟩
        · exact Or.inr ⟨Or.inr ⟨Or.inl ⟨rfl, rfl, by decide⟩, by decide⟩, by decide⟩
      · have hk := stK_sk h2
        have n62 : k ≠ 62 := fun z => nsk (k := 62) (by decide) (by rw [z] at hk; exact hk)
        have n46 : k ≠ 46 := fun z => nsk (k := 46) (by decide) (by rw [z] at hk; exact hk)
        exact Or.inr ⟨Or.inr ⟨Or.inr ⟨h1, h2⟩, fun z => n62 z.1⟩, fun z => n46 z.1⟩
    exact V_sub [] rfl (V_vretF X3 hr dX6_init_92)
  | succ d ih =>
    intro x hx X
    have hx8 := lt_of hx
    refine V_iload_n X dX6_init_67 rfl 0 rfl ?_
    refine V_bipush X (8 : Int32) dX6_init_68 (by decide) ?_
    refine V_icmp_ge X 92 dX6_init_70 (by decide) (fun c9 => absurd c9 (show ¬ nI 8 ≤ nI x from nI_ge hx8 (by decide))) (fun _ => ?_)
    refine V_aload_n X dX6_init_73 rfl 1 rfl ?_
    refine V_get X dX6_init_74 r_X6_22 (Or.inl ⟨rfl, rfl, Or.inl rfl⟩) rfl (v := .ref (ad 62 0 0)) ?_ ?_
    · show some (rc (lpS fu x (x6g fu S) 46 0 0 3) (ad 22 0 0)) = _
      rw [lpS_k hfu (nsk (by omega)) (by omega), x6_46 hfu hz, a22, a62]
      rfl
    refine V_iload_n X dX6_init_77 rfl 0 rfl ?_
    have hlow : lastN (dF (fun k => k = 46 ∨ k = 62 ∨ k = 23 ∨ k = 8 ∨ k = 9) (fun t => t < 3 + x)) ad n (250 + 82 * x) := by
        cases x with
        | zero => exact Or.inr ⟨9, 0, 0, Or.inl ⟨rfl, rfl, by decide⟩, by rw [a9]⟩
        | succ y => exact lastS (t := 3 + y) (hL y (by omega)) (by omega) (by omega)
    refine V_state X hY hsz hlow (t := 3 + x) (fun k h => nsk (by omega)) (by omega) (hL x hx8) hfu (rmL hx8).1 (rmL hx8).2 ⟨Nat.le_of_ble_eq_true rfl, Nat.le_of_ble_eq_true rfl⟩ dX6_init_78 dX6_init_81 dX6_init_82 (Nat.le_of_ble_eq_true rfl) (fun X1 => ?_)
    refine V_aastU X1 (k := 62) (t := 0) (i := 0) (q := 2) (N := 8) (ke := 4) (te := 3 + x) (ie := 0) (fe := fun j => ad 4 (3 + j) 0) dX6_init_85 (Or.inl ⟨rfl, rfl, Or.inr (Or.inl rfl)⟩) (fun _ => rfl) rfl (inb_nI hx8 (by decide)) (Or.inr ⟨Or.inr rfl, Or.inr (Or.inr (Or.inr (Or.inr ⟨rfl, Or.inl rfl⟩)))⟩) rfl rfl (by rw [nI_clamp (Nat.lt_trans hx8 (by decide))]) (fun Z eZ => ?_)
    rw [nI_clamp (Nat.lt_trans hx8 (by decide))] at eZ
    refine V_dom X1 (dm' := dF (fun k => k = 46 ∨ k = 62 ∨ k = 23 ∨ k = 8 ∨ k = 9) (fun t => t < 3 + (x + 1))) (S' := lpS fu (x + 1) (x6g fu S)) (fun k t y h => ⟨?_, by rw [eZ]; rfl⟩) (fun X2 => ?_)
    · exact h.imp id (fun h => ⟨by have := h.1; omega, h.2⟩)
    refine V_iinc X2 (nI (x + 1)) dX6_init_86 0 rfl (nI_1 x) [(1, .int (nI (x + 1))), (0, .ref (ad 46 0 0))] (by decide) rfl ?_
    refine V_goto X2 67 dX6_init_89 (by decide) ?_
    exact V_widen (Nat.le_of_eq (nxL x).1) (Nat.le_of_eq (nxL x).2) (ih (x + 1) (ih_of hx) X2)
set_option maxHeartbeats 4000000 in
theorem c_X6_init {l : Launch} {D : va_G} {cA : Nat → ClassId} {ad : Ad} {n fu : Nat} {S : S4} (hfu : 60 < fu) (ha : aX ad n) (hz : ∀ j, S 46 0 0 j = 0) : CtF D cA (dF (fun k => k = 46) (fun _ => False)) (dF (fun k => k = 6 ∨ k = 22 ∨ k = 23 ∨ k = 8 ∨ k = 9) (fun t => t < 11)) ad l yX6_init cX6_init 2 3 100 906 11856 n S [.ref (ad 46 0 0)] (x6S fu S) := by
  refine CtF.of (by decide +kernel) (Nat.le_of_ble_eq_true rfl) [(0, .ref (ad 46 0 0))] rfl (fun p e s m args below meth c A X hr hY hnm hsz => ?_)
  obtain ⟨⟨aS0, aS1, aS2⟩, ⟨a62, a22, a23, a48, a8, a9⟩, hL, a6⟩ := id ha
  refine V_aload_n X dX6_init_0 rfl 0 rfl ?_
  refine V_objInit X o_X6_1 o_1 o_2 ⟨Nat.le_of_ble_eq_true rfl, Nat.le_of_ble_eq_true rfl⟩ (Nat.zero_le _) dX6_init_1 ?_
  refine V_aload_n X dX6_init_4 rfl 0 rfl ?_
  refine V_state X hY hsz (Or.inl rfl) (t := 0) (fun k h => nsk (by omega)) id aS0 hfu (Nat.le_of_ble_eq_true rfl) (Nat.le_of_ble_eq_true rfl) ⟨Nat.le_of_ble_eq_true rfl, Nat.le_of_ble_eq_true rfl⟩ dX6_init_5 dX6_init_8 dX6_init_9 (Nat.le_of_ble_eq_true rfl) (fun X1 => ?_)
  refine V_putF X1 hnm (k := 46) (t := 0) (i := 0) (x := 1) dX6_init_12 ff_X6_10 (Or.inl ⟨rfl, rfl, rfl⟩) rfl (Nat.le_of_ble_eq_true rfl) rfl rfl rfl (fun W0 eW0 => ?_)
  obtain rfl : W0 = x6a fu S := eW0
  refine V_aload_n X1 dX6_init_15 rfl 0 rfl ?_
  refine V_state X1 hY hsz (lastS (t := 0) aS0 (Or.inr rfl) (by omega)) (t := 1) (fun k h => nsk (by omega)) (show ¬ (False ∨ 1 = 0) by decide) aS1 hfu (Nat.le_of_ble_eq_true rfl) (Nat.le_of_ble_eq_true rfl) ⟨Nat.le_of_ble_eq_true rfl, Nat.le_of_ble_eq_true rfl⟩ dX6_init_16 dX6_init_19 dX6_init_20 (Nat.le_of_ble_eq_true rfl) (fun X2 => ?_)
  refine V_putF X2 hnm (k := 46) (t := 0) (i := 0) (x := 1) dX6_init_23 ff_X6_16 (Or.inl ⟨rfl, rfl, rfl⟩) rfl (Nat.le_of_ble_eq_true rfl) rfl rfl rfl (fun W1 eW1 => ?_)
  obtain rfl : W1 = x6b fu S := eW1
  refine V_aload_n X2 dX6_init_26 rfl 0 rfl ?_
  refine V_state X2 hY hsz (lastS (t := 1) aS1 (Or.inr rfl) (by omega)) (t := 2) (fun k h => nsk (by omega)) (show ¬ ((False ∨ 2 = 0) ∨ 2 = 1) by decide) aS2 hfu (Nat.le_of_ble_eq_true rfl) (Nat.le_of_ble_eq_true rfl) ⟨Nat.le_of_ble_eq_true rfl, Nat.le_of_ble_eq_true rfl⟩ dX6_init_27 dX6_init_30 dX6_init_31 (Nat.le_of_ble_eq_true rfl) (fun X3 => ?_)
  refine V_putF X3 hnm (k := 46) (t := 0) (i := 0) (x := 1) dX6_init_34 ff_X6_19 (Or.inl ⟨rfl, rfl, rfl⟩) rfl (Nat.le_of_ble_eq_true rfl) rfl rfl rfl (fun W2 eW2 => ?_)
  obtain rfl : W2 = x6c fu S := eW2
  refine V_aload_n X3 dX6_init_37 rfl 0 rfl ?_
  refine V_bipush X3 (8 : Int32) dX6_init_38 (by decide) ?_
  refine V_anewX X3 hsz (lastS (t := 2) aS2 (Or.inr rfl) (by omega)) cl_X6_7 (hY.2.2 RX4 (by decide)) (k := 62) (t := 0) (i := 0) (q := 2) (N := 8) (a0 := (8, .inr (.inr (.inr (.inr (fun _ => none)))))) (r0 := fun _ => 0) rfl a62 (fun _ => rfl) rfl (by decide) (by decide) (by decide) (Nat.le_of_ble_eq_true rfl) (Nat.le_of_ble_eq_true rfl) dX6_init_40 (fun X4 => ?_)
  rw [show ad 62 0 0 = ad 22 0 0 from a62.trans a22.symm]
  refine V_putF X4 hnm (k := 46) (t := 0) (i := 0) (x := 1) dX6_init_43 ff_X6_22 (Or.inr (Or.inl ⟨rfl, rfl, rfl⟩)) rfl (Nat.le_of_ble_eq_true rfl) rfl rfl rfl (fun W3 eW3 => ?_)
  obtain rfl : W3 = x6d fu S := eW3
  refine V_aload_n X4 dX6_init_46 rfl 0 rfl ?_
  refine V_bipush X4 (80 : Int32) dX6_init_47 (by decide) ?_
  refine V_newaX X4 hsz (Or.inr ⟨62, 0, 0, Or.inl ⟨rfl, rfl, rfl⟩, by rw [a62]⟩) (atype := .char) (ty := .char) (k := 23) (t := 0) (i := 0) (q := 1) (N := 80) (a0 := (80, .inl (fun _ => 0))) (r0 := fun _ => 0) rfl ar_char rfl a23 (fun _ => rfl) rfl (by decide) (by decide) (by decide) (Nat.le_of_ble_eq_true rfl) (Nat.le_of_ble_eq_true rfl) dX6_init_49 (fun X5 => ?_)
  refine V_putF X5 hnm (k := 46) (t := 0) (i := 0) (x := 1) dX6_init_51 ff_X6_26 (Or.inr (Or.inr (Or.inl ⟨rfl, rfl, rfl⟩))) rfl (Nat.le_of_ble_eq_true rfl) rfl rfl rfl (fun W4 eW4 => ?_)
  obtain rfl : W4 = x6e fu S := eW4
  refine V_aload_n X5 dX6_init_54 rfl 0 rfl ?_
  refine V_newX X5 hsz (Or.inr ⟨23, 0, 0, Or.inl ⟨rfl, rfl, rfl⟩, by rw [a23]⟩) (k := 48) (t := 0) (i := 0) (r0 := fun _ => 0) gc8 cl_X6_30 in_RJ4 ni_RJ4 a48 rfl (fs := [.null, .int 0, .int 0, .int 0]) (by intro j hj; rcases (by omega : j = 0 ∨ j = 1 ∨ j = 2 ∨ j = 3) with rfl | rfl | rfl | rfl <;> rfl) (Nat.le_of_ble_eq_true rfl) (Nat.le_of_ble_eq_true rfl) dX6_init_55 (fun X6 => ?_)
  refine V_dup X6 dX6_init_58 rfl ?_
  refine V_callIF X6 hY hsz (Or.inr ⟨48, 0, 0, Or.inl ⟨rfl, rfl, rfl⟩, by rw [a48]⟩) [] dX6_init_59 m_X6_32 rfl i_J4_init_da8c8 ⟨Nat.le_of_ble_eq_true rfl, Nat.le_of_ble_eq_true rfl⟩ ⟨Nat.le_of_ble_eq_true rfl, Nat.le_of_ble_eq_true rfl⟩ rfl (Nat.le_of_ble_eq_true rfl) (c_J4_init (Or.inl ⟨rfl, rfl, rfl⟩) a9) (fun X7 => ?_)
  refine V_renF X7 (k := 48) (k2 := 8) (t := 0) (i := 0) (dm' := dF (fun k => k = 46 ∨ k = 62 ∨ k = 23 ∨ k = 8 ∨ k = 9) (fun t => t < 3)) (S' := x6f fu S) (Or.inr (Or.inl ⟨rfl, rfl, rfl⟩)) (a8.trans a48.symm) (fun H hv => ?_) (fun k t x h => ?_) (fun X8 => ?_)
  · have e8 : ∀ j, x6f fu S 8 0 0 j = 0 := fun j => by unfold x6f; rw [w4_self]
    have e48 : ∀ j, sbI (w4 (x6e fu S) 48 0 0 (fun _ => 0)) 48 0 0 j = if j = 3 then 1 else 0 := fun j => by
      unfold sbI
      rw [u4_app]
      by_cases h1 : j = 1
      · subst h1; rfl
      · rw [if_neg (fun z => h1 z.2.2.2), u4_app]
        by_cases h3 : j = 3
        · rw [if_pos ⟨rfl, rfl, rfl, h3⟩, if_pos h3]
        · rw [if_neg (fun z => h3 z.2.2.2), w4_ne (by omega), w4_self, if_neg h3]
    have ee : ct cA ad 8 0 0 (x6f fu S 8 0 0) = ct cA ad 48 0 0 (sbI (w4 (x6e fu S) 48 0 0 (fun _ => 0)) 48 0 0) := by
      simp only [ct, e8, e48]
      rfl
    rw [ee]; exact hv
  · by_cases e8 : k = 8 ∧ t = 0 ∧ x = 0
    · exact Or.inl e8
    · refine Or.inr ⟨?_, ?_, by unfold x6f; rw [w4_ne e8]⟩
      · rcases h with ⟨rfl, rfl, h⟩ | ⟨h1, h2⟩
        · rcases h with rfl | rfl | rfl | rfl | rfl
          · exact Or.inr (Or.inr (Or.inr (Or.inr (Or.inl ⟨rfl, rfl, rfl⟩))))
          · exact Or.inr (Or.inr (Or.inr (Or.inl ⟨rfl, rfl, rfl⟩)))
          · exact Or.inr (Or.inr (Or.inl ⟨rfl, rfl, rfl⟩))
          · exact absurd ⟨rfl, rfl, rfl⟩ e8
          · exact Or.inl ⟨rfl, rfl, rfl⟩
        · exact Or.inr (Or.inr (Or.inr (Or.inr (Or.inr ⟨by omega, h2⟩))))
      · rintro ⟨rfl, rfl, rfl⟩
        rcases h with ⟨-, -, h⟩ | ⟨h1, h2⟩
        · exact absurd h (by decide)
        · exact nsk (by omega) (stK_sk h2)
  rw [show ad 48 0 0 = ad 8 0 0 from a48.trans a8.symm]
  refine V_putF X8 hnm (k := 46) (t := 0) (i := 0) (x := 1) dX6_init_62 ff_X6_33 (Or.inl ⟨rfl, rfl, Or.inl rfl⟩) rfl (Nat.le_of_ble_eq_true rfl) rfl rfl rfl (fun W5 eW5 => ?_)
  obtain rfl : W5 = x6g fu S := eW5
  refine V_iconst X8 (0 : Int32) dX6_init_65 (by decide) ?_
  refine V_istore_n X8 dX6_init_66 rfl [(1, .int (0 : Int32)), (0, .ref (ad 46 0 0))] (by decide) rfl ?_
  exact X6_loop hfu ha hz hr hY hsz 8 0 (by decide) X8
