/-! a state made whole: the store behind it, and the rule -/
def dF (e P : Nat → Prop) : Dm := fun k t x => (t = 0 ∧ x = 0 ∧ e k) ∨ (P t ∧ stK k x)
def mkZ (t : Nat) (S : S4) : S4 := zS (w4 S 44 t 0 (fun _ => 0)) t 3 8 60
noncomputable def mkS (fu t : Nat) (S : S4) : S4 := (s_X4_reset fu t 12 (mkZ t S)).getD S
section MK
variable {fu t k t' x j : Nat} {S S' : S4} {p : Int32}
theorem stK_sk {k x : Nat} (h : stK k x) : sk k := by
  unfold stK at h
  unfold sk
  omega
theorem reset_row (hf : 60 < fu) (hs : s_X4_reset fu t p S = some S') (h : ¬ (t' = t ∧ x = 0 ∧ (k = 4 ∨ k = 19 ∨ k = 21))) : S' k t' x = S k t' x := by
  unfold s_X4_reset at hs
  rw [sv_e, sv_e, sv_e, sv_e, sv_e, sv_e, sv_e, sv_e, sv_e] at hs
  generalize hY : u4 (u4 (u4 (u4 (u4 (u4 (u4 (u4 (u4 S 4 t 0 1 p) 4 t 0 0 0) 4 t 0 2 0) 4 t 0 3 0) 4 t 0 4 0) 4 t 0 5 0) 4 t 0 6 0) 4 t 0 7 0) 4 t 0 8 0 = Y at hs
  have eY : Y k t' x = S k t' x := by
    rw [← hY]
    funext j
    have n4 : ∀ j0, ¬ (k = 4 ∧ t' = t ∧ x = 0 ∧ j = j0) := fun j0 z => h ⟨z.2.1, z.2.2.1, Or.inl z.1⟩
    rw [u4_app, if_neg (n4 _), u4_app, if_neg (n4 _), u4_app, if_neg (n4 _), u4_app, if_neg (n4 _), u4_app, if_neg (n4 _), u4_app, if_neg (n4 _), u4_app, if_neg (n4 _), u4_app, if_neg (n4 _), u4_app, if_neg (n4 _)]
  obtain ⟨S1, a1, a2, a3⟩ := k_fill (S := Y) (fu := fu) (k := 19) (t := t) (i := 0) (n := 30) (x := -1) (by decide) (by omega)
  obtain ⟨S2, c1, c2, c3⟩ := k_fill (S := S1) (fu := fu) (k := 21) (t := t) (i := 0) (n := 4) (x := 0) (by decide) (by omega)
  rw [a1, bd_s, c1, bd_s] at hs
  rw [← Option.some.inj hs, c2 _ _ _ (fun z => h ⟨z.2.1, z.2.2, Or.inr (Or.inr z.1)⟩), a2 _ _ _ (fun z => h ⟨z.2.1, z.2.2, Or.inr (Or.inl z.1)⟩), eY]
theorem mkS_eq (hf : 60 < fu) : s_X4_reset fu t 12 (mkZ t S) = some (mkS fu t S) := by
  obtain ⟨S', h, -⟩ := k_reset (S := mkZ t S) (t := t) (pc := 12) hf
  have h2 : s_X4_reset fu t 12 (mkZ t S) = some S' := h
  unfold mkS
  rw [h2]
  rfl
theorem mkS_row (hf : 60 < fu) (h : ¬ (t' = t ∧ x = 0 ∧ (k = 4 ∨ k = 19 ∨ k = 21))) : mkS fu t S k t' x = mkZ t S k t' x := reset_row hf (mkS_eq hf) h
theorem mkS_out (hf : 60 < fu) (h : ¬ (t' = t ∧ sk k)) : mkS fu t S k t' x = S k t' x := by
  rw [mkS_row hf (fun z => h ⟨z.1, by unfold sk; omega⟩)]
  unfold mkZ
  rw [zS_out h, w4_ne (fun z => h ⟨z.2.1, by rw [z.1]; unfold sk; omega⟩)]
theorem mkS_k (hf : 60 < fu) (h : ¬ sk k) : mkS fu t S k t' x = S k t' x := mkS_out hf (fun z => h z.2)
theorem mkS_17 (hf : 60 < fu) (j : Nat) : mkS fu t S 17 t x j = -1 := by
  rw [mkS_row hf (by omega)]
  unfold mkZ
  rw [zS_in (by unfold sk; omega)]
  rfl
theorem mkS_new (hf : 60 < fu) : mkS fu t S 4 t 0 1 = 12 ∧ (∀ j, j ≠ 1 → j < 9 → mkS fu t S 4 t 0 j = 0) ∧ (∀ k, k < 30 → mkS fu t S 19 t 0 k = -1) ∧ ∀ w, w < 4 → mkS fu t S 21 t 0 w = 0 := by
  obtain ⟨S', h, -, h1, h2, h3, h4⟩ := k_reset (S := mkZ t S) (t := t) (pc := 12) hf
  have h0 : s_X4_reset fu t 12 (mkZ t S) = some S' := h
  have e : S' = mkS fu t S := Option.some.inj (h0.symm.trans (mkS_eq hf))
  rw [← e]
  exact ⟨h1, h2, h3, h4⟩
end MK
section VS
variable {D : va_G} {cA : Nat → ClassId} {ad : Ad} {A : Nat → Prop} {nL n fu t : Nat} {p : Program} {l : Launch} {e : Env} {R : Room} {s : State} {m : MethodId} {args : Array Value} {below : List Frame} {meth : Method} {c : Code} {cells slots : Nat} {Q : State → Prop} {cc : ByteArray} {S S' : S4} {pc : Nat} {lv lv' : List (Nat × Value)} {st : List Value} {ee P : Nat → Prop}
theorem V_state (X : GX D cA (dF ee P) ad A nL p s m args meth c RX6 cc) (hY : gY A s s.heap) (hsz : s.heap.size = n) (hlow : lastN (dF ee P) ad n cells) (he : ∀ k, ee k → ¬ sk k) (hP : ¬ P t) (ha : aS ad t (n + cells)) (hfu : 60 < fu) (hcells : cells + 1 + 81 ≤ R.cells) (hslots : slots + 16 + 1052 ≤ R.slots) (hR : 3 ≤ R.frames ∧ 81 ≤ R.locals) (d0 : decode cc pc = .ok (.new 7, 3)) (d3 : decode cc (pc + 3) = .ok (.dup, 1)) (d4 : decode cc (pc + 3 + 1) = .ok (.invokespecial 9, 3)) (hst : ((.ref (ad 44 t 0) :: st).map fun v => v.category).sum ≤ 8)
    (kk : GX D cA (dF ee (fun t' => P t' ∨ t' = t)) ad A nL p s m args meth c RX6 cc → V D cA (dF ee (fun t' => P t' ∨ t' = t)) ad A nL p l e R s m args below meth c (cells + 1 + 81) (slots + 16 + 1052) Q (mkS fu t S) (pc + 3 + 1 + 3) lv (.ref (ad 4 t 0) :: st)) : V D cA (dF ee P) ad A nL p l e R s m args below meth c cells slots Q S pc lv st := by
  refine V_newX X hsz hlow (k := 44) (t := t) (i := 0) (r0 := fun _ => 0) gc4 cl_X6_7 in_RX4 ni_X4 (as44 ha) rfl (fs := [.int 0, .int 0, .int 0, .int 0, .int 0, .int 0, .int 0, .int 0, .int 0, .null, .null, .null, .null, .null, .null, .null]) (by intro j hj; rcases (by omega : j = 0 ∨ j = 1 ∨ j = 2 ∨ j = 3 ∨ j = 4 ∨ j = 5 ∨ j = 6 ∨ j = 7 ∨ j = 8 ∨ j = 9 ∨ j = 10 ∨ j = 11 ∨ j = 12 ∨ j = 13 ∨ j = 14 ∨ j = 15) with rfl | rfl | rfl | rfl | rfl | rfl | rfl | rfl | rfl | rfl | rfl | rfl | rfl | rfl | rfl | rfl <;> rfl) (Nat.le_trans (Nat.le_add_right _ 81) hcells) (Nat.le_trans (Nat.le_add_right _ 1052) hslots) d0 (fun X1 => ?_)
  refine V_dup X1 d3 rfl ?_
  have hN : NS (dmu (dF ee P) 44 t 0) t := by
    intro k x hk h
    rcases h with h | h | h
    · exact ⟨h.1, h.2.2⟩
    · exact absurd hk (he k h.2.2)
    · exact absurd h.1 hP
  refine V_callIF X1 hY hsz (Or.inr ⟨44, t, 0, Or.inl ⟨rfl, rfl, rfl⟩, hlast (as44 ha)⟩) [] d4 m_X6_9 rfl ii_X4_init hR ⟨hcells, hslots⟩ rfl hst (c_X4_init (b := n + cells) (Or.inl ⟨rfl, rfl, rfl⟩) hN (fun j => by rw [w4_self]) ha (mkS_eq hfu)) (fun X2 => ?_)
  refine V_dom X2 (dm' := dF ee (fun t' => P t' ∨ t' = t)) (S' := mkS fu t S) (fun k t' x h => ⟨?_, rfl⟩) (fun X3 => ?_)
  · rcases h with h | ⟨h1, h2⟩
    · exact Or.inr ⟨Or.inr (Or.inl h), fun z => he k h.2.2 (by rw [z.2]; unfold sk; omega)⟩
    · by_cases ht : t' = t
      · exact Or.inl ⟨ht, h2⟩
      · exact Or.inr ⟨Or.inr (Or.inr ⟨h1.resolve_right ht, h2⟩), fun z => ht z.1⟩
  rw [show ad 44 t 0 = ad 4 t 0 from (as44 ha).trans (as4 ha).symm]
  exact kk X3
end VS
