/-! Plan's constructor -/
section PN
variable {D : va_G} {cA : Nat → ClassId} {dm : Dm} {ad : Ad} {A : Nat → Prop} {nL : Nat} {p : Program} {l : Launch} {e : Env} {R : Room} {s : State} {m : MethodId} {args : Array Value} {below : List Frame} {meth : Method} {c : Code} {cells slots : Nat} {Q : State → Prop} {own : String} {cc : ByteArray} {S S' : S4} {pc : Nat} {lv lv' : List (Nat × Value)} {st : List Value}
/-- newarray int, its new name seen through the new addresses -/
theorem V_newi (X : GX D cA dm ad A nL p s m args meth c own cc) {k t i N : Nat} {n : Int32} (hct : ∀ (ad' : Ad) (r : Nat → Int32), ct cA ad' k t i r = .inl (cA 0, N, .inl r)) (hn : ¬ n < 0) (hN : n.toNatClampNeg = N) (hbytes : N * 4 ≤ 536870912) (hold : ∀ z k' t' i', dm k' t' i' → ¬ (k' = k ∧ t' = t ∧ i' = i) → ct cA (adu ad k t i z) k' t' i' (S k' t' i') = ct cA ad k' t' i' (S k' t' i')) (hcells : cells + 1 ≤ R.cells) (hslots : slots + N ≤ R.slots) (hdg : decode cc pc = .ok (.newarray .int, 2))
    (kk : ∀ ad2 : Ad, (∀ k' t' i', ¬ (k' = k ∧ t' = t ∧ i' = i) → ad2 k' t' i' = ad k' t' i') → GX D cA (dmu dm k t i) ad2 A nL p s m args meth c own cc → V D cA (dmu dm k t i) ad2 A nL p l e R s m args below meth c (cells + 1) (slots + N) Q (w4 S k t i (fun _ => 0)) (pc + 2) lv (.ref (ad2 k t i) :: st)) : V D cA dm ad A nL p l e R s m args below meth c cells slots Q S pc lv (.int n :: st) := by
  refine V_newa X (q := 0) (a0 := (N, .inl (fun _ => 0))) (r0 := fun _ => 0) (ty := .int) rfl (gin 153 (by decide +kernel) (by decide +kernel)) rfl (fun _ => rfl) (fun ad' => hct ad' _) hn hN hbytes (hold_eq hold) hcells hslots hdg (fun z _ _ X2 => ?_)
  have h := kk (adu ad k t i z) (fun k' t' i' hh => adu_ne hh) X2
  rw [adu_self] at h
  exact h
theorem ff_X2_15 : FF RX2 15 2 4 (.array .int) := ⟨TX2, 8, tyX2, gc2, by decide, rfl, rfl, gin 682 (by decide +kernel) (by decide +kernel), rfl⟩
theorem ff_X2_19 : FF RX2 19 2 5 (.array .int) := ⟨TX2, 8, tyX2, gc2, by decide, rfl, rfl, gin 683 (by decide +kernel) (by decide +kernel), rfl⟩
theorem ff_X2_22 : FF RX2 22 2 6 (.array .int) := ⟨TX2, 8, tyX2, gc2, by decide, rfl, rfl, gin 684 (by decide +kernel) (by decide +kernel), rfl⟩
theorem ff_X2_25 : FF RX2 25 2 7 (.array .int) := ⟨TX2, 8, tyX2, gc2, by decide, rfl, rfl, gin 687 (by decide +kernel) (by decide +kernel), rfl⟩
theorem o_1 : Cond.instanceMethod Lib.objectInit ∈ gT := gin 114 (by decide +kernel) (by decide +kernel)
theorem o_2 : Cond.code Lib.objectInit ⟨#[0xb1]⟩ 1 none ∈ gT := gin 115 (by decide +kernel) (by decide +kernel)
theorem o_X2_3 : Cond.methodLink RX2 3 Lib.objectInit ∈ gT := gin 666 (by decide +kernel) (by decide +kernel)
theorem agE_new {ad2 : Ad} {k t i : Nat} (h : ¬ dm k t i) (ha : ∀ k' t' i', ¬ (k' = k ∧ t' = t ∧ i' = i) → ad2 k' t' i' = ad k' t' i') : agE dm ad ad2 := fun k' t' i' hd _ => ha k' t' i' (fun z => h (by obtain ⟨rfl, rfl, rfl⟩ := z; exact hd))
theorem dmu_in {k t i k' t' i' : Nat} (h : dm k' t' i') : dmu dm k t i k' t' i' := Or.inr h
/-- the names of a plan's arrays, none of which is there yet -/
def Pfree (dm : Dm) (i : Nat) : Prop := (∀ t, ¬ dm 2 t i) ∧ (∀ t, dm 42 t i → t = 0) ∧ ∀ k, 10 ≤ k → k ≤ 13 → ¬ dm k 0 i
end PN
/-- the store behind Plan's constructor -/
def n_X2_init (i : Nat) (S : S4) : S4 := u4 (w4 (u4 (w4 (u4 (w4 (u4 (w4 (u4 S 42 0 i 3 3) 10 0 i (fun _ => 0)) 42 0 i 4 1) 11 0 i (fun _ => 0)) 42 0 i 5 1) 12 0 i (fun _ => 0)) 42 0 i 6 1) 13 0 i (fun _ => 0)) 42 0 i 7 1
def eP (dm : Dm) (i : Nat) : Dm := dmu (dmu (dmu (dmu dm 10 0 i) 11 0 i) 12 0 i) 13 0 i
theorem c_X2_init {l : Launch} {D : va_G} {cA : Nat → ClassId} {dm : Dm} {ad : Ad} {i : Nat} {S : S4} (h42 : dm 42 0 i) (hz : ∀ j, S 42 0 i j = 0) (hfr : Pfree dm i) : CtE D cA dm (eP dm i) ad l yX2_init cX2_init 1 none 1 20 4 48 S [.ref (ad 42 0 i)] none (n_X2_init i S) := by
  refine CtE.ofI (by decide +kernel) (Nat.le_of_ble_eq_true rfl) [(0, .ref (ad 42 0 i))] rfl (fun p e s m args below meth c A X hr hnm => ?_)
  obtain ⟨f2, f42, fk⟩ := hfr
  refine V_aload_n X dX2_init_0 rfl 0 rfl ?_
  refine V_objInit X o_X2_3 o_1 o_2 (by decide) (Nat.zero_le _) dX2_init_1 ?_
  refine V_aload_n X dX2_init_4 rfl 0 rfl ?_
  refine V_iconst X (3 : Int32) dX2_init_5 (by decide) ?_
  refine V_put X dX2_init_6 f_X2_9 h42 rfl (Nat.le_of_ble_eq_true rfl) rfl rfl rfl (fun Z1 e1 => ?_)
  refine V_aload_n X dX2_init_9 rfl 0 rfl ?_
  refine V_bipush X (8 : Int32) dX2_init_10 (by decide) ?_
  have z1 : ∀ j, j ≠ 3 → Z1 42 0 i j = 0 := fun j hj => by rw [e1, u4_app, if_neg (by omega)]; exact hz j
  refine V_newi X (k := 10) (t := 0) (i := i) (N := 8) (fun _ _ => rfl) (by decide) (by decide) (by decide) (fun z k' t' i' hd hn => holdP (by decide) (fun q => f2 t' (by obtain ⟨rfl, rfl⟩ := q; exact hd)) (fun q1 q2 => by subst q1; subst q2; rw [f42 t' hd]; exact z1 4 (by decide))) (by decide) (by decide) dX2_init_12 (fun ad2 a2 X2 => ?_)
  rw [show ad 42 0 i = ad2 42 0 i from (a2 42 0 i (by omega)).symm]
  refine V_putF X2 hnm (k := 42) (t := 0) (i := i) (x := 1) dX2_init_14 ff_X2_15 (dmu_in h42) rfl (Nat.le_of_ble_eq_true rfl) rfl rfl rfl (fun Z2 e2 => ?_)
  have z2 : ∀ j, j ≠ 3 → j ≠ 4 → Z2 42 0 i j = 0 := fun j hj h4 => by rw [e2, u4_app, if_neg (by omega), w4_ne (by omega)]; exact z1 j hj
  refine V_aload_n X2 dX2_init_17 rfl 0 rfl ?_
  refine V_bipush X2 (8 : Int32) dX2_init_18 (by decide) ?_
  have g2 : ∀ t, ¬ dmu dm 10 0 i 2 t i := fun t h => h.elim (fun q => absurd q.1 (by decide)) (f2 t)
  have g42 : ∀ t, dmu dm 10 0 i 42 t i → t = 0 := fun t h => h.elim (fun q => absurd q.1 (by decide)) (f42 t)
  refine V_newi X2 (k := 11) (t := 0) (i := i) (N := 8) (fun _ _ => rfl) (by decide) (by decide) (by decide) (fun z k' t' i' hd hn => holdP (by decide) (fun q => g2 t' (by obtain ⟨rfl, rfl⟩ := q; exact hd)) (fun q1 q2 => by subst q1; subst q2; rw [g42 t' hd]; exact z2 5 (by decide) (by decide))) (by decide) (by decide) dX2_init_20 (fun ad3 a3 X3 => ?_)
  rw [show ad2 42 0 i = ad3 42 0 i from (a3 42 0 i (by omega)).symm]
  refine V_putF X3 hnm (k := 42) (t := 0) (i := i) (x := 1) dX2_init_22 ff_X2_19 (dmu_in (dmu_in h42)) rfl (Nat.le_of_ble_eq_true rfl) rfl rfl rfl (fun Z3 e3 => ?_)
  have z3 : ∀ j, j ≠ 3 → j ≠ 4 → j ≠ 5 → Z3 42 0 i j = 0 := fun j hj h4 h5 => by rw [e3, u4_app, if_neg (by omega), w4_ne (by omega)]; exact z2 j hj h4
  refine V_aload_n X3 dX2_init_25 rfl 0 rfl ?_
  refine V_bipush X3 (8 : Int32) dX2_init_26 (by decide) ?_
  have i2 : ∀ t, ¬ dmu (dmu dm 10 0 i) 11 0 i 2 t i := fun t h => h.elim (fun q => absurd q.1 (by decide)) (g2 t)
  have i42 : ∀ t, dmu (dmu dm 10 0 i) 11 0 i 42 t i → t = 0 := fun t h => h.elim (fun q => absurd q.1 (by decide)) (g42 t)
  refine V_newi X3 (k := 12) (t := 0) (i := i) (N := 8) (fun _ _ => rfl) (by decide) (by decide) (by decide) (fun z k' t' i' hd hn => holdP (by decide) (fun q => i2 t' (by obtain ⟨rfl, rfl⟩ := q; exact hd)) (fun q1 q2 => by subst q1; subst q2; rw [i42 t' hd]; exact z3 6 (by decide) (by decide) (by decide))) (by decide) (by decide) dX2_init_28 (fun ad4 a4 X4 => ?_)
  rw [show ad3 42 0 i = ad4 42 0 i from (a4 42 0 i (by omega)).symm]
  refine V_putF X4 hnm (k := 42) (t := 0) (i := i) (x := 1) dX2_init_30 ff_X2_22 (dmu_in (dmu_in (dmu_in h42))) rfl (Nat.le_of_ble_eq_true rfl) rfl rfl rfl (fun Z4 e4 => ?_)
  have z4 : ∀ j, j ≠ 3 → j ≠ 4 → j ≠ 5 → j ≠ 6 → Z4 42 0 i j = 0 := fun j hj h4 h5 h6 => by rw [e4, u4_app, if_neg (by omega), w4_ne (by omega)]; exact z3 j hj h4 h5
  refine V_aload_n X4 dX2_init_33 rfl 0 rfl ?_
  refine V_bipush X4 (24 : Int32) dX2_init_34 (by decide) ?_
  have j2 : ∀ t, ¬ dmu (dmu (dmu dm 10 0 i) 11 0 i) 12 0 i 2 t i := fun t h => h.elim (fun q => absurd q.1 (by decide)) (i2 t)
  have j42 : ∀ t, dmu (dmu (dmu dm 10 0 i) 11 0 i) 12 0 i 42 t i → t = 0 := fun t h => h.elim (fun q => absurd q.1 (by decide)) (i42 t)
  refine V_newi X4 (k := 13) (t := 0) (i := i) (N := 24) (fun _ _ => rfl) (by decide) (by decide) (by decide) (fun z k' t' i' hd hn => holdP (by decide) (fun q => j2 t' (by obtain ⟨rfl, rfl⟩ := q; exact hd)) (fun q1 q2 => by subst q1; subst q2; rw [j42 t' hd]; exact z4 7 (by decide) (by decide) (by decide) (by decide))) (by decide) (by decide) dX2_init_36 (fun ad5 a5 X5 => ?_)
  rw [show ad4 42 0 i = ad5 42 0 i from (a5 42 0 i (by omega)).symm]
  refine V_putF X5 hnm (k := 42) (t := 0) (i := i) (x := 1) dX2_init_38 ff_X2_25 (dmu_in (dmu_in (dmu_in (dmu_in h42)))) rfl (Nat.le_of_ble_eq_true rfl) rfl rfl rfl (fun Z5 e5 => ?_)
  have n10 : ¬ dm 10 0 i := fk 10 (by decide) (by decide)
  have n11 : ¬ dmu dm 10 0 i 11 0 i := fun h => h.elim (fun q => absurd q.1 (by decide)) (fk 11 (by decide) (by decide))
  have n12 : ¬ dmu (dmu dm 10 0 i) 11 0 i 12 0 i := fun h => h.elim (fun q => absurd q.1 (by decide)) (fun h => h.elim (fun q => absurd q.1 (by decide)) (fk 12 (by decide) (by decide)))
  have n13 : ¬ dmu (dmu (dmu dm 10 0 i) 11 0 i) 12 0 i 13 0 i := fun h => h.elim (fun q => absurd q.1 (by decide)) (fun h => h.elim (fun q => absurd q.1 (by decide)) (fun h => h.elim (fun q => absurd q.1 (by decide)) (fk 13 (by decide) (by decide))))
  have hag : agE dm ad ad5 := (((agE_new n10 a2).trans (agE_new n11 a3) (fun _ _ _ => dmu_in)).trans (agE_new n12 a4) (fun _ _ _ h => dmu_in (dmu_in h))).trans (agE_new n13 a5) (fun _ _ _ h => dmu_in (dmu_in (dmu_in h)))
  subst e1 e2 e3 e4 e5
  exact V_sub [] rfl (V_vretE X5 hag hr dX2_init_41)
