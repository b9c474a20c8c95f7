/-! the reference's constructor (printed by jh.py) -/
def dM2 (dm : Dm) : Dm := fun k t x => (t = 0 ∧ x = 0 ∧ (k = 7 ∨ (24 ≤ k ∧ k ≤ 35))) ∨ (dm k t x ∧ ¬ (k = 47 ∧ t = 0 ∧ x = 0))
/-- the names of a reference that is made: only the object under construction is there -/
def NM (dm : Dm) : Prop := ∀ k, (k = 7 ∨ (24 ≤ k ∧ k ≤ 35)) → ¬ dm k 0 0
def zmrow (k : Nat) : Nat → Int32 := fun j => if k = 47 then (if j = 7 then 12 else if (j = 1 ∨ j = 2 ∨ j = 3 ∨ j = 4 ∨ j = 5 ∨ j = 6 ∨ j = 14 ∨ j = 15 ∨ j = 18 ∨ j = 19 ∨ j = 20 ∨ j = 25) then 1 else 0) else if k = 7 then (if j = 7 then 12 else 0) else 0
def zM (S : S4) : S4 := fun k t x => if t = 0 ∧ x = 0 ∧ (k = 47 ∨ k = 7 ∨ (24 ≤ k ∧ k ≤ 35)) then zmrow k else S k t x
theorem zM_in {S : S4} {k : Nat} (h : k = 47 ∨ k = 7 ∨ (24 ≤ k ∧ k ≤ 35)) : zM S k 0 0 = zmrow k := if_pos ⟨rfl, rfl, h⟩
theorem zM_out {S : S4} {k t x : Nat} (h : ¬ (t = 0 ∧ x = 0 ∧ (k = 47 ∨ k = 7 ∨ (24 ≤ k ∧ k ≤ 35)))) : zM S k t x = S k t x := if_neg h
theorem dM_in {dm : Dm} {k t x : Nat} (h : dM dm k t x) (h47 : dm 47 0 0) : (dmu (dmu (dmu (dmu (dmu (dmu (dmu (dmu (dmu (dmu (dmu (dmu dm 24 0 0) 25 0 0) 26 0 0) 27 0 0) 28 0 0) 29 0 0) 30 0 0) 31 0 0) 32 0 0) 33 0 0) 34 0 0) 35 0 0) k t x := by
  rcases h with ⟨rfl, rfl, h⟩ | h
  · by_cases e : k = 47
    · subst e
      exact (Or.inr (Or.inr (Or.inr (Or.inr (Or.inr (Or.inr (Or.inr (Or.inr (Or.inr (Or.inr (Or.inr (Or.inr h47))))))))))))
    · unfold dmu
      omega
  · exact (Or.inr (Or.inr (Or.inr (Or.inr (Or.inr (Or.inr (Or.inr (Or.inr (Or.inr (Or.inr (Or.inr (Or.inr h))))))))))))
theorem zM_open {S : S4} {dm : Dm} (hN : NM dm) (hz : ∀ j, S 47 0 0 j = 0) {k t x : Nat} (h : dM dm k t x) : zM S k t x = (u4 (w4 (u4 (w4 (u4 (w4 (u4 (w4 (u4 (w4 (u4 (w4 (u4 (u4 (w4 (u4 (w4 (u4 (w4 (u4 (w4 (u4 (w4 (u4 (w4 (S) 24 0 0 (fun _ => 0)) 47 0 0 1 1) 25 0 0 (fun _ => 0)) 47 0 0 2 1) 26 0 0 (fun _ => 0)) 47 0 0 3 1) 27 0 0 (fun _ => 0)) 47 0 0 4 1) 28 0 0 (fun _ => 0)) 47 0 0 5 1) 29 0 0 (fun _ => 0)) 47 0 0 6 1) 47 0 0 7 12) 30 0 0 (fun _ => 0)) 47 0 0 14 1) 31 0 0 (fun _ => 0)) 47 0 0 15 1) 32 0 0 (fun _ => 0)) 47 0 0 18 1) 33 0 0 (fun _ => 0)) 47 0 0 19 1) 34 0 0 (fun _ => 0)) 47 0 0 20 1) 35 0 0 (fun _ => 0)) 47 0 0 25 1) k t x := by
  funext j
  simp only [u4_app, w4_app]
  by_cases h0 : t = 0 ∧ x = 0 ∧ (k = 47 ∨ (24 ≤ k ∧ k ≤ 35))
  · obtain ⟨rfl, rfl, hk⟩ := h0
    rw [zM_in (by omega)]
    unfold zmrow
    by_cases e : k = 47
    · subst e
      by_cases j1 : j = 1
      · subst j1; simp
      · skip
        by_cases j2 : j = 2
        · subst j2; simp
        · skip
          by_cases j3 : j = 3
          · subst j3; simp
          · skip
            by_cases j4 : j = 4
            · subst j4; simp
            · skip
              by_cases j5 : j = 5
              · subst j5; simp
              · skip
                by_cases j6 : j = 6
                · subst j6; simp
                · skip
                  by_cases j7 : j = 7
                  · subst j7; simp
                  · skip
                    by_cases j14 : j = 14
                    · subst j14; simp
                    · skip
                      by_cases j15 : j = 15
                      · subst j15; simp
                      · skip
                        by_cases j18 : j = 18
                        · subst j18; simp
                        · skip
                          by_cases j19 : j = 19
                          · subst j19; simp
                          · skip
                            by_cases j20 : j = 20
                            · subst j20; simp
                            · skip
                              by_cases j25 : j = 25
                              · subst j25; simp
                              · skip
                                simp [j1, j2, j3, j4, j5, j6, j7, j14, j15, j18, j19, j20, j25, hz]
    · have hk2 : k = 24 ∨ k = 25 ∨ k = 26 ∨ k = 27 ∨ k = 28 ∨ k = 29 ∨ k = 30 ∨ k = 31 ∨ k = 32 ∨ k = 33 ∨ k = 34 ∨ k = 35 := by omega
      rcases hk2 with rfl | rfl | rfl | rfl | rfl | rfl | rfl | rfl | rfl | rfl | rfl | rfl <;> simp
  · rw [zM_out (fun z => by
      obtain ⟨rfl, rfl, hk⟩ := z
      rcases h with ⟨-, -, h⟩ | h
      · omega
      · have := hN k
        have hk7 : k = 7 := by omega
        exact this (Or.inl hk7) h), if_neg (by omega), if_neg (by omega), if_neg (by omega), if_neg (by omega), if_neg (by omega), if_neg (by omega), if_neg (by omega), if_neg (by omega), if_neg (by omega), if_neg (by omega), if_neg (by omega), if_neg (by omega), if_neg (by omega), if_neg (by omega), if_neg (by omega), if_neg (by omega), if_neg (by omega), if_neg (by omega), if_neg (by omega), if_neg (by omega), if_neg (by omega), if_neg (by omega), if_neg (by omega), if_neg (by omega), if_neg (by omega)]
theorem c_X7_init {l : Launch} {D : va_G} {cA : Nat → ClassId} {dm : Dm} {ad : Ad} {n : Nat} {S S' : S4} {fu : Nat} (h47 : dm 47 0 0) (hN : NM dm) (hz : ∀ j, S 47 0 0 j = 0) (ha : ∀ k, 24 ≤ k → k ≤ 35 → ad k 0 0 = n + (k - 24)) (h7 : ad 7 0 0 = ad 47 0 0) (hs : s_X7_empties fu (zM S) = some S') : CtF D cA dm (dM2 dm) ad l yX7_init cX7_init 1 2 60 12 15101 n S [.ref (ad 47 0 0)] S' := by
  refine CtF.of (by decide +kernel) (Nat.le_of_ble_eq_true rfl) [(0, .ref (ad 47 0 0))] rfl (fun p e s m args below meth c A X hr hY hnm hsz => ?_)
  refine V_aload_n X dX7_init_0 rfl 0 rfl ?_
  refine V_objInit X o_X7_1 o_1 o_2 ⟨Nat.le_of_ble_eq_true rfl, Nat.le_of_ble_eq_true rfl⟩ (Nat.zero_le _) dX7_init_1 ?_
  refine V_aload_n X dX7_init_4 rfl 0 rfl ?_
  refine V_bipush X (30 : Int32) dX7_init_5 (by decide) ?_
  refine V_newaX X hsz (Or.inl rfl) (atype := .int) (ty := .int) (k := 24) (t := 0) (i := 0) (q := 0) (N := 30) (a0 := (30, .inl (fun _ => 0))) (r0 := fun _ => 0) rfl ar_int rfl (ha 24 (by decide) (by decide)) (fun _ => rfl) rfl (by decide) (by decide) (by decide) (Nat.le_of_ble_eq_true rfl) (Nat.le_of_ble_eq_true rfl) dX7_init_7 (fun X1 => ?_)
  refine V_putF X1 hnm (k := 47) (t := 0) (i := 0) (x := 1) dX7_init_9 ff_X7_7 (Or.inr h47) rfl (Nat.le_of_ble_eq_true rfl) rfl rfl rfl (fun Y101 eY101 => ?_)
  refine V_aload_n X1 dX7_init_12 rfl 0 rfl ?_
  refine V_bipush X1 (39 : Int32) dX7_init_13 (by decide) ?_
  refine V_newaX X1 hsz (Or.inr ⟨24, 0, 0, Or.inl ⟨rfl, rfl, rfl⟩, by rw [ha 24 (by decide) (by decide)]⟩) (atype := .int) (ty := .int) (k := 25) (t := 0) (i := 0) (q := 0) (N := 39) (a0 := (39, .inl (fun _ => 0))) (r0 := fun _ => 0) rfl ar_int rfl (ha 25 (by decide) (by decide)) (fun _ => rfl) rfl (by decide) (by decide) (by decide) (Nat.le_of_ble_eq_true rfl) (Nat.le_of_ble_eq_true rfl) dX7_init_15 (fun X2 => ?_)
  refine V_putF X2 hnm (k := 47) (t := 0) (i := 0) (x := 1) dX7_init_17 ff_X7_13 (Or.inr (Or.inr h47)) rfl (Nat.le_of_ble_eq_true rfl) rfl rfl rfl (fun Y102 eY102 => ?_)
  refine V_aload_n X2 dX7_init_20 rfl 0 rfl ?_
  refine V_bipush X2 (120 : Int32) dX7_init_21 (by decide) ?_
  refine V_newaX X2 hsz (Or.inr ⟨25, 0, 0, Or.inl ⟨rfl, rfl, rfl⟩, by rw [ha 25 (by decide) (by decide)]⟩) (atype := .int) (ty := .int) (k := 26) (t := 0) (i := 0) (q := 0) (N := 120) (a0 := (120, .inl (fun _ => 0))) (r0 := fun _ => 0) rfl ar_int rfl (ha 26 (by decide) (by decide)) (fun _ => rfl) rfl (by decide) (by decide) (by decide) (Nat.le_of_ble_eq_true rfl) (Nat.le_of_ble_eq_true rfl) dX7_init_23 (fun X3 => ?_)
  refine V_putF X3 hnm (k := 47) (t := 0) (i := 0) (x := 1) dX7_init_25 ff_X7_16 (Or.inr (Or.inr (Or.inr h47))) rfl (Nat.le_of_ble_eq_true rfl) rfl rfl rfl (fun Y103 eY103 => ?_)
  refine V_aload_n X3 dX7_init_28 rfl 0 rfl ?_
  refine V_sipush X3 (260 : Int32) dX7_init_29 (by decide) ?_
  refine V_newaX X3 hsz (Or.inr ⟨26, 0, 0, Or.inl ⟨rfl, rfl, rfl⟩, by rw [ha 26 (by decide) (by decide)]⟩) (atype := .int) (ty := .int) (k := 27) (t := 0) (i := 0) (q := 0) (N := 260) (a0 := (260, .inl (fun _ => 0))) (r0 := fun _ => 0) rfl ar_int rfl (ha 27 (by decide) (by decide)) (fun _ => rfl) rfl (by decide) (by decide) (by decide) (Nat.le_of_ble_eq_true rfl) (Nat.le_of_ble_eq_true rfl) dX7_init_32 (fun X4 => ?_)
  refine V_putF X4 hnm (k := 47) (t := 0) (i := 0) (x := 1) dX7_init_34 ff_X7_19 (Or.inr (Or.inr (Or.inr (Or.inr h47)))) rfl (Nat.le_of_ble_eq_true rfl) rfl rfl rfl (fun Y104 eY104 => ?_)
  refine V_aload_n X4 dX7_init_37 rfl 0 rfl ?_
  refine V_sipush X4 (720 : Int32) dX7_init_38 (by decide) ?_
  refine V_newaX X4 hsz (Or.inr ⟨27, 0, 0, Or.inl ⟨rfl, rfl, rfl⟩, by rw [ha 27 (by decide) (by decide)]⟩) (atype := .int) (ty := .int) (k := 28) (t := 0) (i := 0) (q := 0) (N := 720) (a0 := (720, .inl (fun _ => 0))) (r0 := fun _ => 0) rfl ar_int rfl (ha 28 (by decide) (by decide)) (fun _ => rfl) rfl (by decide) (by decide) (by decide) (Nat.le_of_ble_eq_true rfl) (Nat.le_of_ble_eq_true rfl) dX7_init_41 (fun X5 => ?_)
  refine V_putF X5 hnm (k := 47) (t := 0) (i := 0) (x := 1) dX7_init_43 ff_X7_22 (Or.inr (Or.inr (Or.inr (Or.inr (Or.inr h47))))) rfl (Nat.le_of_ble_eq_true rfl) rfl rfl rfl (fun Y105 eY105 => ?_)
  refine V_aload_n X5 dX7_init_46 rfl 0 rfl ?_
  refine V_bipush X5 (60 : Int32) dX7_init_47 (by decide) ?_
  refine V_newaX X5 hsz (Or.inr ⟨28, 0, 0, Or.inl ⟨rfl, rfl, rfl⟩, by rw [ha 28 (by decide) (by decide)]⟩) (atype := .int) (ty := .int) (k := 29) (t := 0) (i := 0) (q := 0) (N := 60) (a0 := (60, .inl (fun _ => 0))) (r0 := fun _ => 0) rfl ar_int rfl (ha 29 (by decide) (by decide)) (fun _ => rfl) rfl (by decide) (by decide) (by decide) (Nat.le_of_ble_eq_true rfl) (Nat.le_of_ble_eq_true rfl) dX7_init_49 (fun X6 => ?_)
  refine V_putF X6 hnm (k := 47) (t := 0) (i := 0) (x := 1) dX7_init_51 ff_X7_25 (Or.inr (Or.inr (Or.inr (Or.inr (Or.inr (Or.inr h47)))))) rfl (Nat.le_of_ble_eq_true rfl) rfl rfl rfl (fun Y106 eY106 => ?_)
  refine V_aload_n X6 dX7_init_54 rfl 0 rfl ?_
  refine V_bipush X6 (12 : Int32) dX7_init_55 (by decide) ?_
  refine V_put X6 dX7_init_57 f_X7_28 (Or.inr (Or.inr (Or.inr (Or.inr (Or.inr (Or.inr h47)))))) rfl (Nat.le_of_ble_eq_true rfl) rfl rfl rfl (fun Y7 eY7 => ?_)
  refine V_aload_n X6 dX7_init_60 rfl 0 rfl ?_
  refine V_bipush X6 (80 : Int32) dX7_init_61 (by decide) ?_
  refine V_newaX X6 hsz (Or.inr ⟨29, 0, 0, Or.inl ⟨rfl, rfl, rfl⟩, by rw [ha 29 (by decide) (by decide)]⟩) (atype := .char) (ty := .char) (k := 30) (t := 0) (i := 0) (q := 1) (N := 80) (a0 := (80, .inl (fun _ => 0))) (r0 := fun _ => 0) rfl ar_char rfl (ha 30 (by decide) (by decide)) (fun _ => rfl) rfl (by decide) (by decide) (by decide) (Nat.le_of_ble_eq_true rfl) (Nat.le_of_ble_eq_true rfl) dX7_init_63 (fun X7 => ?_)
  refine V_putF X7 hnm (k := 47) (t := 0) (i := 0) (x := 1) dX7_init_65 ff_X7_32 (Or.inr (Or.inr (Or.inr (Or.inr (Or.inr (Or.inr (Or.inr h47))))))) rfl (Nat.le_of_ble_eq_true rfl) rfl rfl rfl (fun Y114 eY114 => ?_)
  refine V_aload_n X7 dX7_init_68 rfl 0 rfl ?_
  refine V_bipush X7 (52 : Int32) dX7_init_69 (by decide) ?_
  refine V_newaX X7 hsz (Or.inr ⟨30, 0, 0, Or.inl ⟨rfl, rfl, rfl⟩, by rw [ha 30 (by decide) (by decide)]⟩) (atype := .int) (ty := .int) (k := 31) (t := 0) (i := 0) (q := 0) (N := 52) (a0 := (52, .inl (fun _ => 0))) (r0 := fun _ => 0) rfl ar_int rfl (ha 31 (by decide) (by decide)) (fun _ => rfl) rfl (by decide) (by decide) (by decide) (Nat.le_of_ble_eq_true rfl) (Nat.le_of_ble_eq_true rfl) dX7_init_71 (fun X8 => ?_)
  refine V_putF X8 hnm (k := 47) (t := 0) (i := 0) (x := 1) dX7_init_73 ff_X7_36 (Or.inr (Or.inr (Or.inr (Or.inr (Or.inr (Or.inr (Or.inr (Or.inr h47)))))))) rfl (Nat.le_of_ble_eq_true rfl) rfl rfl rfl (fun Y115 eY115 => ?_)
  refine V_aload_n X8 dX7_init_76 rfl 0 rfl ?_
  refine V_sipush X8 (1360 : Int32) dX7_init_77 (by decide) ?_
  refine V_newaX X8 hsz (Or.inr ⟨31, 0, 0, Or.inl ⟨rfl, rfl, rfl⟩, by rw [ha 31 (by decide) (by decide)]⟩) (atype := .int) (ty := .int) (k := 32) (t := 0) (i := 0) (q := 0) (N := 1360) (a0 := (1360, .inl (fun _ => 0))) (r0 := fun _ => 0) rfl ar_int rfl (ha 32 (by decide) (by decide)) (fun _ => rfl) rfl (by decide) (by decide) (by decide) (Nat.le_of_ble_eq_true rfl) (Nat.le_of_ble_eq_true rfl) dX7_init_80 (fun X9 => ?_)
  refine V_putF X9 hnm (k := 47) (t := 0) (i := 0) (x := 1) dX7_init_82 ff_X7_39 (Or.inr (Or.inr (Or.inr (Or.inr (Or.inr (Or.inr (Or.inr (Or.inr (Or.inr h47))))))))) rfl (Nat.le_of_ble_eq_true rfl) rfl rfl rfl (fun Y118 eY118 => ?_)
  refine V_aload_n X9 dX7_init_85 rfl 0 rfl ?_
  refine V_sipush X9 (10880 : Int32) dX7_init_86 (by decide) ?_
  refine V_newaX X9 hsz (Or.inr ⟨32, 0, 0, Or.inl ⟨rfl, rfl, rfl⟩, by rw [ha 32 (by decide) (by decide)]⟩) (atype := .int) (ty := .int) (k := 33) (t := 0) (i := 0) (q := 0) (N := 10880) (a0 := (10880, .inl (fun _ => 0))) (r0 := fun _ => 0) rfl ar_int rfl (ha 33 (by decide) (by decide)) (fun _ => rfl) rfl (by decide) (by decide) (by decide) (Nat.le_of_ble_eq_true rfl) (Nat.le_of_ble_eq_true rfl) dX7_init_89 (fun X10 => ?_)
  refine V_putF X10 hnm (k := 47) (t := 0) (i := 0) (x := 1) dX7_init_91 ff_X7_42 (Or.inr (Or.inr (Or.inr (Or.inr (Or.inr (Or.inr (Or.inr (Or.inr (Or.inr (Or.inr h47)))))))))) rfl (Nat.le_of_ble_eq_true rfl) rfl rfl rfl (fun Y119 eY119 => ?_)
  refine V_aload_n X10 dX7_init_94 rfl 0 rfl ?_
  refine V_sipush X10 (1360 : Int32) dX7_init_95 (by decide) ?_
  refine V_newaX X10 hsz (Or.inr ⟨33, 0, 0, Or.inl ⟨rfl, rfl, rfl⟩, by rw [ha 33 (by decide) (by decide)]⟩) (atype := .int) (ty := .int) (k := 34) (t := 0) (i := 0) (q := 0) (N := 1360) (a0 := (1360, .inl (fun _ => 0))) (r0 := fun _ => 0) rfl ar_int rfl (ha 34 (by decide) (by decide)) (fun _ => rfl) rfl (by decide) (by decide) (by decide) (Nat.le_of_ble_eq_true rfl) (Nat.le_of_ble_eq_true rfl) dX7_init_98 (fun X11 => ?_)
  refine V_putF X11 hnm (k := 47) (t := 0) (i := 0) (x := 1) dX7_init_100 ff_X7_45 (Or.inr (Or.inr (Or.inr (Or.inr (Or.inr (Or.inr (Or.inr (Or.inr (Or.inr (Or.inr (Or.inr h47))))))))))) rfl (Nat.le_of_ble_eq_true rfl) rfl rfl rfl (fun Y120 eY120 => ?_)
  refine V_aload_n X11 dX7_init_103 rfl 0 rfl ?_
  refine V_sipush X11 (140 : Int32) dX7_init_104 (by decide) ?_
  refine V_newaX X11 hsz (Or.inr ⟨34, 0, 0, Or.inl ⟨rfl, rfl, rfl⟩, by rw [ha 34 (by decide) (by decide)]⟩) (atype := .int) (ty := .int) (k := 35) (t := 0) (i := 0) (q := 0) (N := 140) (a0 := (140, .inl (fun _ => 0))) (r0 := fun _ => 0) rfl ar_int rfl (ha 35 (by decide) (by decide)) (fun _ => rfl) rfl (by decide) (by decide) (by decide) (Nat.le_of_ble_eq_true rfl) (Nat.le_of_ble_eq_true rfl) dX7_init_107 (fun X12 => ?_)
  refine V_putF X12 hnm (k := 47) (t := 0) (i := 0) (x := 1) dX7_init_109 ff_X7_48 (Or.inr (Or.inr (Or.inr (Or.inr (Or.inr (Or.inr (Or.inr (Or.inr (Or.inr (Or.inr (Or.inr (Or.inr h47)))))))))))) rfl (Nat.le_of_ble_eq_true rfl) rfl rfl rfl (fun Y125 eY125 => ?_)
  refine V_aload_n X12 dX7_init_112 rfl 0 rfl ?_
  subst eY101 eY102 eY103 eY104 eY105 eY106 eY7 eY114 eY115 eY118 eY119 eY120 eY125
  refine V_dom X12 (dm' := dM dm) (S' := zM S) (fun k t x h => ⟨dM_in h h47, zM_open hN hz h⟩) (fun X20 => ?_)
  refine V_renF X20 (k := 47) (k2 := 7) (t := 0) (i := 0) (dm' := dM2 dm) (S' := zM S) (Or.inl ⟨rfl, rfl, Or.inl rfl⟩) h7 (fun H hv => ?_) (fun k t x h => ?_) (fun X21 => ?_)
  · have e7 : ∀ j, zM S 7 0 0 j = if j = 7 then 12 else 0 := fun j => by rw [zM_in (by omega)]; rfl
    have e47 : ∀ j, zM S 47 0 0 j = if j = 7 then 12 else if (j = 1 ∨ j = 2 ∨ j = 3 ∨ j = 4 ∨ j = 5 ∨ j = 6 ∨ j = 14 ∨ j = 15 ∨ j = 18 ∨ j = 19 ∨ j = 20 ∨ j = 25) then 1 else 0 := fun j => by rw [zM_in (by omega)]; rfl
    have ee : ct cA ad 7 0 0 (zM S 7 0 0) = ct cA ad 47 0 0 (zM S 47 0 0) := by
      simp only [ct, e7, e47]
      rfl
    rw [ee]; exact hv
  · rcases h with ⟨rfl, rfl, h⟩ | ⟨h, hne⟩
    · by_cases e : k = 7
      · exact Or.inl ⟨e, rfl, rfl⟩
      · exact Or.inr ⟨Or.inl ⟨rfl, rfl, by omega⟩, by omega, rfl⟩
    · exact Or.inr ⟨Or.inr h, hne, rfl⟩
  have hM : DM (dM2 dm) := fun k h => Or.inl ⟨rfl, rfl, h⟩
  rw [show ad 47 0 0 = ad 7 0 0 from h7.symm]
  refine V_callVv X21 [] dX7_init_113 m_X7_51 v_X7_empties ⟨Nat.le_of_ble_eq_true rfl, Nat.le_of_ble_eq_true rfl⟩ ⟨Nat.le_of_ble_eq_true rfl, Nat.le_of_ble_eq_true rfl⟩ rfl (Nat.le_of_ble_eq_true rfl) (hM 7 (Or.inl rfl)) rfl cl7 (c_X7_empties hM hs) ?_
  exact V_sub [] rfl (V_vretF X21 hr dX7_init_116)
