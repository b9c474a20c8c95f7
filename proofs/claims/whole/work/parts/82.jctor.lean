/-! constructors: words; the small ones, with addresses known ahead (printed by jc.py) -/
theorem o_X0_3 : Cond.methodLink RX0 3 Lib.objectInit ∈ gT := gin 158 (by decide +kernel) (by decide +kernel)
theorem o_X1_3 : Cond.methodLink RX1 3 Lib.objectInit ∈ gT := gin 230 (by decide +kernel) (by decide +kernel)
theorem o_X3_3 : Cond.methodLink RX3 3 Lib.objectInit ∈ gT := gin 660 (by decide +kernel) (by decide +kernel)
theorem o_X4_3 : Cond.methodLink RX4 3 Lib.objectInit ∈ gT := gin 121 (by decide +kernel) (by decide +kernel)
theorem o_X5_3 : Cond.methodLink RX5 3 Lib.objectInit ∈ gT := gin 134 (by decide +kernel) (by decide +kernel)
theorem o_X6_1 : Cond.methodLink RX6 1 Lib.objectInit ∈ gT := gin 113 (by decide +kernel) (by decide +kernel)
theorem o_X7_1 : Cond.methodLink RX7 1 Lib.objectInit ∈ gT := gin 1501 (by decide +kernel) (by decide +kernel)
theorem o_J5_3 : Cond.methodLink RJ5 3 Lib.objectInit ∈ gT := gin 369 (by decide +kernel) (by decide +kernel)
theorem ff_X5_9 : FF RX5 9 5 3 (.array .int) := ⟨TX5, 4, tyX5, gc5, by decide, rfl, rfl, gin 143 (by decide +kernel) (by decide +kernel), rfl⟩
theorem ff_X3_12 : FF RX3 12 3 0 (.object "ParcelSorter$Plan") := ⟨TX3, 4, tyX3, gc3, by decide, rfl, rfl, gin 706 (by decide +kernel) (by decide +kernel), rfl⟩
theorem ff_X3_18 : FF RX3 18 3 2 (.array .char) := ⟨TX3, 4, tyX3, gc3, by decide, rfl, rfl, gin 710 (by decide +kernel) (by decide +kernel), rfl⟩
theorem ff_X3_28 : FF RX3 28 3 3 .int := ⟨TX3, 4, tyX3, gc3, by decide, rfl, rfl, gin 711 (by decide +kernel) (by decide +kernel), rfl⟩
theorem ff_X4_11 : FF RX4 11 4 9 (.array (.object "ParcelSorter$Station")) := ⟨TX4, 16, tyX4, gc4, by decide, rfl, rfl, gin 314 (by decide +kernel) (by decide +kernel), rfl⟩
theorem ff_X4_19 : FF RX4 19 4 10 (.array (.object "ParcelSorter$Chute")) := ⟨TX4, 16, tyX4, gc4, by decide, rfl, rfl, gin 316 (by decide +kernel) (by decide +kernel), rfl⟩
theorem ff_X4_25 : FF RX4 25 4 11 (.array (.object "ParcelSorter$Plan")) := ⟨TX4, 16, tyX4, gc4, by decide, rfl, rfl, gin 318 (by decide +kernel) (by decide +kernel), rfl⟩
theorem ff_X4_31 : FF RX4 31 4 12 (.array (.object "ParcelSorter$Parcel")) := ⟨TX4, 16, tyX4, gc4, by decide, rfl, rfl, gin 320 (by decide +kernel) (by decide +kernel), rfl⟩
theorem ff_X4_35 : FF RX4 35 4 13 (.array .int) := ⟨TX4, 16, tyX4, gc4, by decide, rfl, rfl, gin 322 (by decide +kernel) (by decide +kernel), rfl⟩
theorem ff_X4_39 : FF RX4 39 4 14 (.array .int) := ⟨TX4, 16, tyX4, gc4, by decide, rfl, rfl, gin 323 (by decide +kernel) (by decide +kernel), rfl⟩
theorem ff_X4_42 : FF RX4 42 4 15 (.array .int) := ⟨TX4, 16, tyX4, gc4, by decide, rfl, rfl, gin 325 (by decide +kernel) (by decide +kernel), rfl⟩
theorem ff_X6_10 : FF RX6 10 6 0 (.object "ParcelSorter$State") := ⟨TX6, 10, tyX6, gc6, by decide, rfl, rfl, gin 395 (by decide +kernel) (by decide +kernel), rfl⟩
theorem ff_X6_16 : FF RX6 16 6 1 (.object "ParcelSorter$State") := ⟨TX6, 10, tyX6, gc6, by decide, rfl, rfl, gin 396 (by decide +kernel) (by decide +kernel), rfl⟩
theorem ff_X6_19 : FF RX6 19 6 2 (.object "ParcelSorter$State") := ⟨TX6, 10, tyX6, gc6, by decide, rfl, rfl, gin 397 (by decide +kernel) (by decide +kernel), rfl⟩
theorem ff_X6_22 : FF RX6 22 6 3 (.array (.object "ParcelSorter$State")) := ⟨TX6, 10, tyX6, gc6, by decide, rfl, rfl, gin 398 (by decide +kernel) (by decide +kernel), rfl⟩
theorem ff_X6_26 : FF RX6 26 6 7 (.array .char) := ⟨TX6, 10, tyX6, gc6, by decide, rfl, rfl, gin 402 (by decide +kernel) (by decide +kernel), rfl⟩
theorem ff_X6_33 : FF RX6 33 6 9 (.object "java/lang/StringBuilder") := ⟨TX6, 10, tyX6, gc6, by decide, rfl, rfl, gin 404 (by decide +kernel) (by decide +kernel), rfl⟩
theorem ff_X7_7 : FF RX7 7 7 1 (.array .int) := ⟨TX7, 27, tyX7, gc7, by decide, rfl, rfl, gin 1507 (by decide +kernel) (by decide +kernel), rfl⟩
theorem ff_X7_13 : FF RX7 13 7 2 (.array .int) := ⟨TX7, 27, tyX7, gc7, by decide, rfl, rfl, gin 1508 (by decide +kernel) (by decide +kernel), rfl⟩
theorem ff_X7_16 : FF RX7 16 7 3 (.array .int) := ⟨TX7, 27, tyX7, gc7, by decide, rfl, rfl, gin 1509 (by decide +kernel) (by decide +kernel), rfl⟩
theorem ff_X7_19 : FF RX7 19 7 4 (.array .int) := ⟨TX7, 27, tyX7, gc7, by decide, rfl, rfl, gin 1510 (by decide +kernel) (by decide +kernel), rfl⟩
theorem ff_X7_22 : FF RX7 22 7 5 (.array .int) := ⟨TX7, 27, tyX7, gc7, by decide, rfl, rfl, gin 1511 (by decide +kernel) (by decide +kernel), rfl⟩
theorem ff_X7_25 : FF RX7 25 7 6 (.array .int) := ⟨TX7, 27, tyX7, gc7, by decide, rfl, rfl, gin 1512 (by decide +kernel) (by decide +kernel), rfl⟩
theorem ff_X7_32 : FF RX7 32 7 14 (.array .char) := ⟨TX7, 27, tyX7, gc7, by decide, rfl, rfl, gin 1520 (by decide +kernel) (by decide +kernel), rfl⟩
theorem ff_X7_36 : FF RX7 36 7 15 (.array .int) := ⟨TX7, 27, tyX7, gc7, by decide, rfl, rfl, gin 1521 (by decide +kernel) (by decide +kernel), rfl⟩
theorem ff_X7_39 : FF RX7 39 7 18 (.array .int) := ⟨TX7, 27, tyX7, gc7, by decide, rfl, rfl, gin 1524 (by decide +kernel) (by decide +kernel), rfl⟩
theorem ff_X7_42 : FF RX7 42 7 19 (.array .int) := ⟨TX7, 27, tyX7, gc7, by decide, rfl, rfl, gin 1525 (by decide +kernel) (by decide +kernel), rfl⟩
theorem ff_X7_45 : FF RX7 45 7 20 (.array .int) := ⟨TX7, 27, tyX7, gc7, by decide, rfl, rfl, gin 1526 (by decide +kernel) (by decide +kernel), rfl⟩
theorem ff_X7_48 : FF RX7 48 7 25 (.array .int) := ⟨TX7, 27, tyX7, gc7, by decide, rfl, rfl, gin 1531 (by decide +kernel) (by decide +kernel), rfl⟩
theorem nn_X4_45 : NI RX4 45 yX5_init "ParcelSorter" cX5_init 1 0 := ⟨by decide +kernel, gin 133 (by decide +kernel) (by decide +kernel), gin 79 (by decide +kernel) (by decide +kernel), by decide +kernel, rfl, gin 132 (by decide +kernel) (by decide +kernel)⟩
theorem nn_X4_46 : NI RX4 46 yX0_init "ParcelSorter" cX0_init 1 0 := ⟨by decide +kernel, gin 157 (by decide +kernel) (by decide +kernel), gin 80 (by decide +kernel) (by decide +kernel), by decide +kernel, rfl, gin 156 (by decide +kernel) (by decide +kernel)⟩
theorem nn_X4_47 : NI RX4 47 yX1_init "ParcelSorter" cX1_init 1 0 := ⟨by decide +kernel, gin 229 (by decide +kernel) (by decide +kernel), gin 81 (by decide +kernel) (by decide +kernel), by decide +kernel, rfl, gin 228 (by decide +kernel) (by decide +kernel)⟩
theorem nn_X3_11 : NI RX3 11 yX2_init "ParcelSorter" cX2_init 1 0 := ⟨by decide +kernel, gin 665 (by decide +kernel) (by decide +kernel), gin 96 (by decide +kernel) (by decide +kernel), by decide +kernel, rfl, gin 664 (by decide +kernel) (by decide +kernel)⟩
theorem cl_X3_9 : Cond.classLink RX3 9 RX2 ∈ gT := gin 661 (by decide +kernel) (by decide +kernel)
theorem cl_X6_116 : Cond.classLink RX6 116 RX3 ∈ gT := gin 655 (by decide +kernel) (by decide +kernel)
theorem cl_X4_9 : Cond.classLink RX4 9 RX5 ∈ gT := gin 122 (by decide +kernel) (by decide +kernel)
theorem cl_X4_17 : Cond.classLink RX4 17 RX0 ∈ gT := gin 124 (by decide +kernel) (by decide +kernel)
theorem cl_X4_23 : Cond.classLink RX4 23 RX2 ∈ gT := gin 126 (by decide +kernel) (by decide +kernel)
theorem cl_X4_29 : Cond.classLink RX4 29 RX1 ∈ gT := gin 128 (by decide +kernel) (by decide +kernel)
theorem cl_X6_7 : Cond.classLink RX6 7 RX4 ∈ gT := gin 116 (by decide +kernel) (by decide +kernel)
theorem cl_X6_30 : Cond.classLink RX6 30 RJ4 ∈ gT := gin 361 (by decide +kernel) (by decide +kernel)
theorem in_RX2 : Cond.instantiable RX2 8 ∈ gT := gin 662 (by decide +kernel) (by decide +kernel)
theorem in_RX3 : Cond.instantiable RX3 4 ∈ gT := gin 656 (by decide +kernel) (by decide +kernel)
theorem in_RX4 : Cond.instantiable RX4 16 ∈ gT := gin 117 (by decide +kernel) (by decide +kernel)
theorem in_RX5 : Cond.instantiable RX5 4 ∈ gT := gin 130 (by decide +kernel) (by decide +kernel)
theorem in_RX0 : Cond.instantiable RX0 15 ∈ gT := gin 154 (by decide +kernel) (by decide +kernel)
theorem in_RX1 : Cond.instantiable RX1 12 ∈ gT := gin 226 (by decide +kernel) (by decide +kernel)
theorem in_RX6 : Cond.instantiable RX6 10 ∈ gT := gin 109 (by decide +kernel) (by decide +kernel)
theorem in_RX7 : Cond.instantiable RX7 27 ∈ gT := gin 1497 (by decide +kernel) (by decide +kernel)
theorem in_RJ4 : Cond.instantiable RJ4 4 ∈ gT := gin 362 (by decide +kernel) (by decide +kernel)
theorem ar_int : Cond.arrayClass .int ∈ gT := gin 153 (by decide +kernel) (by decide +kernel)
theorem ar_char : Cond.arrayClass .char ∈ gT := gin 393 (by decide +kernel) (by decide +kernel)
theorem ar_byte : Cond.arrayClass .byte ∈ gT := gin 394 (by decide +kernel) (by decide +kernel)
theorem ar_long : Cond.arrayClass .long ∈ gT := gin 1902 (by decide +kernel) (by decide +kernel)
theorem ar_double : Cond.arrayClass .double ∈ gT := gin 1903 (by decide +kernel) (by decide +kernel)
theorem c_X0_init {l : Launch} {D : va_G} {cA : Nat → ClassId} {dm : Dm} {ad : Ad} {n : Nat} {S : S4} {a : Nat} : CtF D cA dm dm ad l yX0_init cX0_init 1 1 20 0 0 n S [.ref a] S := by
  refine CtF.of (by decide +kernel) (Nat.le_of_ble_eq_true rfl) [(0, .ref a)] rfl (fun p e s m args below meth c A X hr hY hnm hsz => ?_)
  refine V_aload_n X dX0_init_0 rfl 0 rfl ?_
  refine V_objInit X o_X0_3 o_1 o_2 ⟨Nat.le_of_ble_eq_true rfl, Nat.le_of_ble_eq_true rfl⟩ (Nat.zero_le _) dX0_init_1 ?_
  exact V_sub [] rfl (V_vretF X hr dX0_init_4)
theorem c_X1_init {l : Launch} {D : va_G} {cA : Nat → ClassId} {dm : Dm} {ad : Ad} {n : Nat} {S : S4} {a : Nat} : CtF D cA dm dm ad l yX1_init cX1_init 1 1 20 0 0 n S [.ref a] S := by
  refine CtF.of (by decide +kernel) (Nat.le_of_ble_eq_true rfl) [(0, .ref a)] rfl (fun p e s m args below meth c A X hr hY hnm hsz => ?_)
  refine V_aload_n X dX1_init_0 rfl 0 rfl ?_
  refine V_objInit X o_X1_3 o_1 o_2 ⟨Nat.le_of_ble_eq_true rfl, Nat.le_of_ble_eq_true rfl⟩ (Nat.zero_le _) dX1_init_1 ?_
  exact V_sub [] rfl (V_vretF X hr dX1_init_4)
theorem c_X5_init {l : Launch} {D : va_G} {cA : Nat → ClassId} {dm : Dm} {ad : Ad} {n : Nat} {S : S4} {t i : Nat} (h45 : dm 45 t i) (h14 : ad 14 t i = n) : CtF D cA dm (dmu dm 14 t i) ad l yX5_init cX5_init 1 1 20 1 10 n S [.ref (ad 45 t i)] (u4 (w4 S 14 t i (fun _ => 0)) 45 t i 3 1) := by
  refine CtF.of (by decide +kernel) (Nat.le_of_ble_eq_true rfl) [(0, .ref (ad 45 t i))] rfl (fun p e s m args below meth c A X hr hY hnm hsz => ?_)
  refine V_aload_n X dX5_init_0 rfl 0 rfl ?_
  refine V_objInit X o_X5_3 o_1 o_2 ⟨Nat.le_of_ble_eq_true rfl, Nat.le_of_ble_eq_true rfl⟩ (Nat.zero_le _) dX5_init_1 ?_
  refine V_aload_n X dX5_init_4 rfl 0 rfl ?_
  refine V_bipush X (10 : Int32) dX5_init_5 (by decide) ?_
  refine V_newaX X hsz (Or.inl rfl) (atype := .int) (ty := .int) (k := 14) (t := t) (i := i) (q := 0) (N := 10) (a0 := (10, .inl (fun _ => 0))) (r0 := fun _ => 0) rfl ar_int rfl h14 (fun _ => rfl) rfl (by decide) (by decide) (by decide) (Nat.le_of_ble_eq_true rfl) (Nat.le_of_ble_eq_true rfl) dX5_init_7 (fun X1 => ?_)
  refine V_putF X1 hnm (k := 45) (t := t) (i := i) (x := 1) dX5_init_9 ff_X5_9 (Or.inr h45) rfl (Nat.le_of_ble_eq_true rfl) rfl rfl rfl (fun Z1 eZ1 => ?_)
  subst eZ1
  exact V_sub [] rfl (V_vretF X1 hr dX5_init_12)
theorem c_X2_initF {l : Launch} {D : va_G} {cA : Nat → ClassId} {dm : Dm} {ad : Ad} {n : Nat} {S : S4} {i : Nat} (h42 : dm 42 0 i) (h10 : ad 10 0 i = n) (h11 : ad 11 0 i = n + 1) (h12 : ad 12 0 i = n + 2) (h13 : ad 13 0 i = n + 3) : CtF D cA dm (eP dm i) ad l yX2_init cX2_init 1 1 20 4 48 n S [.ref (ad 42 0 i)] (n_X2_init i S) := by
  refine CtF.of (by decide +kernel) (Nat.le_of_ble_eq_true rfl) [(0, .ref (ad 42 0 i))] rfl (fun p e s m args below meth c A X hr hY hnm hsz => ?_)
  refine V_aload_n X dX2_init_0 rfl 0 rfl ?_
  refine V_objInit X o_X2_3 o_1 o_2 ⟨Nat.le_of_ble_eq_true rfl, Nat.le_of_ble_eq_true rfl⟩ (Nat.zero_le _) dX2_init_1 ?_
  refine V_aload_n X dX2_init_4 rfl 0 rfl ?_
  refine V_iconst X (3 : Int32) dX2_init_5 (by decide) ?_
  refine V_put X dX2_init_6 f_X2_9 h42 rfl (Nat.le_of_ble_eq_true rfl) rfl rfl rfl (fun Z1 e1 => ?_)
  refine V_aload_n X dX2_init_9 rfl 0 rfl ?_
  refine V_bipush X (8 : Int32) dX2_init_10 (by decide) ?_
  refine V_newaX X hsz (Or.inl rfl) (atype := .int) (ty := .int) (k := 10) (t := 0) (i := i) (q := 0) (N := 8) (a0 := (8, .inl (fun _ => 0))) (r0 := fun _ => 0) rfl ar_int rfl h10 (fun _ => rfl) rfl (by decide) (by decide) (by decide) (Nat.le_of_ble_eq_true rfl) (Nat.le_of_ble_eq_true rfl) dX2_init_12 (fun X1 => ?_)
  refine V_putF X1 hnm (k := 42) (t := 0) (i := i) (x := 1) dX2_init_14 ff_X2_15 (Or.inr h42) rfl (Nat.le_of_ble_eq_true rfl) rfl rfl rfl (fun Y0 eY0 => ?_)
  refine V_aload_n X1 dX2_init_17 rfl 0 rfl ?_
  refine V_bipush X1 (8 : Int32) dX2_init_18 (by decide) ?_
  refine V_newaX X1 hsz (Or.inr ⟨10, 0, i, Or.inl ⟨rfl, rfl, rfl⟩, by rw [h10]⟩) (atype := .int) (ty := .int) (k := 11) (t := 0) (i := i) (q := 0) (N := 8) (a0 := (8, .inl (fun _ => 0))) (r0 := fun _ => 0) rfl ar_int rfl h11 (fun _ => rfl) rfl (by decide) (by decide) (by decide) (Nat.le_of_ble_eq_true rfl) (Nat.le_of_ble_eq_true rfl) dX2_init_20 (fun X2 => ?_)
  refine V_putF X2 hnm (k := 42) (t := 0) (i := i) (x := 1) dX2_init_22 ff_X2_19 (Or.inr (Or.inr h42)) rfl (Nat.le_of_ble_eq_true rfl) rfl rfl rfl (fun Y1 eY1 => ?_)
  refine V_aload_n X2 dX2_init_25 rfl 0 rfl ?_
  refine V_bipush X2 (8 : Int32) dX2_init_26 (by decide) ?_
  refine V_newaX X2 hsz (Or.inr ⟨11, 0, i, Or.inl ⟨rfl, rfl, rfl⟩, by rw [h11]⟩) (atype := .int) (ty := .int) (k := 12) (t := 0) (i := i) (q := 0) (N := 8) (a0 := (8, .inl (fun _ => 0))) (r0 := fun _ => 0) rfl ar_int rfl h12 (fun _ => rfl) rfl (by decide) (by decide) (by decide) (Nat.le_of_ble_eq_true rfl) (Nat.le_of_ble_eq_true rfl) dX2_init_28 (fun X3 => ?_)
  refine V_putF X3 hnm (k := 42) (t := 0) (i := i) (x := 1) dX2_init_30 ff_X2_22 (Or.inr (Or.inr (Or.inr h42))) rfl (Nat.le_of_ble_eq_true rfl) rfl rfl rfl (fun Y2 eY2 => ?_)
  refine V_aload_n X3 dX2_init_33 rfl 0 rfl ?_
  refine V_bipush X3 (24 : Int32) dX2_init_34 (by decide) ?_
  refine V_newaX X3 hsz (Or.inr ⟨12, 0, i, Or.inl ⟨rfl, rfl, rfl⟩, by rw [h12]⟩) (atype := .int) (ty := .int) (k := 13) (t := 0) (i := i) (q := 0) (N := 24) (a0 := (24, .inl (fun _ => 0))) (r0 := fun _ => 0) rfl ar_int rfl h13 (fun _ => rfl) rfl (by decide) (by decide) (by decide) (Nat.le_of_ble_eq_true rfl) (Nat.le_of_ble_eq_true rfl) dX2_init_36 (fun X4 => ?_)
  refine V_putF X4 hnm (k := 42) (t := 0) (i := i) (x := 1) dX2_init_38 ff_X2_25 (Or.inr (Or.inr (Or.inr (Or.inr h42)))) rfl (Nat.le_of_ble_eq_true rfl) rfl rfl rfl (fun Y3 eY3 => ?_)
  subst e1 eY0 eY1 eY2 eY3
  exact V_sub [] rfl (V_vretF X4 hr dX2_init_41)
