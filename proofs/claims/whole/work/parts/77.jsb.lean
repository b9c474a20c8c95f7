/-! contracts of the JDK's builder (printed by jsb.py) -/
theorem c_J_size {l : Launch} {D : va_G} {cA : Nat → ClassId} {dm : Dm} {ad : Ad} {S : S4} {v : Nat} (hv : v ≤ 9999) : CtJ false D cA dm dm ad l yJ6_stringSize_0f7a4 cJ6_stringSize_0f7a4 4 (some .int) 1 60 0 0 S [.int (nI v)] (fun _ => some (.int (nI (nsz v)))) S := by
  refine CtJ.of (by decide +kernel) (Nat.le_of_ble_eq_true rfl) [(0, .int (nI v))] rfl (fun p e s m args below meth c A X hr hY => ?_)
  refine V_iconst X (1 : Int32) dJ6_stringSize_0f7a4_0 (by decide) ?_
  refine V_istore_n X dJ6_stringSize_0f7a4_1 rfl [(1, .int (1 : Int32)), (0, .int (nI v))] (by decide) rfl ?_
  refine V_iload_n X dJ6_stringSize_0f7a4_2 rfl 1 rfl ?_
  refine V_if_lt X 11 dJ6_stringSize_0f7a4_3 (by decide) (fun c9 => absurd c9 (nI_pos (by omega))) (fun _ => ?_)
  refine V_iconst X (0 : Int32) dJ6_stringSize_0f7a4_6 (by decide) ?_
  refine V_istore_n X dJ6_stringSize_0f7a4_7 rfl [(1, .int (0 : Int32)), (0, .int (nI v))] (by decide) rfl ?_
  refine V_iload_n X dJ6_stringSize_0f7a4_8 rfl 1 rfl ?_
  refine V_ineg X dJ6_stringSize_0f7a4_9 ?_
  refine V_istore_n X dJ6_stringSize_0f7a4_10 rfl [(0, .int (-(nI v))), (1, .int (0 : Int32))] (by decide) rfl ?_
  refine V_bipush X (-10 : Int32) dJ6_stringSize_0f7a4_11 (by decide) ?_
  refine V_istore_n X dJ6_stringSize_0f7a4_13 rfl [(2, .int (-10 : Int32)), (0, .int (-(nI v))), (1, .int (0 : Int32))] (by decide) rfl ?_
  refine V_iconst X (1 : Int32) dJ6_stringSize_0f7a4_14 (by decide) ?_
  refine V_istore_n X dJ6_stringSize_0f7a4_15 rfl [(3, .int (1 : Int32)), (2, .int (-10 : Int32)), (0, .int (-(nI v))), (1, .int (0 : Int32))] (by decide) rfl ?_
  refine V_iload_n X dJ6_stringSize_0f7a4_16 rfl 0 rfl ?_
  refine V_bipush X (10 : Int32) dJ6_stringSize_0f7a4_17 (by decide) ?_
  refine V_icmp_ge X 42 dJ6_stringSize_0f7a4_19 (by decide) (fun c9 => absurd c9 (by decide)) (fun _ => ?_)
  refine V_iload_n X dJ6_stringSize_0f7a4_22 rfl 2 rfl ?_
  refine V_iload_n X dJ6_stringSize_0f7a4_23 rfl 1 rfl ?_
  refine V_icmp_le X 31 dJ6_stringSize_0f7a4_24 (by decide) (fun c9 => ?_) (fun c9 => ?_)
  · have h1 : 10 ≤ v := (sb_nle (a := v) (b := 10) (by omega) (by decide)).mp c9
    refine V_bipush X (10 : Int32) dJ6_stringSize_0f7a4_31 (by decide) ?_
    refine V_iload_n X dJ6_stringSize_0f7a4_33 rfl 1 rfl ?_
    refine V_imul X dJ6_stringSize_0f7a4_34 ?_
    refine V_eqi (y := (-100 : Int32)) (by decide) ?_
    refine V_istore_n X dJ6_stringSize_0f7a4_35 rfl [(2, .int (-100 : Int32)), (3, .int (1 : Int32)), (0, .int (-(nI v))), (1, .int (0 : Int32))] (by decide) rfl ?_
    refine V_iinc X (2 : Int32) dJ6_stringSize_0f7a4_36 1 rfl (by decide) [(3, .int (2 : Int32)), (2, .int (-100 : Int32)), (0, .int (-(nI v))), (1, .int (0 : Int32))] (by decide) rfl ?_
    refine V_goto X 16 dJ6_stringSize_0f7a4_39 (by decide) ?_
    refine V_iload_n X dJ6_stringSize_0f7a4_16 rfl 0 rfl ?_
    refine V_bipush X (10 : Int32) dJ6_stringSize_0f7a4_17 (by decide) ?_
    refine V_icmp_ge X 42 dJ6_stringSize_0f7a4_19 (by decide) (fun c9 => absurd c9 (by decide)) (fun _ => ?_)
    refine V_iload_n X dJ6_stringSize_0f7a4_22 rfl 2 rfl ?_
    refine V_iload_n X dJ6_stringSize_0f7a4_23 rfl 1 rfl ?_
    refine V_icmp_le X 31 dJ6_stringSize_0f7a4_24 (by decide) (fun c9 => ?_) (fun c9 => ?_)
    · have h2 : 100 ≤ v := (sb_nle (a := v) (b := 100) (by omega) (by decide)).mp c9
      refine V_bipush X (10 : Int32) dJ6_stringSize_0f7a4_31 (by decide) ?_
      refine V_iload_n X dJ6_stringSize_0f7a4_33 rfl 1 rfl ?_
      refine V_imul X dJ6_stringSize_0f7a4_34 ?_
      refine V_eqi (y := (-1000 : Int32)) (by decide) ?_
      refine V_istore_n X dJ6_stringSize_0f7a4_35 rfl [(2, .int (-1000 : Int32)), (3, .int (2 : Int32)), (0, .int (-(nI v))), (1, .int (0 : Int32))] (by decide) rfl ?_
      refine V_iinc X (3 : Int32) dJ6_stringSize_0f7a4_36 1 rfl (by decide) [(3, .int (3 : Int32)), (2, .int (-1000 : Int32)), (0, .int (-(nI v))), (1, .int (0 : Int32))] (by decide) rfl ?_
      refine V_goto X 16 dJ6_stringSize_0f7a4_39 (by decide) ?_
      refine V_iload_n X dJ6_stringSize_0f7a4_16 rfl 0 rfl ?_
      refine V_bipush X (10 : Int32) dJ6_stringSize_0f7a4_17 (by decide) ?_
      refine V_icmp_ge X 42 dJ6_stringSize_0f7a4_19 (by decide) (fun c9 => absurd c9 (by decide)) (fun _ => ?_)
      refine V_iload_n X dJ6_stringSize_0f7a4_22 rfl 2 rfl ?_
      refine V_iload_n X dJ6_stringSize_0f7a4_23 rfl 1 rfl ?_
      refine V_icmp_le X 31 dJ6_stringSize_0f7a4_24 (by decide) (fun c9 => ?_) (fun c9 => ?_)
      · have h3 : 1000 ≤ v := (sb_nle (a := v) (b := 1000) (by omega) (by decide)).mp c9
        refine V_bipush X (10 : Int32) dJ6_stringSize_0f7a4_31 (by decide) ?_
        refine V_iload_n X dJ6_stringSize_0f7a4_33 rfl 1 rfl ?_
        refine V_imul X dJ6_stringSize_0f7a4_34 ?_
        refine V_eqi (y := (-10000 : Int32)) (by decide) ?_
        refine V_istore_n X dJ6_stringSize_0f7a4_35 rfl [(2, .int (-10000 : Int32)), (3, .int (3 : Int32)), (0, .int (-(nI v))), (1, .int (0 : Int32))] (by decide) rfl ?_
        refine V_iinc X (4 : Int32) dJ6_stringSize_0f7a4_36 1 rfl (by decide) [(3, .int (4 : Int32)), (2, .int (-10000 : Int32)), (0, .int (-(nI v))), (1, .int (0 : Int32))] (by decide) rfl ?_
        refine V_goto X 16 dJ6_stringSize_0f7a4_39 (by decide) ?_
        refine V_iload_n X dJ6_stringSize_0f7a4_16 rfl 0 rfl ?_
        refine V_bipush X (10 : Int32) dJ6_stringSize_0f7a4_17 (by decide) ?_
        refine V_icmp_ge X 42 dJ6_stringSize_0f7a4_19 (by decide) (fun c9 => absurd c9 (by decide)) (fun _ => ?_)
        refine V_iload_n X dJ6_stringSize_0f7a4_22 rfl 2 rfl ?_
        refine V_iload_n X dJ6_stringSize_0f7a4_23 rfl 1 rfl ?_
        refine V_icmp_le X 31 dJ6_stringSize_0f7a4_24 (by decide) (fun c9 => absurd ((sb_nle (a := v) (b := 10000) (by omega) (by decide)).mp c9) (by omega)) (fun c9 => ?_)
        refine V_iload_n X dJ6_stringSize_0f7a4_27 rfl 0 rfl ?_
        refine V_iload_n X dJ6_stringSize_0f7a4_28 rfl 3 rfl ?_
        refine V_iadd X dJ6_stringSize_0f7a4_29 ?_
        rw [show ((4 : Int32) + (0 : Int32)) = nI (nsz v) from (by
          have e : nsz v = 4 := by
            unfold nsz
            rw [if_neg (by omega), if_neg (by omega), if_neg (by omega)]
          rw [e]; rfl)]
        exact V_zretJ X agM.refl hr rfl dJ6_stringSize_0f7a4_30
      · refine V_iload_n X dJ6_stringSize_0f7a4_27 rfl 0 rfl ?_
        refine V_iload_n X dJ6_stringSize_0f7a4_28 rfl 3 rfl ?_
        refine V_iadd X dJ6_stringSize_0f7a4_29 ?_
        rw [show ((3 : Int32) + (0 : Int32)) = nI (nsz v) from (by
          have h : ¬ 1000 ≤ v := fun z => c9 ((sb_nle (a := v) (b := 1000) (by omega) (by decide)).mpr z)
          have e : nsz v = 3 := by
            unfold nsz
            rw [if_neg (by omega), if_neg (by omega), if_pos (by omega)]
          rw [e]; rfl)]
        exact V_zretJ X agM.refl hr rfl dJ6_stringSize_0f7a4_30
    · refine V_iload_n X dJ6_stringSize_0f7a4_27 rfl 0 rfl ?_
      refine V_iload_n X dJ6_stringSize_0f7a4_28 rfl 3 rfl ?_
      refine V_iadd X dJ6_stringSize_0f7a4_29 ?_
      rw [show ((2 : Int32) + (0 : Int32)) = nI (nsz v) from (by
        have h : ¬ 100 ≤ v := fun z => c9 ((sb_nle (a := v) (b := 100) (by omega) (by decide)).mpr z)
        have e : nsz v = 2 := by
          unfold nsz
          rw [if_neg (by omega), if_pos (by omega)]
        rw [e]; rfl)]
      exact V_zretJ X agM.refl hr rfl dJ6_stringSize_0f7a4_30
  · refine V_iload_n X dJ6_stringSize_0f7a4_27 rfl 0 rfl ?_
    refine V_iload_n X dJ6_stringSize_0f7a4_28 rfl 3 rfl ?_
    refine V_iadd X dJ6_stringSize_0f7a4_29 ?_
    rw [show ((1 : Int32) + (0 : Int32)) = nI (nsz v) from (by
      have h : ¬ 10 ≤ v := fun z => c9 ((sb_nle (a := v) (b := 10) (by omega) (by decide)).mpr z)
      have e : nsz v = 1 := by
        unfold nsz
        rw [if_pos (by omega)]
      rw [e]; rfl)]
    exact V_zretJ X agM.refl hr rfl dJ6_stringSize_0f7a4_30
theorem c_J_can {l : Launch} {D : va_G} {cA : Nat → ClassId} {dm : Dm} {ad : Ad} {S : S4} {x : Nat} (hx : x < 128) : CtJ false D cA dm dm ad l yJ1_canEncode_fc78d cJ1_canEncode_fc78d 1 (some .boolean) 1 60 0 0 S [.int (nI x)] (fun _ => some (.int 1)) S := by
  refine CtJ.of (by decide +kernel) (Nat.le_of_ble_eq_true rfl) [(0, .int (nI x))] rfl (fun p e s m args below meth c A X hr hY => ?_)
  refine V_iload_n X dJ1_canEncode_fc78d_0 rfl 0 rfl ?_
  refine V_sipush X (255 : Int32) dJ1_canEncode_fc78d_1 (by decide) ?_
  refine V_icmp_gt X 11 dJ1_canEncode_fc78d_4 (by decide) (fun c9 => absurd c9 (show ¬ nI 255 < nI x from nI_nlt (by omega) (by decide))) (fun _ => ?_)
  refine V_iconst X (1 : Int32) dJ1_canEncode_fc78d_7 (by decide) ?_
  refine V_goto X 12 dJ1_canEncode_fc78d_8 (by decide) ?_
  exact V_zretJ X agM.refl hr rfl dJ1_canEncode_fc78d_12
theorem c_J_latin {l : Launch} {D : va_G} {cA : Nat → ClassId} {dm : Dm} {ad : Ad} {S : S4} (h8 : dm 8 0 0) (hB : S 8 0 0 1 = 0) : CtJ false D cA dm dm ad l yJ5_isLatin1_aae02 cJ5_isLatin1_aae02 1 (some .boolean) 1 60 0 0 S [.ref (ad 8 0 0)] (fun _ => some (.int 1)) S := by
  refine CtJ.of (by decide +kernel) (Nat.le_of_ble_eq_true rfl) [(0, .ref (ad 8 0 0))] rfl (fun p e s m args below meth c A X hr hY => ?_)
  refine V_gets X hY.1.1 g_J5_18 dJ5_isLatin1_aae02_0 ?_
  refine V_if_eq X 17 dJ5_isLatin1_aae02_3 (by decide) (fun c9 => absurd c9 (by decide)) (fun _ => ?_)
  refine V_aload_n X dJ5_isLatin1_aae02_6 rfl 0 rfl ?_
  refine V_getJ X dJ5_isLatin1_aae02_7 f_J_coder.r h8 rfl rfl ?_
  refine V_eqi (y := (0 : Int32)) (hB) ?_
  refine V_if_ne X 17 dJ5_isLatin1_aae02_10 (by decide) (fun c9 => absurd (rfl) c9) (fun _ => ?_)
  refine V_iconst X (1 : Int32) dJ5_isLatin1_aae02_13 (by decide) ?_
  refine V_goto X 18 dJ5_isLatin1_aae02_14 (by decide) ?_
  exact V_zretJ X agM.refl hr rfl dJ5_isLatin1_aae02_18
theorem c_J_newLen {l : Launch} {D : va_G} {cA : Nat → ClassId} {dm : Dm} {ad : Ad} {S : S4} {x y z : Nat} (hx : x ≤ 1000) (hy : y ≤ 1000) (hz : z ≤ 1000) (h0 : 0 < z) (hyz : y ≤ z) : CtJ false D cA dm dm ad l yJ8_newLength_cabcc cJ8_newLength_cabcc 4 (some .int) 1 60 0 0 S [.int (nI x), .int (nI y), .int (nI z)] (fun _ => some (.int (nI (x + z)))) S := by
  refine CtJ.of (by decide +kernel) (Nat.le_of_ble_eq_true rfl) [(0, .int (nI x)), (1, .int (nI y)), (2, .int (nI z))] rfl (fun p e s m args below meth c A X hr hY => ?_)
  refine V_iload_n X dJ8_newLength_cabcc_0 rfl 0 rfl ?_
  refine V_iload_n X dJ8_newLength_cabcc_1 rfl 1 rfl ?_
  refine V_iload_n X dJ8_newLength_cabcc_2 rfl 2 rfl ?_
  refine V_mmax X dJ8_newLength_cabcc_3 mm_J8_194 ⟨by decide, by decide⟩ ⟨Nat.zero_le _, Nat.zero_le _⟩ (Nat.le_of_ble_eq_true rfl) ?_
  rw [show (if nI y < nI z then nI z else nI y) = nI z from (by
    by_cases e : y = z
    · rw [e, if_neg (nI_nlt (Nat.le_refl _) (by omega))]
    · rw [if_pos (nI_lt (by omega) (by omega))])]
  refine V_iadd X dJ8_newLength_cabcc_6 ?_
  refine V_eqi (y := (nI (x + z))) (nI_add x z) ?_
  refine V_istore_n X dJ8_newLength_cabcc_7 rfl [(3, .int (nI (x + z))), (0, .int (nI x)), (1, .int (nI y)), (2, .int (nI z))] (by decide) rfl ?_
  refine V_iconst X (0 : Int32) dJ8_newLength_cabcc_8 (by decide) ?_
  refine V_iload_n X dJ8_newLength_cabcc_9 rfl 0 rfl ?_
  refine V_icmp_ge X 21 dJ8_newLength_cabcc_10 (by decide) (fun c9 => absurd c9 (show ¬ nI (x + z) ≤ 0 from nI_nle (by omega) (by omega))) (fun _ => ?_)
  refine V_iload_n X dJ8_newLength_cabcc_13 rfl 0 rfl ?_
  refine V_ldc X k_J8_200 dJ8_newLength_cabcc_14 ?_
  refine V_icmp_gt X 21 dJ8_newLength_cabcc_16 (by decide) (fun c9 => absurd c9 (show ¬ nI 2147483639 < nI (x + z) from nI_nlt (by omega) (by decide))) (fun _ => ?_)
  refine V_iload_n X dJ8_newLength_cabcc_19 rfl 0 rfl ?_
  exact V_zretJ X agM.refl hr rfl dJ8_newLength_cabcc_20
theorem c_J_newCap {l : Launch} {D : va_G} {cA : Nat → ClassId} {dm : Dm} {ad : Ad} {S : S4} {x m0 : Nat} (h8 : dm 8 0 0) (h9 : dm 9 0 0) (hB : S 8 0 0 1 = 0) (hm : S 9 0 0 200 = nI m0) (hm70 : m0 ≤ 70) (hx : m0 < x) (hx2 : x ≤ 2 * m0 + 2) : CtJ false D cA dm dm ad l yJ5_newCapacity_0f7a4 cJ5_newCapacity_0f7a4 6 (some .int) 2 100 0 0 S [.ref (ad 8 0 0), .int (nI x)] (fun _ => some (.int (nI (2 * m0 + 2)))) S := by
  refine CtJ.of (by decide +kernel) (Nat.le_of_ble_eq_true rfl) [(0, .ref (ad 8 0 0)), (1, .int (nI x))] rfl (fun p e s m args below meth c A X hr hY => ?_)
  have cm : (nI m0).toNatClampNeg = m0 := nI_clamp (by omega)
  refine V_aload_n X dJ5_newCapacity_0f7a4_0 rfl 0 rfl ?_
  refine V_getJ X dJ5_newCapacity_0f7a4_1 f_J_value.r h8 rfl rfl ?_
  refine V_alenB X (v := nI m0) dJ5_newCapacity_0f7a4_4 h9 (by rw [hm, cm]; rfl) ?_
  refine V_istore_n X dJ5_newCapacity_0f7a4_5 rfl [(2, .int (nI m0)), (0, .ref (ad 8 0 0)), (1, .int (nI x))] (by decide) rfl ?_
  refine V_iload_n X dJ5_newCapacity_0f7a4_6 rfl 2 rfl ?_
  refine V_aload_n X dJ5_newCapacity_0f7a4_7 rfl 1 rfl ?_
  refine V_getJ X dJ5_newCapacity_0f7a4_8 f_J_coder.r h8 rfl rfl ?_
  refine V_eqi (y := (0 : Int32)) (hB) ?_
  refine V_ishl X dJ5_newCapacity_0f7a4_11 ?_
  refine V_eqi (y := (nI x)) (sb_shl0 _) ?_
  refine V_istore_n X dJ5_newCapacity_0f7a4_12 rfl [(3, .int (nI x)), (2, .int (nI m0)), (0, .ref (ad 8 0 0)), (1, .int (nI x))] (by decide) rfl ?_
  refine V_iload_n X dJ5_newCapacity_0f7a4_13 rfl 0 rfl ?_
  refine V_iload_n X dJ5_newCapacity_0f7a4_14 rfl 1 rfl ?_
  refine V_isub X dJ5_newCapacity_0f7a4_15 ?_
  refine V_eqi (y := (nI (x - m0))) (pk_sub (by omega)) ?_
  refine V_istore X dJ5_newCapacity_0f7a4_16 [(4, .int (nI (x - m0))), (3, .int (nI x)), (2, .int (nI m0)), (0, .ref (ad 8 0 0)), (1, .int (nI x))] (by decide) rfl ?_
  refine V_iload_n X dJ5_newCapacity_0f7a4_18 rfl 2 rfl ?_
  refine V_iload X dJ5_newCapacity_0f7a4_19 0 rfl ?_
  refine V_iload_n X dJ5_newCapacity_0f7a4_21 rfl 2 rfl ?_
  refine V_iconst X (2 : Int32) dJ5_newCapacity_0f7a4_22 (by decide) ?_
  refine V_aload_n X dJ5_newCapacity_0f7a4_23 rfl 3 rfl ?_
  refine V_getJ X dJ5_newCapacity_0f7a4_24 f_J_coder.r h8 rfl rfl ?_
  refine V_eqi (y := (0 : Int32)) (hB) ?_
  refine V_ishl X dJ5_newCapacity_0f7a4_27 ?_
  refine V_eqi (y := (2 : Int32)) (sb_shl0 _) ?_
  refine V_iadd X dJ5_newCapacity_0f7a4_28 ?_
  refine V_eqi (y := (nI (m0 + 2))) (nI_add m0 2) ?_
  refine V_callSJs X hY [.int (nI m0), .int (nI (x - m0)), .int (nI (m0 + 2))] dJ5_newCapacity_0f7a4_29 m_J5_114 t_J8_newLength_cabcc ⟨Nat.le_of_ble_eq_true rfl, Nat.le_of_ble_eq_true rfl⟩ ⟨Nat.zero_le _, Nat.zero_le _⟩ rfl (Nat.le_of_ble_eq_true rfl) (c_J_newLen (by omega) (by omega) (by omega) (by omega) (by omega)) (fun ad1 a2 X3 => ?_)
  rw [← a2 8 0 0 h8 (Or.inl (by decide))]
  refine V_eqi (y := (nI (2 * m0 + 2))) (congrArg nI (by omega)) ?_
  refine V_istore X3 dJ5_newCapacity_0f7a4_32 [(5, .int (nI (2 * m0 + 2))), (4, .int (nI (x - m0))), (3, .int (nI x)), (2, .int (nI m0)), (0, .ref (ad1 8 0 0)), (1, .int (nI x))] (by decide) rfl ?_
  refine V_iload X3 dJ5_newCapacity_0f7a4_34 0 rfl ?_
  refine V_ldc X3 k_J5_39 dJ5_newCapacity_0f7a4_36 ?_
  refine V_icmp_ne X3 51 dJ5_newCapacity_0f7a4_38 (by decide) (fun _ => ?_) (fun c9 => absurd c9 (fun z => absurd (nI_inj (a := 2 * m0 + 2) (b := 2147483647) z (by omega) (by decide)) (by omega)))
  refine V_iload X3 dJ5_newCapacity_0f7a4_51 0 rfl ?_
  refine V_aload_n X3 dJ5_newCapacity_0f7a4_53 rfl 4 rfl ?_
  refine V_getJ X3 dJ5_newCapacity_0f7a4_54 f_J_coder.r h8 rfl rfl ?_
  refine V_eqi (y := (0 : Int32)) (hB) ?_
  refine V_ishr X3 dJ5_newCapacity_0f7a4_57 ?_
  refine V_eqi (y := (nI (2 * m0 + 2))) (sb_shr0 _) ?_
  exact V_zretJ X3 a2 hr rfl dJ5_newCapacity_0f7a4_58
theorem c_J_chars {l : Launch} {D : va_G} {cA : Nat → ClassId} {dm : Dm} {ad : Ad} {S : S4} {a w m0 : Nat} (h9 : dm 9 0 0) (ha : a ≤ 9999) (hm : S 9 0 0 200 = nI m0) (hm2 : m0 ≤ 142) (hw : w + nsz a ≤ m0) : CtJ false D cA dm dm ad l yJ6_getChars_ba4f3 cJ6_getChars_ba4f3 7 (some .int) 1 60 0 0 S [.int (nI a), .int (nI (w + nsz a)), .ref (ad 9 0 0)] (fun _ => some (.int (nI w))) (dgr a w S) := by
  refine CtJ.of (by decide +kernel) (Nat.le_of_ble_eq_true rfl) [(0, .int (nI a)), (1, .int (nI (w + nsz a))), (2, .ref (ad 9 0 0))] rfl (fun p e s m args below meth c A X hr hY => ?_)
  obtain ⟨⟨hZ0, ⟨b1, hZ1, hT1⟩, ⟨b2, hZ2, hT2⟩, hZ3⟩, hY2⟩ := id hY
  obtain ⟨n1, n4⟩ := nsz_le a
  have T : ∀ (b P : Nat) (Z : S4), b < 100 → P = w + nsz b → w + nsz b ≤ m0 → Z 9 0 0 200 = nI m0 → gch b P Z = dgr a w S → V D cA dm ad A 7 p l e ({ frames := 1, cells := 0, slots := 0, locals := 60 }) s m args below meth c 0 0 (MQ below (gQJ false D cA dm dm ad (dgr a w S) (fun _ => some (.int (nI w))) A) args s 0 0 A) Z 72 [(0, .int (-nI b)), (2, .ref (ad 9 0 0)), (5, .int (nI P)), (6, .int (0 : Int32))] [] := by
    intro b P Z hb hP hPm hZm hE
    obtain ⟨q1, -⟩ := nsz_le b
    have cm : (Z 9 0 0 200).toNatClampNeg = m0 := by rw [hZm]; exact nI_clamp (by omega)
    refine V_aload_n X dJ6_getChars_ba4f3_72 rfl 1 rfl ?_
    refine V_iinc X (nI (P - 1)) dJ6_getChars_ba4f3_73 2 rfl (sb_m1 (by omega)) [(5, .int (nI (P - 1))), (0, .int (-nI b)), (2, .ref (ad 9 0 0)), (6, .int (0 : Int32))] (by decide) rfl ?_
    refine V_iload X dJ6_getChars_ba4f3_76 0 rfl ?_
    refine V_gets X hZ1 g_J6_83 dJ6_getChars_ba4f3_78 ?_
    refine V_iload_n X dJ6_getChars_ba4f3_81 rfl 1 rfl ?_
    refine V_ineg X dJ6_getChars_ba4f3_82 ?_
    refine V_eqi (y := (nI b)) (Int32.neg_neg) ?_
    refine V_tb X hT1 (inb_nI (n := b) (by omega) (by decide)) (v := .int (nI (48 + b % 10))) (by rw [nI_clamp (by omega)]) dJ6_getChars_ba4f3_83 ?_
    refine V_bast X dJ6_getChars_ba4f3_84 h9 (by rw [cm]; exact inb_nI (by omega) (by omega)) (by rw [nI_clamp (by omega)]; omega) (fun Z1 eZ1 => ?_)
    rw [(fit_k (48 + b % 10) (by omega)).2.1, nI_clamp (by omega)] at eZ1
    refine V_iload_n X dJ6_getChars_ba4f3_85 rfl 1 rfl ?_
    refine V_bipush X (-9 : Int32) dJ6_getChars_ba4f3_86 (by decide) ?_
    by_cases cb : b < 10
    · rw [show gch b P Z = Z1 by unfold gch; rw [if_pos cb, eZ1]] at hE
      refine V_icmp_ge X 104 dJ6_getChars_ba4f3_88 (by decide) (fun _ => ?_) (fun c9 => absurd ((sb_nle (a := 9) (b := b) (by decide) (by omega)).mpr (by omega)) c9)
      refine V_iload X dJ6_getChars_ba4f3_104 3 rfl ?_
      refine V_if_eq X 118 dJ6_getChars_ba4f3_106 (by decide) (fun _ => ?_) (fun c9 => absurd (rfl) c9)
      refine V_iload X dJ6_getChars_ba4f3_118 0 rfl ?_
      rw [hE, show P - 1 = w by rw [hP, nsz_e1 cb]; omega]
      exact V_zretJ X agM.refl hr rfl dJ6_getChars_ba4f3_120
    · have q2 : nsz b = 2 := nsz_e2 (by omega) hb
      refine V_icmp_ge X 104 dJ6_getChars_ba4f3_88 (by decide) (fun c9 => absurd c9 (fun z => absurd ((sb_nle (a := 9) (b := b) (by decide) (by omega)).mp z) (by omega))) (fun _ => ?_)
      have cm1 : (Z1 9 0 0 200).toNatClampNeg = m0 := by rw [eZ1, u4_app, if_neg (by omega)]; exact cm
      refine V_aload_n X dJ6_getChars_ba4f3_91 rfl 2 rfl ?_
      refine V_iinc X (nI (P - 1 - 1)) dJ6_getChars_ba4f3_92 0 rfl (sb_m1 (by omega)) [(5, .int (nI (P - 1 - 1))), (0, .int (-nI b)), (2, .ref (ad 9 0 0)), (6, .int (0 : Int32))] (by decide) rfl ?_
      refine V_iload X dJ6_getChars_ba4f3_95 0 rfl ?_
      refine V_gets X hZ2 g_J6_87 dJ6_getChars_ba4f3_97 ?_
      refine V_iload_n X dJ6_getChars_ba4f3_100 rfl 1 rfl ?_
      refine V_ineg X dJ6_getChars_ba4f3_101 ?_
      refine V_eqi (y := (nI b)) (Int32.neg_neg) ?_
      refine V_tb X hT2 (inb_nI (n := b) (by omega) (by decide)) (v := .int (nI (48 + b / 10))) (by rw [nI_clamp (by omega)]) dJ6_getChars_ba4f3_102 ?_
      refine V_bast X dJ6_getChars_ba4f3_103 h9 (by rw [cm1]; exact inb_nI (by omega) (by omega)) (by rw [nI_clamp (by omega)]; omega) (fun Z2 eZ2 => ?_)
      rw [(fit_k (48 + b / 10) (by omega)).2.1, nI_clamp (by omega)] at eZ2
      refine V_iload X dJ6_getChars_ba4f3_104 3 rfl ?_
      refine V_if_eq X 118 dJ6_getChars_ba4f3_106 (by decide) (fun _ => ?_) (fun c9 => absurd (rfl) c9)
      refine V_iload X dJ6_getChars_ba4f3_118 0 rfl ?_
      rw [show gch b P Z = Z2 by unfold gch; rw [if_neg cb, eZ2, eZ1]] at hE
      rw [hE, show P - 1 - 1 = w by omega]
      exact V_zretJ X agM.refl hr rfl dJ6_getChars_ba4f3_120
  refine V_iload_n X dJ6_getChars_ba4f3_0 rfl 1 rfl ?_
  refine V_istore X dJ6_getChars_ba4f3_1 [(5, .int (nI (w + nsz a))), (0, .int (nI a)), (1, .int (nI (w + nsz a))), (2, .ref (ad 9 0 0))] (by decide) rfl ?_
  refine V_iload_n X dJ6_getChars_ba4f3_3 rfl 1 rfl ?_
  refine V_if_ge X 11 dJ6_getChars_ba4f3_4 (by decide) (fun _ => ?_) (fun c9 => absurd (nI_pos' (by omega)) c9)
  refine V_iconst X (0 : Int32) dJ6_getChars_ba4f3_11 (by decide) ?_
  refine V_istore X dJ6_getChars_ba4f3_12 [(6, .int (0 : Int32)), (5, .int (nI (w + nsz a))), (0, .int (nI a)), (1, .int (nI (w + nsz a))), (2, .ref (ad 9 0 0))] (by decide) rfl ?_
  refine V_iload X dJ6_getChars_ba4f3_14 0 rfl ?_
  refine V_if_ne X 22 dJ6_getChars_ba4f3_16 (by decide) (fun c9 => absurd (rfl) c9) (fun _ => ?_)
  refine V_iload_n X dJ6_getChars_ba4f3_19 rfl 2 rfl ?_
  refine V_ineg X dJ6_getChars_ba4f3_20 ?_
  refine V_istore_n X dJ6_getChars_ba4f3_21 rfl [(0, .int (-(nI a))), (6, .int (0 : Int32)), (5, .int (nI (w + nsz a))), (1, .int (nI (w + nsz a))), (2, .ref (ad 9 0 0))] (by decide) rfl ?_
  refine V_iload_n X dJ6_getChars_ba4f3_22 rfl 0 rfl ?_
  refine V_bipush X (-100 : Int32) dJ6_getChars_ba4f3_23 (by decide) ?_
  by_cases cb : a < 100
  · skip
    refine V_icmp_gt X 72 dJ6_getChars_ba4f3_25 (by decide) (fun _ => ?_) (fun c9 => absurd ((sb_nlt (a := 100) (b := a) (by decide) (by omega)).mpr cb) c9)
    refine V_sub [0, 4, 2, 1] rfl (T a (w + nsz a) S cb rfl hw hm ((gch_all ha).1 cb))
  · skip
    refine V_icmp_gt X 72 dJ6_getChars_ba4f3_25 (by decide) (fun c9 => absurd c9 (fun z => cb ((sb_nlt (a := 100) (b := a) (by decide) (by omega)).mp z))) (fun _ => ?_)
    refine V_iload_n X dJ6_getChars_ba4f3_28 rfl 0 rfl ?_
    refine V_bipush X (100 : Int32) dJ6_getChars_ba4f3_29 (by decide) ?_
    refine V_idiv X dJ6_getChars_ba4f3_31 (by decide) ?_
    refine V_eqi (y := (-nI (a / 100))) (sb_ndiv (by omega)) ?_
    refine V_istore_n X dJ6_getChars_ba4f3_32 rfl [(3, .int (-nI (a / 100))), (0, .int (-(nI a))), (6, .int (0 : Int32)), (5, .int (nI (w + nsz a))), (1, .int (nI (w + nsz a))), (2, .ref (ad 9 0 0))] (by decide) rfl ?_
    refine V_iload_n X dJ6_getChars_ba4f3_33 rfl 0 rfl ?_
    refine V_bipush X (100 : Int32) dJ6_getChars_ba4f3_34 (by decide) ?_
    refine V_imul X dJ6_getChars_ba4f3_36 ?_
    refine V_iload_n X dJ6_getChars_ba4f3_37 rfl 1 rfl ?_
    refine V_isub X dJ6_getChars_ba4f3_38 ?_
    refine V_eqi (y := (nI (a % 100))) (sb_nrem (by omega)) ?_
    have n100 := nsz_100 ha (by omega)
    obtain ⟨k1, -⟩ := nsz_le (a / 100)
    have cm : (S 9 0 0 200).toNatClampNeg = m0 := by rw [hm]; exact nI_clamp (by omega)
    refine V_istore X dJ6_getChars_ba4f3_39 [(4, .int (nI (a % 100))), (3, .int (-nI (a / 100))), (0, .int (-(nI a))), (6, .int (0 : Int32)), (5, .int (nI (w + nsz a))), (1, .int (nI (w + nsz a))), (2, .ref (ad 9 0 0))] (by decide) rfl ?_
    refine V_iload_n X dJ6_getChars_ba4f3_41 rfl 1 rfl ?_
    refine V_istore_n X dJ6_getChars_ba4f3_42 rfl [(0, .int (-nI (a / 100))), (4, .int (nI (a % 100))), (3, .int (-nI (a / 100))), (6, .int (0 : Int32)), (5, .int (nI (w + nsz a))), (1, .int (nI (w + nsz a))), (2, .ref (ad 9 0 0))] (by decide) rfl ?_
    refine V_aload_n X dJ6_getChars_ba4f3_43 rfl 6 rfl ?_
    refine V_iinc X (nI (w + nsz a - 1)) dJ6_getChars_ba4f3_44 4 rfl (sb_m1 (by omega)) [(5, .int (nI (w + nsz a - 1))), (0, .int (-nI (a / 100))), (4, .int (nI (a % 100))), (3, .int (-nI (a / 100))), (6, .int (0 : Int32)), (1, .int (nI (w + nsz a))), (2, .ref (ad 9 0 0))] (by decide) rfl ?_
    refine V_iload X dJ6_getChars_ba4f3_47 0 rfl ?_
    refine V_gets X hZ1 g_J6_83 dJ6_getChars_ba4f3_49 ?_
    refine V_iload X dJ6_getChars_ba4f3_52 2 rfl ?_
    refine V_tb X hT1 (inb_nI (n := (a % 100)) (by omega) (by decide)) (v := .int (nI (48 + a % 100 % 10))) (by rw [nI_clamp (by omega)]) dJ6_getChars_ba4f3_54 ?_
    refine V_bast X dJ6_getChars_ba4f3_55 h9 (by rw [cm]; exact inb_nI (by omega) (by omega)) (by rw [nI_clamp (by omega)]; omega) (fun Z1 eZ1 => ?_)
    rw [(fit_k (48 + a % 100 % 10) (by omega)).2.1, nI_clamp (by omega)] at eZ1
    have cm1 : (Z1 9 0 0 200).toNatClampNeg = m0 := by rw [eZ1, u4_app, if_neg (by omega)]; exact cm
    refine V_aload_n X dJ6_getChars_ba4f3_56 rfl 6 rfl ?_
    refine V_iinc X (nI (w + nsz a - 1 - 1)) dJ6_getChars_ba4f3_57 0 rfl (sb_m1 (by omega)) [(5, .int (nI (w + nsz a - 1 - 1))), (0, .int (-nI (a / 100))), (4, .int (nI (a % 100))), (3, .int (-nI (a / 100))), (6, .int (0 : Int32)), (1, .int (nI (w + nsz a))), (2, .ref (ad 9 0 0))] (by decide) rfl ?_
    refine V_iload X dJ6_getChars_ba4f3_60 0 rfl ?_
    refine V_gets X hZ2 g_J6_87 dJ6_getChars_ba4f3_62 ?_
    refine V_iload X dJ6_getChars_ba4f3_65 2 rfl ?_
    refine V_tb X hT2 (inb_nI (n := (a % 100)) (by omega) (by decide)) (v := .int (nI (48 + a % 100 / 10))) (by rw [nI_clamp (by omega)]) dJ6_getChars_ba4f3_67 ?_
    refine V_bast X dJ6_getChars_ba4f3_68 h9 (by rw [cm1]; exact inb_nI (by omega) (by omega)) (by rw [nI_clamp (by omega)]; omega) (fun Z2 eZ2 => ?_)
    rw [(fit_k (48 + a % 100 / 10) (by omega)).2.1, nI_clamp (by omega)] at eZ2
    refine V_goto X 22 dJ6_getChars_ba4f3_69 (by decide) ?_
    refine V_iload_n X dJ6_getChars_ba4f3_22 rfl 1 rfl ?_
    refine V_bipush X (-100 : Int32) dJ6_getChars_ba4f3_23 (by decide) ?_
    refine V_icmp_gt X 72 dJ6_getChars_ba4f3_25 (by decide) (fun _ => ?_) (fun c9 => absurd ((sb_nlt (a := 100) (b := a / 100) (by decide) (by omega)).mpr (by omega)) c9)
    refine V_sub [1, 6, 0, 4] rfl (T (a / 100) (w + nsz a - 1 - 1) Z2 (by omega) (by omega) (by omega) ?_ ?_)
    · rw [eZ2, eZ1, u4_app, if_neg (by omega), u4_app, if_neg (by omega)]; exact hm
    · rw [eZ2, eZ1]; exact (gch_all ha).2 (by omega)
theorem c_J_copyOf {l : Launch} {D : va_G} {cA : Nat → ClassId} {dm : Dm} {ad : Ad} {S : S4} {x m0 : Nat} (h9 : dm 9 0 0) (h91 : ¬ dm 9 1 0) (hm : S 9 0 0 200 = nI m0) (hx : m0 < x) (hx2 : x ≤ 142) (hB : ∀ j, j ≠ 200 → fits .byte (.int (S 9 0 0 j)) = true) : CtJ false D cA dm (dmu dm 9 1 0) ad l yJ7_copyOf_9075b cJ7_copyOf_9075b 3 (some (.array .byte)) 1 60 1 x S [.ref (ad 9 0 0), .int (nI x)] (fun ad' => some (.ref (ad' 9 1 0))) (w4 S 9 1 0 (va_cpy (S 9 0 0) (fun j => if j = 200 then nI x else 0) 0 0 m0)) := by
  refine CtJ.of (by decide +kernel) (Nat.le_of_ble_eq_true rfl) [(0, .ref (ad 9 0 0)), (1, .int (nI x))] rfl (fun p e s m args below meth c A X hr hY => ?_)
  have cm : (nI m0).toNatClampNeg = m0 := nI_clamp (by omega)
  have cx : (nI x).toNatClampNeg = x := nI_clamp (by omega)
  refine V_iload_n X dJ7_copyOf_9075b_0 rfl 1 rfl ?_
  refine V_aload_n X dJ7_copyOf_9075b_1 rfl 0 rfl ?_
  refine V_alenB X (v := nI m0) dJ7_copyOf_9075b_2 h9 (by rw [hm, cm]; rfl) ?_
  refine V_icmp_ne X 14 dJ7_copyOf_9075b_3 (by decide) (fun _ => ?_) (fun c9 => absurd c9 (fun z => absurd (nI_inj z (by omega) (by omega)) (by omega)))
  refine V_iload_n X dJ7_copyOf_9075b_14 rfl 1 rfl ?_
  refine V_newB X h91 rfl (by omega) (Nat.le_of_ble_eq_true rfl) (by show 0 + x ≤ x; omega) dJ7_copyOf_9075b_15 (fun ad2 a2 X2 => ?_)
  rw [← a2 9 0 0 (by omega)]
  generalize hZ : w4 S 9 1 0 (fun j => if j = 200 then nI x else 0) = Z
  have z0 : Z 9 0 0 = S 9 0 0 := by rw [← hZ]; exact w4_ne (by omega)
  have z1 : Z 9 1 0 = fun j => if j = 200 then nI x else 0 := by rw [← hZ]; exact w4_self _ _ _ _ _
  refine V_astore_n X2 dJ7_copyOf_9075b_17 rfl [(2, .ref (ad2 9 1 0)), (0, .ref (ad2 9 0 0)), (1, .int (nI x))] (by decide) rfl ?_
  refine V_aload_n X2 dJ7_copyOf_9075b_18 rfl 1 rfl ?_
  refine V_iconst X2 (0 : Int32) dJ7_copyOf_9075b_19 (by decide) ?_
  refine V_aload_n X2 dJ7_copyOf_9075b_20 rfl 0 rfl ?_
  refine V_iconst X2 (0 : Int32) dJ7_copyOf_9075b_21 (by decide) ?_
  refine V_aload_n X2 dJ7_copyOf_9075b_22 rfl 1 rfl ?_
  refine V_alenB X2 (v := nI m0) dJ7_copyOf_9075b_23 (dmu_in h9) (by rw [z0, hm, cm]; rfl) ?_
  refine V_iload_n X2 dJ7_copyOf_9075b_24 rfl 2 rfl ?_
  refine V_mmin X2 dJ7_copyOf_9075b_25 mm_J7_304 ⟨Nat.le_of_ble_eq_true rfl, Nat.le_of_ble_eq_true rfl⟩ ⟨Nat.le_of_ble_eq_true rfl, by show 0 + x ≤ x; omega⟩ (Nat.le_of_ble_eq_true rfl) ?_
  rw [if_neg (nI_nlt (by omega) (by omega))]
  refine V_copyB X2 (n := x) (n' := m0) dJ7_copyOf_9075b_28 cp_J7_150 (Or.inl ⟨rfl, rfl, rfl⟩) ?_ (dmu_in h9) ?_ (by decide) (by decide) (nI_pos (by omega)) (by rw [cm, sb_cl0]; omega) (by rw [cm, sb_cl0]; omega) ?_ (by rw [cm, sb_cl0]; omega) ?_ (by decide) ⟨Nat.le_of_ble_eq_true rfl, Nat.le_of_ble_eq_true rfl⟩ (fun Z1 eZ1 => ?_)
  · show (Sum.inl (cA 9, (Z 9 1 0 200).toNatClampNeg, .inl (Z 9 1 0)) : va_E) = _
    rw [show Z 9 1 0 200 = nI x by rw [z1]; rfl, cx]
  · show (Sum.inl (cA 9, (Z 9 0 0 200).toNatClampNeg, .inl (Z 9 0 0)) : va_E) = _
    rw [show Z 9 0 0 200 = nI m0 by rw [z0]; exact hm, cm]
  · intro r hr
    show (Sum.inl (cA 9, (r 200).toNatClampNeg, .inl r) : va_E) = _
    rw [hr, show Z 9 1 0 200 = nI x by rw [z1]; rfl, cx]
  · intro j hj
    rw [cm] at hj
    rw [z0, sb_cl0, Nat.zero_add]
    exact hB j (by omega)
  rw [z0, z1, cm, sb_cl0, ← hZ, w4_w4] at eZ1
  subst eZ1
  refine V_aload_n X2 dJ7_copyOf_9075b_31 rfl 0 rfl ?_
  have hag : agM false dm ad ad2 := fun k t i g _ => a2 k t i (fun z => h91 (by obtain ⟨rfl, rfl, rfl⟩ := z; exact g))
  exact V_widen (by decide) (by show 0 + x ≤ x; omega) (V_aretJ X2 hag hr (Or.inr ⟨_, rfl⟩) rfl dJ7_copyOf_9075b_32)
theorem va_cpy_row {f : Nat → Int32} {x m0 : Nat} (h : m0 < 200) : va_cpy f (fun j => if j = 200 then nI x else 0) 0 0 m0 = fun j => if j = 200 then nI x else if j < m0 then f j else 0 := by
  funext j
  show (if 0 ≤ j ∧ j < 0 + m0 then f (0 + (j - 0)) else if j = 200 then nI x else 0) = _
  by_cases h2 : j = 200
  · rw [if_neg (by omega), if_pos h2, if_pos h2]
  · rw [if_neg h2, if_neg h2]
    by_cases h3 : j < m0
    · rw [if_pos (by omega), if_pos h3, Nat.sub_zero, Nat.zero_add]
    · rw [if_neg (by omega), if_neg h3]
theorem c_J_ens {l : Launch} {D : va_G} {cA : Nat → ClassId} {dm : Dm} {ad : Ad} {S : S4} {q : Int32} {S1 : S4} (hP0 : Pb dm) (hB : JB S) (hl : ∃ m0, m0 ≤ 142 ∧ S 9 0 0 200 = nI m0) (hq : 0 ≤ q) (hq2 : q ≤ nI 142) (hs : s_ens q S = some S1) : CtJ true D cA dm dm ad l yJ5_ensureCapacityInternal_d00df cJ5_ensureCapacityInternal_d00df 3 none 3 140 (ln S1 - ln S) (2 * (ln S1 - ln S)) S [.ref (ad 8 0 0), .int q] (fun _ => none) S1 := by
  refine CtJ.of (by decide +kernel) (Nat.le_of_ble_eq_true rfl) [(0, .ref (ad 8 0 0)), (1, .int q)] rfl (fun p e s m args below meth c A X hr hY => ?_)
  obtain ⟨h8, h9, h91, h8u, h48⟩ := id hP0
  obtain ⟨m0, hm142, hm⟩ := hl
  obtain ⟨qn, hqn, rfl⟩ := i32n hq hq2 (by decide)
  have cm : (nI m0).toNatClampNeg = m0 := nI_clamp (by omega)
  refine V_aload_n X dJ5_ensureCapacityInternal_d00df_0 rfl 0 rfl ?_
  refine V_getJ X dJ5_ensureCapacityInternal_d00df_1 f_J_value.r h8 rfl rfl ?_
  refine V_alenB X (v := nI m0) dJ5_ensureCapacityInternal_d00df_4 h9 (by rw [hm, cm]; rfl) ?_
  refine V_aload_n X dJ5_ensureCapacityInternal_d00df_5 rfl 0 rfl ?_
  refine V_getJ X dJ5_ensureCapacityInternal_d00df_6 f_J_coder.r h8 rfl rfl ?_
  refine V_eqi (y := (0 : Int32)) (hB.1) ?_
  refine V_ishr X dJ5_ensureCapacityInternal_d00df_9 ?_
  refine V_eqi (y := (nI m0)) (sb_shr0 _) ?_
  refine V_istore_n X dJ5_ensureCapacityInternal_d00df_10 rfl [(2, .int (nI m0)), (0, .ref (ad 8 0 0)), (1, .int (nI qn))] (by decide) rfl ?_
  refine V_iload_n X dJ5_ensureCapacityInternal_d00df_11 rfl 2 rfl ?_
  refine V_iload_n X dJ5_ensureCapacityInternal_d00df_12 rfl 0 rfl ?_
  refine V_isub X dJ5_ensureCapacityInternal_d00df_13 ?_
  rcases ens_spec hs with ⟨cq, rfl⟩ | ⟨cq, m1, hm1, em1, hq3, rfl⟩
  · rw [hm] at cq
    have cq2 : qn ≤ m0 := by
      have := Int32.le_iff_toInt_le.mp cq
      rw [nI_toInt (by omega), nI_toInt (by omega)] at this
      omega
    refine V_if_le X 38 dJ5_ensureCapacityInternal_d00df_14 (by decide) (fun _ => ?_) (fun c9 => absurd (by have := pk_sub_toInt (a := qn) (b := m0) (by omega) (by omega); exact Int32.le_iff_toInt_le.mpr (by rw [this]; show _ ≤ (0 : Int); omega)) c9)
    rw [Nat.sub_self]
    exact V_sub [] rfl (V_vretJ X agM.refl hr dJ5_ensureCapacityInternal_d00df_38)
  · rw [hm] at cq em1
    obtain rfl : m0 = m1 := nI_inj em1 (by omega) (by omega)
    have cq2 : m0 < qn := by
      refine Nat.lt_of_not_le (fun z => cq (nI_le z (by omega)))
    have cq3 : qn ≤ 2 * m0 + 2 := by
      have := Int32.le_iff_toInt_le.mp hq3
      rw [nI_toInt (by omega), nI_toInt (by omega)] at this
      omega
    have hln : ln (w4 S 9 0 0 (fun j => if j = 200 then nI (2 * m0 + 2) else if j < m0 then S 9 0 0 j else 0)) - ln S = m0 + 2 := by
      unfold ln
      rw [w4_self, if_pos rfl, hm, nI_clamp (by omega), cm]
      omega
    rw [hln]
    refine V_if_le X 38 dJ5_ensureCapacityInternal_d00df_14 (by decide) (fun c9 => absurd c9 (by have := pk_sub_toInt (a := qn) (b := m0) (by omega) (by omega); intro z; have := Int32.le_iff_toInt_le.mp z; rw [pk_sub_toInt (by omega) (by omega)] at this; have h0 : (0 : Int32).toInt = 0 := rfl; omega)) (fun _ => ?_)
    refine V_aload_n X dJ5_ensureCapacityInternal_d00df_17 rfl 1 rfl ?_
    refine V_aload_n X dJ5_ensureCapacityInternal_d00df_18 rfl 1 rfl ?_
    refine V_getJ X dJ5_ensureCapacityInternal_d00df_19 f_J_value.r h8 rfl rfl ?_
    refine V_aload_n X dJ5_ensureCapacityInternal_d00df_22 rfl 1 rfl ?_
    refine V_iload_n X dJ5_ensureCapacityInternal_d00df_23 rfl 2 rfl ?_
    refine V_callUJs X hY [.int (nI qn)] dJ5_ensureCapacityInternal_d00df_24 m_J5_104 u_J5_newCapacity_0f7a4 (Or.inr (by simp [gJw])) ⟨Nat.le_of_ble_eq_true rfl, Nat.le_of_ble_eq_true rfl⟩ ⟨by show 0 + 0 ≤ m0 + 2; omega, by show 0 + 0 ≤ 2 * (m0 + 2); omega⟩ rfl (Nat.le_of_ble_eq_true rfl) h8 (c_J_newCap h8 h9 hB.1 hm hm1 cq2 cq3) (fun ad1 a2 X3 => ?_)
    rw [← a2 8 0 0 h8 (Or.inl (by decide))]
    rw [← a2 9 0 0 h9 (Or.inr rfl)]
    refine V_aload_n X3 dJ5_ensureCapacityInternal_d00df_27 rfl 1 rfl ?_
    refine V_getJ X3 dJ5_ensureCapacityInternal_d00df_28 f_J_coder.r h8 rfl rfl ?_
    refine V_eqi (y := (0 : Int32)) (hB.1) ?_
    refine V_ishl X3 dJ5_ensureCapacityInternal_d00df_31 ?_
    refine V_eqi (y := (nI (2 * m0 + 2))) (sb_shl0 _) ?_
    refine V_callSJs X3 hY [.ref (ad1 9 0 0), .int (nI (2 * m0 + 2))] dJ5_ensureCapacityInternal_d00df_32 m_J5_108 t_J7_copyOf_9075b ⟨Nat.le_of_ble_eq_true rfl, Nat.le_of_ble_eq_true rfl⟩ ⟨by show 0 + 0 + 1 ≤ m0 + 2; omega, by show 0 + 0 + (2 * m0 + 2) ≤ 2 * (m0 + 2); omega⟩ rfl (Nat.le_of_ble_eq_true rfl) (c_J_copyOf h9 h91 hm (by omega) (by omega) hB.2) (fun ad4 a5 X6 => ?_)
    rw [← a5 8 0 0 h8 (Or.inl (by decide))]
    refine V_swap hP0 (w4 S 9 0 0 (fun j => if j = 200 then nI (2 * m0 + 2) else if j < m0 then S 9 0 0 j else 0)) (fun k t i hd => ?_) X6 dJ5_ensureCapacityInternal_d00df_35 (fun ad9 a9 X9 => ?_)
    · have n1 : ¬ (k = 9 ∧ t = 1 ∧ i = 0) := fun z => h91 (by obtain ⟨rfl, rfl, rfl⟩ := z; exact hd)
      rw [w4_self, va_cpy_row (by omega)]
      by_cases n0 : k = 9 ∧ t = 0 ∧ i = 0
      · obtain ⟨rfl, rfl, rfl⟩ := n0; rw [w4_self, w4_self]
      · rw [w4_ne n0, w4_ne n0, w4_ne n1]
    have hag : agM true dm ad ad9 := fun k t i g g9 => (a9 k t i (fun z => g9.elim (fun q => q z.1) (fun q => by cases q))).trans (((a2.trans a5 (fun _ _ _ h => h)) k t i g (Or.inr rfl)))
    exact V_sub [] rfl (V_widen (by show 0 + 0 + 1 ≤ m0 + 2; omega) (by show 0 + 0 + (2 * m0 + 2) ≤ 2 * (m0 + 2); omega) (V_vretJ X9 hag hr dJ5_ensureCapacityInternal_d00df_38))
theorem ens_len {q : Int32} {S S1 : S4} (hs : s_ens q S = some S1) {m : Nat} (hm : m ≤ 142) (em : S1 9 0 0 200 = nI m) : ∃ m0, m0 ≤ 142 ∧ S 9 0 0 200 = nI m0 := by
  rcases ens_spec hs with ⟨-, rfl⟩ | ⟨-, m1, hm1, em1, -, -⟩
  · exact ⟨m, hm, em⟩
  · exact ⟨m1, by omega, em1⟩
theorem c_J_apc5 {l : Launch} {D : va_G} {cA : Nat → ClassId} {dm : Dm} {ad : Ad} {S : S4} {c0 : Int32} {S' : S4} (hP0 : Pb dm) (hB : JB S) (hs : s_apc c0 S = some S') : CtJ true D cA dm dm ad l yJ5_append_3fe6f cJ5_append_3fe6f 2 (some (.object "java/lang/AbstractStringBuilder")) 4 180 (ln S' - ln S) (2 * (ln S' - ln S)) S [.ref (ad 8 0 0), .int c0] (fun ad' => some (.ref (ad' 8 0 0))) S' := by
  refine CtJ.of (by decide +kernel) (Nat.le_of_ble_eq_true rfl) [(0, .ref (ad 8 0 0)), (1, .int c0)] rfl (fun p e s m args below meth c A X hr hY => ?_)
  obtain ⟨h8, h9, h91, h8u, h48⟩ := id hP0
  obtain ⟨S1, w, m0, k, h1, hw, hm, hk, ew, em, rfl, eS⟩ := apc_spec hs
  obtain ⟨o1, o2, o3, o4⟩ := ens_ok h1
  have hB1 := o1 hB
  have e0 : S 8 0 0 0 = nI w := by rw [← ew, o2]
  rw [e0, nI_1] at h1
  have hl2 : ln S1 = ln S' := by unfold ln; rw [eS, u4_app, if_neg (by omega), u4_app, if_neg (by omega)]
  refine V_aload_n X dJ5_append_3fe6f_0 rfl 0 rfl ?_
  refine V_aload_n X dJ5_append_3fe6f_1 rfl 0 rfl ?_
  refine V_getJ X dJ5_append_3fe6f_2 f_J_count.r h8 rfl rfl ?_
  refine V_eqi (y := (nI w)) (e0) ?_
  refine V_iconst X (1 : Int32) dJ5_append_3fe6f_5 (by decide) ?_
  refine V_iadd X dJ5_append_3fe6f_6 ?_
  refine V_eqi (y := (nI (w + 1))) (nI_1 w) ?_
  refine V_callUJv X hY [.int (nI (w + 1))] dJ5_append_3fe6f_7 m_J5_100 u_J5_ensureCapacityInternal_d00df (Or.inr (by simp [gJw])) ⟨Nat.le_of_ble_eq_true rfl, Nat.le_of_ble_eq_true rfl⟩ ⟨by show 0 + (ln S1 - ln S) ≤ ln S' - ln S; omega, by show 0 + 2 * (ln S1 - ln S) ≤ 2 * (ln S' - ln S); omega⟩ rfl (Nat.le_of_ble_eq_true rfl) h8 (c_J_ens hP0 hB (ens_len h1 hm em) (nI_pos' (by omega)) (nI_le (by omega) (by decide)) h1) (fun ad1 a2 X3 => ?_)
  rw [← a2 8 0 0 h8 (Or.inl (by decide))]
  refine V_aload_n X3 dJ5_append_3fe6f_10 rfl 0 rfl ?_
  refine V_callUJs X3 hY [] dJ5_append_3fe6f_11 m_J5_83 u_J5_isLatin1_aae02 (Or.inl s_isLatin1) ⟨Nat.le_of_ble_eq_true rfl, Nat.le_of_ble_eq_true rfl⟩ ⟨by show 0 + (ln S1 - ln S) + 0 ≤ ln S' - ln S; omega, by show 0 + 2 * (ln S1 - ln S) + 0 ≤ 2 * (ln S' - ln S); omega⟩ rfl (Nat.le_of_ble_eq_true rfl) h8 (c_J_latin h8 hB1.1) (fun ad4 a5 X6 => ?_)
  rw [← a5 8 0 0 h8 (Or.inl (by decide))]
  refine V_if_eq X6 45 dJ5_append_3fe6f_14 (by decide) (fun c9 => absurd c9 (by decide)) (fun _ => ?_)
  refine V_iload_n X6 dJ5_append_3fe6f_17 rfl 1 rfl ?_
  refine V_callSJs X6 hY [.int (nI k)] dJ5_append_3fe6f_18 m_J5_191 t_J1_canEncode_fc78d ⟨Nat.le_of_ble_eq_true rfl, Nat.le_of_ble_eq_true rfl⟩ ⟨by show 0 + (ln S1 - ln S) + 0 + 0 ≤ ln S' - ln S; omega, by show 0 + 2 * (ln S1 - ln S) + 0 + 0 ≤ 2 * (ln S' - ln S); omega⟩ rfl (Nat.le_of_ble_eq_true rfl) (c_J_can hk) (fun ad7 a8 X9 => ?_)
  rw [← a8 8 0 0 h8 (Or.inl (by decide))]
  refine V_if_eq X9 45 dJ5_append_3fe6f_21 (by decide) (fun c9 => absurd c9 (by decide)) (fun _ => ?_)
  refine V_aload_n X9 dJ5_append_3fe6f_24 rfl 0 rfl ?_
  refine V_getJ X9 dJ5_append_3fe6f_25 f_J_value.r h8 rfl rfl ?_
  refine V_aload_n X9 dJ5_append_3fe6f_28 rfl 0 rfl ?_
  refine V_dup X9 dJ5_append_3fe6f_29 rfl ?_
  refine V_getJ X9 dJ5_append_3fe6f_30 f_J_count.r h8 rfl rfl ?_
  refine V_eqi (y := (nI w)) (ew) ?_
  refine V_dup_x1 X9 dJ5_append_3fe6f_33 rfl rfl ?_
  refine V_iconst X9 (1 : Int32) dJ5_append_3fe6f_34 (by decide) ?_
  refine V_iadd X9 dJ5_append_3fe6f_35 ?_
  refine V_eqi (y := (nI (w + 1))) (nI_1 w) ?_
  refine V_putJ X9 (j' := 0) dJ5_append_3fe6f_36 f_J_count h8 rfl (Nat.le_of_ble_eq_true rfl) rfl rfl rfl (fun Z1 eZ1 => ?_)
  refine V_iload_n X9 dJ5_append_3fe6f_39 rfl 1 rfl ?_
  refine V_i2b X9 dJ5_append_3fe6f_40 (fit_k k hk).2.2.1 ?_
  have cm : (Z1 9 0 0 200).toNatClampNeg = m0 := by rw [eZ1, u4_app, if_neg (by omega), em]; exact nI_clamp (by omega)
  refine V_bast X9 dJ5_append_3fe6f_41 h9 (by rw [cm]; exact inb_nI hw (by omega)) (by rw [nI_clamp (by omega)]; omega) (fun Z2 eZ2 => ?_)
  rw [(fit_k k hk).2.1, nI_clamp (by omega), eZ1, ← eS] at eZ2
  subst eZ2
  refine V_goto X9 75 dJ5_append_3fe6f_42 (by decide) ?_
  refine V_aload_n X9 dJ5_append_3fe6f_75 rfl 0 rfl ?_
  exact V_widen (by show 0 + (ln S1 - ln S) + 0 + 0 ≤ ln Z2 - ln S; omega) (by show 0 + 2 * (ln S1 - ln S) + 0 + 0 ≤ 2 * (ln Z2 - ln S); omega) (V_aretJ X9 ((a2.trans a5.w (fun _ _ _ h => h)).trans a8.w (fun _ _ _ h => h)) hr (Or.inl ⟨_, rfl⟩) rfl dJ5_append_3fe6f_76)
theorem c_J_apn5 {l : Launch} {D : va_G} {cA : Nat → ClassId} {dm : Dm} {ad : Ad} {S : S4} {v0 : Int32} {S' : S4} (hP0 : Pb dm) (hB : JB S) (hs : s_apn v0 S = some S') : CtJ true D cA dm dm ad l yJ5_append_c97b9 cJ5_append_c97b9 4 (some (.object "java/lang/AbstractStringBuilder")) 4 180 (ln S' - ln S) (2 * (ln S' - ln S)) S [.ref (ad 8 0 0), .int v0] (fun ad' => some (.ref (ad' 8 0 0))) S' := by
  refine CtJ.of (by decide +kernel) (Nat.le_of_ble_eq_true rfl) [(0, .ref (ad 8 0 0)), (1, .int v0)] rfl (fun p e s m args below meth c A X hr hY => ?_)
  obtain ⟨h8, h9, h91, h8u, h48⟩ := id hP0
  obtain ⟨S1, a, w, m0, ha, rfl, h1, hw, hm, ew, em, eS⟩ := apn_spec hs
  obtain ⟨o1, o2, o3, o4⟩ := ens_ok h1
  obtain ⟨n1, n4⟩ := nsz_le a
  have hB1 := o1 hB
  have e0 : S 8 0 0 0 = nI w := by rw [← ew, o2]
  rw [e0, nI_add] at h1
  have hl2 : ln S1 = ln S' := by unfold ln; rw [eS, u4_app, if_neg (by omega), w4_self, if_neg (by omega)]
  refine V_aload_n X dJ5_append_c97b9_0 rfl 0 rfl ?_
  refine V_getJ X dJ5_append_c97b9_1 f_J_count.r h8 rfl rfl ?_
  refine V_eqi (y := (nI w)) (e0) ?_
  refine V_istore_n X dJ5_append_c97b9_4 rfl [(2, .int (nI w)), (0, .ref (ad 8 0 0)), (1, .int (nI a))] (by decide) rfl ?_
  refine V_iload_n X dJ5_append_c97b9_5 rfl 0 rfl ?_
  refine V_iload_n X dJ5_append_c97b9_6 rfl 2 rfl ?_
  refine V_callSJs X hY [.int (nI a)] dJ5_append_c97b9_7 m_J5_245 t_J6_stringSize_0f7a4 ⟨Nat.le_of_ble_eq_true rfl, Nat.le_of_ble_eq_true rfl⟩ ⟨by show 0 + 0 ≤ ln S' - ln S; omega, by show 0 + 0 ≤ 2 * (ln S' - ln S); omega⟩ rfl (Nat.le_of_ble_eq_true rfl) (c_J_size ha) (fun ad1 a2 X3 => ?_)
  rw [← a2 8 0 0 h8 (Or.inl (by decide))]
  refine V_iadd X3 dJ5_append_c97b9_10 ?_
  refine V_eqi (y := (nI (w + nsz a))) (nI_add w (nsz a)) ?_
  refine V_istore_n X3 dJ5_append_c97b9_11 rfl [(3, .int (nI (w + nsz a))), (2, .int (nI w)), (0, .ref (ad1 8 0 0)), (1, .int (nI a))] (by decide) rfl ?_
  refine V_aload_n X3 dJ5_append_c97b9_12 rfl 2 rfl ?_
  refine V_iload_n X3 dJ5_append_c97b9_13 rfl 0 rfl ?_
  refine V_callUJv X3 hY [.int (nI (w + nsz a))] dJ5_append_c97b9_14 m_J5_100 u_J5_ensureCapacityInternal_d00df (Or.inr (by simp [gJw])) ⟨Nat.le_of_ble_eq_true rfl, Nat.le_of_ble_eq_true rfl⟩ ⟨by show 0 + 0 + (ln S1 - ln S) ≤ ln S' - ln S; omega, by show 0 + 0 + 2 * (ln S1 - ln S) ≤ 2 * (ln S' - ln S); omega⟩ rfl (Nat.le_of_ble_eq_true rfl) h8 (c_J_ens hP0 hB (ens_len h1 hm em) (nI_pos' (by omega)) (nI_le (by omega) (by decide)) h1) (fun ad4 a5 X6 => ?_)
  rw [← a5 8 0 0 h8 (Or.inl (by decide))]
  refine V_aload_n X6 dJ5_append_c97b9_17 rfl 2 rfl ?_
  refine V_callUJs X6 hY [] dJ5_append_c97b9_18 m_J5_83 u_J5_isLatin1_aae02 (Or.inl s_isLatin1) ⟨Nat.le_of_ble_eq_true rfl, Nat.le_of_ble_eq_true rfl⟩ ⟨by show 0 + 0 + (ln S1 - ln S) + 0 ≤ ln S' - ln S; omega, by show 0 + 0 + 2 * (ln S1 - ln S) + 0 ≤ 2 * (ln S' - ln S); omega⟩ rfl (Nat.le_of_ble_eq_true rfl) h8 (c_J_latin h8 hB1.1) (fun ad7 a8 X9 => ?_)
  rw [← a8 8 0 0 h8 (Or.inl (by decide))]
  refine V_if_eq X9 37 dJ5_append_c97b9_21 (by decide) (fun c9 => absurd c9 (by decide)) (fun _ => ?_)
  refine V_iload_n X9 dJ5_append_c97b9_24 rfl 3 rfl ?_
  refine V_iload_n X9 dJ5_append_c97b9_25 rfl 0 rfl ?_
  refine V_aload_n X9 dJ5_append_c97b9_26 rfl 2 rfl ?_
  refine V_getJ X9 dJ5_append_c97b9_27 f_J_value.r h8 rfl rfl ?_
  refine V_callSJs X9 hY [.int (nI a), .int (nI (w + nsz a)), .ref (ad7 9 0 0)] dJ5_append_c97b9_30 m_J5_248 t_J6_getChars_ba4f3 ⟨Nat.le_of_ble_eq_true rfl, Nat.le_of_ble_eq_true rfl⟩ ⟨by show 0 + 0 + (ln S1 - ln S) + 0 + 0 ≤ ln S' - ln S; omega, by show 0 + 0 + 2 * (ln S1 - ln S) + 0 + 0 ≤ 2 * (ln S' - ln S); omega⟩ rfl (Nat.le_of_ble_eq_true rfl) (c_J_chars h9 ha em hm hw) (fun ad10 a11 X12 => ?_)
  rw [← a11 8 0 0 h8 (Or.inl (by decide))]
  refine V_pop X12 dJ5_append_c97b9_33 rfl ?_
  refine V_goto X12 48 dJ5_append_c97b9_34 (by decide) ?_
  refine V_aload_n X12 dJ5_append_c97b9_48 rfl 2 rfl ?_
  refine V_iload_n X12 dJ5_append_c97b9_49 rfl 0 rfl ?_
  refine V_putJ X12 (j' := 0) dJ5_append_c97b9_50 f_J_count h8 rfl (Nat.le_of_ble_eq_true rfl) rfl rfl rfl (fun Z1 eZ1 => ?_)
  obtain rfl : Z1 = S' := by rw [eZ1, eS]; rfl
  refine V_aload_n X12 dJ5_append_c97b9_53 rfl 2 rfl ?_
  exact V_widen (by show 0 + 0 + (ln S1 - ln S) + 0 + 0 ≤ ln Z1 - ln S; omega) (by show 0 + 0 + 2 * (ln S1 - ln S) + 0 + 0 ≤ 2 * (ln Z1 - ln S); omega) (V_aretJ X12 (((a2.w.trans a5 (fun _ _ _ h => h)).trans a8.w (fun _ _ _ h => h)).trans a11.w (fun _ _ _ h => h)) hr (Or.inl ⟨_, rfl⟩) rfl dJ5_append_c97b9_54)
theorem c_J_apc {l : Launch} {D : va_G} {cA : Nat → ClassId} {dm : Dm} {ad : Ad} {S : S4} {c0 : Int32} {S' : S4} (hP0 : Pb dm) (hB : JB S) (hs : s_apc c0 S = some S') : CtJ true D cA dm dm ad l yJ4_append_cf468 cJ4_append_cf468 2 (some (.object "java/lang/StringBuilder")) 5 220 (ln S' - ln S) (2 * (ln S' - ln S)) S [.ref (ad 8 0 0), .int c0] (fun ad' => some (.ref (ad' 8 0 0))) S' := by
  refine CtJ.of (by decide +kernel) (Nat.le_of_ble_eq_true rfl) [(0, .ref (ad 8 0 0)), (1, .int c0)] rfl (fun p e s m args below meth c A X hr hY => ?_)
  have h8 := hP0.1
  refine V_aload_n X dJ4_append_cf468_0 rfl 0 rfl ?_
  refine V_iload_n X dJ4_append_cf468_1 rfl 1 rfl ?_
  refine V_callPJs X hY [.int c0] dJ4_append_cf468_2 m_J4_50 u_J5_append_3fe6f sup_RJ4 (by decide) ⟨Nat.le_of_ble_eq_true rfl, Nat.le_of_ble_eq_true rfl⟩ ⟨by show 0 + (ln S' - ln S) ≤ ln S' - ln S; omega, by show 0 + 2 * (ln S' - ln S) ≤ 2 * (ln S' - ln S); omega⟩ rfl (Nat.le_of_ble_eq_true rfl) h8 (c_J_apc5 hP0 hB hs) (fun ad1 a2 X3 => ?_)
  rw [← a2 8 0 0 h8 (Or.inl (by decide))]
  refine V_pop X3 dJ4_append_cf468_5 rfl ?_
  refine V_aload_n X3 dJ4_append_cf468_6 rfl 0 rfl ?_
  exact V_widen (by show 0 + (ln S' - ln S) ≤ ln S' - ln S; omega) (by show 0 + 2 * (ln S' - ln S) ≤ 2 * (ln S' - ln S); omega) (V_aretJ X3 a2 hr (Or.inl ⟨_, rfl⟩) rfl dJ4_append_cf468_7)
theorem c_J_apn {l : Launch} {D : va_G} {cA : Nat → ClassId} {dm : Dm} {ad : Ad} {S : S4} {c0 : Int32} {S' : S4} (hP0 : Pb dm) (hB : JB S) (hs : s_apn c0 S = some S') : CtJ true D cA dm dm ad l yJ4_append_bf812 cJ4_append_bf812 2 (some (.object "java/lang/StringBuilder")) 5 220 (ln S' - ln S) (2 * (ln S' - ln S)) S [.ref (ad 8 0 0), .int c0] (fun ad' => some (.ref (ad' 8 0 0))) S' := by
  refine CtJ.of (by decide +kernel) (Nat.le_of_ble_eq_true rfl) [(0, .ref (ad 8 0 0)), (1, .int c0)] rfl (fun p e s m args below meth c A X hr hY => ?_)
  have h8 := hP0.1
  refine V_aload_n X dJ4_append_bf812_0 rfl 0 rfl ?_
  refine V_iload_n X dJ4_append_bf812_1 rfl 1 rfl ?_
  refine V_callPJs X hY [.int c0] dJ4_append_bf812_2 m_J4_53 u_J5_append_c97b9 sup_RJ4 (by decide) ⟨Nat.le_of_ble_eq_true rfl, Nat.le_of_ble_eq_true rfl⟩ ⟨by show 0 + (ln S' - ln S) ≤ ln S' - ln S; omega, by show 0 + 2 * (ln S' - ln S) ≤ 2 * (ln S' - ln S); omega⟩ rfl (Nat.le_of_ble_eq_true rfl) h8 (c_J_apn5 hP0 hB hs) (fun ad1 a2 X3 => ?_)
  rw [← a2 8 0 0 h8 (Or.inl (by decide))]
  refine V_pop X3 dJ4_append_bf812_5 rfl ?_
  refine V_aload_n X3 dJ4_append_bf812_6 rfl 0 rfl ?_
  exact V_widen (by show 0 + (ln S' - ln S) ≤ ln S' - ln S; omega) (by show 0 + 2 * (ln S' - ln S) ≤ 2 * (ln S' - ln S); omega) (V_aretJ X3 a2 hr (Or.inl ⟨_, rfl⟩) rfl dJ4_append_bf812_7)
theorem c_J_len05 {l : Launch} {D : va_G} {cA : Nat → ClassId} {dm : Dm} {ad : Ad} {S : S4} {S' : S4} (hP0 : Pb dm) (hB : JB S) (hs : s_len0 S = some S') : CtJ true D cA dm dm ad l yJ5_setLength_d00df cJ5_setLength_d00df 2 none 4 180 0 0 S [.ref (ad 8 0 0), .int 0] (fun _ => none) S' := by
  refine CtJ.of (by decide +kernel) (Nat.le_of_ble_eq_true rfl) [(0, .ref (ad 8 0 0)), (1, .int (0 : Int32))] rfl (fun p e s m args below meth c A X hr hY => ?_)
  obtain ⟨h8, h9, h91, h8u, h48⟩ := id hP0
  obtain ⟨⟨g1, g2, g3⟩, hs⟩ := gd_some hs
  obtain ⟨m0, hm, em⟩ := i32n (b := 142) g2 g3 (by decide)
  have h1 : s_ens 0 S = some S := if_pos g2
  refine V_iload_n X dJ5_setLength_d00df_0 rfl 1 rfl ?_
  refine V_if_ge X 13 dJ5_setLength_d00df_1 (by decide) (fun _ => ?_) (fun c9 => absurd (by decide) c9)
  refine V_aload_n X dJ5_setLength_d00df_13 rfl 0 rfl ?_
  refine V_iload_n X dJ5_setLength_d00df_14 rfl 1 rfl ?_
  refine V_callUJv X hY [.int 0] dJ5_setLength_d00df_15 m_J5_100 u_J5_ensureCapacityInternal_d00df (Or.inr (by simp [gJw])) ⟨Nat.le_of_ble_eq_true rfl, Nat.le_of_ble_eq_true rfl⟩ ⟨by show 0 + (ln S - ln S) ≤ 0; omega, by show 0 + 2 * (ln S - ln S) ≤ 0; omega⟩ rfl (Nat.le_of_ble_eq_true rfl) h8 (c_J_ens hP0 hB ⟨m0, hm, em⟩ (by decide) (by decide) h1) (fun ad1 a2 X3 => ?_)
  rw [← a2 8 0 0 h8 (Or.inl (by decide))]
  rw [Nat.sub_self]
  refine V_aload_n X3 dJ5_setLength_d00df_18 rfl 0 rfl ?_
  refine V_getJ X3 dJ5_setLength_d00df_19 f_J_count.r h8 rfl rfl ?_
  refine V_iload_n X3 dJ5_setLength_d00df_22 rfl 1 rfl ?_
  refine V_icmp_ge X3 63 dJ5_setLength_d00df_23 (by decide) (fun _ => ?_) (fun c9 => absurd (g1) c9)
  refine V_aload_n X3 dJ5_setLength_d00df_63 rfl 0 rfl ?_
  refine V_getJ X3 dJ5_setLength_d00df_64 f_J_count.r h8 rfl rfl ?_
  refine V_iload_n X3 dJ5_setLength_d00df_67 rfl 1 rfl ?_
  by_cases cb : 0 < S 8 0 0 0
  · replace hs := if_t hs cb
    refine V_icmp_le X3 76 dJ5_setLength_d00df_68 (by decide) (fun c9 => absurd c9 (Int32.not_le.mpr cb)) (fun _ => ?_)
    refine V_aload_n X3 dJ5_setLength_d00df_71 rfl 0 rfl ?_
    refine V_iconst X3 (1 : Int32) dJ5_setLength_d00df_72 (by decide) ?_
    refine V_putJ X3 (j' := 2) dJ5_setLength_d00df_73 f_J_maybe h8 rfl (Nat.le_of_ble_eq_true rfl) rfl rfl rfl (fun Z1 eZ1 => ?_)
    refine V_aload_n X3 dJ5_setLength_d00df_76 rfl 0 rfl ?_
    refine V_iload_n X3 dJ5_setLength_d00df_77 rfl 1 rfl ?_
    refine V_putJ X3 (j' := 0) dJ5_setLength_d00df_78 f_J_count h8 rfl (Nat.le_of_ble_eq_true rfl) rfl rfl rfl (fun Z2 eZ2 => ?_)
    obtain rfl : Z2 = S' := by rw [eZ2, eZ1]; exact Option.some.inj hs
    exact V_sub [] rfl (V_vretJ X3 a2 hr dJ5_setLength_d00df_81)
  · replace hs := if_f hs cb
    refine V_icmp_le X3 76 dJ5_setLength_d00df_68 (by decide) (fun _ => ?_) (fun c9 => absurd (Int32.not_lt.mp cb) c9)
    refine V_aload_n X3 dJ5_setLength_d00df_76 rfl 0 rfl ?_
    refine V_iload_n X3 dJ5_setLength_d00df_77 rfl 1 rfl ?_
    refine V_putJ X3 (j' := 0) dJ5_setLength_d00df_78 f_J_count h8 rfl (Nat.le_of_ble_eq_true rfl) rfl rfl rfl (fun Z2 eZ2 => ?_)
    obtain rfl : Z2 = S' := by rw [eZ2]; exact Option.some.inj hs
    exact V_sub [] rfl (V_vretJ X3 a2 hr dJ5_setLength_d00df_81)
theorem c_J_len0 {l : Launch} {D : va_G} {cA : Nat → ClassId} {dm : Dm} {ad : Ad} {S : S4} {S' : S4} (hP0 : Pb dm) (hB : JB S) (hs : s_len0 S = some S') : CtJ true D cA dm dm ad l yJ4_setLength_d00df cJ4_setLength_d00df 2 none 5 220 0 0 S [.ref (ad 8 0 0), .int 0] (fun _ => none) S' := by
  refine CtJ.of (by decide +kernel) (Nat.le_of_ble_eq_true rfl) [(0, .ref (ad 8 0 0)), (1, .int (0 : Int32))] rfl (fun p e s m args below meth c A X hr hY => ?_)
  have h8 := hP0.1
  refine V_aload_n X dJ4_setLength_d00df_0 rfl 0 rfl ?_
  refine V_iload_n X dJ4_setLength_d00df_1 rfl 1 rfl ?_
  refine V_callPJv X hY [.int 0] dJ4_setLength_d00df_2 m_J4_333 u_J5_setLength_d00df sup_RJ4 (by decide) ⟨Nat.le_of_ble_eq_true rfl, Nat.le_of_ble_eq_true rfl⟩ ⟨Nat.zero_le _, Nat.zero_le _⟩ rfl (Nat.le_of_ble_eq_true rfl) h8 (c_J_len05 hP0 hB hs) (fun ad1 a2 X3 => ?_)
  rw [← a2 8 0 0 h8 (Or.inl (by decide))]
  exact V_sub [] rfl (V_vretJ X3 a2 hr dJ4_setLength_d00df_5)
theorem c_J_length5 {l : Launch} {D : va_G} {cA : Nat → ClassId} {dm : Dm} {ad : Ad} {S : S4} (h8 : dm 8 0 0) : CtJ false D cA dm dm ad l yJ5_length_8abf5 cJ5_length_8abf5 1 (some .int) 1 60 0 0 S [.ref (ad 8 0 0)] (fun _ => some (.int (S 8 0 0 0))) S := by
  refine CtJ.of (by decide +kernel) (Nat.le_of_ble_eq_true rfl) [(0, .ref (ad 8 0 0))] rfl (fun p e s m args below meth c A X hr hY => ?_)
  refine V_aload_n X dJ5_length_8abf5_0 rfl 0 rfl ?_
  refine V_getJ X dJ5_length_8abf5_1 f_J_count.r h8 rfl rfl ?_
  exact V_zretJ X agM.refl hr rfl dJ5_length_8abf5_4
theorem c_J_length {l : Launch} {D : va_G} {cA : Nat → ClassId} {dm : Dm} {ad : Ad} {S : S4} (h8 : dm 8 0 0) : CtJ false D cA dm dm ad l yJ4_length_8abf5 cJ4_length_8abf5 1 (some .int) 2 100 0 0 S [.ref (ad 8 0 0)] (fun _ => some (.int (S 8 0 0 0))) S := by
  refine CtJ.of (by decide +kernel) (Nat.le_of_ble_eq_true rfl) [(0, .ref (ad 8 0 0))] rfl (fun p e s m args below meth c A X hr hY => ?_)
  refine V_aload_n X dJ4_length_8abf5_0 rfl 0 rfl ?_
  refine V_callPJs X hY [] dJ4_length_8abf5_1 m_J4_343 u_J5_length_8abf5 sup_RJ4 (by decide) ⟨Nat.le_of_ble_eq_true rfl, Nat.le_of_ble_eq_true rfl⟩ ⟨Nat.zero_le _, Nat.zero_le _⟩ rfl (Nat.le_of_ble_eq_true rfl) h8 (c_J_length5 h8) (fun ad1 a2 X3 => ?_)
  rw [← a2 8 0 0 h8 (Or.inl (by decide))]
  exact V_zretJ X3 a2 hr rfl dJ4_length_8abf5_4
theorem c_J_check3 {l : Launch} {D : va_G} {cA : Nat → ClassId} {dm : Dm} {ad : Ad} {S : S4} {i n : Nat} {v : Value} (hi : i < n) (hn : n ≤ 142) (hv : v = .null ∨ ∃ t, v = .ref t) : CtJ false D cA dm dm ad l yJ3_checkIndex_8e157 cJ3_checkIndex_8e157 3 (some .int) 1 60 0 0 S [.int (nI i), .int (nI n), v] (fun _ => some (.int (nI i))) S := by
  rcases hv with rfl | ⟨t, rfl⟩
  · refine CtJ.of (by decide +kernel) (Nat.le_of_ble_eq_true rfl) [(0, .int (nI i)), (1, .int (nI n)), (2, .null)] rfl (fun p e s m args below meth c A X hr hY => ?_)
    refine V_iload_n X dJ3_checkIndex_8e157_0 rfl 0 rfl ?_
    refine V_if_lt X 9 dJ3_checkIndex_8e157_1 (by decide) (fun c9 => absurd c9 (nI_pos (by omega))) (fun _ => ?_)
    refine V_iload_n X dJ3_checkIndex_8e157_4 rfl 0 rfl ?_
    refine V_iload_n X dJ3_checkIndex_8e157_5 rfl 1 rfl ?_
    refine V_icmp_lt X 16 dJ3_checkIndex_8e157_6 (by decide) (fun _ => ?_) (fun c9 => absurd (nI_lt hi (by omega)) c9)
    refine V_iload_n X dJ3_checkIndex_8e157_16 rfl 0 rfl ?_
    exact V_zretJ X agM.refl hr rfl dJ3_checkIndex_8e157_17
  · refine CtJ.of (by decide +kernel) (Nat.le_of_ble_eq_true rfl) [(0, .int (nI i)), (1, .int (nI n)), (2, .ref t)] rfl (fun p e s m args below meth c A X hr hY => ?_)
    refine V_iload_n X dJ3_checkIndex_8e157_0 rfl 0 rfl ?_
    refine V_if_lt X 9 dJ3_checkIndex_8e157_1 (by decide) (fun c9 => absurd c9 (nI_pos (by omega))) (fun _ => ?_)
    refine V_iload_n X dJ3_checkIndex_8e157_4 rfl 0 rfl ?_
    refine V_iload_n X dJ3_checkIndex_8e157_5 rfl 1 rfl ?_
    refine V_icmp_lt X 16 dJ3_checkIndex_8e157_6 (by decide) (fun _ => ?_) (fun c9 => absurd (nI_lt hi (by omega)) c9)
    refine V_iload_n X dJ3_checkIndex_8e157_16 rfl 0 rfl ?_
    exact V_zretJ X agM.refl hr rfl dJ3_checkIndex_8e157_17
theorem c_J_check {l : Launch} {D : va_G} {cA : Nat → ClassId} {dm : Dm} {ad : Ad} {S : S4} {i n : Nat} (hi : i < n) (hn : n ≤ 142) : CtJ false D cA dm dm ad l yJ0_checkIndex_df160 cJ0_checkIndex_df160 2 none 2 100 0 0 S [.int (nI i), .int (nI n)] (fun _ => none) S := by
  refine CtJ.of (by decide +kernel) (Nat.le_of_ble_eq_true rfl) [(0, .int (nI i)), (1, .int (nI n))] rfl (fun p e s m args below meth c A X hr hY => ?_)
  have hz : ∃ v, (v = .null ∨ ∃ t, v = .ref t) ∧ va_Z RJ3 "SIOOBE_FORMATTER" "Ljava/util/function/BiFunction;" v A s s.heap := hY.1.2.2.2.elim (fun h => ⟨.null, Or.inl rfl, h⟩) (fun ⟨t, h⟩ => ⟨.ref t, Or.inr ⟨t, rfl⟩, h⟩)
  obtain ⟨v, hv, hZ⟩ := hz
  refine V_iload_n X dJ0_checkIndex_df160_0 rfl 0 rfl ?_
  refine V_iload_n X dJ0_checkIndex_df160_1 rfl 1 rfl ?_
  refine V_gets X hZ g_J0_1053 dJ0_checkIndex_df160_2 ?_
  refine V_callSJs X hY [.int (nI i), .int (nI n), v] dJ0_checkIndex_df160_5 m_J0_1059 t_J3_checkIndex_8e157 ⟨Nat.le_of_ble_eq_true rfl, Nat.le_of_ble_eq_true rfl⟩ ⟨Nat.zero_le _, Nat.zero_le _⟩ rfl (Nat.le_of_ble_eq_true rfl) (c_J_check3 hi hn hv) (fun ad1 a2 X3 => ?_)
  refine V_pop X3 dJ0_checkIndex_df160_8 rfl ?_
  exact V_sub [] rfl (V_vretJ X3 a2 hr dJ0_checkIndex_df160_9)
theorem nar_c {k : Nat} (hk : k < 128) : narrow .char (.int (nI k)) = .int (nI k) := by
  have h : ∀ k, k < 128 → narrow .char (.int (nI k)) = .int (nI k) := by decide +kernel
  exact h k hk
theorem c_J_charAt5 {l : Launch} {D : va_G} {cA : Nat → ClassId} {dm : Dm} {ad : Ad} {S : S4} {i w m0 k : Nat} (h8 : dm 8 0 0) (h9 : dm 9 0 0) (hB : S 8 0 0 1 = 0) (e0 : S 8 0 0 0 = nI w) (em : S 9 0 0 200 = nI m0) (hm : m0 ≤ 142) (hw : w ≤ m0) (hi : i < w) (hk : k < 128) (ek : S 9 0 0 i = nI k) : CtJ false D cA dm dm ad l yJ5_charAt_5068e cJ5_charAt_5068e 5 (some .char) 4 180 0 0 S [.ref (ad 8 0 0), .int (nI i)] (fun _ => some (.int (nI k))) S := by
  refine CtJ.of (by decide +kernel) (Nat.le_of_ble_eq_true rfl) [(0, .ref (ad 8 0 0)), (1, .int (nI i))] rfl (fun p e s m args below meth c A X hr hY => ?_)
  have cm : (nI m0).toNatClampNeg = m0 := nI_clamp (by omega)
  refine V_aload_n X dJ5_charAt_5068e_0 rfl 0 rfl ?_
  refine V_getJ X dJ5_charAt_5068e_1 f_J_coder.r h8 rfl rfl ?_
  refine V_eqi (y := (0 : Int32)) (hB) ?_
  refine V_istore_n X dJ5_charAt_5068e_4 rfl [(2, .int (0 : Int32)), (0, .ref (ad 8 0 0)), (1, .int (nI i))] (by decide) rfl ?_
  refine V_aload_n X dJ5_charAt_5068e_5 rfl 1 rfl ?_
  refine V_getJ X dJ5_charAt_5068e_6 f_J_value.r h8 rfl rfl ?_
  refine V_astore_n X dJ5_charAt_5068e_9 rfl [(3, .ref (ad 9 0 0)), (2, .int (0 : Int32)), (0, .ref (ad 8 0 0)), (1, .int (nI i))] (by decide) rfl ?_
  refine V_aload_n X dJ5_charAt_5068e_10 rfl 2 rfl ?_
  refine V_getJ X dJ5_charAt_5068e_11 f_J_count.r h8 rfl rfl ?_
  refine V_eqi (y := (nI w)) (e0) ?_
  refine V_aload_n X dJ5_charAt_5068e_14 rfl 0 rfl ?_
  refine V_alenB X (v := nI m0) dJ5_charAt_5068e_15 h9 (by rw [em, cm]; rfl) ?_
  refine V_iload_n X dJ5_charAt_5068e_16 rfl 1 rfl ?_
  refine V_ishr X dJ5_charAt_5068e_17 ?_
  refine V_eqi (y := (nI m0)) (sb_shr0 _) ?_
  refine V_mmin X dJ5_charAt_5068e_18 mm_J5_138 ⟨by decide, by decide⟩ ⟨Nat.zero_le _, Nat.zero_le _⟩ (Nat.le_of_ble_eq_true rfl) ?_
  rw [if_neg (nI_nlt hw (by omega))]
  refine V_istore X dJ5_charAt_5068e_21 [(4, .int (nI w)), (3, .ref (ad 9 0 0)), (2, .int (0 : Int32)), (0, .ref (ad 8 0 0)), (1, .int (nI i))] (by decide) rfl ?_
  refine V_iload_n X dJ5_charAt_5068e_23 rfl 4 rfl ?_
  refine V_iload X dJ5_charAt_5068e_24 0 rfl ?_
  refine V_callSJv X hY [.int (nI i), .int (nI w)] dJ5_charAt_5068e_26 m_J5_144 t_J0_checkIndex_df160 ⟨Nat.le_of_ble_eq_true rfl, Nat.le_of_ble_eq_true rfl⟩ ⟨Nat.zero_le _, Nat.zero_le _⟩ rfl (Nat.le_of_ble_eq_true rfl) (c_J_check hi (by omega)) (fun ad1 a2 X3 => ?_)
  rw [← a2 9 0 0 h9 (Or.inr rfl)]
  rw [← a2 8 0 0 h8 (Or.inl (by decide))]
  refine V_iload_n X3 dJ5_charAt_5068e_29 rfl 2 rfl ?_
  refine V_if_ne X3 42 dJ5_charAt_5068e_30 (by decide) (fun c9 => absurd (rfl) c9) (fun _ => ?_)
  refine V_aload_n X3 dJ5_charAt_5068e_33 rfl 1 rfl ?_
  refine V_iload_n X3 dJ5_charAt_5068e_34 rfl 4 rfl ?_
  refine V_bald X3 dJ5_charAt_5068e_35 h9 (by rw [em, cm]; exact inb_nI (by omega) (by omega)) ?_
  refine V_eqi (y := (nI k)) (by rw [nI_clamp (by omega)]; exact ek) ?_
  refine V_sipush X3 (255 : Int32) dJ5_charAt_5068e_36 (by decide) ?_
  refine V_iand X3 dJ5_charAt_5068e_39 ?_
  refine V_i2c X3 dJ5_charAt_5068e_40 ?_
  refine V_eqi (y := (nI k)) ((fit_k k hk).2.2.2) ?_
  exact V_zretJ X3 a2 hr (nar_c hk) dJ5_charAt_5068e_41
theorem c_J_charAt {l : Launch} {D : va_G} {cA : Nat → ClassId} {dm : Dm} {ad : Ad} {S : S4} {i w m0 k : Nat} (h8 : dm 8 0 0) (h9 : dm 9 0 0) (hB : S 8 0 0 1 = 0) (e0 : S 8 0 0 0 = nI w) (em : S 9 0 0 200 = nI m0) (hm : m0 ≤ 142) (hw : w ≤ m0) (hi : i < w) (hk : k < 128) (ek : S 9 0 0 i = nI k) : CtJ false D cA dm dm ad l yJ4_charAt_5068e cJ4_charAt_5068e 2 (some .char) 5 220 0 0 S [.ref (ad 8 0 0), .int (nI i)] (fun _ => some (.int (nI k))) S := by
  refine CtJ.of (by decide +kernel) (Nat.le_of_ble_eq_true rfl) [(0, .ref (ad 8 0 0)), (1, .int (nI i))] rfl (fun p e s m args below meth c A X hr hY => ?_)
  refine V_aload_n X dJ4_charAt_5068e_0 rfl 0 rfl ?_
  refine V_iload_n X dJ4_charAt_5068e_1 rfl 1 rfl ?_
  refine V_callPJs X hY [.int (nI i)] dJ4_charAt_5068e_2 m_J4_329 u_J5_charAt_5068e sup_RJ4 (by decide) ⟨Nat.le_of_ble_eq_true rfl, Nat.le_of_ble_eq_true rfl⟩ ⟨Nat.zero_le _, Nat.zero_le _⟩ rfl (Nat.le_of_ble_eq_true rfl) h8 (c_J_charAt5 h8 h9 hB e0 em hm hw hi hk ek) (fun ad1 a2 X3 => ?_)
  rw [← a2 8 0 0 h8 (Or.inl (by decide))]
  exact V_zretJ X3 a2 hr (nar_c hk) dJ4_charAt_5068e_5
