def s_X6_audit (fu : Nat)  (S : S4) : Option Int32 := (s_X4_parcelsThatAre fu 0 (0 : Int32) S).bind fun q1 => (s_X4_waitingInStations fu 0 S).bind fun q2 => (if q1 = q2 then (s_X4_parcelsThatAre fu 0 (1 : Int32) S).bind fun q4 => (s_X4_carriedOnLoop fu 0 S).bind fun q5 => (if q4 = q5 then (s_X4_parcelsThatAre fu 0 (2 : Int32) S).bind fun q7 => (if q7 = (S 4 0 0 7) then (s_X4_waitingInStations fu 0 S).bind fun q9 => (s_X4_carriedOnLoop fu 0 S).bind fun q10 => (if ((q9 + q10) + (S 4 0 0 7)) = (S 4 0 0 6) then (s_X4_chutesAgree fu 0 S).bind fun q12 => (if q12 = 0 then some (0 : Int32) else (s_X4_verdictsAgree fu 0 S).bind fun q14 => (if q14 = 0 then some (0 : Int32) else (s_X4_roundsAgree fu 0 S).bind fun q16 => (if q16 = 0 then some (0 : Int32) else some (1 : Int32)))) else some (0 : Int32)) else some (0 : Int32)) else some (0 : Int32)) else some (0 : Int32))
set_option maxRecDepth 100000 in
set_option maxHeartbeats 4000000 in
theorem c_X6_audit {l : Launch} {D : va_G} {cA : Nat → ClassId} {dm : Dm} {ad : Ad} {fu : Nat} {S : S4} (hK : DK dm) {out : Int32} (hs : s_X6_audit fu S = some out) : Ct D cA dm ad l yX6_audit cX6_audit 1 (some .boolean) 3 102 S [.ref (ad 6 0 0)] (some (.int out)) S := by
  refine Ct.of (by decide +kernel) (Nat.le_of_ble_eq_true rfl) [(0, .ref (ad 6 0 0))] rfl (fun p e s m args below meth c A X hr => ?_)
  unfold s_X6_audit at hs
  refine V_aload_n X dX6_audit_0 rfl 0 rfl ?_
  refine V_get X dX6_audit_1 r_X6_10 (gm6 hK) rfl rfl ?_
  refine V_iconst X (0 : Int32) dX6_audit_4 (by decide) ?_
  obtain ⟨q1, eq1, hs⟩ := bd_some hs
  refine V_callVs X [.int (0 : Int32)] dX6_audit_5 m_X6_376 v_X4_parcelsThatAre ⟨Nat.le_of_ble_eq_true rfl, Nat.le_of_ble_eq_true rfl⟩ ⟨Nat.zero_le _, Nat.zero_le _⟩ rfl (Nat.le_of_ble_eq_true rfl) (gm4 (gmT hK (by decide))) rfl cl4 (c_X4_parcelsThatAre (gmT hK (by decide)) eq1) ?_
  refine V_aload_n X dX6_audit_8 rfl 0 rfl ?_
  refine V_get X dX6_audit_9 r_X6_10 (gm6 hK) rfl rfl ?_
  obtain ⟨q2, eq2, hs⟩ := bd_some hs
  refine V_callVs X [] dX6_audit_12 m_X6_336 v_X4_waitingInStations ⟨Nat.le_of_ble_eq_true rfl, Nat.le_of_ble_eq_true rfl⟩ ⟨Nat.zero_le _, Nat.zero_le _⟩ rfl (Nat.le_of_ble_eq_true rfl) (gm4 (gmT hK (by decide))) rfl cl4 (c_X4_waitingInStations (gmT hK (by decide)) eq2) ?_
  refine V_icmp_ne X 54 dX6_audit_15 (by decide) (fun c3 => ?_) (fun c3 => ?_)
  · replace hs := if_f hs c3
    refine V_iconst X (0 : Int32) dX6_audit_54 (by decide) ?_
    obtain rfl := Option.some.inj hs; exact V_zret X hr nb0 dX6_audit_55
  · replace hs := if_t hs c3
    refine V_aload_n X dX6_audit_18 rfl 0 rfl ?_
    refine V_get X dX6_audit_19 r_X6_10 (gm6 hK) rfl rfl ?_
    refine V_iconst X (1 : Int32) dX6_audit_22 (by decide) ?_
    obtain ⟨q4, eq4, hs⟩ := bd_some hs
    refine V_callVs X [.int (1 : Int32)] dX6_audit_23 m_X6_376 v_X4_parcelsThatAre ⟨Nat.le_of_ble_eq_true rfl, Nat.le_of_ble_eq_true rfl⟩ ⟨Nat.zero_le _, Nat.zero_le _⟩ rfl (Nat.le_of_ble_eq_true rfl) (gm4 (gmT hK (by decide))) rfl cl4 (c_X4_parcelsThatAre (gmT hK (by decide)) eq4) ?_
    refine V_aload_n X dX6_audit_26 rfl 0 rfl ?_
    refine V_get X dX6_audit_27 r_X6_10 (gm6 hK) rfl rfl ?_
    obtain ⟨q5, eq5, hs⟩ := bd_some hs
    refine V_callVs X [] dX6_audit_30 m_X6_339 v_X4_carriedOnLoop ⟨Nat.le_of_ble_eq_true rfl, Nat.le_of_ble_eq_true rfl⟩ ⟨Nat.zero_le _, Nat.zero_le _⟩ rfl (Nat.le_of_ble_eq_true rfl) (gm4 (gmT hK (by decide))) rfl cl4 (c_X4_carriedOnLoop (gmT hK (by decide)) eq5) ?_
    refine V_icmp_ne X 54 dX6_audit_33 (by decide) (fun c6 => ?_) (fun c6 => ?_)
    · replace hs := if_f hs c6
      refine V_iconst X (0 : Int32) dX6_audit_54 (by decide) ?_
      obtain rfl := Option.some.inj hs; exact V_zret X hr nb0 dX6_audit_55
    · replace hs := if_t hs c6
      refine V_aload_n X dX6_audit_36 rfl 0 rfl ?_
      refine V_get X dX6_audit_37 r_X6_10 (gm6 hK) rfl rfl ?_
      refine V_iconst X (2 : Int32) dX6_audit_40 (by decide) ?_
      obtain ⟨q7, eq7, hs⟩ := bd_some hs
      refine V_callVs X [.int (2 : Int32)] dX6_audit_41 m_X6_376 v_X4_parcelsThatAre ⟨Nat.le_of_ble_eq_true rfl, Nat.le_of_ble_eq_true rfl⟩ ⟨Nat.zero_le _, Nat.zero_le _⟩ rfl (Nat.le_of_ble_eq_true rfl) (gm4 (gmT hK (by decide))) rfl cl4 (c_X4_parcelsThatAre (gmT hK (by decide)) eq7) ?_
      refine V_aload_n X dX6_audit_44 rfl 0 rfl ?_
      refine V_get X dX6_audit_45 r_X6_10 (gm6 hK) rfl rfl ?_
      refine V_get X dX6_audit_48 r_X6_277 (gm4 (gmT hK (by decide))) rfl rfl ?_
      refine V_icmp_eq X 56 dX6_audit_51 (by decide) (fun c8 => ?_) (fun c8 => ?_)
      · replace hs := if_t hs c8
        refine V_aload_n X dX6_audit_56 rfl 0 rfl ?_
        refine V_get X dX6_audit_57 r_X6_10 (gm6 hK) rfl rfl ?_
        obtain ⟨q9, eq9, hs⟩ := bd_some hs
        refine V_callVs X [] dX6_audit_60 m_X6_336 v_X4_waitingInStations ⟨Nat.le_of_ble_eq_true rfl, Nat.le_of_ble_eq_true rfl⟩ ⟨Nat.zero_le _, Nat.zero_le _⟩ rfl (Nat.le_of_ble_eq_true rfl) (gm4 (gmT hK (by decide))) rfl cl4 (c_X4_waitingInStations (gmT hK (by decide)) eq9) ?_
        refine V_aload_n X dX6_audit_63 rfl 0 rfl ?_
        refine V_get X dX6_audit_64 r_X6_10 (gm6 hK) rfl rfl ?_
        obtain ⟨q10, eq10, hs⟩ := bd_some hs
        refine V_callVs X [] dX6_audit_67 m_X6_339 v_X4_carriedOnLoop ⟨Nat.le_of_ble_eq_true rfl, Nat.le_of_ble_eq_true rfl⟩ ⟨Nat.zero_le _, Nat.zero_le _⟩ rfl (Nat.le_of_ble_eq_true rfl) (gm4 (gmT hK (by decide))) rfl cl4 (c_X4_carriedOnLoop (gmT hK (by decide)) eq10) ?_
        refine V_iadd X dX6_audit_70 ?_
        refine V_aload_n X dX6_audit_71 rfl 0 rfl ?_
        refine V_get X dX6_audit_72 r_X6_10 (gm6 hK) rfl rfl ?_
        refine V_get X dX6_audit_75 r_X6_277 (gm4 (gmT hK (by decide))) rfl rfl ?_
        refine V_iadd X dX6_audit_78 ?_
        refine V_aload_n X dX6_audit_79 rfl 0 rfl ?_
        refine V_get X dX6_audit_80 r_X6_10 (gm6 hK) rfl rfl ?_
        refine V_get X dX6_audit_83 r_X6_44 (gm4 (gmT hK (by decide))) rfl rfl ?_
        refine V_icmp_eq X 91 dX6_audit_86 (by decide) (fun c11 => ?_) (fun c11 => ?_)
        · replace hs := if_t hs c11
          refine V_aload_n X dX6_audit_91 rfl 0 rfl ?_
          refine V_get X dX6_audit_92 r_X6_10 (gm6 hK) rfl rfl ?_
          obtain ⟨q12, eq12, hs⟩ := bd_some hs
          refine V_callVs X [] dX6_audit_95 m_X6_379 v_X4_chutesAgree ⟨Nat.le_of_ble_eq_true rfl, Nat.le_of_ble_eq_true rfl⟩ ⟨Nat.zero_le _, Nat.zero_le _⟩ rfl (Nat.le_of_ble_eq_true rfl) (gm4 (gmT hK (by decide))) rfl cl4 (c_X4_chutesAgree (gmT hK (by decide)) eq12) ?_
          refine V_if_eq X 125 dX6_audit_98 (by decide) (fun c13 => ?_) (fun c13 => ?_)
          · replace hs := if_t hs c13
            refine V_iconst X (0 : Int32) dX6_audit_125 (by decide) ?_
            obtain rfl := Option.some.inj hs; exact V_zret X hr nb0 dX6_audit_126
          · replace hs := if_f hs c13
            refine V_aload_n X dX6_audit_101 rfl 0 rfl ?_
            refine V_get X dX6_audit_102 r_X6_10 (gm6 hK) rfl rfl ?_
            obtain ⟨q14, eq14, hs⟩ := bd_some hs
            refine V_callVs X [] dX6_audit_105 m_X6_382 v_X4_verdictsAgree ⟨Nat.le_of_ble_eq_true rfl, Nat.le_of_ble_eq_true rfl⟩ ⟨Nat.zero_le _, Nat.zero_le _⟩ rfl (Nat.le_of_ble_eq_true rfl) (gm4 (gmT hK (by decide))) rfl cl4 (c_X4_verdictsAgree (gmT hK (by decide)) eq14) ?_
            refine V_if_eq X 125 dX6_audit_108 (by decide) (fun c15 => ?_) (fun c15 => ?_)
            · replace hs := if_t hs c15
              refine V_iconst X (0 : Int32) dX6_audit_125 (by decide) ?_
              obtain rfl := Option.some.inj hs; exact V_zret X hr nb0 dX6_audit_126
            · replace hs := if_f hs c15
              refine V_aload_n X dX6_audit_111 rfl 0 rfl ?_
              refine V_get X dX6_audit_112 r_X6_10 (gm6 hK) rfl rfl ?_
              obtain ⟨q16, eq16, hs⟩ := bd_some hs
              refine V_callVs X [] dX6_audit_115 m_X6_385 v_X4_roundsAgree ⟨Nat.le_of_ble_eq_true rfl, Nat.le_of_ble_eq_true rfl⟩ ⟨Nat.zero_le _, Nat.zero_le _⟩ rfl (Nat.le_of_ble_eq_true rfl) (gm4 (gmT hK (by decide))) rfl cl4 (c_X4_roundsAgree (gmT hK (by decide)) eq16) ?_
              refine V_if_eq X 125 dX6_audit_118 (by decide) (fun c17 => ?_) (fun c17 => ?_)
              · replace hs := if_t hs c17
                refine V_iconst X (0 : Int32) dX6_audit_125 (by decide) ?_
                obtain rfl := Option.some.inj hs; exact V_zret X hr nb0 dX6_audit_126
              · replace hs := if_f hs c17
                refine V_iconst X (1 : Int32) dX6_audit_121 (by decide) ?_
                refine V_goto X 126 dX6_audit_122 (by decide) ?_
                obtain rfl := Option.some.inj hs; exact V_zret X hr nb1 dX6_audit_126
        · replace hs := if_f hs c11
          refine V_iconst X (0 : Int32) dX6_audit_89 (by decide) ?_
          obtain rfl := Option.some.inj hs; exact V_zret X hr nb0 dX6_audit_90
      · replace hs := if_f hs c8
        refine V_iconst X (0 : Int32) dX6_audit_54 (by decide) ?_
        obtain rfl := Option.some.inj hs; exact V_zret X hr nb0 dX6_audit_55

def s_X6_saveSnapshot (np : Nat) (fu : Nat)  (S : S4) : Option (Int32 × S4) := (s_X4_copyFrom np fu 2 0 S).bind fun Z2 => sv (u4 Z2 6 0 0 6 (1 : Int32)) fun Z3 => some ((Z3 4 0 0 0), Z3)
set_option maxRecDepth 100000 in
set_option maxHeartbeats 4000000 in
theorem c_X6_saveSnapshot {l : Launch} {D : va_G} {cA : Nat → ClassId} {dm : Dm} {ad : Ad} {np : Nat} {fu : Nat} {S : S4} (hK : DK dm) (hnp : ∀ i, i < np → DP dm i) {out : (Int32 × S4)} (hs : s_X6_saveSnapshot np fu S = some out) : Ct D cA dm ad l yX6_saveSnapshot cX6_saveSnapshot 1 (some .int) 4 124 S [.ref (ad 6 0 0)] (some (.int out.1)) out.2 := by
  refine Ct.of (by decide +kernel) (Nat.le_of_ble_eq_true rfl) [(0, .ref (ad 6 0 0))] rfl (fun p e s m args below meth c A X hr => ?_)
  unfold s_X6_saveSnapshot at hs
  refine V_aload_n X dX6_saveSnapshot_0 rfl 0 rfl ?_
  refine V_get X dX6_saveSnapshot_1 r_X6_19 (gm6 hK) rfl rfl ?_
  refine V_aload_n X dX6_saveSnapshot_4 rfl 0 rfl ?_
  refine V_get X dX6_saveSnapshot_5 r_X6_10 (gm6 hK) rfl rfl ?_
  obtain ⟨Z2, eZ2, hs⟩ := bd_some hs
  refine V_callVv X [.ref (ad 4 0 0)] dX6_saveSnapshot_8 m_X6_365 v_X4_copyFrom ⟨Nat.le_of_ble_eq_true rfl, Nat.le_of_ble_eq_true rfl⟩ ⟨Nat.zero_le _, Nat.zero_le _⟩ rfl (Nat.le_of_ble_eq_true rfl) (gm4 (gmT hK (by decide))) rfl cl4 (c_X4_copyFrom (gmT hK (by decide)) (gmT hK (by decide)) hnp eZ2) ?_
  refine V_aload_n X dX6_saveSnapshot_11 rfl 0 rfl ?_
  refine V_iconst X (1 : Int32) dX6_saveSnapshot_12 (by decide) ?_
  refine V_put X dX6_saveSnapshot_13 f_X6_399 (gm6 hK) rfl (Nat.le_of_ble_eq_true rfl) rfl rfl rfl (fun Z3 eZ3 => ?_)
  replace hs := sv_some hs Z3 eZ3
  clear eZ3
  refine V_aload_n X dX6_saveSnapshot_16 rfl 0 rfl ?_
  refine V_get X dX6_saveSnapshot_17 r_X6_10 (gm6 hK) rfl rfl ?_
  refine V_get X dX6_saveSnapshot_20 r_X6_333 (gm4 (gmT hK (by decide))) rfl rfl ?_
  obtain rfl := Option.some.inj hs; exact V_iret X hr dX6_saveSnapshot_23

def s_X6_forgetChanges  (S : S4) : Option S4 := sv (u4 S 6 0 0 4 (0 : Int32)) fun Z1 => some Z1
set_option maxRecDepth 100000 in
set_option maxHeartbeats 4000000 in
theorem c_X6_forgetChanges {l : Launch} {D : va_G} {cA : Nat → ClassId} {dm : Dm} {ad : Ad} {S : S4} (hK : DK dm) {out : S4} (hs : s_X6_forgetChanges S = some out) : Ct D cA dm ad l yX6_forgetChanges cX6_forgetChanges 1 none 0 0 S [.ref (ad 6 0 0)] none out := by
  refine Ct.of (by decide +kernel) (Nat.le_of_ble_eq_true rfl) [(0, .ref (ad 6 0 0))] rfl (fun p e s m args below meth c A X hr => ?_)
  unfold s_X6_forgetChanges at hs
  refine V_aload_n X dX6_forgetChanges_0 rfl 0 rfl ?_
  refine V_iconst X (0 : Int32) dX6_forgetChanges_1 (by decide) ?_
  refine V_put X dX6_forgetChanges_2 f_X6_391 (gm6 hK) rfl (Nat.le_of_ble_eq_true rfl) rfl rfl rfl (fun Z1 eZ1 => ?_)
  replace hs := sv_some hs Z1 eZ1
  clear eZ1
  obtain rfl := Option.some.inj hs; exact V_vret X hr dX6_forgetChanges_5

def s_X6_build (fu : Nat) (p1 : Int32) (S : S4) : Option ((Int32 × S4) ⊕ (Nat × S4)) := (if p1 < (12 : Int32) then some (.inr (1, S)) else (if p1 ≤ (30 : Int32) then (s_X4_reset fu 0 p1 S).bind fun Z4 => (s_X6_forgetChanges Z4).bind fun Z6 => some (.inl ((S 4 0 0 6), Z6)) else some (.inr (1, S))))
set_option maxRecDepth 100000 in
set_option maxHeartbeats 4000000 in
theorem c_X6_build {l : Launch} {D : va_G} {cA : Nat → ClassId} {dm : Dm} {ad : Ad} {fu : Nat} {S : S4} {p1 : Int32} (hK : DK dm) {out : (Int32 × S4)} (hs : s_X6_build fu p1 S = some (.inl out)) : Ct D cA dm ad l yX6_build cX6_build 3 (some .int) 20 600 S [.ref (ad 6 0 0), .int p1] (some (.int out.1)) out.2 := by
  refine Ct.of (by decide +kernel) (Nat.le_of_ble_eq_true rfl) [(0, .ref (ad 6 0 0)), (1, .int p1)] rfl (fun p e s m args below meth c A X hr => ?_)
  unfold s_X6_build at hs
  refine V_iload_n X dX6_build_0 rfl 1 rfl ?_
  refine V_bipush X (12 : Int32) dX6_build_1 (by decide) ?_
  refine V_icmp_lt X 12 dX6_build_3 (by decide) (fun c1 => ?_) (fun c1 => ?_)
  · replace hs := if_t hs c1
    exact (rl_no hs).elim
  · replace hs := if_f hs c1
    refine V_iload_n X dX6_build_6 rfl 1 rfl ?_
    refine V_bipush X (30 : Int32) dX6_build_7 (by decide) ?_
    refine V_icmp_le X 22 dX6_build_9 (by decide) (fun c2 => ?_) (fun c2 => ?_)
    · replace hs := if_t hs c2
      refine V_aload_n X dX6_build_22 rfl 0 rfl ?_
      refine V_get X dX6_build_23 r_X6_10 (gm6 hK) rfl rfl ?_
      refine V_get X dX6_build_26 r_X6_44 (gm4 (gmT hK (by decide))) rfl rfl ?_
      refine V_istore_n X dX6_build_29 rfl [(2, .int (S 4 0 0 6)), (0, .ref (ad 6 0 0)), (1, .int p1)] (by decide) rfl ?_
      refine V_aload_n X dX6_build_30 rfl 1 rfl ?_
      refine V_get X dX6_build_31 r_X6_10 (gm6 hK) rfl rfl ?_
      refine V_iload_n X dX6_build_34 rfl 2 rfl ?_
      obtain ⟨Z4, eZ4, hs⟩ := bd_some hs
      refine V_callVv X [.int p1] dX6_build_35 m_X6_48 v_X4_reset ⟨Nat.le_of_ble_eq_true rfl, Nat.le_of_ble_eq_true rfl⟩ ⟨Nat.zero_le _, Nat.zero_le _⟩ rfl (Nat.le_of_ble_eq_true rfl) (gm4 (gmT hK (by decide))) rfl cl4 (c_X4_reset (gmT hK (by decide)) eZ4) ?_
      refine V_aload_n X dX6_build_38 rfl 1 rfl ?_
      obtain ⟨Z6, eZ6, hs⟩ := bd_some hs
      refine V_callVv X [] dX6_build_39 m_X6_52 v_X6_forgetChanges ⟨Nat.le_of_ble_eq_true rfl, Nat.le_of_ble_eq_true rfl⟩ ⟨Nat.zero_le _, Nat.zero_le _⟩ rfl (Nat.le_of_ble_eq_true rfl) (gm6 hK) rfl cl6 (c_X6_forgetChanges hK eZ6) ?_
      refine V_iload_n X dX6_build_42 rfl 0 rfl ?_
      obtain rfl := ll_eq hs; exact V_iret X hr dX6_build_43
    · replace hs := if_f hs c2
      exact (rl_no hs).elim
set_option maxRecDepth 100000 in
set_option maxHeartbeats 4000000 in
theorem x_X6_build {l : Launch} {D : va_G} {cA : Nat → ClassId} {dm : Dm} {ad : Ad} {fu : Nat} {S : S4} {p1 : Int32} (hK : DK dm) (hl : l.stackTraces = false) {out : Nat × S4} (hs : s_X6_build fu p1 S = some (.inr out)) : Cx D cA dm ad l yX6_build cX6_build 3 (some .int) 20 600 S [.ref (ad 6 0 0), .int p1] out := by
  refine Cx.of (by decide +kernel) (Nat.le_of_ble_eq_true rfl) [(0, .ref (ad 6 0 0)), (1, .int p1)] rfl (fun p e s m args below meth c A X hr hZ hE => ?_)
  unfold s_X6_build at hs
  refine V_iload_n X dX6_build_0 rfl 1 rfl ?_
  refine V_bipush X (12 : Int32) dX6_build_1 (by decide) ?_
  refine V_icmp_lt X 12 dX6_build_3 (by decide) (fun c1 => ?_) (fun c1 => ?_)
  · replace hs := if_t hs c1
    obtain rfl := rr_eq hs
    exact V_throwS X hE hl hZ tw_1 (text := "places out of range") (by decide +kernel) dX6_build_12 dX6_build_15 dX6_build_16 dX6_build_18 dX6_build_21 (Nat.le_of_ble_eq_true rfl) ⟨by decide, by decide, by decide, by decide⟩ ⟨by decide, by decide⟩
  · replace hs := if_f hs c1
    refine V_iload_n X dX6_build_6 rfl 1 rfl ?_
    refine V_bipush X (30 : Int32) dX6_build_7 (by decide) ?_
    refine V_icmp_le X 22 dX6_build_9 (by decide) (fun c2 => ?_) (fun c2 => ?_)
    · replace hs := if_t hs c2
      refine V_aload_n X dX6_build_22 rfl 0 rfl ?_
      refine V_get X dX6_build_23 r_X6_10 (gm6 hK) rfl rfl ?_
      refine V_get X dX6_build_26 r_X6_44 (gm4 (gmT hK (by decide))) rfl rfl ?_
      refine V_istore_n X dX6_build_29 rfl [(2, .int (S 4 0 0 6)), (0, .ref (ad 6 0 0)), (1, .int p1)] (by decide) rfl ?_
      refine V_aload_n X dX6_build_30 rfl 1 rfl ?_
      refine V_get X dX6_build_31 r_X6_10 (gm6 hK) rfl rfl ?_
      refine V_iload_n X dX6_build_34 rfl 2 rfl ?_
      obtain ⟨Z4, eZ4, hs⟩ := bd_some hs
      refine V_callVv X [.int p1] dX6_build_35 m_X6_48 v_X4_reset ⟨Nat.le_of_ble_eq_true rfl, Nat.le_of_ble_eq_true rfl⟩ ⟨Nat.zero_le _, Nat.zero_le _⟩ rfl (Nat.le_of_ble_eq_true rfl) (gm4 (gmT hK (by decide))) rfl cl4 (c_X4_reset (gmT hK (by decide)) eZ4) ?_
      refine V_aload_n X dX6_build_38 rfl 1 rfl ?_
      obtain ⟨Z6, eZ6, hs⟩ := bd_some hs
      refine V_callVv X [] dX6_build_39 m_X6_52 v_X6_forgetChanges ⟨Nat.le_of_ble_eq_true rfl, Nat.le_of_ble_eq_true rfl⟩ ⟨Nat.zero_le _, Nat.zero_le _⟩ rfl (Nat.le_of_ble_eq_true rfl) (gm6 hK) rfl cl6 (c_X6_forgetChanges hK eZ6) ?_
      refine V_iload_n X dX6_build_42 rfl 0 rfl ?_
      exact (lr_no hs).elim
    · replace hs := if_f hs c2
      obtain rfl := rr_eq hs
      exact V_throwS X hE hl hZ tw_1 (text := "places out of range") (by decide +kernel) dX6_build_12 dX6_build_15 dX6_build_16 dX6_build_18 dX6_build_21 (Nat.le_of_ble_eq_true rfl) ⟨by decide, by decide, by decide, by decide⟩ ⟨by decide, by decide⟩

def s_X6_remember (np : Nat) (fu : Nat)  (S : S4) : Option S4 := gd (inb (S 6 0 0 5) 8) ((s_X4_copyFrom np fu (3 + (S 6 0 0 5).toNatClampNeg) 0 S).bind fun Z3 => ((if (7 : Int32) ≤ (Z3 6 0 0 5) then some (0 : Int32) else some ((Z3 6 0 0 5) + (1 : Int32)))).bind fun q4 => sv (u4 Z3 6 0 0 5 q4) fun Z5 => sv (u4 Z5 6 0 0 4 (if (8 : Int32) < ((Z5 6 0 0 4) + (1 : Int32)) then (8 : Int32) else ((Z5 6 0 0 4) + (1 : Int32)))) fun Z6 => some Z6)
set_option maxRecDepth 100000 in
set_option maxHeartbeats 4000000 in
theorem c_X6_remember {l : Launch} {D : va_G} {cA : Nat → ClassId} {dm : Dm} {ad : Ad} {np : Nat} {fu : Nat} {S : S4} (hK : DK dm) (hnp : ∀ i, i < np → DP dm i) {out : S4} (hs : s_X6_remember np fu S = some out) : Ct D cA dm ad l yX6_remember cX6_remember 1 none 4 124 S [.ref (ad 6 0 0)] none out := by
  refine Ct.of (by decide +kernel) (Nat.le_of_ble_eq_true rfl) [(0, .ref (ad 6 0 0))] rfl (fun p e s m args below meth c A X hr => ?_)
  unfold s_X6_remember at hs
  refine V_aload_n X dX6_remember_0 rfl 0 rfl ?_
  refine V_get X dX6_remember_1 r_X6_22 (gm6 hK) rfl rfl ?_
  refine V_aload_n X dX6_remember_4 rfl 0 rfl ?_
  refine V_get X dX6_remember_5 r_X6_396 (gm6 hK) rfl rfl ?_
  obtain ⟨h1, hs⟩ := gd_some hs
  refine V_aald X 2 rfl dX6_remember_8 (gm22 hK) rfl h1 (v := .ref (ad 4 (3 + (S 6 0 0 5).toNatClampNeg) 0)) rfl ?_
  refine V_aload_n X dX6_remember_9 rfl 0 rfl ?_
  refine V_get X dX6_remember_10 r_X6_10 (gm6 hK) rfl rfl ?_
  obtain ⟨Z3, eZ3, hs⟩ := bd_some hs
  refine V_callVv X [.ref (ad 4 0 0)] dX6_remember_13 m_X6_365 v_X4_copyFrom ⟨Nat.le_of_ble_eq_true rfl, Nat.le_of_ble_eq_true rfl⟩ ⟨Nat.zero_le _, Nat.zero_le _⟩ rfl (Nat.le_of_ble_eq_true rfl) (gm4 (gmT hK (inb_past h1))) rfl cl4 (c_X4_copyFrom (gmT hK (inb_past h1)) (gmT hK (by decide)) hnp eZ3) ?_
  refine V_aload_n X dX6_remember_16 rfl 0 rfl ?_
  refine V_aload_n X dX6_remember_17 rfl 0 rfl ?_
  refine V_get X dX6_remember_18 r_X6_396 (gm6 hK) rfl rfl ?_
  refine V_bipush X (7 : Int32) dX6_remember_21 (by decide) ?_
  refine jn (P := fun q => V D cA dm ad A 1 p l e ({ frames := 4, cells := 0, slots := 0, locals := 124 }) s m args below meth c 0 0 (MQ below (gQ D cA dm ad out none A) args s 0 0 A) Z3 36 [(0, .ref (ad 6 0 0))] [.int q, .ref (ad 6 0 0)]) hs (fun q4 hs => ?_) (fun J36 hs => ?_)
  · refine V_put X dX6_remember_36 f_X6_396 (gm6 hK) rfl (Nat.le_of_ble_eq_true rfl) rfl rfl rfl (fun Z5 eZ5 => ?_)
    replace hs := sv_some hs Z5 eZ5
    clear eZ5
    refine V_aload_n X dX6_remember_39 rfl 0 rfl ?_
    refine V_aload_n X dX6_remember_40 rfl 0 rfl ?_
    refine V_get X dX6_remember_41 r_X6_391 (gm6 hK) rfl rfl ?_
    refine V_iconst X (1 : Int32) dX6_remember_44 (by decide) ?_
    refine V_iadd X dX6_remember_45 ?_
    refine V_bipush X (8 : Int32) dX6_remember_46 (by decide) ?_
    refine V_mmin X dX6_remember_48 mm_X6_427 ⟨by decide, by decide⟩ ⟨Nat.zero_le _, Nat.zero_le _⟩ (Nat.le_of_ble_eq_true rfl) ?_
    refine V_put X dX6_remember_51 f_X6_391 (gm6 hK) rfl (Nat.le_of_ble_eq_true rfl) rfl rfl rfl (fun Z6 eZ6 => ?_)
    replace hs := sv_some hs Z6 eZ6
    clear eZ6
    obtain rfl := Option.some.inj hs; exact V_vret X hr dX6_remember_54
  · refine V_icmp_ge X 35 dX6_remember_23 (by decide) (fun c7 => ?_) (fun c7 => ?_)
    · replace hs := if_tB hs c7
      refine V_iconst X (0 : Int32) dX6_remember_35 (by decide) ?_
      exact J36 _ (bs_some hs)
    · replace hs := if_fB hs c7
      refine V_aload_n X dX6_remember_26 rfl 0 rfl ?_
      refine V_get X dX6_remember_27 r_X6_396 (gm6 hK) rfl rfl ?_
      refine V_iconst X (1 : Int32) dX6_remember_30 (by decide) ?_
      refine V_iadd X dX6_remember_31 ?_
      refine V_goto X 36 dX6_remember_32 (by decide) ?_
      exact J36 _ (bs_some hs)

def s_X6_addStation (np : Nat) (fu : Nat) (p1 : Int32) (S : S4) : Option ((Int32 × S4) ⊕ (Nat × S4)) := (s_X4_isFree fu 0 p1 S).bind fun q1 => (if q1 = 0 then some (.inr (1, S)) else (if (S 4 0 0 3) < (3 : Int32) then (s_X6_remember np fu S).bind fun Z5 => (s_X4_putStation 0 p1 Z5).bind fun q6 => some (.inl (q6.1, q6.2)) else some (.inr (2, S))))
set_option maxRecDepth 100000 in
set_option maxHeartbeats 4000000 in
theorem c_X6_addStation {l : Launch} {D : va_G} {cA : Nat → ClassId} {dm : Dm} {ad : Ad} {np : Nat} {fu : Nat} {S : S4} {p1 : Int32} (hK : DK dm) (hnp : ∀ i, i < np → DP dm i) {out : (Int32 × S4)} (hs : s_X6_addStation np fu p1 S = some (.inl out)) : Ct D cA dm ad l yX6_addStation cX6_addStation 2 (some .int) 20 600 S [.ref (ad 6 0 0), .int p1] (some (.int out.1)) out.2 := by
  refine Ct.of (by decide +kernel) (Nat.le_of_ble_eq_true rfl) [(0, .ref (ad 6 0 0)), (1, .int p1)] rfl (fun p e s m args below meth c A X hr => ?_)
  unfold s_X6_addStation at hs
  refine V_aload_n X dX6_addStation_0 rfl 0 rfl ?_
  refine V_get X dX6_addStation_1 r_X6_10 (gm6 hK) rfl rfl ?_
  refine V_iload_n X dX6_addStation_4 rfl 1 rfl ?_
  obtain ⟨q1, eq1, hs⟩ := bd_some hs
  refine V_callVs X [.int p1] dX6_addStation_5 m_X6_55 v_X4_isFree ⟨Nat.le_of_ble_eq_true rfl, Nat.le_of_ble_eq_true rfl⟩ ⟨Nat.zero_le _, Nat.zero_le _⟩ rfl (Nat.le_of_ble_eq_true rfl) (gm4 (gmT hK (by decide))) rfl cl4 (c_X4_isFree (gmT hK (by decide)) eq1) ?_
  refine V_if_ne X 21 dX6_addStation_8 (by decide) (fun c2 => ?_) (fun c2 => ?_)
  · replace hs := if_f hs c2
    refine V_aload_n X dX6_addStation_21 rfl 0 rfl ?_
    refine V_get X dX6_addStation_22 r_X6_10 (gm6 hK) rfl rfl ?_
    refine V_get X dX6_addStation_25 r_X6_61 (gm4 (gmT hK (by decide))) rfl rfl ?_
    refine V_iconst X (3 : Int32) dX6_addStation_28 (by decide) ?_
    refine V_icmp_lt X 42 dX6_addStation_29 (by decide) (fun c3 => ?_) (fun c3 => ?_)
    · replace hs := if_t hs c3
      refine V_aload_n X dX6_addStation_42 rfl 0 rfl ?_
      obtain ⟨Z5, eZ5, hs⟩ := bd_some hs
      refine V_callVv X [] dX6_addStation_43 m_X6_69 v_X6_remember ⟨Nat.le_of_ble_eq_true rfl, Nat.le_of_ble_eq_true rfl⟩ ⟨Nat.zero_le _, Nat.zero_le _⟩ rfl (Nat.le_of_ble_eq_true rfl) (gm6 hK) rfl cl6 (c_X6_remember hK hnp eZ5) ?_
      refine V_aload_n X dX6_addStation_46 rfl 0 rfl ?_
      refine V_get X dX6_addStation_47 r_X6_10 (gm6 hK) rfl rfl ?_
      refine V_iload_n X dX6_addStation_50 rfl 1 rfl ?_
      obtain ⟨q6, eq6, hs⟩ := bd_some hs
      refine V_callVs X [.int p1] dX6_addStation_51 m_X6_72 v_X4_putStation ⟨Nat.le_of_ble_eq_true rfl, Nat.le_of_ble_eq_true rfl⟩ ⟨Nat.zero_le _, Nat.zero_le _⟩ rfl (Nat.le_of_ble_eq_true rfl) (gm4 (gmT hK (by decide))) rfl cl4 (c_X4_putStation (gmT hK (by decide)) eq6) ?_
      obtain rfl := ll_eq hs; exact V_iret X hr dX6_addStation_54
    · replace hs := if_f hs c3
      exact (rl_no hs).elim
  · replace hs := if_t hs c2
    exact (rl_no hs).elim
set_option maxRecDepth 100000 in
set_option maxHeartbeats 4000000 in
theorem x_X6_addStation {l : Launch} {D : va_G} {cA : Nat → ClassId} {dm : Dm} {ad : Ad} {np : Nat} {fu : Nat} {S : S4} {p1 : Int32} (hK : DK dm) (hnp : ∀ i, i < np → DP dm i) (hl : l.stackTraces = false) {out : Nat × S4} (hs : s_X6_addStation np fu p1 S = some (.inr out)) : Cx D cA dm ad l yX6_addStation cX6_addStation 2 (some .int) 20 600 S [.ref (ad 6 0 0), .int p1] out := by
  refine Cx.of (by decide +kernel) (Nat.le_of_ble_eq_true rfl) [(0, .ref (ad 6 0 0)), (1, .int p1)] rfl (fun p e s m args below meth c A X hr hZ hE => ?_)
  unfold s_X6_addStation at hs
  refine V_aload_n X dX6_addStation_0 rfl 0 rfl ?_
  refine V_get X dX6_addStation_1 r_X6_10 (gm6 hK) rfl rfl ?_
  refine V_iload_n X dX6_addStation_4 rfl 1 rfl ?_
  obtain ⟨q1, eq1, hs⟩ := bd_some hs
  refine V_callVs X [.int p1] dX6_addStation_5 m_X6_55 v_X4_isFree ⟨Nat.le_of_ble_eq_true rfl, Nat.le_of_ble_eq_true rfl⟩ ⟨Nat.zero_le _, Nat.zero_le _⟩ rfl (Nat.le_of_ble_eq_true rfl) (gm4 (gmT hK (by decide))) rfl cl4 (c_X4_isFree (gmT hK (by decide)) eq1) ?_
  refine V_if_ne X 21 dX6_addStation_8 (by decide) (fun c2 => ?_) (fun c2 => ?_)
  · replace hs := if_f hs c2
    refine V_aload_n X dX6_addStation_21 rfl 0 rfl ?_
    refine V_get X dX6_addStation_22 r_X6_10 (gm6 hK) rfl rfl ?_
    refine V_get X dX6_addStation_25 r_X6_61 (gm4 (gmT hK (by decide))) rfl rfl ?_
    refine V_iconst X (3 : Int32) dX6_addStation_28 (by decide) ?_
    refine V_icmp_lt X 42 dX6_addStation_29 (by decide) (fun c3 => ?_) (fun c3 => ?_)
    · replace hs := if_t hs c3
      refine V_aload_n X dX6_addStation_42 rfl 0 rfl ?_
      obtain ⟨Z5, eZ5, hs⟩ := bd_some hs
      refine V_callVv X [] dX6_addStation_43 m_X6_69 v_X6_remember ⟨Nat.le_of_ble_eq_true rfl, Nat.le_of_ble_eq_true rfl⟩ ⟨Nat.zero_le _, Nat.zero_le _⟩ rfl (Nat.le_of_ble_eq_true rfl) (gm6 hK) rfl cl6 (c_X6_remember hK hnp eZ5) ?_
      refine V_aload_n X dX6_addStation_46 rfl 0 rfl ?_
      refine V_get X dX6_addStation_47 r_X6_10 (gm6 hK) rfl rfl ?_
      refine V_iload_n X dX6_addStation_50 rfl 1 rfl ?_
      obtain ⟨q6, eq6, hs⟩ := bd_some hs
      refine V_callVs X [.int p1] dX6_addStation_51 m_X6_72 v_X4_putStation ⟨Nat.le_of_ble_eq_true rfl, Nat.le_of_ble_eq_true rfl⟩ ⟨Nat.zero_le _, Nat.zero_le _⟩ rfl (Nat.le_of_ble_eq_true rfl) (gm4 (gmT hK (by decide))) rfl cl4 (c_X4_putStation (gmT hK (by decide)) eq6) ?_
      exact (lr_no hs).elim
    · replace hs := if_f hs c3
      obtain rfl := rr_eq hs
      exact V_throwS X hE hl hZ tw_2 (text := "too many stations") (by decide +kernel) dX6_addStation_32 dX6_addStation_35 dX6_addStation_36 dX6_addStation_38 dX6_addStation_41 (Nat.le_of_ble_eq_true rfl) ⟨by decide, by decide, by decide, by decide⟩ ⟨by decide, by decide⟩
  · replace hs := if_t hs c2
    obtain rfl := rr_eq hs
    exact V_throwS X hE hl hZ tw_1 (text := "no free place") (by decide +kernel) dX6_addStation_11 dX6_addStation_14 dX6_addStation_15 dX6_addStation_17 dX6_addStation_20 (Nat.le_of_ble_eq_true rfl) ⟨by decide, by decide, by decide, by decide⟩ ⟨by decide, by decide⟩

def s_X6_addChute (np : Nat) (fu : Nat) (p1 : Int32) (p2 : Int32) (p3 : Int32) (p4 : Int32) (p5 : Int32) (p6 : Int32) (S : S4) : Option ((Int32 × S4) ⊕ (Nat × S4)) := (s_X4_isFree fu 0 p1 S).bind fun q1 => (if q1 = 0 then some (.inr (1, S)) else (s_X6_isIn p2 (1 : Int32) (20 : Int32) S).bind fun q3 => (if q3 = 0 then some (.inr (1, S)) else (s_X6_isIn p3 (0 : Int32) (5 : Int32) S).bind fun q5 => (if q5 = 0 then some (.inr (1, S)) else (s_X6_isIn p4 (1 : Int32) (50 : Int32) S).bind fun q7 => (if q7 = 0 then some (.inr (1, S)) else (s_X6_isIn p5 (1 : Int32) (9 : Int32) S).bind fun q9 => (if q9 = 0 then some (.inr (1, S)) else (s_X6_isIn p6 (0 : Int32) (9 : Int32) S).bind fun q11 => (if q11 = 0 then some (.inr (1, S)) else (if (S 4 0 0 4) < (8 : Int32) then (s_X6_remember np fu S).bind fun Z15 => (s_X4_putChute 0 Z15).bind fun q16 => gd (q16.1 < 8) (sv (u4 q16.2 0 0 q16.1 0 p1) fun Z18 => sv (u4 Z18 0 0 q16.1 1 p2) fun Z19 => sv (u4 Z19 0 0 q16.1 2 p3) fun Z20 => sv (u4 Z20 0 0 q16.1 3 p4) fun Z21 => sv (u4 Z21 0 0 q16.1 4 p5) fun Z22 => sv (u4 Z22 0 0 q16.1 5 p6) fun Z23 => some (.inl (((Z23 4 0 0 4) - (1 : Int32)), Z23))) else some (.inr (2, S)))))))))
set_option maxRecDepth 100000 in
set_option maxHeartbeats 4000000 in
theorem c_X6_addChute {l : Launch} {D : va_G} {cA : Nat → ClassId} {dm : Dm} {ad : Ad} {np : Nat} {fu : Nat} {S : S4} {p1 : Int32} {p2 : Int32} {p3 : Int32} {p4 : Int32} {p5 : Int32} {p6 : Int32} (hK : DK dm) (hnp : ∀ i, i < np → DP dm i) {out : (Int32 × S4)} (hs : s_X6_addChute np fu p1 p2 p3 p4 p5 p6 S = some (.inl out)) : Ct D cA dm ad l yX6_addChute cX6_addChute 8 (some .int) 20 600 S [.ref (ad 6 0 0), .int p1, .int p2, .int p3, .int p4, .int p5, .int p6] (some (.int out.1)) out.2 := by
  refine Ct.of (by decide +kernel) (Nat.le_of_ble_eq_true rfl) [(0, .ref (ad 6 0 0)), (1, .int p1), (2, .int p2), (3, .int p3), (4, .int p4), (5, .int p5), (6, .int p6)] rfl (fun p e s m args below meth c A X hr => ?_)
  unfold s_X6_addChute at hs
  refine V_aload_n X dX6_addChute_0 rfl 0 rfl ?_
  refine V_get X dX6_addChute_1 r_X6_10 (gm6 hK) rfl rfl ?_
  refine V_iload_n X dX6_addChute_4 rfl 1 rfl ?_
  obtain ⟨q1, eq1, hs⟩ := bd_some hs
  refine V_callVs X [.int p1] dX6_addChute_5 m_X6_55 v_X4_isFree ⟨Nat.le_of_ble_eq_true rfl, Nat.le_of_ble_eq_true rfl⟩ ⟨Nat.zero_le _, Nat.zero_le _⟩ rfl (Nat.le_of_ble_eq_true rfl) (gm4 (gmT hK (by decide))) rfl cl4 (c_X4_isFree (gmT hK (by decide)) eq1) ?_
  refine V_if_ne X 21 dX6_addChute_8 (by decide) (fun c2 => ?_) (fun c2 => ?_)
  · replace hs := if_f hs c2
    refine V_iload_n X dX6_addChute_21 rfl 2 rfl ?_
    refine V_iconst X (1 : Int32) dX6_addChute_22 (by decide) ?_
    refine V_bipush X (20 : Int32) dX6_addChute_23 (by decide) ?_
    obtain ⟨q3, eq3, hs⟩ := bd_some hs
    refine V_callSs X [.int p2, .int (1 : Int32), .int (20 : Int32)] dX6_addChute_25 m_X6_76 t_X6_isIn ⟨Nat.le_of_ble_eq_true rfl, Nat.le_of_ble_eq_true rfl⟩ ⟨Nat.zero_le _, Nat.zero_le _⟩ rfl (Nat.le_of_ble_eq_true rfl) (c_X6_isIn  eq3) ?_
    refine V_if_eq X 73 dX6_addChute_28 (by decide) (fun c4 => ?_) (fun c4 => ?_)
    · replace hs := if_t hs c4
      exact (rl_no hs).elim
    · replace hs := if_f hs c4
      refine V_iload_n X dX6_addChute_31 rfl 3 rfl ?_
      refine V_iconst X (0 : Int32) dX6_addChute_32 (by decide) ?_
      refine V_iconst X (5 : Int32) dX6_addChute_33 (by decide) ?_
      obtain ⟨q5, eq5, hs⟩ := bd_some hs
      refine V_callSs X [.int p3, .int (0 : Int32), .int (5 : Int32)] dX6_addChute_34 m_X6_76 t_X6_isIn ⟨Nat.le_of_ble_eq_true rfl, Nat.le_of_ble_eq_true rfl⟩ ⟨Nat.zero_le _, Nat.zero_le _⟩ rfl (Nat.le_of_ble_eq_true rfl) (c_X6_isIn  eq5) ?_
      refine V_if_eq X 73 dX6_addChute_37 (by decide) (fun c6 => ?_) (fun c6 => ?_)
      · replace hs := if_t hs c6
        exact (rl_no hs).elim
      · replace hs := if_f hs c6
        refine V_iload X dX6_addChute_40 4 rfl ?_
        refine V_iconst X (1 : Int32) dX6_addChute_42 (by decide) ?_
        refine V_bipush X (50 : Int32) dX6_addChute_43 (by decide) ?_
        obtain ⟨q7, eq7, hs⟩ := bd_some hs
        refine V_callSs X [.int p4, .int (1 : Int32), .int (50 : Int32)] dX6_addChute_45 m_X6_76 t_X6_isIn ⟨Nat.le_of_ble_eq_true rfl, Nat.le_of_ble_eq_true rfl⟩ ⟨Nat.zero_le _, Nat.zero_le _⟩ rfl (Nat.le_of_ble_eq_true rfl) (c_X6_isIn  eq7) ?_
        refine V_if_eq X 73 dX6_addChute_48 (by decide) (fun c8 => ?_) (fun c8 => ?_)
        · replace hs := if_t hs c8
          exact (rl_no hs).elim
        · replace hs := if_f hs c8
          refine V_iload X dX6_addChute_51 5 rfl ?_
          refine V_iconst X (1 : Int32) dX6_addChute_53 (by decide) ?_
          refine V_bipush X (9 : Int32) dX6_addChute_54 (by decide) ?_
          obtain ⟨q9, eq9, hs⟩ := bd_some hs
          refine V_callSs X [.int p5, .int (1 : Int32), .int (9 : Int32)] dX6_addChute_56 m_X6_76 t_X6_isIn ⟨Nat.le_of_ble_eq_true rfl, Nat.le_of_ble_eq_true rfl⟩ ⟨Nat.zero_le _, Nat.zero_le _⟩ rfl (Nat.le_of_ble_eq_true rfl) (c_X6_isIn  eq9) ?_
          refine V_if_eq X 73 dX6_addChute_59 (by decide) (fun c10 => ?_) (fun c10 => ?_)
          · replace hs := if_t hs c10
            exact (rl_no hs).elim
          · replace hs := if_f hs c10
            refine V_iload X dX6_addChute_62 6 rfl ?_
            refine V_iconst X (0 : Int32) dX6_addChute_64 (by decide) ?_
            refine V_bipush X (9 : Int32) dX6_addChute_65 (by decide) ?_
            obtain ⟨q11, eq11, hs⟩ := bd_some hs
            refine V_callSs X [.int p6, .int (0 : Int32), .int (9 : Int32)] dX6_addChute_67 m_X6_76 t_X6_isIn ⟨Nat.le_of_ble_eq_true rfl, Nat.le_of_ble_eq_true rfl⟩ ⟨Nat.zero_le _, Nat.zero_le _⟩ rfl (Nat.le_of_ble_eq_true rfl) (c_X6_isIn  eq11) ?_
            refine V_if_ne X 83 dX6_addChute_70 (by decide) (fun c12 => ?_) (fun c12 => ?_)
            · replace hs := if_f hs c12
              refine V_aload_n X dX6_addChute_83 rfl 0 rfl ?_
              refine V_get X dX6_addChute_84 r_X6_10 (gm6 hK) rfl rfl ?_
              refine V_get X dX6_addChute_87 r_X6_82 (gm4 (gmT hK (by decide))) rfl rfl ?_
              refine V_bipush X (8 : Int32) dX6_addChute_90 (by decide) ?_
              refine V_icmp_lt X 105 dX6_addChute_92 (by decide) (fun c13 => ?_) (fun c13 => ?_)
              · replace hs := if_t hs c13
                refine V_aload_n X dX6_addChute_105 rfl 0 rfl ?_
                obtain ⟨Z15, eZ15, hs⟩ := bd_some hs
                refine V_callVv X [] dX6_addChute_106 m_X6_69 v_X6_remember ⟨Nat.le_of_ble_eq_true rfl, Nat.le_of_ble_eq_true rfl⟩ ⟨Nat.zero_le _, Nat.zero_le _⟩ rfl (Nat.le_of_ble_eq_true rfl) (gm6 hK) rfl cl6 (c_X6_remember hK hnp eZ15) ?_
                refine V_aload_n X dX6_addChute_109 rfl 0 rfl ?_
                refine V_get X dX6_addChute_110 r_X6_10 (gm6 hK) rfl rfl ?_
                obtain ⟨q16, eq16, hs⟩ := bd_some hs
                refine V_callVs X [] dX6_addChute_113 m_X6_87 v_X4_putChute ⟨Nat.le_of_ble_eq_true rfl, Nat.le_of_ble_eq_true rfl⟩ ⟨Nat.zero_le _, Nat.zero_le _⟩ rfl (Nat.le_of_ble_eq_true rfl) (gm4 (gmT hK (by decide))) rfl cl4 (c_X4_putChute (gmT hK (by decide)) eq16) ?_
                obtain ⟨h17, hs⟩ := gd_some hs
                refine V_astore X dX6_addChute_116 [(7, .ref (ad 0 0 q16.1)), (0, .ref (ad 6 0 0)), (1, .int p1), (2, .int p2), (3, .int p3), (4, .int p4), (5, .int p5), (6, .int p6)] (by decide) rfl ?_
                refine V_aload X dX6_addChute_118 0 rfl ?_
                refine V_iload_n X dX6_addChute_120 rfl 2 rfl ?_
                refine V_put X dX6_addChute_121 f_X6_91 (gm0 (gmT hK (by decide)) h17) rfl (Nat.le_of_ble_eq_true rfl) rfl rfl rfl (fun Z18 eZ18 => ?_)
                replace hs := sv_some hs Z18 eZ18
                clear eZ18
                refine V_aload X dX6_addChute_124 0 rfl ?_
                refine V_iload_n X dX6_addChute_126 rfl 3 rfl ?_
                refine V_put X dX6_addChute_127 f_X6_96 (gm0 (gmT hK (by decide)) h17) rfl (Nat.le_of_ble_eq_true rfl) rfl rfl rfl (fun Z19 eZ19 => ?_)
                replace hs := sv_some hs Z19 eZ19
                clear eZ19
                refine V_aload X dX6_addChute_130 0 rfl ?_
                refine V_iload_n X dX6_addChute_132 rfl 4 rfl ?_
                refine V_put X dX6_addChute_133 f_X6_99 (gm0 (gmT hK (by decide)) h17) rfl (Nat.le_of_ble_eq_true rfl) rfl rfl rfl (fun Z20 eZ20 => ?_)
                replace hs := sv_some hs Z20 eZ20
                clear eZ20
                refine V_aload X dX6_addChute_136 0 rfl ?_
                refine V_iload X dX6_addChute_138 5 rfl ?_
                refine V_put X dX6_addChute_140 f_X6_102 (gm0 (gmT hK (by decide)) h17) rfl (Nat.le_of_ble_eq_true rfl) rfl rfl rfl (fun Z21 eZ21 => ?_)
                replace hs := sv_some hs Z21 eZ21
                clear eZ21
                refine V_aload X dX6_addChute_143 0 rfl ?_
                refine V_iload X dX6_addChute_145 6 rfl ?_
                refine V_put X dX6_addChute_147 f_X6_105 (gm0 (gmT hK (by decide)) h17) rfl (Nat.le_of_ble_eq_true rfl) rfl rfl rfl (fun Z22 eZ22 => ?_)
                replace hs := sv_some hs Z22 eZ22
                clear eZ22
                refine V_aload X dX6_addChute_150 0 rfl ?_
                refine V_iload X dX6_addChute_152 7 rfl ?_
                refine V_put X dX6_addChute_154 f_X6_108 (gm0 (gmT hK (by decide)) h17) rfl (Nat.le_of_ble_eq_true rfl) rfl rfl rfl (fun Z23 eZ23 => ?_)
                replace hs := sv_some hs Z23 eZ23
                clear eZ23
                refine V_aload_n X dX6_addChute_157 rfl 1 rfl ?_
                refine V_get X dX6_addChute_158 r_X6_10 (gm6 hK) rfl rfl ?_
                refine V_get X dX6_addChute_161 r_X6_82 (gm4 (gmT hK (by decide))) rfl rfl ?_
                refine V_iconst X (1 : Int32) dX6_addChute_164 (by decide) ?_
                refine V_isub X dX6_addChute_165 ?_
                obtain rfl := ll_eq hs; exact V_iret X hr dX6_addChute_166
              · replace hs := if_f hs c13
                exact (rl_no hs).elim
            · replace hs := if_t hs c12
              exact (rl_no hs).elim
  · replace hs := if_t hs c2
    exact (rl_no hs).elim
set_option maxRecDepth 100000 in
set_option maxHeartbeats 4000000 in
theorem x_X6_addChute {l : Launch} {D : va_G} {cA : Nat → ClassId} {dm : Dm} {ad : Ad} {np : Nat} {fu : Nat} {S : S4} {p1 : Int32} {p2 : Int32} {p3 : Int32} {p4 : Int32} {p5 : Int32} {p6 : Int32} (hK : DK dm) (hnp : ∀ i, i < np → DP dm i) (hl : l.stackTraces = false) {out : Nat × S4} (hs : s_X6_addChute np fu p1 p2 p3 p4 p5 p6 S = some (.inr out)) : Cx D cA dm ad l yX6_addChute cX6_addChute 8 (some .int) 20 600 S [.ref (ad 6 0 0), .int p1, .int p2, .int p3, .int p4, .int p5, .int p6] out := by
  refine Cx.of (by decide +kernel) (Nat.le_of_ble_eq_true rfl) [(0, .ref (ad 6 0 0)), (1, .int p1), (2, .int p2), (3, .int p3), (4, .int p4), (5, .int p5), (6, .int p6)] rfl (fun p e s m args below meth c A X hr hZ hE => ?_)
  unfold s_X6_addChute at hs
  refine V_aload_n X dX6_addChute_0 rfl 0 rfl ?_
  refine V_get X dX6_addChute_1 r_X6_10 (gm6 hK) rfl rfl ?_
  refine V_iload_n X dX6_addChute_4 rfl 1 rfl ?_
  obtain ⟨q1, eq1, hs⟩ := bd_some hs
  refine V_callVs X [.int p1] dX6_addChute_5 m_X6_55 v_X4_isFree ⟨Nat.le_of_ble_eq_true rfl, Nat.le_of_ble_eq_true rfl⟩ ⟨Nat.zero_le _, Nat.zero_le _⟩ rfl (Nat.le_of_ble_eq_true rfl) (gm4 (gmT hK (by decide))) rfl cl4 (c_X4_isFree (gmT hK (by decide)) eq1) ?_
  refine V_if_ne X 21 dX6_addChute_8 (by decide) (fun c2 => ?_) (fun c2 => ?_)
  · replace hs := if_f hs c2
    refine V_iload_n X dX6_addChute_21 rfl 2 rfl ?_
    refine V_iconst X (1 : Int32) dX6_addChute_22 (by decide) ?_
    refine V_bipush X (20 : Int32) dX6_addChute_23 (by decide) ?_
    obtain ⟨q3, eq3, hs⟩ := bd_some hs
    refine V_callSs X [.int p2, .int (1 : Int32), .int (20 : Int32)] dX6_addChute_25 m_X6_76 t_X6_isIn ⟨Nat.le_of_ble_eq_true rfl, Nat.le_of_ble_eq_true rfl⟩ ⟨Nat.zero_le _, Nat.zero_le _⟩ rfl (Nat.le_of_ble_eq_true rfl) (c_X6_isIn  eq3) ?_
    refine V_if_eq X 73 dX6_addChute_28 (by decide) (fun c4 => ?_) (fun c4 => ?_)
    · replace hs := if_t hs c4
      obtain rfl := rr_eq hs
      exact V_throwS X hE hl hZ tw_1 (text := "argument out of range") (by decide +kernel) dX6_addChute_73 dX6_addChute_76 dX6_addChute_77 dX6_addChute_79 dX6_addChute_82 (Nat.le_of_ble_eq_true rfl) ⟨by decide, by decide, by decide, by decide⟩ ⟨by decide, by decide⟩
    · replace hs := if_f hs c4
      refine V_iload_n X dX6_addChute_31 rfl 3 rfl ?_
      refine V_iconst X (0 : Int32) dX6_addChute_32 (by decide) ?_
      refine V_iconst X (5 : Int32) dX6_addChute_33 (by decide) ?_
      obtain ⟨q5, eq5, hs⟩ := bd_some hs
      refine V_callSs X [.int p3, .int (0 : Int32), .int (5 : Int32)] dX6_addChute_34 m_X6_76 t_X6_isIn ⟨Nat.le_of_ble_eq_true rfl, Nat.le_of_ble_eq_true rfl⟩ ⟨Nat.zero_le _, Nat.zero_le _⟩ rfl (Nat.le_of_ble_eq_true rfl) (c_X6_isIn  eq5) ?_
      refine V_if_eq X 73 dX6_addChute_37 (by decide) (fun c6 => ?_) (fun c6 => ?_)
      · replace hs := if_t hs c6
        obtain rfl := rr_eq hs
        exact V_throwS X hE hl hZ tw_1 (text := "argument out of range") (by decide +kernel) dX6_addChute_73 dX6_addChute_76 dX6_addChute_77 dX6_addChute_79 dX6_addChute_82 (Nat.le_of_ble_eq_true rfl) ⟨by decide, by decide, by decide, by decide⟩ ⟨by decide, by decide⟩
      · replace hs := if_f hs c6
        refine V_iload X dX6_addChute_40 4 rfl ?_
        refine V_iconst X (1 : Int32) dX6_addChute_42 (by decide) ?_
        refine V_bipush X (50 : Int32) dX6_addChute_43 (by decide) ?_
        obtain ⟨q7, eq7, hs⟩ := bd_some hs
        refine V_callSs X [.int p4, .int (1 : Int32), .int (50 : Int32)] dX6_addChute_45 m_X6_76 t_X6_isIn ⟨Nat.le_of_ble_eq_true rfl, Nat.le_of_ble_eq_true rfl⟩ ⟨Nat.zero_le _, Nat.zero_le _⟩ rfl (Nat.le_of_ble_eq_true rfl) (c_X6_isIn  eq7) ?_
        refine V_if_eq X 73 dX6_addChute_48 (by decide) (fun c8 => ?_) (fun c8 => ?_)
        · replace hs := if_t hs c8
          obtain rfl := rr_eq hs
          exact V_throwS X hE hl hZ tw_1 (text := "argument out of range") (by decide +kernel) dX6_addChute_73 dX6_addChute_76 dX6_addChute_77 dX6_addChute_79 dX6_addChute_82 (Nat.le_of_ble_eq_true rfl) ⟨by decide, by decide, by decide, by decide⟩ ⟨by decide, by decide⟩
        · replace hs := if_f hs c8
          refine V_iload X dX6_addChute_51 5 rfl ?_
          refine V_iconst X (1 : Int32) dX6_addChute_53 (by decide) ?_
          refine V_bipush X (9 : Int32) dX6_addChute_54 (by decide) ?_
          obtain ⟨q9, eq9, hs⟩ := bd_some hs
          refine V_callSs X [.int p5, .int (1 : Int32), .int (9 : Int32)] dX6_addChute_56 m_X6_76 t_X6_isIn ⟨Nat.le_of_ble_eq_true rfl, Nat.le_of_ble_eq_true rfl⟩ ⟨Nat.zero_le _, Nat.zero_le _⟩ rfl (Nat.le_of_ble_eq_true rfl) (c_X6_isIn  eq9) ?_
          refine V_if_eq X 73 dX6_addChute_59 (by decide) (fun c10 => ?_) (fun c10 => ?_)
          · replace hs := if_t hs c10
            obtain rfl := rr_eq hs
            exact V_throwS X hE hl hZ tw_1 (text := "argument out of range") (by decide +kernel) dX6_addChute_73 dX6_addChute_76 dX6_addChute_77 dX6_addChute_79 dX6_addChute_82 (Nat.le_of_ble_eq_true rfl) ⟨by decide, by decide, by decide, by decide⟩ ⟨by decide, by decide⟩
          · replace hs := if_f hs c10
            refine V_iload X dX6_addChute_62 6 rfl ?_
            refine V_iconst X (0 : Int32) dX6_addChute_64 (by decide) ?_
            refine V_bipush X (9 : Int32) dX6_addChute_65 (by decide) ?_
            obtain ⟨q11, eq11, hs⟩ := bd_some hs
            refine V_callSs X [.int p6, .int (0 : Int32), .int (9 : Int32)] dX6_addChute_67 m_X6_76 t_X6_isIn ⟨Nat.le_of_ble_eq_true rfl, Nat.le_of_ble_eq_true rfl⟩ ⟨Nat.zero_le _, Nat.zero_le _⟩ rfl (Nat.le_of_ble_eq_true rfl) (c_X6_isIn  eq11) ?_
            refine V_if_ne X 83 dX6_addChute_70 (by decide) (fun c12 => ?_) (fun c12 => ?_)
            · replace hs := if_f hs c12
              refine V_aload_n X dX6_addChute_83 rfl 0 rfl ?_
              refine V_get X dX6_addChute_84 r_X6_10 (gm6 hK) rfl rfl ?_
              refine V_get X dX6_addChute_87 r_X6_82 (gm4 (gmT hK (by decide))) rfl rfl ?_
              refine V_bipush X (8 : Int32) dX6_addChute_90 (by decide) ?_
              refine V_icmp_lt X 105 dX6_addChute_92 (by decide) (fun c13 => ?_) (fun c13 => ?_)
              · replace hs := if_t hs c13
                refine V_aload_n X dX6_addChute_105 rfl 0 rfl ?_
                obtain ⟨Z15, eZ15, hs⟩ := bd_some hs
                refine V_callVv X [] dX6_addChute_106 m_X6_69 v_X6_remember ⟨Nat.le_of_ble_eq_true rfl, Nat.le_of_ble_eq_true rfl⟩ ⟨Nat.zero_le _, Nat.zero_le _⟩ rfl (Nat.le_of_ble_eq_true rfl) (gm6 hK) rfl cl6 (c_X6_remember hK hnp eZ15) ?_
                refine V_aload_n X dX6_addChute_109 rfl 0 rfl ?_
                refine V_get X dX6_addChute_110 r_X6_10 (gm6 hK) rfl rfl ?_
                obtain ⟨q16, eq16, hs⟩ := bd_some hs
                refine V_callVs X [] dX6_addChute_113 m_X6_87 v_X4_putChute ⟨Nat.le_of_ble_eq_true rfl, Nat.le_of_ble_eq_true rfl⟩ ⟨Nat.zero_le _, Nat.zero_le _⟩ rfl (Nat.le_of_ble_eq_true rfl) (gm4 (gmT hK (by decide))) rfl cl4 (c_X4_putChute (gmT hK (by decide)) eq16) ?_
                obtain ⟨h17, hs⟩ := gd_some hs
                refine V_astore X dX6_addChute_116 [(7, .ref (ad 0 0 q16.1)), (0, .ref (ad 6 0 0)), (1, .int p1), (2, .int p2), (3, .int p3), (4, .int p4), (5, .int p5), (6, .int p6)] (by decide) rfl ?_
                refine V_aload X dX6_addChute_118 0 rfl ?_
                refine V_iload_n X dX6_addChute_120 rfl 2 rfl ?_
                refine V_put X dX6_addChute_121 f_X6_91 (gm0 (gmT hK (by decide)) h17) rfl (Nat.le_of_ble_eq_true rfl) rfl rfl rfl (fun Z18 eZ18 => ?_)
                replace hs := sv_some hs Z18 eZ18
                clear eZ18
                refine V_aload X dX6_addChute_124 0 rfl ?_
                refine V_iload_n X dX6_addChute_126 rfl 3 rfl ?_
                refine V_put X dX6_addChute_127 f_X6_96 (gm0 (gmT hK (by decide)) h17) rfl (Nat.le_of_ble_eq_true rfl) rfl rfl rfl (fun Z19 eZ19 => ?_)
                replace hs := sv_some hs Z19 eZ19
                clear eZ19
                refine V_aload X dX6_addChute_130 0 rfl ?_
                refine V_iload_n X dX6_addChute_132 rfl 4 rfl ?_
                refine V_put X dX6_addChute_133 f_X6_99 (gm0 (gmT hK (by decide)) h17) rfl (Nat.le_of_ble_eq_true rfl) rfl rfl rfl (fun Z20 eZ20 => ?_)
                replace hs := sv_some hs Z20 eZ20
                clear eZ20
                refine V_aload X dX6_addChute_136 0 rfl ?_
                refine V_iload X dX6_addChute_138 5 rfl ?_
                refine V_put X dX6_addChute_140 f_X6_102 (gm0 (gmT hK (by decide)) h17) rfl (Nat.le_of_ble_eq_true rfl) rfl rfl rfl (fun Z21 eZ21 => ?_)
                replace hs := sv_some hs Z21 eZ21
                clear eZ21
                refine V_aload X dX6_addChute_143 0 rfl ?_
                refine V_iload X dX6_addChute_145 6 rfl ?_
                refine V_put X dX6_addChute_147 f_X6_105 (gm0 (gmT hK (by decide)) h17) rfl (Nat.le_of_ble_eq_true rfl) rfl rfl rfl (fun Z22 eZ22 => ?_)
                replace hs := sv_some hs Z22 eZ22
                clear eZ22
                refine V_aload X dX6_addChute_150 0 rfl ?_
                refine V_iload X dX6_addChute_152 7 rfl ?_
                refine V_put X dX6_addChute_154 f_X6_108 (gm0 (gmT hK (by decide)) h17) rfl (Nat.le_of_ble_eq_true rfl) rfl rfl rfl (fun Z23 eZ23 => ?_)
                replace hs := sv_some hs Z23 eZ23
                clear eZ23
                refine V_aload_n X dX6_addChute_157 rfl 1 rfl ?_
                refine V_get X dX6_addChute_158 r_X6_10 (gm6 hK) rfl rfl ?_
                refine V_get X dX6_addChute_161 r_X6_82 (gm4 (gmT hK (by decide))) rfl rfl ?_
                refine V_iconst X (1 : Int32) dX6_addChute_164 (by decide) ?_
                refine V_isub X dX6_addChute_165 ?_
                exact (lr_no hs).elim
              · replace hs := if_f hs c13
                obtain rfl := rr_eq hs
                exact V_throwS X hE hl hZ tw_2 (text := "too many chutes") (by decide +kernel) dX6_addChute_95 dX6_addChute_98 dX6_addChute_99 dX6_addChute_101 dX6_addChute_104 (Nat.le_of_ble_eq_true rfl) ⟨by decide, by decide, by decide, by decide⟩ ⟨by decide, by decide⟩
            · replace hs := if_t hs c12
              obtain rfl := rr_eq hs
              exact V_throwS X hE hl hZ tw_1 (text := "argument out of range") (by decide +kernel) dX6_addChute_73 dX6_addChute_76 dX6_addChute_77 dX6_addChute_79 dX6_addChute_82 (Nat.le_of_ble_eq_true rfl) ⟨by decide, by decide, by decide, by decide⟩ ⟨by decide, by decide⟩
  · replace hs := if_t hs c2
    obtain rfl := rr_eq hs
    exact V_throwS X hE hl hZ tw_1 (text := "no free place") (by decide +kernel) dX6_addChute_11 dX6_addChute_14 dX6_addChute_15 dX6_addChute_17 dX6_addChute_20 (Nat.le_of_ble_eq_true rfl) ⟨by decide, by decide, by decide, by decide⟩ ⟨by decide, by decide⟩

def s_X6_feed (p1 : Int32) (S : S4) : Option ((Int32 × S4) ⊕ (Nat × S4)) := (if (S 6 0 0 8) < (80 : Int32) then gd (inb (S 6 0 0 8) 80) (sv (u4 S 23 0 0 ((S 6 0 0 8).toNatClampNeg) (vp_nar .char p1)) fun Z3 => sv (u4 Z3 6 0 0 8 ((Z3 6 0 0 8) + (1 : Int32))) fun Z4 => some (.inl ((Z4 6 0 0 8), Z4))) else some (.inr (2, S)))
set_option maxRecDepth 100000 in
set_option maxHeartbeats 4000000 in
theorem c_X6_feed {l : Launch} {D : va_G} {cA : Nat → ClassId} {dm : Dm} {ad : Ad} {S : S4} {p1 : Int32} (hK : DK dm) {out : (Int32 × S4)} (hs : s_X6_feed p1 S = some (.inl out)) : Ct D cA dm ad l yX6_feed cX6_feed 2 (some .int) 20 600 S [.ref (ad 6 0 0), .int p1] (some (.int out.1)) out.2 := by
  refine Ct.of (by decide +kernel) (Nat.le_of_ble_eq_true rfl) [(0, .ref (ad 6 0 0)), (1, .int p1)] rfl (fun p e s m args below meth c A X hr => ?_)
  unfold s_X6_feed at hs
  refine V_aload_n X dX6_feed_0 rfl 0 rfl ?_
  refine V_get X dX6_feed_1 r_X6_111 (gm6 hK) rfl rfl ?_
  refine V_bipush X (80 : Int32) dX6_feed_4 (by decide) ?_
  refine V_icmp_lt X 19 dX6_feed_6 (by decide) (fun c1 => ?_) (fun c1 => ?_)
  · replace hs := if_t hs c1
    refine V_aload_n X dX6_feed_19 rfl 0 rfl ?_
    refine V_get X dX6_feed_20 r_X6_26 (gm6 hK) rfl rfl ?_
    refine V_aload_n X dX6_feed_23 rfl 0 rfl ?_
    refine V_get X dX6_feed_24 r_X6_111 (gm6 hK) rfl rfl ?_
    refine V_iload_n X dX6_feed_27 rfl 1 rfl ?_
    obtain ⟨h2, hs⟩ := gd_some hs
    refine V_cast X dX6_feed_28 (gm23 hK) (fun _ => rfl) h2 (fun Z3 eZ3 => ?_)
    replace hs := sv_some hs Z3 eZ3
    clear eZ3
    refine V_aload_n X dX6_feed_29 rfl 0 rfl ?_
    refine V_dup X dX6_feed_30 rfl ?_
    refine V_get X dX6_feed_31 r_X6_111 (gm6 hK) rfl rfl ?_
    refine V_iconst X (1 : Int32) dX6_feed_34 (by decide) ?_
    refine V_iadd X dX6_feed_35 ?_
    refine V_put X dX6_feed_36 f_X6_111 (gm6 hK) rfl (Nat.le_of_ble_eq_true rfl) rfl rfl rfl (fun Z4 eZ4 => ?_)
    replace hs := sv_some hs Z4 eZ4
    clear eZ4
    refine V_aload_n X dX6_feed_39 rfl 0 rfl ?_
    refine V_get X dX6_feed_40 r_X6_111 (gm6 hK) rfl rfl ?_
    obtain rfl := ll_eq hs; exact V_iret X hr dX6_feed_43
  · replace hs := if_f hs c1
    exact (rl_no hs).elim
set_option maxRecDepth 100000 in
set_option maxHeartbeats 4000000 in
theorem x_X6_feed {l : Launch} {D : va_G} {cA : Nat → ClassId} {dm : Dm} {ad : Ad} {S : S4} {p1 : Int32} (hK : DK dm) (hl : l.stackTraces = false) {out : Nat × S4} (hs : s_X6_feed p1 S = some (.inr out)) : Cx D cA dm ad l yX6_feed cX6_feed 2 (some .int) 20 600 S [.ref (ad 6 0 0), .int p1] out := by
  refine Cx.of (by decide +kernel) (Nat.le_of_ble_eq_true rfl) [(0, .ref (ad 6 0 0)), (1, .int p1)] rfl (fun p e s m args below meth c A X hr hZ hE => ?_)
  unfold s_X6_feed at hs
  refine V_aload_n X dX6_feed_0 rfl 0 rfl ?_
  refine V_get X dX6_feed_1 r_X6_111 (gm6 hK) rfl rfl ?_
  refine V_bipush X (80 : Int32) dX6_feed_4 (by decide) ?_
  refine V_icmp_lt X 19 dX6_feed_6 (by decide) (fun c1 => ?_) (fun c1 => ?_)
  · replace hs := if_t hs c1
    refine V_aload_n X dX6_feed_19 rfl 0 rfl ?_
    refine V_get X dX6_feed_20 r_X6_26 (gm6 hK) rfl rfl ?_
    refine V_aload_n X dX6_feed_23 rfl 0 rfl ?_
    refine V_get X dX6_feed_24 r_X6_111 (gm6 hK) rfl rfl ?_
    refine V_iload_n X dX6_feed_27 rfl 1 rfl ?_
    obtain ⟨h2, hs⟩ := gd_some hs
    refine V_cast X dX6_feed_28 (gm23 hK) (fun _ => rfl) h2 (fun Z3 eZ3 => ?_)
    replace hs := sv_some hs Z3 eZ3
    clear eZ3
    refine V_aload_n X dX6_feed_29 rfl 0 rfl ?_
    refine V_dup X dX6_feed_30 rfl ?_
    refine V_get X dX6_feed_31 r_X6_111 (gm6 hK) rfl rfl ?_
    refine V_iconst X (1 : Int32) dX6_feed_34 (by decide) ?_
    refine V_iadd X dX6_feed_35 ?_
    refine V_put X dX6_feed_36 f_X6_111 (gm6 hK) rfl (Nat.le_of_ble_eq_true rfl) rfl rfl rfl (fun Z4 eZ4 => ?_)
    replace hs := sv_some hs Z4 eZ4
    clear eZ4
    refine V_aload_n X dX6_feed_39 rfl 0 rfl ?_
    refine V_get X dX6_feed_40 r_X6_111 (gm6 hK) rfl rfl ?_
    exact (lr_no hs).elim
  · replace hs := if_f hs c1
    obtain rfl := rr_eq hs
    exact V_throwS X hE hl hZ tw_2 (text := "the input is full") (by decide +kernel) dX6_feed_9 dX6_feed_12 dX6_feed_13 dX6_feed_15 dX6_feed_18 (Nat.le_of_ble_eq_true rfl) ⟨by decide, by decide, by decide, by decide⟩ ⟨by decide, by decide⟩

def s_X6_requireIndex (p1 : Int32) (p2 : Int32) (S : S4) : Option (S4 ⊕ (Nat × S4)) := (if p1 < 0 then some (.inr (5, S)) else (if p1 < p2 then some (.inl S) else some (.inr (5, S))))
set_option maxRecDepth 100000 in
set_option maxHeartbeats 4000000 in
theorem c_X6_requireIndex {l : Launch} {D : va_G} {cA : Nat → ClassId} {dm : Dm} {ad : Ad} {S : S4} {p1 : Int32} {p2 : Int32}  {out : S4} (hs : s_X6_requireIndex p1 p2 S = some (.inl out)) : Ct D cA dm ad l yX6_requireIndex cX6_requireIndex 2 none 20 600 S [.int p1, .int p2] none out := by
  refine Ct.of (by decide +kernel) (Nat.le_of_ble_eq_true rfl) [(0, .int p1), (1, .int p2)] rfl (fun p e s m args below meth c A X hr => ?_)
  unfold s_X6_requireIndex at hs
  refine V_iload_n X dX6_requireIndex_0 rfl 0 rfl ?_
  refine V_if_lt X 9 dX6_requireIndex_1 (by decide) (fun c1 => ?_) (fun c1 => ?_)
  · replace hs := if_t hs c1
    exact (rl_no hs).elim
  · replace hs := if_f hs c1
    refine V_iload_n X dX6_requireIndex_4 rfl 0 rfl ?_
    refine V_iload_n X dX6_requireIndex_5 rfl 1 rfl ?_
    refine V_icmp_lt X 20 dX6_requireIndex_6 (by decide) (fun c2 => ?_) (fun c2 => ?_)
    · replace hs := if_t hs c2
      obtain rfl := ll_eq hs; exact V_vret X hr dX6_requireIndex_20
    · replace hs := if_f hs c2
      exact (rl_no hs).elim
set_option maxRecDepth 100000 in
set_option maxHeartbeats 4000000 in
theorem x_X6_requireIndex {l : Launch} {D : va_G} {cA : Nat → ClassId} {dm : Dm} {ad : Ad} {S : S4} {p1 : Int32} {p2 : Int32}  (hl : l.stackTraces = false) {out : Nat × S4} (hs : s_X6_requireIndex p1 p2 S = some (.inr out)) : Cx D cA dm ad l yX6_requireIndex cX6_requireIndex 2 none 20 600 S [.int p1, .int p2] out := by
  refine Cx.of (by decide +kernel) (Nat.le_of_ble_eq_true rfl) [(0, .int p1), (1, .int p2)] rfl (fun p e s m args below meth c A X hr hZ hE => ?_)
  unfold s_X6_requireIndex at hs
  refine V_iload_n X dX6_requireIndex_0 rfl 0 rfl ?_
  refine V_if_lt X 9 dX6_requireIndex_1 (by decide) (fun c1 => ?_) (fun c1 => ?_)
  · replace hs := if_t hs c1
    obtain rfl := rr_eq hs
    exact V_throwSW X hE hl hZ tw_5 (text := "no such number") (by decide +kernel) dX6_requireIndex_9 dX6_requireIndex_12 dX6_requireIndex_13 dX6_requireIndex_16 dX6_requireIndex_19 (Nat.le_of_ble_eq_true rfl) ⟨by decide, by decide, by decide, by decide⟩ ⟨by decide, by decide⟩
  · replace hs := if_f hs c1
    refine V_iload_n X dX6_requireIndex_4 rfl 0 rfl ?_
    refine V_iload_n X dX6_requireIndex_5 rfl 1 rfl ?_
    refine V_icmp_lt X 20 dX6_requireIndex_6 (by decide) (fun c2 => ?_) (fun c2 => ?_)
    · replace hs := if_t hs c2
      exact (lr_no hs).elim
    · replace hs := if_f hs c2
      obtain rfl := rr_eq hs
      exact V_throwSW X hE hl hZ tw_5 (text := "no such number") (by decide +kernel) dX6_requireIndex_9 dX6_requireIndex_12 dX6_requireIndex_13 dX6_requireIndex_16 dX6_requireIndex_19 (Nat.le_of_ble_eq_true rfl) ⟨by decide, by decide, by decide, by decide⟩ ⟨by decide, by decide⟩

def s_X6_requireWhat (p1 : Int32) (p2 : Int32) (S : S4) : Option (S4 ⊕ (Nat × S4)) := (if p1 < 0 then some (.inr (1, S)) else (if p1 ≤ p2 then some (.inl S) else some (.inr (1, S))))
set_option maxRecDepth 100000 in
set_option maxHeartbeats 4000000 in
theorem c_X6_requireWhat {l : Launch} {D : va_G} {cA : Nat → ClassId} {dm : Dm} {ad : Ad} {S : S4} {p1 : Int32} {p2 : Int32}  {out : S4} (hs : s_X6_requireWhat p1 p2 S = some (.inl out)) : Ct D cA dm ad l yX6_requireWhat cX6_requireWhat 2 none 20 600 S [.int p1, .int p2] none out := by
  refine Ct.of (by decide +kernel) (Nat.le_of_ble_eq_true rfl) [(0, .int p1), (1, .int p2)] rfl (fun p e s m args below meth c A X hr => ?_)
  unfold s_X6_requireWhat at hs
  refine V_iload_n X dX6_requireWhat_0 rfl 0 rfl ?_
  refine V_if_lt X 9 dX6_requireWhat_1 (by decide) (fun c1 => ?_) (fun c1 => ?_)
  · replace hs := if_t hs c1
    exact (rl_no hs).elim
  · replace hs := if_f hs c1
    refine V_iload_n X dX6_requireWhat_4 rfl 0 rfl ?_
    refine V_iload_n X dX6_requireWhat_5 rfl 1 rfl ?_
    refine V_icmp_le X 20 dX6_requireWhat_6 (by decide) (fun c2 => ?_) (fun c2 => ?_)
    · replace hs := if_t hs c2
      obtain rfl := ll_eq hs; exact V_vret X hr dX6_requireWhat_20
    · replace hs := if_f hs c2
      exact (rl_no hs).elim
set_option maxRecDepth 100000 in
set_option maxHeartbeats 4000000 in
theorem x_X6_requireWhat {l : Launch} {D : va_G} {cA : Nat → ClassId} {dm : Dm} {ad : Ad} {S : S4} {p1 : Int32} {p2 : Int32}  (hl : l.stackTraces = false) {out : Nat × S4} (hs : s_X6_requireWhat p1 p2 S = some (.inr out)) : Cx D cA dm ad l yX6_requireWhat cX6_requireWhat 2 none 20 600 S [.int p1, .int p2] out := by
  refine Cx.of (by decide +kernel) (Nat.le_of_ble_eq_true rfl) [(0, .int p1), (1, .int p2)] rfl (fun p e s m args below meth c A X hr hZ hE => ?_)
  unfold s_X6_requireWhat at hs
  refine V_iload_n X dX6_requireWhat_0 rfl 0 rfl ?_
  refine V_if_lt X 9 dX6_requireWhat_1 (by decide) (fun c1 => ?_) (fun c1 => ?_)
  · replace hs := if_t hs c1
    obtain rfl := rr_eq hs
    exact V_throwSW X hE hl hZ tw_1 (text := "what is not valid") (by decide +kernel) dX6_requireWhat_9 dX6_requireWhat_12 dX6_requireWhat_13 dX6_requireWhat_16 dX6_requireWhat_19 (Nat.le_of_ble_eq_true rfl) ⟨by decide, by decide, by decide, by decide⟩ ⟨by decide, by decide⟩
  · replace hs := if_f hs c1
    refine V_iload_n X dX6_requireWhat_4 rfl 0 rfl ?_
    refine V_iload_n X dX6_requireWhat_5 rfl 1 rfl ?_
    refine V_icmp_le X 20 dX6_requireWhat_6 (by decide) (fun c2 => ?_) (fun c2 => ?_)
    · replace hs := if_t hs c2
      exact (lr_no hs).elim
    · replace hs := if_f hs c2
      obtain rfl := rr_eq hs
      exact V_throwSW X hE hl hZ tw_1 (text := "what is not valid") (by decide +kernel) dX6_requireWhat_9 dX6_requireWhat_12 dX6_requireWhat_13 dX6_requireWhat_16 dX6_requireWhat_19 (Nat.le_of_ble_eq_true rfl) ⟨by decide, by decide, by decide, by decide⟩ ⟨by decide, by decide⟩

def s_X6_plan (np : Nat) (fu : Nat) (p1 : Int32) (p2 : Int32) (S : S4) : Option ((Int32 × S4) ⊕ (Nat × S4)) := tb (s_X6_requireIndex p1 (S 4 0 0 5) S) fun Z2 => tb (s_X6_requireWhat p2 (4 : Int32) Z2) fun Z4 => gd (inb p1 5) ((if (pcd (Z4 17 0 0 p1.toNatClampNeg)) = none then (if p2 = (0 : Int32) then none else if p2 = (1 : Int32) then none else if p2 = (2 : Int32) then none else if p2 = (3 : Int32) then none else none) else (pcd (Z4 17 0 0 p1.toNatClampNeg)).bind fun i11 => gd (i11 < np) ((if p2 = (0 : Int32) then some (.inl ((Z4 2 0 i11 0), Z4)) else if p2 = (1 : Int32) then some (.inl ((Z4 2 0 i11 1), Z4)) else if p2 = (2 : Int32) then some (.inl ((Z4 2 0 i11 2), Z4)) else if p2 = (3 : Int32) then some (.inl ((Z4 2 0 i11 3), Z4)) else (s_X2_destinationsWithoutRule fu i11 Z4).bind fun q17 => some (.inl (q17, Z4))))))
set_option maxRecDepth 100000 in
set_option maxHeartbeats 4000000 in
theorem c_X6_plan {l : Launch} {D : va_G} {cA : Nat → ClassId} {dm : Dm} {ad : Ad} {np : Nat} {fu : Nat} {S : S4} {p1 : Int32} {p2 : Int32} (hK : DK dm) (hnp : ∀ i, i < np → DP dm i) {out : (Int32 × S4)} (hs : s_X6_plan np fu p1 p2 S = some (.inl out)) : Ct D cA dm ad l yX6_plan cX6_plan 4 (some .int) 21 621 S [.ref (ad 6 0 0), .int p1, .int p2] (some (.int out.1)) out.2 := by
  refine Ct.of (by decide +kernel) (Nat.le_of_ble_eq_true rfl) [(0, .ref (ad 6 0 0)), (1, .int p1), (2, .int p2)] rfl (fun p e s m args below meth c A X hr => ?_)
  unfold s_X6_plan at hs
  refine V_iload_n X dX6_plan_0 rfl 1 rfl ?_
  refine V_aload_n X dX6_plan_1 rfl 0 rfl ?_
  refine V_get X dX6_plan_2 r_X6_10 (gm6 hK) rfl rfl ?_
  refine V_get X dX6_plan_5 r_X6_142 (gm4 (gmT hK (by decide))) rfl rfl ?_
  obtain ⟨Z2, eZ2, hs⟩ := tb_l hs
  refine V_callSv X [.int p1, .int (S 4 0 0 5)] dX6_plan_8 m_X6_157 t_X6_requireIndex ⟨Nat.le_of_ble_eq_true rfl, Nat.le_of_ble_eq_true rfl⟩ ⟨Nat.zero_le _, Nat.zero_le _⟩ rfl (Nat.le_of_ble_eq_true rfl) (c_X6_requireIndex  eZ2) ?_
  refine V_iload_n X dX6_plan_11 rfl 2 rfl ?_
  refine V_iconst X (4 : Int32) dX6_plan_12 (by decide) ?_
  obtain ⟨Z4, eZ4, hs⟩ := tb_l hs
  refine V_callSv X [.int p2, .int (4 : Int32)] dX6_plan_13 m_X6_161 t_X6_requireWhat ⟨Nat.le_of_ble_eq_true rfl, Nat.le_of_ble_eq_true rfl⟩ ⟨Nat.zero_le _, Nat.zero_le _⟩ rfl (Nat.le_of_ble_eq_true rfl) (c_X6_requireWhat  eZ4) ?_
  refine V_aload_n X dX6_plan_16 rfl 0 rfl ?_
  refine V_get X dX6_plan_17 r_X6_10 (gm6 hK) rfl rfl ?_
  refine V_get X dX6_plan_20 r_X6_164 (gm4 (gmT hK (by decide))) rfl rfl ?_
  refine V_iload_n X dX6_plan_23 rfl 1 rfl ?_
  obtain ⟨h5, hs⟩ := gd_some hs
  refine V_aald X 5 rfl dX6_plan_24 (gm17 (gmT hK (by decide))) rfl h5 (v := va_rf ((pcd (Z4 17 0 0 p1.toNatClampNeg)).map (ad 2 0))) rfl ?_
  by_cases c6 : (pcd (Z4 17 0 0 p1.toNatClampNeg)) = none
  · replace hs := if_t hs c6
    rw [c6, rfn]
    refine V_astore_nN X dX6_plan_25 rfl [(3, .null), (0, .ref (ad 6 0 0)), (1, .int p1), (2, .int p2)] (by decide) rfl ?_
    refine V_iload_n X dX6_plan_26 rfl 3 rfl ?_
    by_cases c7 : p2 = (0 : Int32)
    · replace hs := if_t hs c7
      refine V_tsw X 56 dX6_plan_27 (0) (by rw [c7]; rfl) (by decide) (by decide) rfl (by decide) ?_
      refine V_aload_nN X dX6_plan_56 rfl 0 rfl ?_
      cases hs
    replace hs := if_f hs c7
    by_cases c8 : p2 = (1 : Int32)
    · replace hs := if_t hs c8
      refine V_tsw X 61 dX6_plan_27 (1) (by rw [c8]; rfl) (by decide) (by decide) rfl (by decide) ?_
      refine V_aload_nN X dX6_plan_61 rfl 0 rfl ?_
      cases hs
    replace hs := if_f hs c8
    by_cases c9 : p2 = (2 : Int32)
    · replace hs := if_t hs c9
      refine V_tsw X 66 dX6_plan_27 (2) (by rw [c9]; rfl) (by decide) (by decide) rfl (by decide) ?_
      refine V_aload_nN X dX6_plan_66 rfl 0 rfl ?_
      cases hs
    replace hs := if_f hs c9
    by_cases c10 : p2 = (3 : Int32)
    · replace hs := if_t hs c10
      refine V_tsw X 71 dX6_plan_27 (3) (by rw [c10]; rfl) (by decide) (by decide) rfl (by decide) ?_
      refine V_aload_nN X dX6_plan_71 rfl 0 rfl ?_
      cases hs
    replace hs := if_f hs c10
    refine V_tswD X 76 dX6_plan_27 (by have ec7 := sw_ne c7 (0) (by rfl); have ec8 := sw_ne c8 (1) (by rfl); have ec9 := sw_ne c9 (2) (by rfl); have ec10 := sw_ne c10 (3) (by rfl); omega) (by decide) ?_
    refine V_aload_nN X dX6_plan_76 rfl 0 rfl ?_
    cases hs
  · replace hs := if_f hs c6
    obtain ⟨i11, qi11, hs⟩ := bd_some hs
    obtain ⟨h12, hs⟩ := gd_some hs
    rw [qi11, rfs]
    refine V_astore_n X dX6_plan_25 rfl [(3, .ref (ad 2 0 i11)), (0, .ref (ad 6 0 0)), (1, .int p1), (2, .int p2)] (by decide) rfl ?_
    refine V_iload_n X dX6_plan_26 rfl 3 rfl ?_
    by_cases c13 : p2 = (0 : Int32)
    · replace hs := if_t hs c13
      refine V_tsw X 56 dX6_plan_27 (0) (by rw [c13]; rfl) (by decide) (by decide) rfl (by decide) ?_
      refine V_aload_n X dX6_plan_56 rfl 0 rfl ?_
      refine V_get X dX6_plan_57 r_X6_145 (gm2 (hnp _ h12)) rfl rfl ?_
      obtain rfl := ll_eq hs; exact V_iret X hr dX6_plan_60
    replace hs := if_f hs c13
    by_cases c14 : p2 = (1 : Int32)
    · replace hs := if_t hs c14
      refine V_tsw X 61 dX6_plan_27 (1) (by rw [c14]; rfl) (by decide) (by decide) rfl (by decide) ?_
      refine V_aload_n X dX6_plan_61 rfl 0 rfl ?_
      refine V_get X dX6_plan_62 r_X6_168 (gm2 (hnp _ h12)) rfl rfl ?_
      obtain rfl := ll_eq hs; exact V_iret X hr dX6_plan_65
    replace hs := if_f hs c14
    by_cases c15 : p2 = (2 : Int32)
    · replace hs := if_t hs c15
      refine V_tsw X 66 dX6_plan_27 (2) (by rw [c15]; rfl) (by decide) (by decide) rfl (by decide) ?_
      refine V_aload_n X dX6_plan_66 rfl 0 rfl ?_
      refine V_get X dX6_plan_67 r_X6_171 (gm2 (hnp _ h12)) rfl rfl ?_
      obtain rfl := ll_eq hs; exact V_iret X hr dX6_plan_70
    replace hs := if_f hs c15
    by_cases c16 : p2 = (3 : Int32)
    · replace hs := if_t hs c16
      refine V_tsw X 71 dX6_plan_27 (3) (by rw [c16]; rfl) (by decide) (by decide) rfl (by decide) ?_
      refine V_aload_n X dX6_plan_71 rfl 0 rfl ?_
      refine V_get X dX6_plan_72 r_X6_174 (gm2 (hnp _ h12)) rfl rfl ?_
      obtain rfl := ll_eq hs; exact V_iret X hr dX6_plan_75
    replace hs := if_f hs c16
    refine V_tswD X 76 dX6_plan_27 (by have ec13 := sw_ne c13 (0) (by rfl); have ec14 := sw_ne c14 (1) (by rfl); have ec15 := sw_ne c15 (2) (by rfl); have ec16 := sw_ne c16 (3) (by rfl); omega) (by decide) ?_
    refine V_aload_n X dX6_plan_76 rfl 0 rfl ?_
    obtain ⟨q17, eq17, hs⟩ := bd_some hs
    refine V_callVs X [] dX6_plan_77 m_X6_177 v_X2_destinationsWithoutRule ⟨Nat.le_of_ble_eq_true rfl, Nat.le_of_ble_eq_true rfl⟩ ⟨Nat.zero_le _, Nat.zero_le _⟩ rfl (Nat.le_of_ble_eq_true rfl) (gm2 (hnp _ h12)) rfl cl2 (c_X2_destinationsWithoutRule (hnp _ h12) eq17) ?_
    obtain rfl := ll_eq hs; exact V_iret X hr dX6_plan_80
set_option maxRecDepth 100000 in
set_option maxHeartbeats 4000000 in
theorem x_X6_plan {l : Launch} {D : va_G} {cA : Nat → ClassId} {dm : Dm} {ad : Ad} {np : Nat} {fu : Nat} {S : S4} {p1 : Int32} {p2 : Int32} (hK : DK dm) (hnp : ∀ i, i < np → DP dm i) (hl : l.stackTraces = false) {out : Nat × S4} (hs : s_X6_plan np fu p1 p2 S = some (.inr out)) : Cx D cA dm ad l yX6_plan cX6_plan 4 (some .int) 21 621 S [.ref (ad 6 0 0), .int p1, .int p2] out := by
  refine Cx.of (by decide +kernel) (Nat.le_of_ble_eq_true rfl) [(0, .ref (ad 6 0 0)), (1, .int p1), (2, .int p2)] rfl (fun p e s m args below meth c A X hr hZ hE => ?_)
  unfold s_X6_plan at hs
  refine V_iload_n X dX6_plan_0 rfl 1 rfl ?_
  refine V_aload_n X dX6_plan_1 rfl 0 rfl ?_
  refine V_get X dX6_plan_2 r_X6_10 (gm6 hK) rfl rfl ?_
  refine V_get X dX6_plan_5 r_X6_142 (gm4 (gmT hK (by decide))) rfl rfl ?_
  rcases tb_r hs with ⟨Z2, eZ2, hs⟩ | hs9
  case inr => exact V_callSX X hE hZ [.int p1, .int (S 4 0 0 5)] dX6_plan_8 m_X6_157 t_X6_requireIndex ⟨Nat.le_of_ble_eq_true rfl, Nat.le_of_ble_eq_true rfl⟩ ⟨by decide, by decide⟩ ⟨by decide, by decide⟩ rfl (Nat.le_of_ble_eq_true rfl) (x_X6_requireIndex  hl hs9)
  refine V_callSv X [.int p1, .int (S 4 0 0 5)] dX6_plan_8 m_X6_157 t_X6_requireIndex ⟨Nat.le_of_ble_eq_true rfl, Nat.le_of_ble_eq_true rfl⟩ ⟨Nat.zero_le _, Nat.zero_le _⟩ rfl (Nat.le_of_ble_eq_true rfl) (c_X6_requireIndex  eZ2) ?_
  refine V_iload_n X dX6_plan_11 rfl 2 rfl ?_
  refine V_iconst X (4 : Int32) dX6_plan_12 (by decide) ?_
  rcases tb_r hs with ⟨Z4, eZ4, hs⟩ | hs9
  case inr => exact V_callSX X hE hZ [.int p2, .int (4 : Int32)] dX6_plan_13 m_X6_161 t_X6_requireWhat ⟨Nat.le_of_ble_eq_true rfl, Nat.le_of_ble_eq_true rfl⟩ ⟨by decide, by decide⟩ ⟨by decide, by decide⟩ rfl (Nat.le_of_ble_eq_true rfl) (x_X6_requireWhat  hl hs9)
  refine V_callSv X [.int p2, .int (4 : Int32)] dX6_plan_13 m_X6_161 t_X6_requireWhat ⟨Nat.le_of_ble_eq_true rfl, Nat.le_of_ble_eq_true rfl⟩ ⟨Nat.zero_le _, Nat.zero_le _⟩ rfl (Nat.le_of_ble_eq_true rfl) (c_X6_requireWhat  eZ4) ?_
  refine V_aload_n X dX6_plan_16 rfl 0 rfl ?_
  refine V_get X dX6_plan_17 r_X6_10 (gm6 hK) rfl rfl ?_
  refine V_get X dX6_plan_20 r_X6_164 (gm4 (gmT hK (by decide))) rfl rfl ?_
  refine V_iload_n X dX6_plan_23 rfl 1 rfl ?_
  obtain ⟨h5, hs⟩ := gd_some hs
  refine V_aald X 5 rfl dX6_plan_24 (gm17 (gmT hK (by decide))) rfl h5 (v := va_rf ((pcd (Z4 17 0 0 p1.toNatClampNeg)).map (ad 2 0))) rfl ?_
  by_cases c6 : (pcd (Z4 17 0 0 p1.toNatClampNeg)) = none
  · replace hs := if_t hs c6
    rw [c6, rfn]
    refine V_astore_nN X dX6_plan_25 rfl [(3, .null), (0, .ref (ad 6 0 0)), (1, .int p1), (2, .int p2)] (by decide) rfl ?_
    refine V_iload_n X dX6_plan_26 rfl 3 rfl ?_
    by_cases c7 : p2 = (0 : Int32)
    · replace hs := if_t hs c7
      refine V_tsw X 56 dX6_plan_27 (0) (by rw [c7]; rfl) (by decide) (by decide) rfl (by decide) ?_
      refine V_aload_nN X dX6_plan_56 rfl 0 rfl ?_
      cases hs
    replace hs := if_f hs c7
    by_cases c8 : p2 = (1 : Int32)
    · replace hs := if_t hs c8
      refine V_tsw X 61 dX6_plan_27 (1) (by rw [c8]; rfl) (by decide) (by decide) rfl (by decide) ?_
      refine V_aload_nN X dX6_plan_61 rfl 0 rfl ?_
      cases hs
    replace hs := if_f hs c8
    by_cases c9 : p2 = (2 : Int32)
    · replace hs := if_t hs c9
      refine V_tsw X 66 dX6_plan_27 (2) (by rw [c9]; rfl) (by decide) (by decide) rfl (by decide) ?_
      refine V_aload_nN X dX6_plan_66 rfl 0 rfl ?_
      cases hs
    replace hs := if_f hs c9
    by_cases c10 : p2 = (3 : Int32)
    · replace hs := if_t hs c10
      refine V_tsw X 71 dX6_plan_27 (3) (by rw [c10]; rfl) (by decide) (by decide) rfl (by decide) ?_
      refine V_aload_nN X dX6_plan_71 rfl 0 rfl ?_
      cases hs
    replace hs := if_f hs c10
    refine V_tswD X 76 dX6_plan_27 (by have ec7 := sw_ne c7 (0) (by rfl); have ec8 := sw_ne c8 (1) (by rfl); have ec9 := sw_ne c9 (2) (by rfl); have ec10 := sw_ne c10 (3) (by rfl); omega) (by decide) ?_
    refine V_aload_nN X dX6_plan_76 rfl 0 rfl ?_
    cases hs
  · replace hs := if_f hs c6
    obtain ⟨i11, qi11, hs⟩ := bd_some hs
    obtain ⟨h12, hs⟩ := gd_some hs
    rw [qi11, rfs]
    refine V_astore_n X dX6_plan_25 rfl [(3, .ref (ad 2 0 i11)), (0, .ref (ad 6 0 0)), (1, .int p1), (2, .int p2)] (by decide) rfl ?_
    refine V_iload_n X dX6_plan_26 rfl 3 rfl ?_
    by_cases c13 : p2 = (0 : Int32)
    · replace hs := if_t hs c13
      refine V_tsw X 56 dX6_plan_27 (0) (by rw [c13]; rfl) (by decide) (by decide) rfl (by decide) ?_
      refine V_aload_n X dX6_plan_56 rfl 0 rfl ?_
      refine V_get X dX6_plan_57 r_X6_145 (gm2 (hnp _ h12)) rfl rfl ?_
      exact (lr_no hs).elim
    replace hs := if_f hs c13
    by_cases c14 : p2 = (1 : Int32)
    · replace hs := if_t hs c14
      refine V_tsw X 61 dX6_plan_27 (1) (by rw [c14]; rfl) (by decide) (by decide) rfl (by decide) ?_
      refine V_aload_n X dX6_plan_61 rfl 0 rfl ?_
      refine V_get X dX6_plan_62 r_X6_168 (gm2 (hnp _ h12)) rfl rfl ?_
      exact (lr_no hs).elim
    replace hs := if_f hs c14
    by_cases c15 : p2 = (2 : Int32)
    · replace hs := if_t hs c15
      refine V_tsw X 66 dX6_plan_27 (2) (by rw [c15]; rfl) (by decide) (by decide) rfl (by decide) ?_
      refine V_aload_n X dX6_plan_66 rfl 0 rfl ?_
      refine V_get X dX6_plan_67 r_X6_171 (gm2 (hnp _ h12)) rfl rfl ?_
      exact (lr_no hs).elim
    replace hs := if_f hs c15
    by_cases c16 : p2 = (3 : Int32)
    · replace hs := if_t hs c16
      refine V_tsw X 71 dX6_plan_27 (3) (by rw [c16]; rfl) (by decide) (by decide) rfl (by decide) ?_
      refine V_aload_n X dX6_plan_71 rfl 0 rfl ?_
      refine V_get X dX6_plan_72 r_X6_174 (gm2 (hnp _ h12)) rfl rfl ?_
      exact (lr_no hs).elim
    replace hs := if_f hs c16
    refine V_tswD X 76 dX6_plan_27 (by have ec13 := sw_ne c13 (0) (by rfl); have ec14 := sw_ne c14 (1) (by rfl); have ec15 := sw_ne c15 (2) (by rfl); have ec16 := sw_ne c16 (3) (by rfl); omega) (by decide) ?_
    refine V_aload_n X dX6_plan_76 rfl 0 rfl ?_
    obtain ⟨q17, eq17, hs⟩ := bd_some hs
    refine V_callVs X [] dX6_plan_77 m_X6_177 v_X2_destinationsWithoutRule ⟨Nat.le_of_ble_eq_true rfl, Nat.le_of_ble_eq_true rfl⟩ ⟨Nat.zero_le _, Nat.zero_le _⟩ rfl (Nat.le_of_ble_eq_true rfl) (gm2 (hnp _ h12)) rfl cl2 (c_X2_destinationsWithoutRule (hnp _ h12) eq17) ?_
    exact (lr_no hs).elim

def s_X6_route (np : Nat) (fu : Nat) (p1 : Int32) (p2 : Int32) (p3 : Int32) (S : S4) : Option ((Int32 × S4) ⊕ (Nat × S4)) := (if p1 < 0 then some (.inr (1, S)) else (s_X6_isIn p2 (0 : Int32) (99 : Int32) S).bind fun q2 => (if q2 = 0 then some (.inr (1, S)) else (s_X4_planOf np fu 0 p1 S).bind fun q4 => (if q4 = none then some (.inr (2, S)) else q4.bind fun i7 => gd (i7 < np) ((s_X2_ruleOf fu i7 p2 S).bind fun q10 => (if q10 = (-1 : Int32) then some (.inr (4, S)) else (if p3 < (-1 : Int32) then some (.inr (4, S)) else gd (inb q10 8) ((if p3 < (S 12 0 i7 q10.toNatClampNeg) then (if p3 = (-1 : Int32) then gd (inb q10 8) (some (.inl ((S 12 0 i7 q10.toNatClampNeg), S))) else (s_X2_chuteIn i7 q10 p3 S).bind fun q16 => some (.inl (q16, S))) else some (.inr (4, S))))))))))
set_option maxRecDepth 100000 in
set_option maxHeartbeats 4000000 in
theorem c_X6_route {l : Launch} {D : va_G} {cA : Nat → ClassId} {dm : Dm} {ad : Ad} {np : Nat} {fu : Nat} {S : S4} {p1 : Int32} {p2 : Int32} {p3 : Int32} (hK : DK dm) (hnp : ∀ i, i < np → DP dm i) {out : (Int32 × S4)} (hs : s_X6_route np fu p1 p2 p3 S = some (.inl out)) : Ct D cA dm ad l yX6_route cX6_route 6 (some .int) 20 600 S [.ref (ad 6 0 0), .int p1, .int p2, .int p3] (some (.int out.1)) out.2 := by
  refine Ct.of (by decide +kernel) (Nat.le_of_ble_eq_true rfl) [(0, .ref (ad 6 0 0)), (1, .int p1), (2, .int p2), (3, .int p3)] rfl (fun p e s m args below meth c A X hr => ?_)
  unfold s_X6_route at hs
  refine V_iload_n X dX6_route_0 rfl 1 rfl ?_
  refine V_if_lt X 14 dX6_route_1 (by decide) (fun c1 => ?_) (fun c1 => ?_)
  · replace hs := if_t hs c1
    exact (rl_no hs).elim
  · replace hs := if_f hs c1
    refine V_iload_n X dX6_route_4 rfl 2 rfl ?_
    refine V_iconst X (0 : Int32) dX6_route_5 (by decide) ?_
    refine V_bipush X (99 : Int32) dX6_route_6 (by decide) ?_
    obtain ⟨q2, eq2, hs⟩ := bd_some hs
    refine V_callSs X [.int p2, .int (0 : Int32), .int (99 : Int32)] dX6_route_8 m_X6_76 t_X6_isIn ⟨Nat.le_of_ble_eq_true rfl, Nat.le_of_ble_eq_true rfl⟩ ⟨Nat.zero_le _, Nat.zero_le _⟩ rfl (Nat.le_of_ble_eq_true rfl) (c_X6_isIn  eq2) ?_
    refine V_if_ne X 24 dX6_route_11 (by decide) (fun c3 => ?_) (fun c3 => ?_)
    · replace hs := if_f hs c3
      refine V_aload_n X dX6_route_24 rfl 0 rfl ?_
      refine V_get X dX6_route_25 r_X6_10 (gm6 hK) rfl rfl ?_
      refine V_iload_n X dX6_route_28 rfl 1 rfl ?_
      obtain ⟨q4, eq4, hs⟩ := bd_some hs
      refine V_callVs X [.int p1] dX6_route_29 m_X6_181 v_X4_planOf ⟨Nat.le_of_ble_eq_true rfl, Nat.le_of_ble_eq_true rfl⟩ ⟨Nat.zero_le _, Nat.zero_le _⟩ rfl (Nat.le_of_ble_eq_true rfl) (gm4 (gmT hK (by decide))) rfl cl4 (c_X4_planOf (gmT hK (by decide)) hnp eq4) ?_
      by_cases c5 : q4 = none
      · replace hs := if_t hs c5
        rw [c5, rfn]
        refine V_astoreN X dX6_route_32 [(4, .null), (0, .ref (ad 6 0 0)), (1, .int p1), (2, .int p2), (3, .int p3)] (by decide) rfl ?_
        refine V_aloadN X dX6_route_34 0 rfl ?_
        refine V_ifnonnullN X dX6_route_36 ?_
        exact (rl_no hs).elim
      · replace hs := if_f hs c5
        obtain ⟨i7, qi7, hs⟩ := bd_some hs
        obtain ⟨h8, hs⟩ := gd_some hs
        rw [qi7, rfs]
        refine V_astore X dX6_route_32 [(4, .ref (ad 2 0 i7)), (0, .ref (ad 6 0 0)), (1, .int p1), (2, .int p2), (3, .int p3)] (by decide) rfl ?_
        refine V_aload X dX6_route_34 0 rfl ?_
        refine V_ifnonnull X 49 dX6_route_36 (by decide) ?_
        refine V_aload X dX6_route_49 0 rfl ?_
        refine V_iload_n X dX6_route_51 rfl 3 rfl ?_
        obtain ⟨q10, eq10, hs⟩ := bd_some hs
        refine V_callVs X [.int p2] dX6_route_52 m_X6_187 v_X2_ruleOf ⟨Nat.le_of_ble_eq_true rfl, Nat.le_of_ble_eq_true rfl⟩ ⟨Nat.zero_le _, Nat.zero_le _⟩ rfl (Nat.le_of_ble_eq_true rfl) (gm2 (hnp _ h8)) rfl cl2 (c_X2_ruleOf (hnp _ h8) eq10) ?_
        refine V_istore X dX6_route_55 [(5, .int q10), (4, .ref (ad 2 0 i7)), (0, .ref (ad 6 0 0)), (1, .int p1), (2, .int p2), (3, .int p3)] (by decide) rfl ?_
        refine V_iload X dX6_route_57 0 rfl ?_
        refine V_iconst X (-1 : Int32) dX6_route_59 (by decide) ?_
        refine V_icmp_ne X 73 dX6_route_60 (by decide) (fun c11 => ?_) (fun c11 => ?_)
        · replace hs := if_f hs c11
          refine V_iload_n X dX6_route_73 rfl 5 rfl ?_
          refine V_iconst X (-1 : Int32) dX6_route_74 (by decide) ?_
          refine V_icmp_lt X 90 dX6_route_75 (by decide) (fun c12 => ?_) (fun c12 => ?_)
          · replace hs := if_t hs c12
            exact (rl_no hs).elim
          · replace hs := if_f hs c12
            refine V_iload_n X dX6_route_78 rfl 5 rfl ?_
            refine V_aload X dX6_route_79 1 rfl ?_
            refine V_get X dX6_route_81 r_X6_195 (gm2 (hnp _ h8)) rfl rfl ?_
            refine V_iload X dX6_route_84 0 rfl ?_
            obtain ⟨h13, hs⟩ := gd_some hs
            refine V_iald X dX6_route_86 (gm12 (hnp _ h8)) rfl h13 ?_
            refine V_icmp_lt X 100 dX6_route_87 (by decide) (fun c14 => ?_) (fun c14 => ?_)
            · replace hs := if_t hs c14
              refine V_iload_n X dX6_route_100 rfl 5 rfl ?_
              refine V_iconst X (-1 : Int32) dX6_route_101 (by decide) ?_
              refine V_icmp_ne X 116 dX6_route_102 (by decide) (fun c15 => ?_) (fun c15 => ?_)
              · replace hs := if_f hs c15
                refine V_aload X dX6_route_116 1 rfl ?_
                refine V_iload X dX6_route_118 0 rfl ?_
                refine V_iload_n X dX6_route_120 rfl 5 rfl ?_
                obtain ⟨q16, eq16, hs⟩ := bd_some hs
                refine V_callVs X [.int q10, .int p3] dX6_route_121 m_X6_201 v_X2_chuteIn ⟨Nat.le_of_ble_eq_true rfl, Nat.le_of_ble_eq_true rfl⟩ ⟨Nat.zero_le _, Nat.zero_le _⟩ rfl (Nat.le_of_ble_eq_true rfl) (gm2 (hnp _ h8)) rfl cl2 (c_X2_chuteIn (hnp _ h8) eq16) ?_
                obtain rfl := ll_eq hs; exact V_iret X hr dX6_route_124
              · replace hs := if_t hs c15
                refine V_aload X dX6_route_105 1 rfl ?_
                refine V_get X dX6_route_107 r_X6_195 (gm2 (hnp _ h8)) rfl rfl ?_
                refine V_iload X dX6_route_110 0 rfl ?_
                obtain ⟨h17, hs⟩ := gd_some hs
                refine V_iald X dX6_route_112 (gm12 (hnp _ h8)) rfl h17 ?_
                refine V_goto X 124 dX6_route_113 (by decide) ?_
                obtain rfl := ll_eq hs; exact V_iret X hr dX6_route_124
            · replace hs := if_f hs c14
              exact (rl_no hs).elim
        · replace hs := if_t hs c11
          exact (rl_no hs).elim
    · replace hs := if_t hs c3
      exact (rl_no hs).elim
set_option maxRecDepth 100000 in
set_option maxHeartbeats 4000000 in
theorem x_X6_route {l : Launch} {D : va_G} {cA : Nat → ClassId} {dm : Dm} {ad : Ad} {np : Nat} {fu : Nat} {S : S4} {p1 : Int32} {p2 : Int32} {p3 : Int32} (hK : DK dm) (hnp : ∀ i, i < np → DP dm i) (hl : l.stackTraces = false) {out : Nat × S4} (hs : s_X6_route np fu p1 p2 p3 S = some (.inr out)) : Cx D cA dm ad l yX6_route cX6_route 6 (some .int) 20 600 S [.ref (ad 6 0 0), .int p1, .int p2, .int p3] out := by
  refine Cx.of (by decide +kernel) (Nat.le_of_ble_eq_true rfl) [(0, .ref (ad 6 0 0)), (1, .int p1), (2, .int p2), (3, .int p3)] rfl (fun p e s m args below meth c A X hr hZ hE => ?_)
  unfold s_X6_route at hs
  refine V_iload_n X dX6_route_0 rfl 1 rfl ?_
  refine V_if_lt X 14 dX6_route_1 (by decide) (fun c1 => ?_) (fun c1 => ?_)
  · replace hs := if_t hs c1
    obtain rfl := rr_eq hs
    exact V_throwS X hE hl hZ tw_1 (text := "argument out of range") (by decide +kernel) dX6_route_14 dX6_route_17 dX6_route_18 dX6_route_20 dX6_route_23 (Nat.le_of_ble_eq_true rfl) ⟨by decide, by decide, by decide, by decide⟩ ⟨by decide, by decide⟩
  · replace hs := if_f hs c1
    refine V_iload_n X dX6_route_4 rfl 2 rfl ?_
    refine V_iconst X (0 : Int32) dX6_route_5 (by decide) ?_
    refine V_bipush X (99 : Int32) dX6_route_6 (by decide) ?_
    obtain ⟨q2, eq2, hs⟩ := bd_some hs
    refine V_callSs X [.int p2, .int (0 : Int32), .int (99 : Int32)] dX6_route_8 m_X6_76 t_X6_isIn ⟨Nat.le_of_ble_eq_true rfl, Nat.le_of_ble_eq_true rfl⟩ ⟨Nat.zero_le _, Nat.zero_le _⟩ rfl (Nat.le_of_ble_eq_true rfl) (c_X6_isIn  eq2) ?_
    refine V_if_ne X 24 dX6_route_11 (by decide) (fun c3 => ?_) (fun c3 => ?_)
    · replace hs := if_f hs c3
      refine V_aload_n X dX6_route_24 rfl 0 rfl ?_
      refine V_get X dX6_route_25 r_X6_10 (gm6 hK) rfl rfl ?_
      refine V_iload_n X dX6_route_28 rfl 1 rfl ?_
      obtain ⟨q4, eq4, hs⟩ := bd_some hs
      refine V_callVs X [.int p1] dX6_route_29 m_X6_181 v_X4_planOf ⟨Nat.le_of_ble_eq_true rfl, Nat.le_of_ble_eq_true rfl⟩ ⟨Nat.zero_le _, Nat.zero_le _⟩ rfl (Nat.le_of_ble_eq_true rfl) (gm4 (gmT hK (by decide))) rfl cl4 (c_X4_planOf (gmT hK (by decide)) hnp eq4) ?_
      by_cases c5 : q4 = none
      · replace hs := if_t hs c5
        rw [c5, rfn]
        refine V_astoreN X dX6_route_32 [(4, .null), (0, .ref (ad 6 0 0)), (1, .int p1), (2, .int p2), (3, .int p3)] (by decide) rfl ?_
        refine V_aloadN X dX6_route_34 0 rfl ?_
        refine V_ifnonnullN X dX6_route_36 ?_
        obtain rfl := rr_eq hs
        exact V_throwS X hE hl hZ tw_2 (text := "no plan of this tick") (by decide +kernel) dX6_route_39 dX6_route_42 dX6_route_43 dX6_route_45 dX6_route_48 (Nat.le_of_ble_eq_true rfl) ⟨by decide, by decide, by decide, by decide⟩ ⟨by decide, by decide⟩
      · replace hs := if_f hs c5
        obtain ⟨i7, qi7, hs⟩ := bd_some hs
        obtain ⟨h8, hs⟩ := gd_some hs
        rw [qi7, rfs]
        refine V_astore X dX6_route_32 [(4, .ref (ad 2 0 i7)), (0, .ref (ad 6 0 0)), (1, .int p1), (2, .int p2), (3, .int p3)] (by decide) rfl ?_
        refine V_aload X dX6_route_34 0 rfl ?_
        refine V_ifnonnull X 49 dX6_route_36 (by decide) ?_
        refine V_aload X dX6_route_49 0 rfl ?_
        refine V_iload_n X dX6_route_51 rfl 3 rfl ?_
        obtain ⟨q10, eq10, hs⟩ := bd_some hs
        refine V_callVs X [.int p2] dX6_route_52 m_X6_187 v_X2_ruleOf ⟨Nat.le_of_ble_eq_true rfl, Nat.le_of_ble_eq_true rfl⟩ ⟨Nat.zero_le _, Nat.zero_le _⟩ rfl (Nat.le_of_ble_eq_true rfl) (gm2 (hnp _ h8)) rfl cl2 (c_X2_ruleOf (hnp _ h8) eq10) ?_
        refine V_istore X dX6_route_55 [(5, .int q10), (4, .ref (ad 2 0 i7)), (0, .ref (ad 6 0 0)), (1, .int p1), (2, .int p2), (3, .int p3)] (by decide) rfl ?_
        refine V_iload X dX6_route_57 0 rfl ?_
        refine V_iconst X (-1 : Int32) dX6_route_59 (by decide) ?_
        refine V_icmp_ne X 73 dX6_route_60 (by decide) (fun c11 => ?_) (fun c11 => ?_)
        · replace hs := if_f hs c11
          refine V_iload_n X dX6_route_73 rfl 5 rfl ?_
          refine V_iconst X (-1 : Int32) dX6_route_74 (by decide) ?_
          refine V_icmp_lt X 90 dX6_route_75 (by decide) (fun c12 => ?_) (fun c12 => ?_)
          · replace hs := if_t hs c12
            obtain rfl := rr_eq hs
            exact V_throwS X hE hl hZ tw_4 (text := "no such chute in the rule") (by decide +kernel) dX6_route_90 dX6_route_93 dX6_route_94 dX6_route_96 dX6_route_99 (Nat.le_of_ble_eq_true rfl) ⟨by decide, by decide, by decide, by decide⟩ ⟨by decide, by decide⟩
          · replace hs := if_f hs c12
            refine V_iload_n X dX6_route_78 rfl 5 rfl ?_
            refine V_aload X dX6_route_79 1 rfl ?_
            refine V_get X dX6_route_81 r_X6_195 (gm2 (hnp _ h8)) rfl rfl ?_
            refine V_iload X dX6_route_84 0 rfl ?_
            obtain ⟨h13, hs⟩ := gd_some hs
            refine V_iald X dX6_route_86 (gm12 (hnp _ h8)) rfl h13 ?_
            refine V_icmp_lt X 100 dX6_route_87 (by decide) (fun c14 => ?_) (fun c14 => ?_)
            · replace hs := if_t hs c14
              refine V_iload_n X dX6_route_100 rfl 5 rfl ?_
              refine V_iconst X (-1 : Int32) dX6_route_101 (by decide) ?_
              refine V_icmp_ne X 116 dX6_route_102 (by decide) (fun c15 => ?_) (fun c15 => ?_)
              · replace hs := if_f hs c15
                refine V_aload X dX6_route_116 1 rfl ?_
                refine V_iload X dX6_route_118 0 rfl ?_
                refine V_iload_n X dX6_route_120 rfl 5 rfl ?_
                obtain ⟨q16, eq16, hs⟩ := bd_some hs
                refine V_callVs X [.int q10, .int p3] dX6_route_121 m_X6_201 v_X2_chuteIn ⟨Nat.le_of_ble_eq_true rfl, Nat.le_of_ble_eq_true rfl⟩ ⟨Nat.zero_le _, Nat.zero_le _⟩ rfl (Nat.le_of_ble_eq_true rfl) (gm2 (hnp _ h8)) rfl cl2 (c_X2_chuteIn (hnp _ h8) eq16) ?_
                exact (lr_no hs).elim
              · replace hs := if_t hs c15
                refine V_aload X dX6_route_105 1 rfl ?_
                refine V_get X dX6_route_107 r_X6_195 (gm2 (hnp _ h8)) rfl rfl ?_
                refine V_iload X dX6_route_110 0 rfl ?_
                obtain ⟨h17, hs⟩ := gd_some hs
                refine V_iald X dX6_route_112 (gm12 (hnp _ h8)) rfl h17 ?_
                refine V_goto X 124 dX6_route_113 (by decide) ?_
                exact (lr_no hs).elim
            · replace hs := if_f hs c14
              obtain rfl := rr_eq hs
              exact V_throwS X hE hl hZ tw_4 (text := "no such chute in the rule") (by decide +kernel) dX6_route_90 dX6_route_93 dX6_route_94 dX6_route_96 dX6_route_99 (Nat.le_of_ble_eq_true rfl) ⟨by decide, by decide, by decide, by decide⟩ ⟨by decide, by decide⟩
        · replace hs := if_t hs c11
          obtain rfl := rr_eq hs
          exact V_throwS X hE hl hZ tw_4 (text := "no rule") (by decide +kernel) dX6_route_63 dX6_route_66 dX6_route_67 dX6_route_69 dX6_route_72 (Nat.le_of_ble_eq_true rfl) ⟨by decide, by decide, by decide, by decide⟩ ⟨by decide, by decide⟩
    · replace hs := if_t hs c3
      obtain rfl := rr_eq hs
      exact V_throwS X hE hl hZ tw_1 (text := "argument out of range") (by decide +kernel) dX6_route_14 dX6_route_17 dX6_route_18 dX6_route_20 dX6_route_23 (Nat.le_of_ble_eq_true rfl) ⟨by decide, by decide, by decide, by decide⟩ ⟨by decide, by decide⟩

def s_X6_arrive (np : Nat) (fu : Nat) (p1 : Int32) (p2 : Int32) (p3 : Int32) (p4 : Int32) (S : S4) : Option ((Int32 × S4) ⊕ (Nat × S4)) := tb (s_X6_requireIndex p1 (S 4 0 0 3) S) fun Z2 => (s_X6_isIn p2 (0 : Int32) (99 : Int32) Z2).bind fun q3 => (if q3 = 0 then some (.inr (1, Z2)) else (s_X6_isIn p3 (1 : Int32) (50 : Int32) Z2).bind fun q5 => (if q5 = 0 then some (.inr (1, Z2)) else (s_X6_isIn p4 (0 : Int32) (2 : Int32) Z2).bind fun q7 => (if q7 = 0 then some (.inr (1, Z2)) else (if (60 : Int32) ≤ (Z2 4 0 0 6) then some (.inr (2, Z2)) else gd (inb p1 3) ((s_X5_isFull 0 p1.toNatClampNeg Z2).bind fun q11 => (if q11 = 0 then (s_X6_remember np fu Z2).bind fun Z14 => (s_X4_putParcel fu 0 p1 p2 Z14).bind fun q15 => gd (inb q15.1 60) (sv (u4 q15.2 1 0 q15.1.toNatClampNeg 2 p3) fun Z17 => gd (inb q15.1 60) (sv (u4 Z17 1 0 q15.1.toNatClampNeg 3 p4) fun Z19 => some (.inl (q15.1, Z19)))) else some (.inr (2, Z2))))))))
set_option maxRecDepth 100000 in
set_option maxHeartbeats 4000000 in
theorem c_X6_arrive {l : Launch} {D : va_G} {cA : Nat → ClassId} {dm : Dm} {ad : Ad} {np : Nat} {fu : Nat} {S : S4} {p1 : Int32} {p2 : Int32} {p3 : Int32} {p4 : Int32} (hK : DK dm) (hnp : ∀ i, i < np → DP dm i) {out : (Int32 × S4)} (hs : s_X6_arrive np fu p1 p2 p3 p4 S = some (.inl out)) : Ct D cA dm ad l yX6_arrive cX6_arrive 6 (some .int) 21 621 S [.ref (ad 6 0 0), .int p1, .int p2, .int p3, .int p4] (some (.int out.1)) out.2 := by
  refine Ct.of (by decide +kernel) (Nat.le_of_ble_eq_true rfl) [(0, .ref (ad 6 0 0)), (1, .int p1), (2, .int p2), (3, .int p3), (4, .int p4)] rfl (fun p e s m args below meth c A X hr => ?_)
  unfold s_X6_arrive at hs
  refine V_iload_n X dX6_arrive_0 rfl 1 rfl ?_
  refine V_aload_n X dX6_arrive_1 rfl 0 rfl ?_
  refine V_get X dX6_arrive_2 r_X6_10 (gm6 hK) rfl rfl ?_
  refine V_get X dX6_arrive_5 r_X6_61 (gm4 (gmT hK (by decide))) rfl rfl ?_
  obtain ⟨Z2, eZ2, hs⟩ := tb_l hs
  refine V_callSv X [.int p1, .int (S 4 0 0 3)] dX6_arrive_8 m_X6_157 t_X6_requireIndex ⟨Nat.le_of_ble_eq_true rfl, Nat.le_of_ble_eq_true rfl⟩ ⟨Nat.zero_le _, Nat.zero_le _⟩ rfl (Nat.le_of_ble_eq_true rfl) (c_X6_requireIndex  eZ2) ?_
  refine V_iload_n X dX6_arrive_11 rfl 2 rfl ?_
  refine V_iconst X (0 : Int32) dX6_arrive_12 (by decide) ?_
  refine V_bipush X (99 : Int32) dX6_arrive_13 (by decide) ?_
  obtain ⟨q3, eq3, hs⟩ := bd_some hs
  refine V_callSs X [.int p2, .int (0 : Int32), .int (99 : Int32)] dX6_arrive_15 m_X6_76 t_X6_isIn ⟨Nat.le_of_ble_eq_true rfl, Nat.le_of_ble_eq_true rfl⟩ ⟨Nat.zero_le _, Nat.zero_le _⟩ rfl (Nat.le_of_ble_eq_true rfl) (c_X6_isIn  eq3) ?_
  refine V_if_eq X 41 dX6_arrive_18 (by decide) (fun c4 => ?_) (fun c4 => ?_)
  · replace hs := if_t hs c4
    exact (rl_no hs).elim
  · replace hs := if_f hs c4
    refine V_iload_n X dX6_arrive_21 rfl 3 rfl ?_
    refine V_iconst X (1 : Int32) dX6_arrive_22 (by decide) ?_
    refine V_bipush X (50 : Int32) dX6_arrive_23 (by decide) ?_
    obtain ⟨q5, eq5, hs⟩ := bd_some hs
    refine V_callSs X [.int p3, .int (1 : Int32), .int (50 : Int32)] dX6_arrive_25 m_X6_76 t_X6_isIn ⟨Nat.le_of_ble_eq_true rfl, Nat.le_of_ble_eq_true rfl⟩ ⟨Nat.zero_le _, Nat.zero_le _⟩ rfl (Nat.le_of_ble_eq_true rfl) (c_X6_isIn  eq5) ?_
    refine V_if_eq X 41 dX6_arrive_28 (by decide) (fun c6 => ?_) (fun c6 => ?_)
    · replace hs := if_t hs c6
      exact (rl_no hs).elim
    · replace hs := if_f hs c6
      refine V_iload X dX6_arrive_31 4 rfl ?_
      refine V_iconst X (0 : Int32) dX6_arrive_33 (by decide) ?_
      refine V_iconst X (2 : Int32) dX6_arrive_34 (by decide) ?_
      obtain ⟨q7, eq7, hs⟩ := bd_some hs
      refine V_callSs X [.int p4, .int (0 : Int32), .int (2 : Int32)] dX6_arrive_35 m_X6_76 t_X6_isIn ⟨Nat.le_of_ble_eq_true rfl, Nat.le_of_ble_eq_true rfl⟩ ⟨Nat.zero_le _, Nat.zero_le _⟩ rfl (Nat.le_of_ble_eq_true rfl) (c_X6_isIn  eq7) ?_
      refine V_if_ne X 51 dX6_arrive_38 (by decide) (fun c8 => ?_) (fun c8 => ?_)
      · replace hs := if_f hs c8
        refine V_aload_n X dX6_arrive_51 rfl 0 rfl ?_
        refine V_get X dX6_arrive_52 r_X6_10 (gm6 hK) rfl rfl ?_
        refine V_get X dX6_arrive_55 r_X6_44 (gm4 (gmT hK (by decide))) rfl rfl ?_
        refine V_bipush X (60 : Int32) dX6_arrive_58 (by decide) ?_
        refine V_icmp_ge X 78 dX6_arrive_60 (by decide) (fun c9 => ?_) (fun c9 => ?_)
        · replace hs := if_t hs c9
          exact (rl_no hs).elim
        · replace hs := if_f hs c9
          refine V_aload_n X dX6_arrive_63 rfl 0 rfl ?_
          refine V_get X dX6_arrive_64 r_X6_10 (gm6 hK) rfl rfl ?_
          refine V_get X dX6_arrive_67 r_X6_205 (gm4 (gmT hK (by decide))) rfl rfl ?_
          refine V_iload_n X dX6_arrive_70 rfl 1 rfl ?_
          obtain ⟨h10, hs⟩ := gd_some hs
          refine V_aald X 3 rfl dX6_arrive_71 (gm15 (gmT hK (by decide))) rfl h10 (v := .ref (ad 5 0 p1.toNatClampNeg)) rfl ?_
          obtain ⟨q11, eq11, hs⟩ := bd_some hs
          refine V_callVs X [] dX6_arrive_72 m_X6_209 v_X5_isFull ⟨Nat.le_of_ble_eq_true rfl, Nat.le_of_ble_eq_true rfl⟩ ⟨Nat.zero_le _, Nat.zero_le _⟩ rfl (Nat.le_of_ble_eq_true rfl) (gm5 (gmT hK (by decide)) (inb_lt h10)) rfl cl5 (c_X5_isFull (gmT hK (by decide)) (inb_lt h10) eq11) ?_
          refine V_if_eq X 88 dX6_arrive_75 (by decide) (fun c12 => ?_) (fun c12 => ?_)
          · replace hs := if_t hs c12
            refine V_aload_n X dX6_arrive_88 rfl 0 rfl ?_
            obtain ⟨Z14, eZ14, hs⟩ := bd_some hs
            refine V_callVv X [] dX6_arrive_89 m_X6_69 v_X6_remember ⟨Nat.le_of_ble_eq_true rfl, Nat.le_of_ble_eq_true rfl⟩ ⟨Nat.zero_le _, Nat.zero_le _⟩ rfl (Nat.le_of_ble_eq_true rfl) (gm6 hK) rfl cl6 (c_X6_remember hK hnp eZ14) ?_
            refine V_aload_n X dX6_arrive_92 rfl 0 rfl ?_
            refine V_get X dX6_arrive_93 r_X6_10 (gm6 hK) rfl rfl ?_
            refine V_iload_n X dX6_arrive_96 rfl 1 rfl ?_
            refine V_iload_n X dX6_arrive_97 rfl 2 rfl ?_
            obtain ⟨q15, eq15, hs⟩ := bd_some hs
            refine V_callVs X [.int p1, .int p2] dX6_arrive_98 m_X6_216 v_X4_putParcel ⟨Nat.le_of_ble_eq_true rfl, Nat.le_of_ble_eq_true rfl⟩ ⟨Nat.zero_le _, Nat.zero_le _⟩ rfl (Nat.le_of_ble_eq_true rfl) (gm4 (gmT hK (by decide))) rfl cl4 (c_X4_putParcel (gmT hK (by decide)) eq15) ?_
            refine V_istore X dX6_arrive_101 [(5, .int q15.1), (0, .ref (ad 6 0 0)), (1, .int p1), (2, .int p2), (3, .int p3), (4, .int p4)] (by decide) rfl ?_
            refine V_aload_n X dX6_arrive_103 rfl 1 rfl ?_
            refine V_get X dX6_arrive_104 r_X6_10 (gm6 hK) rfl rfl ?_
            refine V_get X dX6_arrive_107 r_X6_219 (gm4 (gmT hK (by decide))) rfl rfl ?_
            refine V_iload X dX6_arrive_110 0 rfl ?_
            obtain ⟨h16, hs⟩ := gd_some hs
            refine V_aald X 6 rfl dX6_arrive_112 (gm18 (gmT hK (by decide))) rfl h16 (v := .ref (ad 1 0 q15.1.toNatClampNeg)) rfl ?_
            refine V_iload_n X dX6_arrive_113 rfl 4 rfl ?_
            refine V_put X dX6_arrive_114 f_X6_223 (gm1 (gmT hK (by decide)) (inb_lt h16)) rfl (Nat.le_of_ble_eq_true rfl) rfl rfl rfl (fun Z17 eZ17 => ?_)
            replace hs := sv_some hs Z17 eZ17
            clear eZ17
            refine V_aload_n X dX6_arrive_117 rfl 1 rfl ?_
            refine V_get X dX6_arrive_118 r_X6_10 (gm6 hK) rfl rfl ?_
            refine V_get X dX6_arrive_121 r_X6_219 (gm4 (gmT hK (by decide))) rfl rfl ?_
            refine V_iload X dX6_arrive_124 0 rfl ?_
            obtain ⟨h18, hs⟩ := gd_some hs
            refine V_aald X 6 rfl dX6_arrive_126 (gm18 (gmT hK (by decide))) rfl h18 (v := .ref (ad 1 0 q15.1.toNatClampNeg)) rfl ?_
            refine V_iload X dX6_arrive_127 5 rfl ?_
            refine V_put X dX6_arrive_129 f_X6_228 (gm1 (gmT hK (by decide)) (inb_lt h18)) rfl (Nat.le_of_ble_eq_true rfl) rfl rfl rfl (fun Z19 eZ19 => ?_)
            replace hs := sv_some hs Z19 eZ19
            clear eZ19
            refine V_iload X dX6_arrive_132 0 rfl ?_
            obtain rfl := ll_eq hs; exact V_iret X hr dX6_arrive_134
          · replace hs := if_f hs c12
            exact (rl_no hs).elim
      · replace hs := if_t hs c8
        exact (rl_no hs).elim
set_option maxRecDepth 100000 in
set_option maxHeartbeats 4000000 in
theorem x_X6_arrive {l : Launch} {D : va_G} {cA : Nat → ClassId} {dm : Dm} {ad : Ad} {np : Nat} {fu : Nat} {S : S4} {p1 : Int32} {p2 : Int32} {p3 : Int32} {p4 : Int32} (hK : DK dm) (hnp : ∀ i, i < np → DP dm i) (hl : l.stackTraces = false) {out : Nat × S4} (hs : s_X6_arrive np fu p1 p2 p3 p4 S = some (.inr out)) : Cx D cA dm ad l yX6_arrive cX6_arrive 6 (some .int) 21 621 S [.ref (ad 6 0 0), .int p1, .int p2, .int p3, .int p4] out := by
  refine Cx.of (by decide +kernel) (Nat.le_of_ble_eq_true rfl) [(0, .ref (ad 6 0 0)), (1, .int p1), (2, .int p2), (3, .int p3), (4, .int p4)] rfl (fun p e s m args below meth c A X hr hZ hE => ?_)
  unfold s_X6_arrive at hs
  refine V_iload_n X dX6_arrive_0 rfl 1 rfl ?_
  refine V_aload_n X dX6_arrive_1 rfl 0 rfl ?_
  refine V_get X dX6_arrive_2 r_X6_10 (gm6 hK) rfl rfl ?_
  refine V_get X dX6_arrive_5 r_X6_61 (gm4 (gmT hK (by decide))) rfl rfl ?_
  rcases tb_r hs with ⟨Z2, eZ2, hs⟩ | hs9
  case inr => exact V_callSX X hE hZ [.int p1, .int (S 4 0 0 3)] dX6_arrive_8 m_X6_157 t_X6_requireIndex ⟨Nat.le_of_ble_eq_true rfl, Nat.le_of_ble_eq_true rfl⟩ ⟨by decide, by decide⟩ ⟨by decide, by decide⟩ rfl (Nat.le_of_ble_eq_true rfl) (x_X6_requireIndex  hl hs9)
  refine V_callSv X [.int p1, .int (S 4 0 0 3)] dX6_arrive_8 m_X6_157 t_X6_requireIndex ⟨Nat.le_of_ble_eq_true rfl, Nat.le_of_ble_eq_true rfl⟩ ⟨Nat.zero_le _, Nat.zero_le _⟩ rfl (Nat.le_of_ble_eq_true rfl) (c_X6_requireIndex  eZ2) ?_
  refine V_iload_n X dX6_arrive_11 rfl 2 rfl ?_
  refine V_iconst X (0 : Int32) dX6_arrive_12 (by decide) ?_
  refine V_bipush X (99 : Int32) dX6_arrive_13 (by decide) ?_
  obtain ⟨q3, eq3, hs⟩ := bd_some hs
  refine V_callSs X [.int p2, .int (0 : Int32), .int (99 : Int32)] dX6_arrive_15 m_X6_76 t_X6_isIn ⟨Nat.le_of_ble_eq_true rfl, Nat.le_of_ble_eq_true rfl⟩ ⟨Nat.zero_le _, Nat.zero_le _⟩ rfl (Nat.le_of_ble_eq_true rfl) (c_X6_isIn  eq3) ?_
  refine V_if_eq X 41 dX6_arrive_18 (by decide) (fun c4 => ?_) (fun c4 => ?_)
  · replace hs := if_t hs c4
    obtain rfl := rr_eq hs
    exact V_throwS X hE hl hZ tw_1 (text := "argument out of range") (by decide +kernel) dX6_arrive_41 dX6_arrive_44 dX6_arrive_45 dX6_arrive_47 dX6_arrive_50 (Nat.le_of_ble_eq_true rfl) ⟨by decide, by decide, by decide, by decide⟩ ⟨by decide, by decide⟩
  · replace hs := if_f hs c4
    refine V_iload_n X dX6_arrive_21 rfl 3 rfl ?_
    refine V_iconst X (1 : Int32) dX6_arrive_22 (by decide) ?_
    refine V_bipush X (50 : Int32) dX6_arrive_23 (by decide) ?_
    obtain ⟨q5, eq5, hs⟩ := bd_some hs
    refine V_callSs X [.int p3, .int (1 : Int32), .int (50 : Int32)] dX6_arrive_25 m_X6_76 t_X6_isIn ⟨Nat.le_of_ble_eq_true rfl, Nat.le_of_ble_eq_true rfl⟩ ⟨Nat.zero_le _, Nat.zero_le _⟩ rfl (Nat.le_of_ble_eq_true rfl) (c_X6_isIn  eq5) ?_
    refine V_if_eq X 41 dX6_arrive_28 (by decide) (fun c6 => ?_) (fun c6 => ?_)
    · replace hs := if_t hs c6
      obtain rfl := rr_eq hs
      exact V_throwS X hE hl hZ tw_1 (text := "argument out of range") (by decide +kernel) dX6_arrive_41 dX6_arrive_44 dX6_arrive_45 dX6_arrive_47 dX6_arrive_50 (Nat.le_of_ble_eq_true rfl) ⟨by decide, by decide, by decide, by decide⟩ ⟨by decide, by decide⟩
    · replace hs := if_f hs c6
      refine V_iload X dX6_arrive_31 4 rfl ?_
      refine V_iconst X (0 : Int32) dX6_arrive_33 (by decide) ?_
      refine V_iconst X (2 : Int32) dX6_arrive_34 (by decide) ?_
      obtain ⟨q7, eq7, hs⟩ := bd_some hs
      refine V_callSs X [.int p4, .int (0 : Int32), .int (2 : Int32)] dX6_arrive_35 m_X6_76 t_X6_isIn ⟨Nat.le_of_ble_eq_true rfl, Nat.le_of_ble_eq_true rfl⟩ ⟨Nat.zero_le _, Nat.zero_le _⟩ rfl (Nat.le_of_ble_eq_true rfl) (c_X6_isIn  eq7) ?_
      refine V_if_ne X 51 dX6_arrive_38 (by decide) (fun c8 => ?_) (fun c8 => ?_)
      · replace hs := if_f hs c8
        refine V_aload_n X dX6_arrive_51 rfl 0 rfl ?_
        refine V_get X dX6_arrive_52 r_X6_10 (gm6 hK) rfl rfl ?_
        refine V_get X dX6_arrive_55 r_X6_44 (gm4 (gmT hK (by decide))) rfl rfl ?_
        refine V_bipush X (60 : Int32) dX6_arrive_58 (by decide) ?_
        refine V_icmp_ge X 78 dX6_arrive_60 (by decide) (fun c9 => ?_) (fun c9 => ?_)
        · replace hs := if_t hs c9
          obtain rfl := rr_eq hs
          exact V_throwS X hE hl hZ tw_2 (text := "no room for a parcel") (by decide +kernel) dX6_arrive_78 dX6_arrive_81 dX6_arrive_82 dX6_arrive_84 dX6_arrive_87 (Nat.le_of_ble_eq_true rfl) ⟨by decide, by decide, by decide, by decide⟩ ⟨by decide, by decide⟩
        · replace hs := if_f hs c9
          refine V_aload_n X dX6_arrive_63 rfl 0 rfl ?_
          refine V_get X dX6_arrive_64 r_X6_10 (gm6 hK) rfl rfl ?_
          refine V_get X dX6_arrive_67 r_X6_205 (gm4 (gmT hK (by decide))) rfl rfl ?_
          refine V_iload_n X dX6_arrive_70 rfl 1 rfl ?_
          obtain ⟨h10, hs⟩ := gd_some hs
          refine V_aald X 3 rfl dX6_arrive_71 (gm15 (gmT hK (by decide))) rfl h10 (v := .ref (ad 5 0 p1.toNatClampNeg)) rfl ?_
          obtain ⟨q11, eq11, hs⟩ := bd_some hs
          refine V_callVs X [] dX6_arrive_72 m_X6_209 v_X5_isFull ⟨Nat.le_of_ble_eq_true rfl, Nat.le_of_ble_eq_true rfl⟩ ⟨Nat.zero_le _, Nat.zero_le _⟩ rfl (Nat.le_of_ble_eq_true rfl) (gm5 (gmT hK (by decide)) (inb_lt h10)) rfl cl5 (c_X5_isFull (gmT hK (by decide)) (inb_lt h10) eq11) ?_
          refine V_if_eq X 88 dX6_arrive_75 (by decide) (fun c12 => ?_) (fun c12 => ?_)
          · replace hs := if_t hs c12
            refine V_aload_n X dX6_arrive_88 rfl 0 rfl ?_
            obtain ⟨Z14, eZ14, hs⟩ := bd_some hs
            refine V_callVv X [] dX6_arrive_89 m_X6_69 v_X6_remember ⟨Nat.le_of_ble_eq_true rfl, Nat.le_of_ble_eq_true rfl⟩ ⟨Nat.zero_le _, Nat.zero_le _⟩ rfl (Nat.le_of_ble_eq_true rfl) (gm6 hK) rfl cl6 (c_X6_remember hK hnp eZ14) ?_
            refine V_aload_n X dX6_arrive_92 rfl 0 rfl ?_
            refine V_get X dX6_arrive_93 r_X6_10 (gm6 hK) rfl rfl ?_
            refine V_iload_n X dX6_arrive_96 rfl 1 rfl ?_
            refine V_iload_n X dX6_arrive_97 rfl 2 rfl ?_
            obtain ⟨q15, eq15, hs⟩ := bd_some hs
            refine V_callVs X [.int p1, .int p2] dX6_arrive_98 m_X6_216 v_X4_putParcel ⟨Nat.le_of_ble_eq_true rfl, Nat.le_of_ble_eq_true rfl⟩ ⟨Nat.zero_le _, Nat.zero_le _⟩ rfl (Nat.le_of_ble_eq_true rfl) (gm4 (gmT hK (by decide))) rfl cl4 (c_X4_putParcel (gmT hK (by decide)) eq15) ?_
            refine V_istore X dX6_arrive_101 [(5, .int q15.1), (0, .ref (ad 6 0 0)), (1, .int p1), (2, .int p2), (3, .int p3), (4, .int p4)] (by decide) rfl ?_
            refine V_aload_n X dX6_arrive_103 rfl 1 rfl ?_
            refine V_get X dX6_arrive_104 r_X6_10 (gm6 hK) rfl rfl ?_
            refine V_get X dX6_arrive_107 r_X6_219 (gm4 (gmT hK (by decide))) rfl rfl ?_
            refine V_iload X dX6_arrive_110 0 rfl ?_
            obtain ⟨h16, hs⟩ := gd_some hs
            refine V_aald X 6 rfl dX6_arrive_112 (gm18 (gmT hK (by decide))) rfl h16 (v := .ref (ad 1 0 q15.1.toNatClampNeg)) rfl ?_
            refine V_iload_n X dX6_arrive_113 rfl 4 rfl ?_
            refine V_put X dX6_arrive_114 f_X6_223 (gm1 (gmT hK (by decide)) (inb_lt h16)) rfl (Nat.le_of_ble_eq_true rfl) rfl rfl rfl (fun Z17 eZ17 => ?_)
            replace hs := sv_some hs Z17 eZ17
            clear eZ17
            refine V_aload_n X dX6_arrive_117 rfl 1 rfl ?_
            refine V_get X dX6_arrive_118 r_X6_10 (gm6 hK) rfl rfl ?_
            refine V_get X dX6_arrive_121 r_X6_219 (gm4 (gmT hK (by decide))) rfl rfl ?_
            refine V_iload X dX6_arrive_124 0 rfl ?_
            obtain ⟨h18, hs⟩ := gd_some hs
            refine V_aald X 6 rfl dX6_arrive_126 (gm18 (gmT hK (by decide))) rfl h18 (v := .ref (ad 1 0 q15.1.toNatClampNeg)) rfl ?_
            refine V_iload X dX6_arrive_127 5 rfl ?_
            refine V_put X dX6_arrive_129 f_X6_228 (gm1 (gmT hK (by decide)) (inb_lt h18)) rfl (Nat.le_of_ble_eq_true rfl) rfl rfl rfl (fun Z19 eZ19 => ?_)
            replace hs := sv_some hs Z19 eZ19
            clear eZ19
            refine V_iload X dX6_arrive_132 0 rfl ?_
            exact (lr_no hs).elim
          · replace hs := if_f hs c12
            obtain rfl := rr_eq hs
            exact V_throwS X hE hl hZ tw_2 (text := "no room for a parcel") (by decide +kernel) dX6_arrive_78 dX6_arrive_81 dX6_arrive_82 dX6_arrive_84 dX6_arrive_87 (Nat.le_of_ble_eq_true rfl) ⟨by decide, by decide, by decide, by decide⟩ ⟨by decide, by decide⟩
      · replace hs := if_t hs c8
        obtain rfl := rr_eq hs
        exact V_throwS X hE hl hZ tw_1 (text := "argument out of range") (by decide +kernel) dX6_arrive_41 dX6_arrive_44 dX6_arrive_45 dX6_arrive_47 dX6_arrive_50 (Nat.le_of_ble_eq_true rfl) ⟨by decide, by decide, by decide, by decide⟩ ⟨by decide, by decide⟩

def s_X6_find_L2 (fu : Nat) (p1 : Int32) (p2 : Int32) : Nat → Int32 → S4 → Option ((Int32 × S4) ⊕ (Nat × S4))
  | 0, _, _ => none
  | f2+1, v3, Z1 => (if (Z1 4 0 0 6) ≤ v3 then some (.inr (4, Z1)) else gd (inb v3 60) ((if (Z1 1 0 v3.toNatClampNeg 0) = p1 then (if (Z1 1 0 v3.toNatClampNeg 1) = p2 then some (.inl (v3, Z1)) else s_X6_find_L2 fu p1 p2 f2 (v3 + (1 : Int32)) Z1) else s_X6_find_L2 fu p1 p2 f2 (v3 + (1 : Int32)) Z1)))
def s_X6_find (fu : Nat) (p1 : Int32) (p2 : Int32) (S : S4) : Option ((Int32 × S4) ⊕ (Nat × S4)) := s_X6_find_L2 fu p1 p2 fu (0 : Int32) S
set_option maxRecDepth 100000 in
set_option maxHeartbeats 4000000 in
theorem c_X6_find {l : Launch} {D : va_G} {cA : Nat → ClassId} {dm : Dm} {ad : Ad} {fu : Nat} {S : S4} {p1 : Int32} {p2 : Int32} (hK : DK dm) {out : (Int32 × S4)} (hs : s_X6_find fu p1 p2 S = some (.inl out)) : Ct D cA dm ad l yX6_find cX6_find 5 (some .int) 20 600 S [.ref (ad 6 0 0), .int p1, .int p2] (some (.int out.1)) out.2 := by
  refine Ct.of (by decide +kernel) (Nat.le_of_ble_eq_true rfl) [(0, .ref (ad 6 0 0)), (1, .int p1), (2, .int p2)] rfl (fun p e s m args below meth c A X hr => ?_)
  unfold s_X6_find at hs
  refine V_iconst X (0 : Int32) dX6_find_0 (by decide) ?_
  refine V_istore_n X dX6_find_1 rfl [(3, .int (0 : Int32)), (0, .ref (ad 6 0 0)), (1, .int p1), (2, .int p2)] (by decide) rfl ?_
  have L2 : ∀ (n : Nat) (v3 : Int32) (S1 : S4), s_X6_find_L2 fu p1 p2 n v3 S1 = some (.inl out) → V D cA dm ad A 5 p l e ({ frames := 20, cells := 0, slots := 0, locals := 600 }) s m args below meth c 0 0 (MQ below (gQ D cA dm ad out.2 (some (.int out.1)) A) args s 0 0 A) S1 2 [(0, .ref (ad 6 0 0)), (1, .int p1), (2, .int p2), (3, .int v3)] [] := by
    intro n
    induction n with
    | zero => intro v3 S1 hs; rw [s_X6_find_L2] at hs; cases hs
    | succ f2 ih2 =>
      intro v3 Z1 hs
      rw [s_X6_find_L2] at hs
      refine V_iload_n X dX6_find_2 rfl 3 rfl ?_
      refine V_aload_n X dX6_find_3 rfl 0 rfl ?_
      refine V_get X dX6_find_4 r_X6_10 (gm6 hK) rfl rfl ?_
      refine V_get X dX6_find_7 r_X6_44 (gm4 (gmT hK (by decide))) rfl rfl ?_
      refine V_icmp_ge X 50 dX6_find_10 (by decide) (fun c2 => ?_) (fun c2 => ?_)
      · replace hs := if_t hs c2
        exact (rl_no hs).elim
      · replace hs := if_f hs c2
        refine V_aload_n X dX6_find_13 rfl 0 rfl ?_
        refine V_get X dX6_find_14 r_X6_10 (gm6 hK) rfl rfl ?_
        refine V_get X dX6_find_17 r_X6_219 (gm4 (gmT hK (by decide))) rfl rfl ?_
        refine V_iload_n X dX6_find_20 rfl 3 rfl ?_
        obtain ⟨h3, hs⟩ := gd_some hs
        refine V_aald X 6 rfl dX6_find_21 (gm18 (gmT hK (by decide))) rfl h3 (v := .ref (ad 1 0 v3.toNatClampNeg)) rfl ?_
        refine V_astore X dX6_find_22 [(4, .ref (ad 1 0 v3.toNatClampNeg)), (0, .ref (ad 6 0 0)), (1, .int p1), (2, .int p2), (3, .int v3)] (by decide) rfl ?_
        refine V_aload X dX6_find_24 0 rfl ?_
        refine V_get X dX6_find_26 r_X6_231 (gm1 (gmT hK (by decide)) (inb_lt h3)) rfl rfl ?_
        refine V_iload_n X dX6_find_29 rfl 2 rfl ?_
        refine V_icmp_ne X 44 dX6_find_30 (by decide) (fun c4 => ?_) (fun c4 => ?_)
        · replace hs := if_f hs c4
          refine V_iinc X (v3 + (1 : Int32)) dX6_find_44 4 rfl rfl [(3, .int (v3 + (1 : Int32))), (4, .ref (ad 1 0 v3.toNatClampNeg)), (0, .ref (ad 6 0 0)), (1, .int p1), (2, .int p2)] (by decide) rfl ?_
          refine V_goto X 2 dX6_find_47 (by decide) ?_
          refine V_sub [2, 3, 4, 0] rfl ?_
          exact ih2 _ _ hs
        · replace hs := if_t hs c4
          refine V_aload X dX6_find_33 0 rfl ?_
          refine V_get X dX6_find_35 r_X6_234 (gm1 (gmT hK (by decide)) (inb_lt h3)) rfl rfl ?_
          refine V_iload_n X dX6_find_38 rfl 3 rfl ?_
          refine V_icmp_ne X 44 dX6_find_39 (by decide) (fun c5 => ?_) (fun c5 => ?_)
          · replace hs := if_f hs c5
            refine V_iinc X (v3 + (1 : Int32)) dX6_find_44 4 rfl rfl [(3, .int (v3 + (1 : Int32))), (4, .ref (ad 1 0 v3.toNatClampNeg)), (0, .ref (ad 6 0 0)), (1, .int p1), (2, .int p2)] (by decide) rfl ?_
            refine V_goto X 2 dX6_find_47 (by decide) ?_
            refine V_sub [2, 3, 4, 0] rfl ?_
            exact ih2 _ _ hs
          · replace hs := if_t hs c5
            refine V_iload_n X dX6_find_42 rfl 4 rfl ?_
            obtain rfl := ll_eq hs; exact V_iret X hr dX6_find_43
  refine V_sub [1, 2, 3, 0] rfl ?_
  exact L2 _ _ _ hs
set_option maxRecDepth 100000 in
set_option maxHeartbeats 4000000 in
theorem x_X6_find {l : Launch} {D : va_G} {cA : Nat → ClassId} {dm : Dm} {ad : Ad} {fu : Nat} {S : S4} {p1 : Int32} {p2 : Int32} (hK : DK dm) (hl : l.stackTraces = false) {out : Nat × S4} (hs : s_X6_find fu p1 p2 S = some (.inr out)) : Cx D cA dm ad l yX6_find cX6_find 5 (some .int) 20 600 S [.ref (ad 6 0 0), .int p1, .int p2] out := by
  refine Cx.of (by decide +kernel) (Nat.le_of_ble_eq_true rfl) [(0, .ref (ad 6 0 0)), (1, .int p1), (2, .int p2)] rfl (fun p e s m args below meth c A X hr hZ hE => ?_)
  unfold s_X6_find at hs
  refine V_iconst X (0 : Int32) dX6_find_0 (by decide) ?_
  refine V_istore_n X dX6_find_1 rfl [(3, .int (0 : Int32)), (0, .ref (ad 6 0 0)), (1, .int p1), (2, .int p2)] (by decide) rfl ?_
  have L2 : ∀ (n : Nat) (v3 : Int32) (S1 : S4), s_X6_find_L2 fu p1 p2 n v3 S1 = some (.inr out) → V D cA dm ad A 5 p l e ({ frames := 20, cells := 1, slots := 6, locals := 600 }) s m args below meth c 0 0 (vx_MQ below qN (xQ D cA dm ad out.2 out.1 A) args s 1 6 A) S1 2 [(0, .ref (ad 6 0 0)), (1, .int p1), (2, .int p2), (3, .int v3)] [] := by
    intro n
    induction n with
    | zero => intro v3 S1 hs; rw [s_X6_find_L2] at hs; cases hs
    | succ f2 ih2 =>
      intro v3 Z1 hs
      rw [s_X6_find_L2] at hs
      refine V_iload_n X dX6_find_2 rfl 3 rfl ?_
      refine V_aload_n X dX6_find_3 rfl 0 rfl ?_
      refine V_get X dX6_find_4 r_X6_10 (gm6 hK) rfl rfl ?_
      refine V_get X dX6_find_7 r_X6_44 (gm4 (gmT hK (by decide))) rfl rfl ?_
      refine V_icmp_ge X 50 dX6_find_10 (by decide) (fun c2 => ?_) (fun c2 => ?_)
      · replace hs := if_t hs c2
        obtain rfl := rr_eq hs
        exact V_throwS X hE hl hZ tw_4 (text := "no such parcel") (by decide +kernel) dX6_find_50 dX6_find_53 dX6_find_54 dX6_find_56 dX6_find_59 (Nat.le_of_ble_eq_true rfl) ⟨by decide, by decide, by decide, by decide⟩ ⟨by decide, by decide⟩
      · replace hs := if_f hs c2
        refine V_aload_n X dX6_find_13 rfl 0 rfl ?_
        refine V_get X dX6_find_14 r_X6_10 (gm6 hK) rfl rfl ?_
        refine V_get X dX6_find_17 r_X6_219 (gm4 (gmT hK (by decide))) rfl rfl ?_
        refine V_iload_n X dX6_find_20 rfl 3 rfl ?_
        obtain ⟨h3, hs⟩ := gd_some hs
        refine V_aald X 6 rfl dX6_find_21 (gm18 (gmT hK (by decide))) rfl h3 (v := .ref (ad 1 0 v3.toNatClampNeg)) rfl ?_
        refine V_astore X dX6_find_22 [(4, .ref (ad 1 0 v3.toNatClampNeg)), (0, .ref (ad 6 0 0)), (1, .int p1), (2, .int p2), (3, .int v3)] (by decide) rfl ?_
        refine V_aload X dX6_find_24 0 rfl ?_
        refine V_get X dX6_find_26 r_X6_231 (gm1 (gmT hK (by decide)) (inb_lt h3)) rfl rfl ?_
        refine V_iload_n X dX6_find_29 rfl 2 rfl ?_
        refine V_icmp_ne X 44 dX6_find_30 (by decide) (fun c4 => ?_) (fun c4 => ?_)
        · replace hs := if_f hs c4
          refine V_iinc X (v3 + (1 : Int32)) dX6_find_44 4 rfl rfl [(3, .int (v3 + (1 : Int32))), (4, .ref (ad 1 0 v3.toNatClampNeg)), (0, .ref (ad 6 0 0)), (1, .int p1), (2, .int p2)] (by decide) rfl ?_
          refine V_goto X 2 dX6_find_47 (by decide) ?_
          refine V_sub [2, 3, 4, 0] rfl ?_
          exact ih2 _ _ hs
        · replace hs := if_t hs c4
          refine V_aload X dX6_find_33 0 rfl ?_
          refine V_get X dX6_find_35 r_X6_234 (gm1 (gmT hK (by decide)) (inb_lt h3)) rfl rfl ?_
          refine V_iload_n X dX6_find_38 rfl 3 rfl ?_
          refine V_icmp_ne X 44 dX6_find_39 (by decide) (fun c5 => ?_) (fun c5 => ?_)
          · replace hs := if_f hs c5
            refine V_iinc X (v3 + (1 : Int32)) dX6_find_44 4 rfl rfl [(3, .int (v3 + (1 : Int32))), (4, .ref (ad 1 0 v3.toNatClampNeg)), (0, .ref (ad 6 0 0)), (1, .int p1), (2, .int p2)] (by decide) rfl ?_
            refine V_goto X 2 dX6_find_47 (by decide) ?_
            refine V_sub [2, 3, 4, 0] rfl ?_
            exact ih2 _ _ hs
          · replace hs := if_t hs c5
            refine V_iload_n X dX6_find_42 rfl 4 rfl ?_
            exact (lr_no hs).elim
  refine V_sub [1, 2, 3, 0] rfl ?_
  exact L2 _ _ _ hs

def s_X6_parcel (p1 : Int32) (p2 : Int32) (S : S4) : Option ((Int32 × S4) ⊕ (Nat × S4)) := tb (s_X6_requireIndex p1 (S 4 0 0 6) S) fun Z2 => tb (s_X6_requireWhat p2 (11 : Int32) Z2) fun Z4 => gd (inb p1 60) ((if p2 = (0 : Int32) then some (.inl ((Z4 1 0 p1.toNatClampNeg 0), Z4)) else if p2 = (1 : Int32) then some (.inl ((Z4 1 0 p1.toNatClampNeg 1), Z4)) else if p2 = (2 : Int32) then some (.inl ((Z4 1 0 p1.toNatClampNeg 2), Z4)) else if p2 = (3 : Int32) then some (.inl ((Z4 1 0 p1.toNatClampNeg 3), Z4)) else if p2 = (4 : Int32) then some (.inl ((Z4 1 0 p1.toNatClampNeg 4), Z4)) else if p2 = (5 : Int32) then (if (Z4 1 0 p1.toNatClampNeg 4) = (1 : Int32) then (s_X4_placeOf 0 (Z4 1 0 p1.toNatClampNeg 5) Z4).bind fun q13 => some (.inl (q13, Z4)) else some (.inl ((Z4 1 0 p1.toNatClampNeg 5), Z4))) else if p2 = (6 : Int32) then some (.inl ((Z4 1 0 p1.toNatClampNeg 6), Z4)) else if p2 = (7 : Int32) then some (.inl ((Z4 1 0 p1.toNatClampNeg 7), Z4)) else if p2 = (8 : Int32) then some (.inl ((Z4 1 0 p1.toNatClampNeg 8), Z4)) else if p2 = (9 : Int32) then some (.inl ((Z4 1 0 p1.toNatClampNeg 9), Z4)) else if p2 = (10 : Int32) then some (.inl ((Z4 1 0 p1.toNatClampNeg 10), Z4)) else some (.inl ((Z4 1 0 p1.toNatClampNeg 11), Z4))))
set_option maxRecDepth 100000 in
set_option maxHeartbeats 4000000 in
theorem c_X6_parcel {l : Launch} {D : va_G} {cA : Nat → ClassId} {dm : Dm} {ad : Ad} {S : S4} {p1 : Int32} {p2 : Int32} (hK : DK dm) {out : (Int32 × S4)} (hs : s_X6_parcel p1 p2 S = some (.inl out)) : Ct D cA dm ad l yX6_parcel cX6_parcel 4 (some .int) 21 621 S [.ref (ad 6 0 0), .int p1, .int p2] (some (.int out.1)) out.2 := by
  refine Ct.of (by decide +kernel) (Nat.le_of_ble_eq_true rfl) [(0, .ref (ad 6 0 0)), (1, .int p1), (2, .int p2)] rfl (fun p e s m args below meth c A X hr => ?_)
  unfold s_X6_parcel at hs
  refine V_iload_n X dX6_parcel_0 rfl 1 rfl ?_
  refine V_aload_n X dX6_parcel_1 rfl 0 rfl ?_
  refine V_get X dX6_parcel_2 r_X6_10 (gm6 hK) rfl rfl ?_
  refine V_get X dX6_parcel_5 r_X6_44 (gm4 (gmT hK (by decide))) rfl rfl ?_
  obtain ⟨Z2, eZ2, hs⟩ := tb_l hs
  refine V_callSv X [.int p1, .int (S 4 0 0 6)] dX6_parcel_8 m_X6_157 t_X6_requireIndex ⟨Nat.le_of_ble_eq_true rfl, Nat.le_of_ble_eq_true rfl⟩ ⟨Nat.zero_le _, Nat.zero_le _⟩ rfl (Nat.le_of_ble_eq_true rfl) (c_X6_requireIndex  eZ2) ?_
  refine V_iload_n X dX6_parcel_11 rfl 2 rfl ?_
  refine V_bipush X (11 : Int32) dX6_parcel_12 (by decide) ?_
  obtain ⟨Z4, eZ4, hs⟩ := tb_l hs
  refine V_callSv X [.int p2, .int (11 : Int32)] dX6_parcel_14 m_X6_161 t_X6_requireWhat ⟨Nat.le_of_ble_eq_true rfl, Nat.le_of_ble_eq_true rfl⟩ ⟨Nat.zero_le _, Nat.zero_le _⟩ rfl (Nat.le_of_ble_eq_true rfl) (c_X6_requireWhat  eZ4) ?_
  refine V_aload_n X dX6_parcel_17 rfl 0 rfl ?_
  refine V_get X dX6_parcel_18 r_X6_10 (gm6 hK) rfl rfl ?_
  refine V_get X dX6_parcel_21 r_X6_219 (gm4 (gmT hK (by decide))) rfl rfl ?_
  refine V_iload_n X dX6_parcel_24 rfl 1 rfl ?_
  obtain ⟨h5, hs⟩ := gd_some hs
  refine V_aald X 6 rfl dX6_parcel_25 (gm18 (gmT hK (by decide))) rfl h5 (v := .ref (ad 1 0 p1.toNatClampNeg)) rfl ?_
  refine V_astore_n X dX6_parcel_26 rfl [(3, .ref (ad 1 0 p1.toNatClampNeg)), (0, .ref (ad 6 0 0)), (1, .int p1), (2, .int p2)] (by decide) rfl ?_
  refine V_iload_n X dX6_parcel_27 rfl 3 rfl ?_
  by_cases c6 : p2 = (0 : Int32)
  · replace hs := if_t hs c6
    refine V_tsw X 88 dX6_parcel_28 (0) (by rw [c6]; rfl) (by decide) (by decide) rfl (by decide) ?_
    refine V_aload_n X dX6_parcel_88 rfl 0 rfl ?_
    refine V_get X dX6_parcel_89 r_X6_231 (gm1 (gmT hK (by decide)) (inb_lt h5)) rfl rfl ?_
    obtain rfl := ll_eq hs; exact V_iret X hr dX6_parcel_92
  replace hs := if_f hs c6
  by_cases c7 : p2 = (1 : Int32)
  · replace hs := if_t hs c7
    refine V_tsw X 93 dX6_parcel_28 (1) (by rw [c7]; rfl) (by decide) (by decide) rfl (by decide) ?_
    refine V_aload_n X dX6_parcel_93 rfl 0 rfl ?_
    refine V_get X dX6_parcel_94 r_X6_234 (gm1 (gmT hK (by decide)) (inb_lt h5)) rfl rfl ?_
    obtain rfl := ll_eq hs; exact V_iret X hr dX6_parcel_97
  replace hs := if_f hs c7
  by_cases c8 : p2 = (2 : Int32)
  · replace hs := if_t hs c8
    refine V_tsw X 98 dX6_parcel_28 (2) (by rw [c8]; rfl) (by decide) (by decide) rfl (by decide) ?_
    refine V_aload_n X dX6_parcel_98 rfl 0 rfl ?_
    refine V_get X dX6_parcel_99 r_X6_223 (gm1 (gmT hK (by decide)) (inb_lt h5)) rfl rfl ?_
    obtain rfl := ll_eq hs; exact V_iret X hr dX6_parcel_102
  replace hs := if_f hs c8
  by_cases c9 : p2 = (3 : Int32)
  · replace hs := if_t hs c9
    refine V_tsw X 103 dX6_parcel_28 (3) (by rw [c9]; rfl) (by decide) (by decide) rfl (by decide) ?_
    refine V_aload_n X dX6_parcel_103 rfl 0 rfl ?_
    refine V_get X dX6_parcel_104 r_X6_228 (gm1 (gmT hK (by decide)) (inb_lt h5)) rfl rfl ?_
    obtain rfl := ll_eq hs; exact V_iret X hr dX6_parcel_107
  replace hs := if_f hs c9
  by_cases c10 : p2 = (4 : Int32)
  · replace hs := if_t hs c10
    refine V_tsw X 108 dX6_parcel_28 (4) (by rw [c10]; rfl) (by decide) (by decide) rfl (by decide) ?_
    refine V_aload_n X dX6_parcel_108 rfl 0 rfl ?_
    refine V_get X dX6_parcel_109 r_X6_239 (gm1 (gmT hK (by decide)) (inb_lt h5)) rfl rfl ?_
    obtain rfl := ll_eq hs; exact V_iret X hr dX6_parcel_112
  replace hs := if_f hs c10
  by_cases c11 : p2 = (5 : Int32)
  · replace hs := if_t hs c11
    refine V_tsw X 113 dX6_parcel_28 (5) (by rw [c11]; rfl) (by decide) (by decide) rfl (by decide) ?_
    refine V_aload_n X dX6_parcel_113 rfl 0 rfl ?_
    refine V_get X dX6_parcel_114 r_X6_239 (gm1 (gmT hK (by decide)) (inb_lt h5)) rfl rfl ?_
    refine V_iconst X (1 : Int32) dX6_parcel_117 (by decide) ?_
    refine V_icmp_ne X 135 dX6_parcel_118 (by decide) (fun c12 => ?_) (fun c12 => ?_)
    · replace hs := if_f hs c12
      refine V_aload_n X dX6_parcel_135 rfl 0 rfl ?_
      refine V_get X dX6_parcel_136 r_X6_242 (gm1 (gmT hK (by decide)) (inb_lt h5)) rfl rfl ?_
      obtain rfl := ll_eq hs; exact V_iret X hr dX6_parcel_139
    · replace hs := if_t hs c12
      refine V_aload_n X dX6_parcel_121 rfl 1 rfl ?_
      refine V_get X dX6_parcel_122 r_X6_10 (gm6 hK) rfl rfl ?_
      refine V_aload_n X dX6_parcel_125 rfl 0 rfl ?_
      refine V_get X dX6_parcel_126 r_X6_242 (gm1 (gmT hK (by decide)) (inb_lt h5)) rfl rfl ?_
      obtain ⟨q13, eq13, hs⟩ := bd_some hs
      refine V_callVs X [.int (Z4 1 0 p1.toNatClampNeg 5)] dX6_parcel_129 m_X6_245 v_X4_placeOf ⟨Nat.le_of_ble_eq_true rfl, Nat.le_of_ble_eq_true rfl⟩ ⟨Nat.zero_le _, Nat.zero_le _⟩ rfl (Nat.le_of_ble_eq_true rfl) (gm4 (gmT hK (by decide))) rfl cl4 (c_X4_placeOf (gmT hK (by decide)) eq13) ?_
      refine V_goto X 139 dX6_parcel_132 (by decide) ?_
      obtain rfl := ll_eq hs; exact V_iret X hr dX6_parcel_139
  replace hs := if_f hs c11
  by_cases c14 : p2 = (6 : Int32)
  · replace hs := if_t hs c14
    refine V_tsw X 140 dX6_parcel_28 (6) (by rw [c14]; rfl) (by decide) (by decide) rfl (by decide) ?_
    refine V_aload_n X dX6_parcel_140 rfl 0 rfl ?_
    refine V_get X dX6_parcel_141 r_X6_248 (gm1 (gmT hK (by decide)) (inb_lt h5)) rfl rfl ?_
    obtain rfl := ll_eq hs; exact V_iret X hr dX6_parcel_144
  replace hs := if_f hs c14
  by_cases c15 : p2 = (7 : Int32)
  · replace hs := if_t hs c15
    refine V_tsw X 145 dX6_parcel_28 (7) (by rw [c15]; rfl) (by decide) (by decide) rfl (by decide) ?_
    refine V_aload_n X dX6_parcel_145 rfl 0 rfl ?_
    refine V_get X dX6_parcel_146 r_X6_251 (gm1 (gmT hK (by decide)) (inb_lt h5)) rfl rfl ?_
    obtain rfl := ll_eq hs; exact V_iret X hr dX6_parcel_149
  replace hs := if_f hs c15
  by_cases c16 : p2 = (8 : Int32)
  · replace hs := if_t hs c16
    refine V_tsw X 150 dX6_parcel_28 (8) (by rw [c16]; rfl) (by decide) (by decide) rfl (by decide) ?_
    refine V_aload_n X dX6_parcel_150 rfl 0 rfl ?_
    refine V_get X dX6_parcel_151 r_X6_254 (gm1 (gmT hK (by decide)) (inb_lt h5)) rfl rfl ?_
    obtain rfl := ll_eq hs; exact V_iret X hr dX6_parcel_154
  replace hs := if_f hs c16
  by_cases c17 : p2 = (9 : Int32)
  · replace hs := if_t hs c17
    refine V_tsw X 155 dX6_parcel_28 (9) (by rw [c17]; rfl) (by decide) (by decide) rfl (by decide) ?_
    refine V_aload_n X dX6_parcel_155 rfl 0 rfl ?_
    refine V_get X dX6_parcel_156 r_X6_257 (gm1 (gmT hK (by decide)) (inb_lt h5)) rfl rfl ?_
    obtain rfl := ll_eq hs; exact V_iret X hr dX6_parcel_159
  replace hs := if_f hs c17
  by_cases c18 : p2 = (10 : Int32)
  · replace hs := if_t hs c18
    refine V_tsw X 160 dX6_parcel_28 (10) (by rw [c18]; rfl) (by decide) (by decide) rfl (by decide) ?_
    refine V_aload_n X dX6_parcel_160 rfl 0 rfl ?_
    refine V_get X dX6_parcel_161 r_X6_260 (gm1 (gmT hK (by decide)) (inb_lt h5)) rfl rfl ?_
    obtain rfl := ll_eq hs; exact V_iret X hr dX6_parcel_164
  replace hs := if_f hs c18
  refine V_tswD X 165 dX6_parcel_28 (by have ec6 := sw_ne c6 (0) (by rfl); have ec7 := sw_ne c7 (1) (by rfl); have ec8 := sw_ne c8 (2) (by rfl); have ec9 := sw_ne c9 (3) (by rfl); have ec10 := sw_ne c10 (4) (by rfl); have ec11 := sw_ne c11 (5) (by rfl); have ec14 := sw_ne c14 (6) (by rfl); have ec15 := sw_ne c15 (7) (by rfl); have ec16 := sw_ne c16 (8) (by rfl); have ec17 := sw_ne c17 (9) (by rfl); have ec18 := sw_ne c18 (10) (by rfl); omega) (by decide) ?_
  refine V_aload_n X dX6_parcel_165 rfl 0 rfl ?_
  refine V_get X dX6_parcel_166 r_X6_263 (gm1 (gmT hK (by decide)) (inb_lt h5)) rfl rfl ?_
  obtain rfl := ll_eq hs; exact V_iret X hr dX6_parcel_169
set_option maxRecDepth 100000 in
set_option maxHeartbeats 4000000 in
theorem x_X6_parcel {l : Launch} {D : va_G} {cA : Nat → ClassId} {dm : Dm} {ad : Ad} {S : S4} {p1 : Int32} {p2 : Int32} (hK : DK dm) (hl : l.stackTraces = false) {out : Nat × S4} (hs : s_X6_parcel p1 p2 S = some (.inr out)) : Cx D cA dm ad l yX6_parcel cX6_parcel 4 (some .int) 21 621 S [.ref (ad 6 0 0), .int p1, .int p2] out := by
  refine Cx.of (by decide +kernel) (Nat.le_of_ble_eq_true rfl) [(0, .ref (ad 6 0 0)), (1, .int p1), (2, .int p2)] rfl (fun p e s m args below meth c A X hr hZ hE => ?_)
  unfold s_X6_parcel at hs
  refine V_iload_n X dX6_parcel_0 rfl 1 rfl ?_
  refine V_aload_n X dX6_parcel_1 rfl 0 rfl ?_
  refine V_get X dX6_parcel_2 r_X6_10 (gm6 hK) rfl rfl ?_
  refine V_get X dX6_parcel_5 r_X6_44 (gm4 (gmT hK (by decide))) rfl rfl ?_
  rcases tb_r hs with ⟨Z2, eZ2, hs⟩ | hs9
  case inr => exact V_callSX X hE hZ [.int p1, .int (S 4 0 0 6)] dX6_parcel_8 m_X6_157 t_X6_requireIndex ⟨Nat.le_of_ble_eq_true rfl, Nat.le_of_ble_eq_true rfl⟩ ⟨by decide, by decide⟩ ⟨by decide, by decide⟩ rfl (Nat.le_of_ble_eq_true rfl) (x_X6_requireIndex  hl hs9)
  refine V_callSv X [.int p1, .int (S 4 0 0 6)] dX6_parcel_8 m_X6_157 t_X6_requireIndex ⟨Nat.le_of_ble_eq_true rfl, Nat.le_of_ble_eq_true rfl⟩ ⟨Nat.zero_le _, Nat.zero_le _⟩ rfl (Nat.le_of_ble_eq_true rfl) (c_X6_requireIndex  eZ2) ?_
  refine V_iload_n X dX6_parcel_11 rfl 2 rfl ?_
  refine V_bipush X (11 : Int32) dX6_parcel_12 (by decide) ?_
  rcases tb_r hs with ⟨Z4, eZ4, hs⟩ | hs9
  case inr => exact V_callSX X hE hZ [.int p2, .int (11 : Int32)] dX6_parcel_14 m_X6_161 t_X6_requireWhat ⟨Nat.le_of_ble_eq_true rfl, Nat.le_of_ble_eq_true rfl⟩ ⟨by decide, by decide⟩ ⟨by decide, by decide⟩ rfl (Nat.le_of_ble_eq_true rfl) (x_X6_requireWhat  hl hs9)
  refine V_callSv X [.int p2, .int (11 : Int32)] dX6_parcel_14 m_X6_161 t_X6_requireWhat ⟨Nat.le_of_ble_eq_true rfl, Nat.le_of_ble_eq_true rfl⟩ ⟨Nat.zero_le _, Nat.zero_le _⟩ rfl (Nat.le_of_ble_eq_true rfl) (c_X6_requireWhat  eZ4) ?_
  refine V_aload_n X dX6_parcel_17 rfl 0 rfl ?_
  refine V_get X dX6_parcel_18 r_X6_10 (gm6 hK) rfl rfl ?_
  refine V_get X dX6_parcel_21 r_X6_219 (gm4 (gmT hK (by decide))) rfl rfl ?_
  refine V_iload_n X dX6_parcel_24 rfl 1 rfl ?_
  obtain ⟨h5, hs⟩ := gd_some hs
  refine V_aald X 6 rfl dX6_parcel_25 (gm18 (gmT hK (by decide))) rfl h5 (v := .ref (ad 1 0 p1.toNatClampNeg)) rfl ?_
  refine V_astore_n X dX6_parcel_26 rfl [(3, .ref (ad 1 0 p1.toNatClampNeg)), (0, .ref (ad 6 0 0)), (1, .int p1), (2, .int p2)] (by decide) rfl ?_
  refine V_iload_n X dX6_parcel_27 rfl 3 rfl ?_
  by_cases c6 : p2 = (0 : Int32)
  · replace hs := if_t hs c6
    refine V_tsw X 88 dX6_parcel_28 (0) (by rw [c6]; rfl) (by decide) (by decide) rfl (by decide) ?_
    refine V_aload_n X dX6_parcel_88 rfl 0 rfl ?_
    refine V_get X dX6_parcel_89 r_X6_231 (gm1 (gmT hK (by decide)) (inb_lt h5)) rfl rfl ?_
    exact (lr_no hs).elim
  replace hs := if_f hs c6
  by_cases c7 : p2 = (1 : Int32)
  · replace hs := if_t hs c7
    refine V_tsw X 93 dX6_parcel_28 (1) (by rw [c7]; rfl) (by decide) (by decide) rfl (by decide) ?_
    refine V_aload_n X dX6_parcel_93 rfl 0 rfl ?_
    refine V_get X dX6_parcel_94 r_X6_234 (gm1 (gmT hK (by decide)) (inb_lt h5)) rfl rfl ?_
    exact (lr_no hs).elim
  replace hs := if_f hs c7
  by_cases c8 : p2 = (2 : Int32)
  · replace hs := if_t hs c8
    refine V_tsw X 98 dX6_parcel_28 (2) (by rw [c8]; rfl) (by decide) (by decide) rfl (by decide) ?_
    refine V_aload_n X dX6_parcel_98 rfl 0 rfl ?_
    refine V_get X dX6_parcel_99 r_X6_223 (gm1 (gmT hK (by decide)) (inb_lt h5)) rfl rfl ?_
    exact (lr_no hs).elim
  replace hs := if_f hs c8
  by_cases c9 : p2 = (3 : Int32)
  · replace hs := if_t hs c9
    refine V_tsw X 103 dX6_parcel_28 (3) (by rw [c9]; rfl) (by decide) (by decide) rfl (by decide) ?_
    refine V_aload_n X dX6_parcel_103 rfl 0 rfl ?_
    refine V_get X dX6_parcel_104 r_X6_228 (gm1 (gmT hK (by decide)) (inb_lt h5)) rfl rfl ?_
    exact (lr_no hs).elim
  replace hs := if_f hs c9
  by_cases c10 : p2 = (4 : Int32)
  · replace hs := if_t hs c10
    refine V_tsw X 108 dX6_parcel_28 (4) (by rw [c10]; rfl) (by decide) (by decide) rfl (by decide) ?_
    refine V_aload_n X dX6_parcel_108 rfl 0 rfl ?_
    refine V_get X dX6_parcel_109 r_X6_239 (gm1 (gmT hK (by decide)) (inb_lt h5)) rfl rfl ?_
    exact (lr_no hs).elim
  replace hs := if_f hs c10
  by_cases c11 : p2 = (5 : Int32)
  · replace hs := if_t hs c11
    refine V_tsw X 113 dX6_parcel_28 (5) (by rw [c11]; rfl) (by decide) (by decide) rfl (by decide) ?_
    refine V_aload_n X dX6_parcel_113 rfl 0 rfl ?_
    refine V_get X dX6_parcel_114 r_X6_239 (gm1 (gmT hK (by decide)) (inb_lt h5)) rfl rfl ?_
    refine V_iconst X (1 : Int32) dX6_parcel_117 (by decide) ?_
    refine V_icmp_ne X 135 dX6_parcel_118 (by decide) (fun c12 => ?_) (fun c12 => ?_)
    · replace hs := if_f hs c12
      refine V_aload_n X dX6_parcel_135 rfl 0 rfl ?_
      refine V_get X dX6_parcel_136 r_X6_242 (gm1 (gmT hK (by decide)) (inb_lt h5)) rfl rfl ?_
      exact (lr_no hs).elim
    · replace hs := if_t hs c12
      refine V_aload_n X dX6_parcel_121 rfl 1 rfl ?_
      refine V_get X dX6_parcel_122 r_X6_10 (gm6 hK) rfl rfl ?_
      refine V_aload_n X dX6_parcel_125 rfl 0 rfl ?_
      refine V_get X dX6_parcel_126 r_X6_242 (gm1 (gmT hK (by decide)) (inb_lt h5)) rfl rfl ?_
      obtain ⟨q13, eq13, hs⟩ := bd_some hs
      refine V_callVs X [.int (Z4 1 0 p1.toNatClampNeg 5)] dX6_parcel_129 m_X6_245 v_X4_placeOf ⟨Nat.le_of_ble_eq_true rfl, Nat.le_of_ble_eq_true rfl⟩ ⟨Nat.zero_le _, Nat.zero_le _⟩ rfl (Nat.le_of_ble_eq_true rfl) (gm4 (gmT hK (by decide))) rfl cl4 (c_X4_placeOf (gmT hK (by decide)) eq13) ?_
      refine V_goto X 139 dX6_parcel_132 (by decide) ?_
      exact (lr_no hs).elim
  replace hs := if_f hs c11
  by_cases c14 : p2 = (6 : Int32)
  · replace hs := if_t hs c14
    refine V_tsw X 140 dX6_parcel_28 (6) (by rw [c14]; rfl) (by decide) (by decide) rfl (by decide) ?_
    refine V_aload_n X dX6_parcel_140 rfl 0 rfl ?_
    refine V_get X dX6_parcel_141 r_X6_248 (gm1 (gmT hK (by decide)) (inb_lt h5)) rfl rfl ?_
    exact (lr_no hs).elim
  replace hs := if_f hs c14
  by_cases c15 : p2 = (7 : Int32)
  · replace hs := if_t hs c15
    refine V_tsw X 145 dX6_parcel_28 (7) (by rw [c15]; rfl) (by decide) (by decide) rfl (by decide) ?_
    refine V_aload_n X dX6_parcel_145 rfl 0 rfl ?_
    refine V_get X dX6_parcel_146 r_X6_251 (gm1 (gmT hK (by decide)) (inb_lt h5)) rfl rfl ?_
    exact (lr_no hs).elim
  replace hs := if_f hs c15
  by_cases c16 : p2 = (8 : Int32)
  · replace hs := if_t hs c16
    refine V_tsw X 150 dX6_parcel_28 (8) (by rw [c16]; rfl) (by decide) (by decide) rfl (by decide) ?_
    refine V_aload_n X dX6_parcel_150 rfl 0 rfl ?_
    refine V_get X dX6_parcel_151 r_X6_254 (gm1 (gmT hK (by decide)) (inb_lt h5)) rfl rfl ?_
    exact (lr_no hs).elim
  replace hs := if_f hs c16
  by_cases c17 : p2 = (9 : Int32)
  · replace hs := if_t hs c17
    refine V_tsw X 155 dX6_parcel_28 (9) (by rw [c17]; rfl) (by decide) (by decide) rfl (by decide) ?_
    refine V_aload_n X dX6_parcel_155 rfl 0 rfl ?_
    refine V_get X dX6_parcel_156 r_X6_257 (gm1 (gmT hK (by decide)) (inb_lt h5)) rfl rfl ?_
    exact (lr_no hs).elim
  replace hs := if_f hs c17
  by_cases c18 : p2 = (10 : Int32)
  · replace hs := if_t hs c18
    refine V_tsw X 160 dX6_parcel_28 (10) (by rw [c18]; rfl) (by decide) (by decide) rfl (by decide) ?_
    refine V_aload_n X dX6_parcel_160 rfl 0 rfl ?_
    refine V_get X dX6_parcel_161 r_X6_260 (gm1 (gmT hK (by decide)) (inb_lt h5)) rfl rfl ?_
    exact (lr_no hs).elim
  replace hs := if_f hs c18
  refine V_tswD X 165 dX6_parcel_28 (by have ec6 := sw_ne c6 (0) (by rfl); have ec7 := sw_ne c7 (1) (by rfl); have ec8 := sw_ne c8 (2) (by rfl); have ec9 := sw_ne c9 (3) (by rfl); have ec10 := sw_ne c10 (4) (by rfl); have ec11 := sw_ne c11 (5) (by rfl); have ec14 := sw_ne c14 (6) (by rfl); have ec15 := sw_ne c15 (7) (by rfl); have ec16 := sw_ne c16 (8) (by rfl); have ec17 := sw_ne c17 (9) (by rfl); have ec18 := sw_ne c18 (10) (by rfl); omega) (by decide) ?_
  refine V_aload_n X dX6_parcel_165 rfl 0 rfl ?_
  refine V_get X dX6_parcel_166 r_X6_263 (gm1 (gmT hK (by decide)) (inb_lt h5)) rfl rfl ?_
  exact (lr_no hs).elim

def s_X6_carried (p1 : Int32) (S : S4) : Option ((Int32 × S4) ⊕ (Nat × S4)) := tb (s_X6_requireIndex p1 (S 4 0 0 1) S) fun Z2 => (s_X4_parcelAt 0 p1 Z2).bind fun q3 => (if q3 = (-1 : Int32) then some (.inr (4, Z2)) else some (.inl (q3, Z2)))
set_option maxRecDepth 100000 in
set_option maxHeartbeats 4000000 in
theorem c_X6_carried {l : Launch} {D : va_G} {cA : Nat → ClassId} {dm : Dm} {ad : Ad} {S : S4} {p1 : Int32} (hK : DK dm) {out : (Int32 × S4)} (hs : s_X6_carried p1 S = some (.inl out)) : Ct D cA dm ad l yX6_carried cX6_carried 3 (some .int) 21 621 S [.ref (ad 6 0 0), .int p1] (some (.int out.1)) out.2 := by
  refine Ct.of (by decide +kernel) (Nat.le_of_ble_eq_true rfl) [(0, .ref (ad 6 0 0)), (1, .int p1)] rfl (fun p e s m args below meth c A X hr => ?_)
  unfold s_X6_carried at hs
  refine V_iload_n X dX6_carried_0 rfl 1 rfl ?_
  refine V_aload_n X dX6_carried_1 rfl 0 rfl ?_
  refine V_get X dX6_carried_2 r_X6_10 (gm6 hK) rfl rfl ?_
  refine V_get X dX6_carried_5 r_X6_266 (gm4 (gmT hK (by decide))) rfl rfl ?_
  obtain ⟨Z2, eZ2, hs⟩ := tb_l hs
  refine V_callSv X [.int p1, .int (S 4 0 0 1)] dX6_carried_8 m_X6_157 t_X6_requireIndex ⟨Nat.le_of_ble_eq_true rfl, Nat.le_of_ble_eq_true rfl⟩ ⟨Nat.zero_le _, Nat.zero_le _⟩ rfl (Nat.le_of_ble_eq_true rfl) (c_X6_requireIndex  eZ2) ?_
  refine V_aload_n X dX6_carried_11 rfl 0 rfl ?_
  refine V_get X dX6_carried_12 r_X6_10 (gm6 hK) rfl rfl ?_
  refine V_iload_n X dX6_carried_15 rfl 1 rfl ?_
  obtain ⟨q3, eq3, hs⟩ := bd_some hs
  refine V_callVs X [.int p1] dX6_carried_16 m_X6_269 v_X4_parcelAt ⟨Nat.le_of_ble_eq_true rfl, Nat.le_of_ble_eq_true rfl⟩ ⟨Nat.zero_le _, Nat.zero_le _⟩ rfl (Nat.le_of_ble_eq_true rfl) (gm4 (gmT hK (by decide))) rfl cl4 (c_X4_parcelAt (gmT hK (by decide)) eq3) ?_
  refine V_istore_n X dX6_carried_19 rfl [(2, .int q3), (0, .ref (ad 6 0 0)), (1, .int p1)] (by decide) rfl ?_
  refine V_iload_n X dX6_carried_20 rfl 0 rfl ?_
  refine V_iconst X (-1 : Int32) dX6_carried_21 (by decide) ?_
  refine V_icmp_ne X 36 dX6_carried_22 (by decide) (fun c4 => ?_) (fun c4 => ?_)
  · replace hs := if_f hs c4
    refine V_iload_n X dX6_carried_36 rfl 0 rfl ?_
    obtain rfl := ll_eq hs; exact V_iret X hr dX6_carried_37
  · replace hs := if_t hs c4
    exact (rl_no hs).elim
set_option maxRecDepth 100000 in
set_option maxHeartbeats 4000000 in
theorem x_X6_carried {l : Launch} {D : va_G} {cA : Nat → ClassId} {dm : Dm} {ad : Ad} {S : S4} {p1 : Int32} (hK : DK dm) (hl : l.stackTraces = false) {out : Nat × S4} (hs : s_X6_carried p1 S = some (.inr out)) : Cx D cA dm ad l yX6_carried cX6_carried 3 (some .int) 21 621 S [.ref (ad 6 0 0), .int p1] out := by
  refine Cx.of (by decide +kernel) (Nat.le_of_ble_eq_true rfl) [(0, .ref (ad 6 0 0)), (1, .int p1)] rfl (fun p e s m args below meth c A X hr hZ hE => ?_)
  unfold s_X6_carried at hs
  refine V_iload_n X dX6_carried_0 rfl 1 rfl ?_
  refine V_aload_n X dX6_carried_1 rfl 0 rfl ?_
  refine V_get X dX6_carried_2 r_X6_10 (gm6 hK) rfl rfl ?_
  refine V_get X dX6_carried_5 r_X6_266 (gm4 (gmT hK (by decide))) rfl rfl ?_
  rcases tb_r hs with ⟨Z2, eZ2, hs⟩ | hs9
  case inr => exact V_callSX X hE hZ [.int p1, .int (S 4 0 0 1)] dX6_carried_8 m_X6_157 t_X6_requireIndex ⟨Nat.le_of_ble_eq_true rfl, Nat.le_of_ble_eq_true rfl⟩ ⟨by decide, by decide⟩ ⟨by decide, by decide⟩ rfl (Nat.le_of_ble_eq_true rfl) (x_X6_requireIndex  hl hs9)
  refine V_callSv X [.int p1, .int (S 4 0 0 1)] dX6_carried_8 m_X6_157 t_X6_requireIndex ⟨Nat.le_of_ble_eq_true rfl, Nat.le_of_ble_eq_true rfl⟩ ⟨Nat.zero_le _, Nat.zero_le _⟩ rfl (Nat.le_of_ble_eq_true rfl) (c_X6_requireIndex  eZ2) ?_
  refine V_aload_n X dX6_carried_11 rfl 0 rfl ?_
  refine V_get X dX6_carried_12 r_X6_10 (gm6 hK) rfl rfl ?_
  refine V_iload_n X dX6_carried_15 rfl 1 rfl ?_
  obtain ⟨q3, eq3, hs⟩ := bd_some hs
  refine V_callVs X [.int p1] dX6_carried_16 m_X6_269 v_X4_parcelAt ⟨Nat.le_of_ble_eq_true rfl, Nat.le_of_ble_eq_true rfl⟩ ⟨Nat.zero_le _, Nat.zero_le _⟩ rfl (Nat.le_of_ble_eq_true rfl) (gm4 (gmT hK (by decide))) rfl cl4 (c_X4_parcelAt (gmT hK (by decide)) eq3) ?_
  refine V_istore_n X dX6_carried_19 rfl [(2, .int q3), (0, .ref (ad 6 0 0)), (1, .int p1)] (by decide) rfl ?_
  refine V_iload_n X dX6_carried_20 rfl 0 rfl ?_
  refine V_iconst X (-1 : Int32) dX6_carried_21 (by decide) ?_
  refine V_icmp_ne X 36 dX6_carried_22 (by decide) (fun c4 => ?_) (fun c4 => ?_)
  · replace hs := if_f hs c4
    refine V_iload_n X dX6_carried_36 rfl 0 rfl ?_
    exact (lr_no hs).elim
  · replace hs := if_t hs c4
    obtain rfl := rr_eq hs
    exact V_throwSW X hE hl hZ tw_4 (text := "the carrier is empty") (by decide +kernel) dX6_carried_25 dX6_carried_28 dX6_carried_29 dX6_carried_32 dX6_carried_35 (Nat.le_of_ble_eq_true rfl) ⟨by decide, by decide, by decide, by decide⟩ ⟨by decide, by decide⟩

def s_X6_requireTicks (p1 : Int32) (p2 : Int32) (S : S4) : Option (S4 ⊕ (Nat × S4)) := (if p1 < (1 : Int32) then some (.inr (1, S)) else (if p1 ≤ p2 then some (.inl S) else some (.inr (1, S))))
set_option maxRecDepth 100000 in
set_option maxHeartbeats 4000000 in
theorem c_X6_requireTicks {l : Launch} {D : va_G} {cA : Nat → ClassId} {dm : Dm} {ad : Ad} {S : S4} {p1 : Int32} {p2 : Int32}  {out : S4} (hs : s_X6_requireTicks p1 p2 S = some (.inl out)) : Ct D cA dm ad l yX6_requireTicks cX6_requireTicks 2 none 20 600 S [.int p1, .int p2] none out := by
  refine Ct.of (by decide +kernel) (Nat.le_of_ble_eq_true rfl) [(0, .int p1), (1, .int p2)] rfl (fun p e s m args below meth c A X hr => ?_)
  unfold s_X6_requireTicks at hs
  refine V_iload_n X dX6_requireTicks_0 rfl 0 rfl ?_
  refine V_iconst X (1 : Int32) dX6_requireTicks_1 (by decide) ?_
  refine V_icmp_lt X 10 dX6_requireTicks_2 (by decide) (fun c1 => ?_) (fun c1 => ?_)
  · replace hs := if_t hs c1
    exact (rl_no hs).elim
  · replace hs := if_f hs c1
    refine V_iload_n X dX6_requireTicks_5 rfl 0 rfl ?_
    refine V_iload_n X dX6_requireTicks_6 rfl 1 rfl ?_
    refine V_icmp_le X 21 dX6_requireTicks_7 (by decide) (fun c2 => ?_) (fun c2 => ?_)
    · replace hs := if_t hs c2
      obtain rfl := ll_eq hs; exact V_vret X hr dX6_requireTicks_21
    · replace hs := if_f hs c2
      exact (rl_no hs).elim
set_option maxRecDepth 100000 in
set_option maxHeartbeats 4000000 in
theorem x_X6_requireTicks {l : Launch} {D : va_G} {cA : Nat → ClassId} {dm : Dm} {ad : Ad} {S : S4} {p1 : Int32} {p2 : Int32}  (hl : l.stackTraces = false) {out : Nat × S4} (hs : s_X6_requireTicks p1 p2 S = some (.inr out)) : Cx D cA dm ad l yX6_requireTicks cX6_requireTicks 2 none 20 600 S [.int p1, .int p2] out := by
  refine Cx.of (by decide +kernel) (Nat.le_of_ble_eq_true rfl) [(0, .int p1), (1, .int p2)] rfl (fun p e s m args below meth c A X hr hZ hE => ?_)
  unfold s_X6_requireTicks at hs
  refine V_iload_n X dX6_requireTicks_0 rfl 0 rfl ?_
  refine V_iconst X (1 : Int32) dX6_requireTicks_1 (by decide) ?_
  refine V_icmp_lt X 10 dX6_requireTicks_2 (by decide) (fun c1 => ?_) (fun c1 => ?_)
  · replace hs := if_t hs c1
    obtain rfl := rr_eq hs
    exact V_throwSW X hE hl hZ tw_1 (text := "ticks out of range") (by decide +kernel) dX6_requireTicks_10 dX6_requireTicks_13 dX6_requireTicks_14 dX6_requireTicks_17 dX6_requireTicks_20 (Nat.le_of_ble_eq_true rfl) ⟨by decide, by decide, by decide, by decide⟩ ⟨by decide, by decide⟩
  · replace hs := if_f hs c1
    refine V_iload_n X dX6_requireTicks_5 rfl 0 rfl ?_
    refine V_iload_n X dX6_requireTicks_6 rfl 1 rfl ?_
    refine V_icmp_le X 21 dX6_requireTicks_7 (by decide) (fun c2 => ?_) (fun c2 => ?_)
    · replace hs := if_t hs c2
      exact (lr_no hs).elim
    · replace hs := if_f hs c2
      obtain rfl := rr_eq hs
      exact V_throwSW X hE hl hZ tw_1 (text := "ticks out of range") (by decide +kernel) dX6_requireTicks_10 dX6_requireTicks_13 dX6_requireTicks_14 dX6_requireTicks_17 dX6_requireTicks_20 (Nat.le_of_ble_eq_true rfl) ⟨by decide, by decide, by decide, by decide⟩ ⟨by decide, by decide⟩

def s_X6_run_L20 (np : Nat) (fu : Nat) (p1 : Int32) : Nat → Int32 → Int32 → S4 → Option ((Int32 × S4) ⊕ (Nat × S4))
  | 0, _, _, _ => none
  | f20+1, v2, v3, Z5 => (if p1 ≤ v3 then some (.inl (((Z5 4 0 0 7) - v2), Z5)) else (s_X4_passTick np fu 0 Z5).bind fun Z8 => s_X6_run_L20 np fu p1 f20 v2 (v3 + (1 : Int32)) Z8)
def s_X6_run (np : Nat) (fu : Nat) (p1 : Int32) (S : S4) : Option ((Int32 × S4) ⊕ (Nat × S4)) := tb (s_X6_requireTicks p1 (100 : Int32) S) fun Z2 => (s_X6_remember np fu Z2).bind fun Z4 => s_X6_run_L20 np fu p1 fu (Z4 4 0 0 7) (0 : Int32) Z4
set_option maxRecDepth 100000 in
set_option maxHeartbeats 4000000 in
theorem c_X6_run {l : Launch} {D : va_G} {cA : Nat → ClassId} {dm : Dm} {ad : Ad} {np : Nat} {fu : Nat} {S : S4} {p1 : Int32} (hK : DK dm) (hnp : ∀ i, i < np → DP dm i) {out : (Int32 × S4)} (hs : s_X6_run np fu p1 S = some (.inl out)) : Ct D cA dm ad l yX6_run cX6_run 4 (some .int) 21 621 S [.ref (ad 6 0 0), .int p1] (some (.int out.1)) out.2 := by
  refine Ct.of (by decide +kernel) (Nat.le_of_ble_eq_true rfl) [(0, .ref (ad 6 0 0)), (1, .int p1)] rfl (fun p e s m args below meth c A X hr => ?_)
  unfold s_X6_run at hs
  refine V_iload_n X dX6_run_0 rfl 1 rfl ?_
  refine V_bipush X (100 : Int32) dX6_run_1 (by decide) ?_
  obtain ⟨Z2, eZ2, hs⟩ := tb_l hs
  refine V_callSv X [.int p1, .int (100 : Int32)] dX6_run_3 m_X6_274 t_X6_requireTicks ⟨Nat.le_of_ble_eq_true rfl, Nat.le_of_ble_eq_true rfl⟩ ⟨Nat.zero_le _, Nat.zero_le _⟩ rfl (Nat.le_of_ble_eq_true rfl) (c_X6_requireTicks  eZ2) ?_
  refine V_aload_n X dX6_run_6 rfl 0 rfl ?_
  obtain ⟨Z4, eZ4, hs⟩ := bd_some hs
  refine V_callVv X [] dX6_run_7 m_X6_69 v_X6_remember ⟨Nat.le_of_ble_eq_true rfl, Nat.le_of_ble_eq_true rfl⟩ ⟨Nat.zero_le _, Nat.zero_le _⟩ rfl (Nat.le_of_ble_eq_true rfl) (gm6 hK) rfl cl6 (c_X6_remember hK hnp eZ4) ?_
  refine V_aload_n X dX6_run_10 rfl 0 rfl ?_
  refine V_get X dX6_run_11 r_X6_10 (gm6 hK) rfl rfl ?_
  refine V_get X dX6_run_14 r_X6_277 (gm4 (gmT hK (by decide))) rfl rfl ?_
  refine V_istore_n X dX6_run_17 rfl [(2, .int (Z4 4 0 0 7)), (0, .ref (ad 6 0 0)), (1, .int p1)] (by decide) rfl ?_
  refine V_iconst X (0 : Int32) dX6_run_18 (by decide) ?_
  refine V_istore_n X dX6_run_19 rfl [(3, .int (0 : Int32)), (2, .int (Z4 4 0 0 7)), (0, .ref (ad 6 0 0)), (1, .int p1)] (by decide) rfl ?_
  have L20 : ∀ (n : Nat) (v2 v3 : Int32) (S1 : S4), s_X6_run_L20 np fu p1 n v2 v3 S1 = some (.inl out) → V D cA dm ad A 4 p l e ({ frames := 21, cells := 0, slots := 0, locals := 621 }) s m args below meth c 0 0 (MQ below (gQ D cA dm ad out.2 (some (.int out.1)) A) args s 0 0 A) S1 20 [(0, .ref (ad 6 0 0)), (1, .int p1), (2, .int v2), (3, .int v3)] [] := by
    intro n
    induction n with
    | zero => intro v2 v3 S1 hs; rw [s_X6_run_L20] at hs; cases hs
    | succ f20 ih20 =>
      intro v2 v3 Z5 hs
      rw [s_X6_run_L20] at hs
      refine V_iload_n X dX6_run_20 rfl 3 rfl ?_
      refine V_iload_n X dX6_run_21 rfl 1 rfl ?_
      refine V_icmp_ge X 38 dX6_run_22 (by decide) (fun c6 => ?_) (fun c6 => ?_)
      · replace hs := if_t hs c6
        refine V_aload_n X dX6_run_38 rfl 0 rfl ?_
        refine V_get X dX6_run_39 r_X6_10 (gm6 hK) rfl rfl ?_
        refine V_get X dX6_run_42 r_X6_277 (gm4 (gmT hK (by decide))) rfl rfl ?_
        refine V_iload_n X dX6_run_45 rfl 2 rfl ?_
        refine V_isub X dX6_run_46 ?_
        obtain rfl := ll_eq hs; exact V_iret X hr dX6_run_47
      · replace hs := if_f hs c6
        refine V_aload_n X dX6_run_25 rfl 0 rfl ?_
        refine V_get X dX6_run_26 r_X6_10 (gm6 hK) rfl rfl ?_
        obtain ⟨Z8, eZ8, hs⟩ := bd_some hs
        refine V_callVv X [] dX6_run_29 m_X6_280 v_X4_passTick ⟨Nat.le_of_ble_eq_true rfl, Nat.le_of_ble_eq_true rfl⟩ ⟨Nat.zero_le _, Nat.zero_le _⟩ rfl (Nat.le_of_ble_eq_true rfl) (gm4 (gmT hK (by decide))) rfl cl4 (c_X4_passTick (gmT hK (by decide)) hnp eZ8) ?_
        refine V_iinc X (v3 + (1 : Int32)) dX6_run_32 3 rfl rfl [(3, .int (v3 + (1 : Int32))), (0, .ref (ad 6 0 0)), (1, .int p1), (2, .int v2)] (by decide) rfl ?_
        refine V_goto X 20 dX6_run_35 (by decide) ?_
        refine V_sub [1, 2, 3, 0] rfl ?_
        exact ih20 _ _ _ hs
  refine V_sub [2, 3, 1, 0] rfl ?_
  exact L20 _ _ _ _ hs
set_option maxRecDepth 100000 in
set_option maxHeartbeats 4000000 in
theorem x_X6_run {l : Launch} {D : va_G} {cA : Nat → ClassId} {dm : Dm} {ad : Ad} {np : Nat} {fu : Nat} {S : S4} {p1 : Int32} (hK : DK dm) (hnp : ∀ i, i < np → DP dm i) (hl : l.stackTraces = false) {out : Nat × S4} (hs : s_X6_run np fu p1 S = some (.inr out)) : Cx D cA dm ad l yX6_run cX6_run 4 (some .int) 21 621 S [.ref (ad 6 0 0), .int p1] out := by
  refine Cx.of (by decide +kernel) (Nat.le_of_ble_eq_true rfl) [(0, .ref (ad 6 0 0)), (1, .int p1)] rfl (fun p e s m args below meth c A X hr hZ hE => ?_)
  unfold s_X6_run at hs
  refine V_iload_n X dX6_run_0 rfl 1 rfl ?_
  refine V_bipush X (100 : Int32) dX6_run_1 (by decide) ?_
  rcases tb_r hs with ⟨Z2, eZ2, hs⟩ | hs9
  case inr => exact V_callSX X hE hZ [.int p1, .int (100 : Int32)] dX6_run_3 m_X6_274 t_X6_requireTicks ⟨Nat.le_of_ble_eq_true rfl, Nat.le_of_ble_eq_true rfl⟩ ⟨by decide, by decide⟩ ⟨by decide, by decide⟩ rfl (Nat.le_of_ble_eq_true rfl) (x_X6_requireTicks  hl hs9)
  refine V_callSv X [.int p1, .int (100 : Int32)] dX6_run_3 m_X6_274 t_X6_requireTicks ⟨Nat.le_of_ble_eq_true rfl, Nat.le_of_ble_eq_true rfl⟩ ⟨Nat.zero_le _, Nat.zero_le _⟩ rfl (Nat.le_of_ble_eq_true rfl) (c_X6_requireTicks  eZ2) ?_
  refine V_aload_n X dX6_run_6 rfl 0 rfl ?_
  obtain ⟨Z4, eZ4, hs⟩ := bd_some hs
  refine V_callVv X [] dX6_run_7 m_X6_69 v_X6_remember ⟨Nat.le_of_ble_eq_true rfl, Nat.le_of_ble_eq_true rfl⟩ ⟨Nat.zero_le _, Nat.zero_le _⟩ rfl (Nat.le_of_ble_eq_true rfl) (gm6 hK) rfl cl6 (c_X6_remember hK hnp eZ4) ?_
  refine V_aload_n X dX6_run_10 rfl 0 rfl ?_
  refine V_get X dX6_run_11 r_X6_10 (gm6 hK) rfl rfl ?_
  refine V_get X dX6_run_14 r_X6_277 (gm4 (gmT hK (by decide))) rfl rfl ?_
  refine V_istore_n X dX6_run_17 rfl [(2, .int (Z4 4 0 0 7)), (0, .ref (ad 6 0 0)), (1, .int p1)] (by decide) rfl ?_
  refine V_iconst X (0 : Int32) dX6_run_18 (by decide) ?_
  refine V_istore_n X dX6_run_19 rfl [(3, .int (0 : Int32)), (2, .int (Z4 4 0 0 7)), (0, .ref (ad 6 0 0)), (1, .int p1)] (by decide) rfl ?_
  have L20 : ∀ (n : Nat) (v2 v3 : Int32) (S1 : S4), s_X6_run_L20 np fu p1 n v2 v3 S1 = some (.inr out) → V D cA dm ad A 4 p l e ({ frames := 21, cells := 1, slots := 6, locals := 621 }) s m args below meth c 0 0 (vx_MQ below qN (xQ D cA dm ad out.2 out.1 A) args s 1 6 A) S1 20 [(0, .ref (ad 6 0 0)), (1, .int p1), (2, .int v2), (3, .int v3)] [] := by
    intro n
    induction n with
    | zero => intro v2 v3 S1 hs; rw [s_X6_run_L20] at hs; cases hs
    | succ f20 ih20 =>
      intro v2 v3 Z5 hs
      rw [s_X6_run_L20] at hs
      refine V_iload_n X dX6_run_20 rfl 3 rfl ?_
      refine V_iload_n X dX6_run_21 rfl 1 rfl ?_
      refine V_icmp_ge X 38 dX6_run_22 (by decide) (fun c6 => ?_) (fun c6 => ?_)
      · replace hs := if_t hs c6
        refine V_aload_n X dX6_run_38 rfl 0 rfl ?_
        refine V_get X dX6_run_39 r_X6_10 (gm6 hK) rfl rfl ?_
        refine V_get X dX6_run_42 r_X6_277 (gm4 (gmT hK (by decide))) rfl rfl ?_
        refine V_iload_n X dX6_run_45 rfl 2 rfl ?_
        refine V_isub X dX6_run_46 ?_
        exact (lr_no hs).elim
      · replace hs := if_f hs c6
        refine V_aload_n X dX6_run_25 rfl 0 rfl ?_
        refine V_get X dX6_run_26 r_X6_10 (gm6 hK) rfl rfl ?_
        obtain ⟨Z8, eZ8, hs⟩ := bd_some hs
        refine V_callVv X [] dX6_run_29 m_X6_280 v_X4_passTick ⟨Nat.le_of_ble_eq_true rfl, Nat.le_of_ble_eq_true rfl⟩ ⟨Nat.zero_le _, Nat.zero_le _⟩ rfl (Nat.le_of_ble_eq_true rfl) (gm4 (gmT hK (by decide))) rfl cl4 (c_X4_passTick (gmT hK (by decide)) hnp eZ8) ?_
        refine V_iinc X (v3 + (1 : Int32)) dX6_run_32 3 rfl rfl [(3, .int (v3 + (1 : Int32))), (0, .ref (ad 6 0 0)), (1, .int p1), (2, .int v2)] (by decide) rfl ?_
        refine V_goto X 20 dX6_run_35 (by decide) ?_
        refine V_sub [1, 2, 3, 0] rfl ?_
        exact ih20 _ _ _ hs
  refine V_sub [2, 3, 1, 0] rfl ?_
  exact L20 _ _ _ _ hs

def s_X6_setClosed (np : Nat) (fu : Nat) (p1 : Int32) (p2 : Int32) (S : S4) : Option ((Int32 × S4) ⊕ (Nat × S4)) := tb (s_X6_requireIndex p1 (S 4 0 0 4) S) fun Z2 => (s_X6_remember np fu Z2).bind fun Z4 => gd (inb p1 8) (gd (inb p1 8) (gd (isB p2) (sv (u4 Z4 0 0 p1.toNatClampNeg 9 p2) fun Z8 => gd (isB (Z4 0 0 p1.toNatClampNeg 9)) (some (.inl ((Z4 0 0 p1.toNatClampNeg 9), Z8))))))
set_option maxRecDepth 100000 in
set_option maxHeartbeats 4000000 in
theorem c_X6_setClosed {l : Launch} {D : va_G} {cA : Nat → ClassId} {dm : Dm} {ad : Ad} {np : Nat} {fu : Nat} {S : S4} {p1 : Int32} {p2 : Int32} (hK : DK dm) (hnp : ∀ i, i < np → DP dm i) {out : (Int32 × S4)} (hs : s_X6_setClosed np fu p1 p2 S = some (.inl out)) : Ct D cA dm ad l yX6_setClosed cX6_setClosed 4 (some .boolean) 21 621 S [.ref (ad 6 0 0), .int p1, .int p2] (some (.int out.1)) out.2 := by
  refine Ct.of (by decide +kernel) (Nat.le_of_ble_eq_true rfl) [(0, .ref (ad 6 0 0)), (1, .int p1), (2, .int p2)] rfl (fun p e s m args below meth c A X hr => ?_)
  unfold s_X6_setClosed at hs
  refine V_iload_n X dX6_setClosed_0 rfl 1 rfl ?_
  refine V_aload_n X dX6_setClosed_1 rfl 0 rfl ?_
  refine V_get X dX6_setClosed_2 r_X6_10 (gm6 hK) rfl rfl ?_
  refine V_get X dX6_setClosed_5 r_X6_82 (gm4 (gmT hK (by decide))) rfl rfl ?_
  obtain ⟨Z2, eZ2, hs⟩ := tb_l hs
  refine V_callSv X [.int p1, .int (S 4 0 0 4)] dX6_setClosed_8 m_X6_157 t_X6_requireIndex ⟨Nat.le_of_ble_eq_true rfl, Nat.le_of_ble_eq_true rfl⟩ ⟨Nat.zero_le _, Nat.zero_le _⟩ rfl (Nat.le_of_ble_eq_true rfl) (c_X6_requireIndex  eZ2) ?_
  refine V_aload_n X dX6_setClosed_11 rfl 0 rfl ?_
  obtain ⟨Z4, eZ4, hs⟩ := bd_some hs
  refine V_callVv X [] dX6_setClosed_12 m_X6_69 v_X6_remember ⟨Nat.le_of_ble_eq_true rfl, Nat.le_of_ble_eq_true rfl⟩ ⟨Nat.zero_le _, Nat.zero_le _⟩ rfl (Nat.le_of_ble_eq_true rfl) (gm6 hK) rfl cl6 (c_X6_remember hK hnp eZ4) ?_
  refine V_aload_n X dX6_setClosed_15 rfl 0 rfl ?_
  refine V_get X dX6_setClosed_16 r_X6_10 (gm6 hK) rfl rfl ?_
  refine V_get X dX6_setClosed_19 r_X6_283 (gm4 (gmT hK (by decide))) rfl rfl ?_
  refine V_iload_n X dX6_setClosed_22 rfl 1 rfl ?_
  obtain ⟨h5, hs⟩ := gd_some hs
  refine V_aald X 4 rfl dX6_setClosed_23 (gm16 (gmT hK (by decide))) rfl h5 (v := .ref (ad 0 0 p1.toNatClampNeg)) rfl ?_
  refine V_get X dX6_setClosed_24 r_X6_287 (gm0 (gmT hK (by decide)) (inb_lt h5)) rfl rfl ?_
  refine V_istore_n X dX6_setClosed_27 rfl [(3, .int (Z4 0 0 p1.toNatClampNeg 9)), (0, .ref (ad 6 0 0)), (1, .int p1), (2, .int p2)] (by decide) rfl ?_
  refine V_aload_n X dX6_setClosed_28 rfl 1 rfl ?_
  refine V_get X dX6_setClosed_29 r_X6_10 (gm6 hK) rfl rfl ?_
  refine V_get X dX6_setClosed_32 r_X6_283 (gm4 (gmT hK (by decide))) rfl rfl ?_
  refine V_iload_n X dX6_setClosed_35 rfl 2 rfl ?_
  obtain ⟨h6, hs⟩ := gd_some hs
  refine V_aald X 4 rfl dX6_setClosed_36 (gm16 (gmT hK (by decide))) rfl h6 (v := .ref (ad 0 0 p1.toNatClampNeg)) rfl ?_
  refine V_iload_n X dX6_setClosed_37 rfl 3 rfl ?_
  obtain ⟨h7, hs⟩ := gd_some hs
  refine V_put X dX6_setClosed_38 f_X6_287 (gm0 (gmT hK (by decide)) (inb_lt h6)) rfl (Nat.le_of_ble_eq_true rfl) rfl (bnar h7) (bfit h7) (fun Z8 eZ8 => ?_)
  replace hs := sv_some hs Z8 eZ8
  clear eZ8
  refine V_iload_n X dX6_setClosed_41 rfl 0 rfl ?_
  obtain ⟨h9, hs⟩ := gd_some hs
  obtain rfl := ll_eq hs; exact V_zret X hr (bnar h9) dX6_setClosed_42
set_option maxRecDepth 100000 in
set_option maxHeartbeats 4000000 in
theorem x_X6_setClosed {l : Launch} {D : va_G} {cA : Nat → ClassId} {dm : Dm} {ad : Ad} {np : Nat} {fu : Nat} {S : S4} {p1 : Int32} {p2 : Int32} (hK : DK dm) (hnp : ∀ i, i < np → DP dm i) (hl : l.stackTraces = false) {out : Nat × S4} (hs : s_X6_setClosed np fu p1 p2 S = some (.inr out)) : Cx D cA dm ad l yX6_setClosed cX6_setClosed 4 (some .boolean) 21 621 S [.ref (ad 6 0 0), .int p1, .int p2] out := by
  refine Cx.of (by decide +kernel) (Nat.le_of_ble_eq_true rfl) [(0, .ref (ad 6 0 0)), (1, .int p1), (2, .int p2)] rfl (fun p e s m args below meth c A X hr hZ hE => ?_)
  unfold s_X6_setClosed at hs
  refine V_iload_n X dX6_setClosed_0 rfl 1 rfl ?_
  refine V_aload_n X dX6_setClosed_1 rfl 0 rfl ?_
  refine V_get X dX6_setClosed_2 r_X6_10 (gm6 hK) rfl rfl ?_
  refine V_get X dX6_setClosed_5 r_X6_82 (gm4 (gmT hK (by decide))) rfl rfl ?_
  rcases tb_r hs with ⟨Z2, eZ2, hs⟩ | hs9
  case inr => exact V_callSX X hE hZ [.int p1, .int (S 4 0 0 4)] dX6_setClosed_8 m_X6_157 t_X6_requireIndex ⟨Nat.le_of_ble_eq_true rfl, Nat.le_of_ble_eq_true rfl⟩ ⟨by decide, by decide⟩ ⟨by decide, by decide⟩ rfl (Nat.le_of_ble_eq_true rfl) (x_X6_requireIndex  hl hs9)
  refine V_callSv X [.int p1, .int (S 4 0 0 4)] dX6_setClosed_8 m_X6_157 t_X6_requireIndex ⟨Nat.le_of_ble_eq_true rfl, Nat.le_of_ble_eq_true rfl⟩ ⟨Nat.zero_le _, Nat.zero_le _⟩ rfl (Nat.le_of_ble_eq_true rfl) (c_X6_requireIndex  eZ2) ?_
  refine V_aload_n X dX6_setClosed_11 rfl 0 rfl ?_
  obtain ⟨Z4, eZ4, hs⟩ := bd_some hs
  refine V_callVv X [] dX6_setClosed_12 m_X6_69 v_X6_remember ⟨Nat.le_of_ble_eq_true rfl, Nat.le_of_ble_eq_true rfl⟩ ⟨Nat.zero_le _, Nat.zero_le _⟩ rfl (Nat.le_of_ble_eq_true rfl) (gm6 hK) rfl cl6 (c_X6_remember hK hnp eZ4) ?_
  refine V_aload_n X dX6_setClosed_15 rfl 0 rfl ?_
  refine V_get X dX6_setClosed_16 r_X6_10 (gm6 hK) rfl rfl ?_
  refine V_get X dX6_setClosed_19 r_X6_283 (gm4 (gmT hK (by decide))) rfl rfl ?_
  refine V_iload_n X dX6_setClosed_22 rfl 1 rfl ?_
  obtain ⟨h5, hs⟩ := gd_some hs
  refine V_aald X 4 rfl dX6_setClosed_23 (gm16 (gmT hK (by decide))) rfl h5 (v := .ref (ad 0 0 p1.toNatClampNeg)) rfl ?_
  refine V_get X dX6_setClosed_24 r_X6_287 (gm0 (gmT hK (by decide)) (inb_lt h5)) rfl rfl ?_
  refine V_istore_n X dX6_setClosed_27 rfl [(3, .int (Z4 0 0 p1.toNatClampNeg 9)), (0, .ref (ad 6 0 0)), (1, .int p1), (2, .int p2)] (by decide) rfl ?_
  refine V_aload_n X dX6_setClosed_28 rfl 1 rfl ?_
  refine V_get X dX6_setClosed_29 r_X6_10 (gm6 hK) rfl rfl ?_
  refine V_get X dX6_setClosed_32 r_X6_283 (gm4 (gmT hK (by decide))) rfl rfl ?_
  refine V_iload_n X dX6_setClosed_35 rfl 2 rfl ?_
  obtain ⟨h6, hs⟩ := gd_some hs
  refine V_aald X 4 rfl dX6_setClosed_36 (gm16 (gmT hK (by decide))) rfl h6 (v := .ref (ad 0 0 p1.toNatClampNeg)) rfl ?_
  refine V_iload_n X dX6_setClosed_37 rfl 3 rfl ?_
  obtain ⟨h7, hs⟩ := gd_some hs
  refine V_put X dX6_setClosed_38 f_X6_287 (gm0 (gmT hK (by decide)) (inb_lt h6)) rfl (Nat.le_of_ble_eq_true rfl) rfl (bnar h7) (bfit h7) (fun Z8 eZ8 => ?_)
  replace hs := sv_some hs Z8 eZ8
  clear eZ8
  refine V_iload_n X dX6_setClosed_41 rfl 0 rfl ?_
  obtain ⟨h9, hs⟩ := gd_some hs
  exact (lr_no hs).elim

def s_X6_clear (np : Nat) (fu : Nat) (p1 : Int32) (S : S4) : Option ((Int32 × S4) ⊕ (Nat × S4)) := tb (s_X6_requireIndex p1 (S 4 0 0 4) S) fun Z2 => gd (inb p1 8) ((if (Z2 0 0 p1.toNatClampNeg 7) = 0 then some (.inr (2, Z2)) else (s_X6_remember np fu Z2).bind fun Z6 => gd (inb p1 8) (sv (u4 Z6 0 0 p1.toNatClampNeg 7 (0 : Int32)) fun Z8 => some (.inl ((Z2 0 0 p1.toNatClampNeg 7), Z8)))))
set_option maxRecDepth 100000 in
set_option maxHeartbeats 4000000 in
theorem c_X6_clear {l : Launch} {D : va_G} {cA : Nat → ClassId} {dm : Dm} {ad : Ad} {np : Nat} {fu : Nat} {S : S4} {p1 : Int32} (hK : DK dm) (hnp : ∀ i, i < np → DP dm i) {out : (Int32 × S4)} (hs : s_X6_clear np fu p1 S = some (.inl out)) : Ct D cA dm ad l yX6_clear cX6_clear 3 (some .int) 21 621 S [.ref (ad 6 0 0), .int p1] (some (.int out.1)) out.2 := by
  refine Ct.of (by decide +kernel) (Nat.le_of_ble_eq_true rfl) [(0, .ref (ad 6 0 0)), (1, .int p1)] rfl (fun p e s m args below meth c A X hr => ?_)
  unfold s_X6_clear at hs
  refine V_iload_n X dX6_clear_0 rfl 1 rfl ?_
  refine V_aload_n X dX6_clear_1 rfl 0 rfl ?_
  refine V_get X dX6_clear_2 r_X6_10 (gm6 hK) rfl rfl ?_
  refine V_get X dX6_clear_5 r_X6_82 (gm4 (gmT hK (by decide))) rfl rfl ?_
  obtain ⟨Z2, eZ2, hs⟩ := tb_l hs
  refine V_callSv X [.int p1, .int (S 4 0 0 4)] dX6_clear_8 m_X6_157 t_X6_requireIndex ⟨Nat.le_of_ble_eq_true rfl, Nat.le_of_ble_eq_true rfl⟩ ⟨Nat.zero_le _, Nat.zero_le _⟩ rfl (Nat.le_of_ble_eq_true rfl) (c_X6_requireIndex  eZ2) ?_
  refine V_aload_n X dX6_clear_11 rfl 0 rfl ?_
  refine V_get X dX6_clear_12 r_X6_10 (gm6 hK) rfl rfl ?_
  refine V_get X dX6_clear_15 r_X6_283 (gm4 (gmT hK (by decide))) rfl rfl ?_
  refine V_iload_n X dX6_clear_18 rfl 1 rfl ?_
  obtain ⟨h3, hs⟩ := gd_some hs
  refine V_aald X 4 rfl dX6_clear_19 (gm16 (gmT hK (by decide))) rfl h3 (v := .ref (ad 0 0 p1.toNatClampNeg)) rfl ?_
  refine V_get X dX6_clear_20 r_X6_291 (gm0 (gmT hK (by decide)) (inb_lt h3)) rfl rfl ?_
  refine V_istore_n X dX6_clear_23 rfl [(2, .int (Z2 0 0 p1.toNatClampNeg 7)), (0, .ref (ad 6 0 0)), (1, .int p1)] (by decide) rfl ?_
  refine V_iload_n X dX6_clear_24 rfl 0 rfl ?_
  refine V_if_ne X 39 dX6_clear_25 (by decide) (fun c4 => ?_) (fun c4 => ?_)
  · replace hs := if_f hs c4
    refine V_aload_n X dX6_clear_39 rfl 1 rfl ?_
    obtain ⟨Z6, eZ6, hs⟩ := bd_some hs
    refine V_callVv X [] dX6_clear_40 m_X6_69 v_X6_remember ⟨Nat.le_of_ble_eq_true rfl, Nat.le_of_ble_eq_true rfl⟩ ⟨Nat.zero_le _, Nat.zero_le _⟩ rfl (Nat.le_of_ble_eq_true rfl) (gm6 hK) rfl cl6 (c_X6_remember hK hnp eZ6) ?_
    refine V_aload_n X dX6_clear_43 rfl 1 rfl ?_
    refine V_get X dX6_clear_44 r_X6_10 (gm6 hK) rfl rfl ?_
    refine V_get X dX6_clear_47 r_X6_283 (gm4 (gmT hK (by decide))) rfl rfl ?_
    refine V_iload_n X dX6_clear_50 rfl 2 rfl ?_
    obtain ⟨h7, hs⟩ := gd_some hs
    refine V_aald X 4 rfl dX6_clear_51 (gm16 (gmT hK (by decide))) rfl h7 (v := .ref (ad 0 0 p1.toNatClampNeg)) rfl ?_
    refine V_iconst X (0 : Int32) dX6_clear_52 (by decide) ?_
    refine V_put X dX6_clear_53 f_X6_291 (gm0 (gmT hK (by decide)) (inb_lt h7)) rfl (Nat.le_of_ble_eq_true rfl) rfl rfl rfl (fun Z8 eZ8 => ?_)
    replace hs := sv_some hs Z8 eZ8
    clear eZ8
    refine V_iload_n X dX6_clear_56 rfl 0 rfl ?_
    obtain rfl := ll_eq hs; exact V_iret X hr dX6_clear_57
  · replace hs := if_t hs c4
    exact (rl_no hs).elim
set_option maxRecDepth 100000 in
set_option maxHeartbeats 4000000 in
theorem x_X6_clear {l : Launch} {D : va_G} {cA : Nat → ClassId} {dm : Dm} {ad : Ad} {np : Nat} {fu : Nat} {S : S4} {p1 : Int32} (hK : DK dm) (hnp : ∀ i, i < np → DP dm i) (hl : l.stackTraces = false) {out : Nat × S4} (hs : s_X6_clear np fu p1 S = some (.inr out)) : Cx D cA dm ad l yX6_clear cX6_clear 3 (some .int) 21 621 S [.ref (ad 6 0 0), .int p1] out := by
  refine Cx.of (by decide +kernel) (Nat.le_of_ble_eq_true rfl) [(0, .ref (ad 6 0 0)), (1, .int p1)] rfl (fun p e s m args below meth c A X hr hZ hE => ?_)
  unfold s_X6_clear at hs
  refine V_iload_n X dX6_clear_0 rfl 1 rfl ?_
  refine V_aload_n X dX6_clear_1 rfl 0 rfl ?_
  refine V_get X dX6_clear_2 r_X6_10 (gm6 hK) rfl rfl ?_
  refine V_get X dX6_clear_5 r_X6_82 (gm4 (gmT hK (by decide))) rfl rfl ?_
  rcases tb_r hs with ⟨Z2, eZ2, hs⟩ | hs9
  case inr => exact V_callSX X hE hZ [.int p1, .int (S 4 0 0 4)] dX6_clear_8 m_X6_157 t_X6_requireIndex ⟨Nat.le_of_ble_eq_true rfl, Nat.le_of_ble_eq_true rfl⟩ ⟨by decide, by decide⟩ ⟨by decide, by decide⟩ rfl (Nat.le_of_ble_eq_true rfl) (x_X6_requireIndex  hl hs9)
  refine V_callSv X [.int p1, .int (S 4 0 0 4)] dX6_clear_8 m_X6_157 t_X6_requireIndex ⟨Nat.le_of_ble_eq_true rfl, Nat.le_of_ble_eq_true rfl⟩ ⟨Nat.zero_le _, Nat.zero_le _⟩ rfl (Nat.le_of_ble_eq_true rfl) (c_X6_requireIndex  eZ2) ?_
  refine V_aload_n X dX6_clear_11 rfl 0 rfl ?_
  refine V_get X dX6_clear_12 r_X6_10 (gm6 hK) rfl rfl ?_
  refine V_get X dX6_clear_15 r_X6_283 (gm4 (gmT hK (by decide))) rfl rfl ?_
  refine V_iload_n X dX6_clear_18 rfl 1 rfl ?_
  obtain ⟨h3, hs⟩ := gd_some hs
  refine V_aald X 4 rfl dX6_clear_19 (gm16 (gmT hK (by decide))) rfl h3 (v := .ref (ad 0 0 p1.toNatClampNeg)) rfl ?_
  refine V_get X dX6_clear_20 r_X6_291 (gm0 (gmT hK (by decide)) (inb_lt h3)) rfl rfl ?_
  refine V_istore_n X dX6_clear_23 rfl [(2, .int (Z2 0 0 p1.toNatClampNeg 7)), (0, .ref (ad 6 0 0)), (1, .int p1)] (by decide) rfl ?_
  refine V_iload_n X dX6_clear_24 rfl 0 rfl ?_
  refine V_if_ne X 39 dX6_clear_25 (by decide) (fun c4 => ?_) (fun c4 => ?_)
  · replace hs := if_f hs c4
    refine V_aload_n X dX6_clear_39 rfl 1 rfl ?_
    obtain ⟨Z6, eZ6, hs⟩ := bd_some hs
    refine V_callVv X [] dX6_clear_40 m_X6_69 v_X6_remember ⟨Nat.le_of_ble_eq_true rfl, Nat.le_of_ble_eq_true rfl⟩ ⟨Nat.zero_le _, Nat.zero_le _⟩ rfl (Nat.le_of_ble_eq_true rfl) (gm6 hK) rfl cl6 (c_X6_remember hK hnp eZ6) ?_
    refine V_aload_n X dX6_clear_43 rfl 1 rfl ?_
    refine V_get X dX6_clear_44 r_X6_10 (gm6 hK) rfl rfl ?_
    refine V_get X dX6_clear_47 r_X6_283 (gm4 (gmT hK (by decide))) rfl rfl ?_
    refine V_iload_n X dX6_clear_50 rfl 2 rfl ?_
    obtain ⟨h7, hs⟩ := gd_some hs
    refine V_aald X 4 rfl dX6_clear_51 (gm16 (gmT hK (by decide))) rfl h7 (v := .ref (ad 0 0 p1.toNatClampNeg)) rfl ?_
    refine V_iconst X (0 : Int32) dX6_clear_52 (by decide) ?_
    refine V_put X dX6_clear_53 f_X6_291 (gm0 (gmT hK (by decide)) (inb_lt h7)) rfl (Nat.le_of_ble_eq_true rfl) rfl rfl rfl (fun Z8 eZ8 => ?_)
    replace hs := sv_some hs Z8 eZ8
    clear eZ8
    refine V_iload_n X dX6_clear_56 rfl 0 rfl ?_
    exact (lr_no hs).elim
  · replace hs := if_t hs c4
    obtain rfl := rr_eq hs
    exact V_throwSW X hE hl hZ tw_2 (text := "the chute is not jammed") (by decide +kernel) dX6_clear_28 dX6_clear_31 dX6_clear_32 dX6_clear_35 dX6_clear_38 (Nat.le_of_ble_eq_true rfl) ⟨by decide, by decide, by decide, by decide⟩ ⟨by decide, by decide⟩

def s_X6_chute (fu : Nat) (p1 : Int32) (p2 : Int32) (S : S4) : Option ((Int32 × S4) ⊕ (Nat × S4)) := tb (s_X6_requireIndex p1 (S 4 0 0 4) S) fun Z2 => tb (s_X6_requireWhat p2 (11 : Int32) Z2) fun Z4 => gd (inb p1 8) ((if p2 = (0 : Int32) then some (.inl ((Z4 0 0 p1.toNatClampNeg 0), Z4)) else if p2 = (1 : Int32) then some (.inl ((Z4 0 0 p1.toNatClampNeg 6), Z4)) else if p2 = (2 : Int32) then some (.inl ((Z4 0 0 p1.toNatClampNeg 7), Z4)) else if p2 = (3 : Int32) then some (.inl ((Z4 0 0 p1.toNatClampNeg 8), Z4)) else if p2 = (4 : Int32) then (if (Z4 0 0 p1.toNatClampNeg 9) = 0 then some (.inl ((0 : Int32), Z4)) else some (.inl ((1 : Int32), Z4))) else if p2 = (5 : Int32) then (s_X0_isUsable 0 p1.toNatClampNeg Z4).bind fun q13 => (if q13 = 0 then some (.inl ((0 : Int32), Z4)) else some (.inl ((1 : Int32), Z4))) else if p2 = (6 : Int32) then some (.inl ((Z4 0 0 p1.toNatClampNeg 10), Z4)) else if p2 = (7 : Int32) then some (.inl ((Z4 0 0 p1.toNatClampNeg 11), Z4)) else if p2 = (8 : Int32) then some (.inl ((Z4 0 0 p1.toNatClampNeg 12), Z4)) else if p2 = (9 : Int32) then some (.inl ((Z4 0 0 p1.toNatClampNeg 13), Z4)) else if p2 = (10 : Int32) then some (.inl ((Z4 0 0 p1.toNatClampNeg 14), Z4)) else (s_X4_parcelsAimedAt fu 0 p1 Z4).bind fun q20 => some (.inl (q20, Z4))))
set_option maxRecDepth 100000 in
set_option maxHeartbeats 4000000 in
theorem c_X6_chute {l : Launch} {D : va_G} {cA : Nat → ClassId} {dm : Dm} {ad : Ad} {fu : Nat} {S : S4} {p1 : Int32} {p2 : Int32} (hK : DK dm) {out : (Int32 × S4)} (hs : s_X6_chute fu p1 p2 S = some (.inl out)) : Ct D cA dm ad l yX6_chute cX6_chute 4 (some .int) 21 621 S [.ref (ad 6 0 0), .int p1, .int p2] (some (.int out.1)) out.2 := by
  refine Ct.of (by decide +kernel) (Nat.le_of_ble_eq_true rfl) [(0, .ref (ad 6 0 0)), (1, .int p1), (2, .int p2)] rfl (fun p e s m args below meth c A X hr => ?_)
  unfold s_X6_chute at hs
  refine V_iload_n X dX6_chute_0 rfl 1 rfl ?_
  refine V_aload_n X dX6_chute_1 rfl 0 rfl ?_
  refine V_get X dX6_chute_2 r_X6_10 (gm6 hK) rfl rfl ?_
  refine V_get X dX6_chute_5 r_X6_82 (gm4 (gmT hK (by decide))) rfl rfl ?_
  obtain ⟨Z2, eZ2, hs⟩ := tb_l hs
  refine V_callSv X [.int p1, .int (S 4 0 0 4)] dX6_chute_8 m_X6_157 t_X6_requireIndex ⟨Nat.le_of_ble_eq_true rfl, Nat.le_of_ble_eq_true rfl⟩ ⟨Nat.zero_le _, Nat.zero_le _⟩ rfl (Nat.le_of_ble_eq_true rfl) (c_X6_requireIndex  eZ2) ?_
  refine V_iload_n X dX6_chute_11 rfl 2 rfl ?_
  refine V_bipush X (11 : Int32) dX6_chute_12 (by decide) ?_
  obtain ⟨Z4, eZ4, hs⟩ := tb_l hs
  refine V_callSv X [.int p2, .int (11 : Int32)] dX6_chute_14 m_X6_161 t_X6_requireWhat ⟨Nat.le_of_ble_eq_true rfl, Nat.le_of_ble_eq_true rfl⟩ ⟨Nat.zero_le _, Nat.zero_le _⟩ rfl (Nat.le_of_ble_eq_true rfl) (c_X6_requireWhat  eZ4) ?_
  refine V_aload_n X dX6_chute_17 rfl 0 rfl ?_
  refine V_get X dX6_chute_18 r_X6_10 (gm6 hK) rfl rfl ?_
  refine V_get X dX6_chute_21 r_X6_283 (gm4 (gmT hK (by decide))) rfl rfl ?_
  refine V_iload_n X dX6_chute_24 rfl 1 rfl ?_
  obtain ⟨h5, hs⟩ := gd_some hs
  refine V_aald X 4 rfl dX6_chute_25 (gm16 (gmT hK (by decide))) rfl h5 (v := .ref (ad 0 0 p1.toNatClampNeg)) rfl ?_
  refine V_astore_n X dX6_chute_26 rfl [(3, .ref (ad 0 0 p1.toNatClampNeg)), (0, .ref (ad 6 0 0)), (1, .int p1), (2, .int p2)] (by decide) rfl ?_
  refine V_iload_n X dX6_chute_27 rfl 3 rfl ?_
  by_cases c6 : p2 = (0 : Int32)
  · replace hs := if_t hs c6
    refine V_tsw X 88 dX6_chute_28 (0) (by rw [c6]; rfl) (by decide) (by decide) rfl (by decide) ?_
    refine V_aload_n X dX6_chute_88 rfl 0 rfl ?_
    refine V_get X dX6_chute_89 r_X6_91 (gm0 (gmT hK (by decide)) (inb_lt h5)) rfl rfl ?_
    obtain rfl := ll_eq hs; exact V_iret X hr dX6_chute_92
  replace hs := if_f hs c6
  by_cases c7 : p2 = (1 : Int32)
  · replace hs := if_t hs c7
    refine V_tsw X 93 dX6_chute_28 (1) (by rw [c7]; rfl) (by decide) (by decide) rfl (by decide) ?_
    refine V_aload_n X dX6_chute_93 rfl 0 rfl ?_
    refine V_get X dX6_chute_94 r_X6_296 (gm0 (gmT hK (by decide)) (inb_lt h5)) rfl rfl ?_
    obtain rfl := ll_eq hs; exact V_iret X hr dX6_chute_97
  replace hs := if_f hs c7
  by_cases c8 : p2 = (2 : Int32)
  · replace hs := if_t hs c8
    refine V_tsw X 98 dX6_chute_28 (2) (by rw [c8]; rfl) (by decide) (by decide) rfl (by decide) ?_
    refine V_aload_n X dX6_chute_98 rfl 0 rfl ?_
    refine V_get X dX6_chute_99 r_X6_291 (gm0 (gmT hK (by decide)) (inb_lt h5)) rfl rfl ?_
    obtain rfl := ll_eq hs; exact V_iret X hr dX6_chute_102
  replace hs := if_f hs c8
  by_cases c9 : p2 = (3 : Int32)
  · replace hs := if_t hs c9
    refine V_tsw X 103 dX6_chute_28 (3) (by rw [c9]; rfl) (by decide) (by decide) rfl (by decide) ?_
    refine V_aload_n X dX6_chute_103 rfl 0 rfl ?_
    refine V_get X dX6_chute_104 r_X6_299 (gm0 (gmT hK (by decide)) (inb_lt h5)) rfl rfl ?_
    obtain rfl := ll_eq hs; exact V_iret X hr dX6_chute_107
  replace hs := if_f hs c9
  by_cases c10 : p2 = (4 : Int32)
  · replace hs := if_t hs c10
    refine V_tsw X 108 dX6_chute_28 (4) (by rw [c10]; rfl) (by decide) (by decide) rfl (by decide) ?_
    refine V_aload_n X dX6_chute_108 rfl 0 rfl ?_
    refine V_get X dX6_chute_109 r_X6_287 (gm0 (gmT hK (by decide)) (inb_lt h5)) rfl rfl ?_
    refine V_if_eq X 119 dX6_chute_112 (by decide) (fun c11 => ?_) (fun c11 => ?_)
    · replace hs := if_t hs c11
      refine V_iconst X (0 : Int32) dX6_chute_119 (by decide) ?_
      obtain rfl := ll_eq hs; exact V_iret X hr dX6_chute_120
    · replace hs := if_f hs c11
      refine V_iconst X (1 : Int32) dX6_chute_115 (by decide) ?_
      refine V_goto X 120 dX6_chute_116 (by decide) ?_
      obtain rfl := ll_eq hs; exact V_iret X hr dX6_chute_120
  replace hs := if_f hs c10
  by_cases c12 : p2 = (5 : Int32)
  · replace hs := if_t hs c12
    refine V_tsw X 121 dX6_chute_28 (5) (by rw [c12]; rfl) (by decide) (by decide) rfl (by decide) ?_
    refine V_aload_n X dX6_chute_121 rfl 0 rfl ?_
    obtain ⟨q13, eq13, hs⟩ := bd_some hs
    refine V_callVs X [] dX6_chute_122 m_X6_302 v_X0_isUsable ⟨Nat.le_of_ble_eq_true rfl, Nat.le_of_ble_eq_true rfl⟩ ⟨Nat.zero_le _, Nat.zero_le _⟩ rfl (Nat.le_of_ble_eq_true rfl) (gm0 (gmT hK (by decide)) (inb_lt h5)) rfl cl0 (c_X0_isUsable (gmT hK (by decide)) (inb_lt h5) eq13) ?_
    refine V_if_eq X 132 dX6_chute_125 (by decide) (fun c14 => ?_) (fun c14 => ?_)
    · replace hs := if_t hs c14
      refine V_iconst X (0 : Int32) dX6_chute_132 (by decide) ?_
      obtain rfl := ll_eq hs; exact V_iret X hr dX6_chute_133
    · replace hs := if_f hs c14
      refine V_iconst X (1 : Int32) dX6_chute_128 (by decide) ?_
      refine V_goto X 133 dX6_chute_129 (by decide) ?_
      obtain rfl := ll_eq hs; exact V_iret X hr dX6_chute_133
  replace hs := if_f hs c12
  by_cases c15 : p2 = (6 : Int32)
  · replace hs := if_t hs c15
    refine V_tsw X 134 dX6_chute_28 (6) (by rw [c15]; rfl) (by decide) (by decide) rfl (by decide) ?_
    refine V_aload_n X dX6_chute_134 rfl 0 rfl ?_
    refine V_get X dX6_chute_135 r_X6_305 (gm0 (gmT hK (by decide)) (inb_lt h5)) rfl rfl ?_
    obtain rfl := ll_eq hs; exact V_iret X hr dX6_chute_138
  replace hs := if_f hs c15
  by_cases c16 : p2 = (7 : Int32)
  · replace hs := if_t hs c16
    refine V_tsw X 139 dX6_chute_28 (7) (by rw [c16]; rfl) (by decide) (by decide) rfl (by decide) ?_
    refine V_aload_n X dX6_chute_139 rfl 0 rfl ?_
    refine V_get X dX6_chute_140 r_X6_308 (gm0 (gmT hK (by decide)) (inb_lt h5)) rfl rfl ?_
    obtain rfl := ll_eq hs; exact V_iret X hr dX6_chute_143
  replace hs := if_f hs c16
  by_cases c17 : p2 = (8 : Int32)
  · replace hs := if_t hs c17
    refine V_tsw X 144 dX6_chute_28 (8) (by rw [c17]; rfl) (by decide) (by decide) rfl (by decide) ?_
    refine V_aload_n X dX6_chute_144 rfl 0 rfl ?_
    refine V_get X dX6_chute_145 r_X6_311 (gm0 (gmT hK (by decide)) (inb_lt h5)) rfl rfl ?_
    obtain rfl := ll_eq hs; exact V_iret X hr dX6_chute_148
  replace hs := if_f hs c17
  by_cases c18 : p2 = (9 : Int32)
  · replace hs := if_t hs c18
    refine V_tsw X 149 dX6_chute_28 (9) (by rw [c18]; rfl) (by decide) (by decide) rfl (by decide) ?_
    refine V_aload_n X dX6_chute_149 rfl 0 rfl ?_
    refine V_get X dX6_chute_150 r_X6_314 (gm0 (gmT hK (by decide)) (inb_lt h5)) rfl rfl ?_
    obtain rfl := ll_eq hs; exact V_iret X hr dX6_chute_153
  replace hs := if_f hs c18
  by_cases c19 : p2 = (10 : Int32)
  · replace hs := if_t hs c19
    refine V_tsw X 154 dX6_chute_28 (10) (by rw [c19]; rfl) (by decide) (by decide) rfl (by decide) ?_
    refine V_aload_n X dX6_chute_154 rfl 0 rfl ?_
    refine V_get X dX6_chute_155 r_X6_317 (gm0 (gmT hK (by decide)) (inb_lt h5)) rfl rfl ?_
    obtain rfl := ll_eq hs; exact V_iret X hr dX6_chute_158
  replace hs := if_f hs c19
  refine V_tswD X 159 dX6_chute_28 (by have ec6 := sw_ne c6 (0) (by rfl); have ec7 := sw_ne c7 (1) (by rfl); have ec8 := sw_ne c8 (2) (by rfl); have ec9 := sw_ne c9 (3) (by rfl); have ec10 := sw_ne c10 (4) (by rfl); have ec12 := sw_ne c12 (5) (by rfl); have ec15 := sw_ne c15 (6) (by rfl); have ec16 := sw_ne c16 (7) (by rfl); have ec17 := sw_ne c17 (8) (by rfl); have ec18 := sw_ne c18 (9) (by rfl); have ec19 := sw_ne c19 (10) (by rfl); omega) (by decide) ?_
  refine V_aload_n X dX6_chute_159 rfl 1 rfl ?_
  refine V_get X dX6_chute_160 r_X6_10 (gm6 hK) rfl rfl ?_
  refine V_iload_n X dX6_chute_163 rfl 2 rfl ?_
  obtain ⟨q20, eq20, hs⟩ := bd_some hs
  refine V_callVs X [.int p1] dX6_chute_164 m_X6_320 v_X4_parcelsAimedAt ⟨Nat.le_of_ble_eq_true rfl, Nat.le_of_ble_eq_true rfl⟩ ⟨Nat.zero_le _, Nat.zero_le _⟩ rfl (Nat.le_of_ble_eq_true rfl) (gm4 (gmT hK (by decide))) rfl cl4 (c_X4_parcelsAimedAt (gmT hK (by decide)) eq20) ?_
  obtain rfl := ll_eq hs; exact V_iret X hr dX6_chute_167
set_option maxRecDepth 100000 in
set_option maxHeartbeats 4000000 in
theorem x_X6_chute {l : Launch} {D : va_G} {cA : Nat → ClassId} {dm : Dm} {ad : Ad} {fu : Nat} {S : S4} {p1 : Int32} {p2 : Int32} (hK : DK dm) (hl : l.stackTraces = false) {out : Nat × S4} (hs : s_X6_chute fu p1 p2 S = some (.inr out)) : Cx D cA dm ad l yX6_chute cX6_chute 4 (some .int) 21 621 S [.ref (ad 6 0 0), .int p1, .int p2] out := by
  refine Cx.of (by decide +kernel) (Nat.le_of_ble_eq_true rfl) [(0, .ref (ad 6 0 0)), (1, .int p1), (2, .int p2)] rfl (fun p e s m args below meth c A X hr hZ hE => ?_)
  unfold s_X6_chute at hs
  refine V_iload_n X dX6_chute_0 rfl 1 rfl ?_
  refine V_aload_n X dX6_chute_1 rfl 0 rfl ?_
  refine V_get X dX6_chute_2 r_X6_10 (gm6 hK) rfl rfl ?_
  refine V_get X dX6_chute_5 r_X6_82 (gm4 (gmT hK (by decide))) rfl rfl ?_
  rcases tb_r hs with ⟨Z2, eZ2, hs⟩ | hs9
  case inr => exact V_callSX X hE hZ [.int p1, .int (S 4 0 0 4)] dX6_chute_8 m_X6_157 t_X6_requireIndex ⟨Nat.le_of_ble_eq_true rfl, Nat.le_of_ble_eq_true rfl⟩ ⟨by decide, by decide⟩ ⟨by decide, by decide⟩ rfl (Nat.le_of_ble_eq_true rfl) (x_X6_requireIndex  hl hs9)
  refine V_callSv X [.int p1, .int (S 4 0 0 4)] dX6_chute_8 m_X6_157 t_X6_requireIndex ⟨Nat.le_of_ble_eq_true rfl, Nat.le_of_ble_eq_true rfl⟩ ⟨Nat.zero_le _, Nat.zero_le _⟩ rfl (Nat.le_of_ble_eq_true rfl) (c_X6_requireIndex  eZ2) ?_
  refine V_iload_n X dX6_chute_11 rfl 2 rfl ?_
  refine V_bipush X (11 : Int32) dX6_chute_12 (by decide) ?_
  rcases tb_r hs with ⟨Z4, eZ4, hs⟩ | hs9
  case inr => exact V_callSX X hE hZ [.int p2, .int (11 : Int32)] dX6_chute_14 m_X6_161 t_X6_requireWhat ⟨Nat.le_of_ble_eq_true rfl, Nat.le_of_ble_eq_true rfl⟩ ⟨by decide, by decide⟩ ⟨by decide, by decide⟩ rfl (Nat.le_of_ble_eq_true rfl) (x_X6_requireWhat  hl hs9)
  refine V_callSv X [.int p2, .int (11 : Int32)] dX6_chute_14 m_X6_161 t_X6_requireWhat ⟨Nat.le_of_ble_eq_true rfl, Nat.le_of_ble_eq_true rfl⟩ ⟨Nat.zero_le _, Nat.zero_le _⟩ rfl (Nat.le_of_ble_eq_true rfl) (c_X6_requireWhat  eZ4) ?_
  refine V_aload_n X dX6_chute_17 rfl 0 rfl ?_
  refine V_get X dX6_chute_18 r_X6_10 (gm6 hK) rfl rfl ?_
  refine V_get X dX6_chute_21 r_X6_283 (gm4 (gmT hK (by decide))) rfl rfl ?_
  refine V_iload_n X dX6_chute_24 rfl 1 rfl ?_
  obtain ⟨h5, hs⟩ := gd_some hs
  refine V_aald X 4 rfl dX6_chute_25 (gm16 (gmT hK (by decide))) rfl h5 (v := .ref (ad 0 0 p1.toNatClampNeg)) rfl ?_
  refine V_astore_n X dX6_chute_26 rfl [(3, .ref (ad 0 0 p1.toNatClampNeg)), (0, .ref (ad 6 0 0)), (1, .int p1), (2, .int p2)] (by decide) rfl ?_
  refine V_iload_n X dX6_chute_27 rfl 3 rfl ?_
  by_cases c6 : p2 = (0 : Int32)
  · replace hs := if_t hs c6
    refine V_tsw X 88 dX6_chute_28 (0) (by rw [c6]; rfl) (by decide) (by decide) rfl (by decide) ?_
    refine V_aload_n X dX6_chute_88 rfl 0 rfl ?_
    refine V_get X dX6_chute_89 r_X6_91 (gm0 (gmT hK (by decide)) (inb_lt h5)) rfl rfl ?_
    exact (lr_no hs).elim
  replace hs := if_f hs c6
  by_cases c7 : p2 = (1 : Int32)
  · replace hs := if_t hs c7
    refine V_tsw X 93 dX6_chute_28 (1) (by rw [c7]; rfl) (by decide) (by decide) rfl (by decide) ?_
    refine V_aload_n X dX6_chute_93 rfl 0 rfl ?_
    refine V_get X dX6_chute_94 r_X6_296 (gm0 (gmT hK (by decide)) (inb_lt h5)) rfl rfl ?_
    exact (lr_no hs).elim
  replace hs := if_f hs c7
  by_cases c8 : p2 = (2 : Int32)
  · replace hs := if_t hs c8
    refine V_tsw X 98 dX6_chute_28 (2) (by rw [c8]; rfl) (by decide) (by decide) rfl (by decide) ?_
    refine V_aload_n X dX6_chute_98 rfl 0 rfl ?_
    refine V_get X dX6_chute_99 r_X6_291 (gm0 (gmT hK (by decide)) (inb_lt h5)) rfl rfl ?_
    exact (lr_no hs).elim
  replace hs := if_f hs c8
  by_cases c9 : p2 = (3 : Int32)
  · replace hs := if_t hs c9
    refine V_tsw X 103 dX6_chute_28 (3) (by rw [c9]; rfl) (by decide) (by decide) rfl (by decide) ?_
    refine V_aload_n X dX6_chute_103 rfl 0 rfl ?_
    refine V_get X dX6_chute_104 r_X6_299 (gm0 (gmT hK (by decide)) (inb_lt h5)) rfl rfl ?_
    exact (lr_no hs).elim
  replace hs := if_f hs c9
  by_cases c10 : p2 = (4 : Int32)
  · replace hs := if_t hs c10
    refine V_tsw X 108 dX6_chute_28 (4) (by rw [c10]; rfl) (by decide) (by decide) rfl (by decide) ?_
    refine V_aload_n X dX6_chute_108 rfl 0 rfl ?_
    refine V_get X dX6_chute_109 r_X6_287 (gm0 (gmT hK (by decide)) (inb_lt h5)) rfl rfl ?_
    refine V_if_eq X 119 dX6_chute_112 (by decide) (fun c11 => ?_) (fun c11 => ?_)
    · replace hs := if_t hs c11
      refine V_iconst X (0 : Int32) dX6_chute_119 (by decide) ?_
      exact (lr_no hs).elim
    · replace hs := if_f hs c11
      refine V_iconst X (1 : Int32) dX6_chute_115 (by decide) ?_
      refine V_goto X 120 dX6_chute_116 (by decide) ?_
      exact (lr_no hs).elim
  replace hs := if_f hs c10
  by_cases c12 : p2 = (5 : Int32)
  · replace hs := if_t hs c12
    refine V_tsw X 121 dX6_chute_28 (5) (by rw [c12]; rfl) (by decide) (by decide) rfl (by decide) ?_
    refine V_aload_n X dX6_chute_121 rfl 0 rfl ?_
    obtain ⟨q13, eq13, hs⟩ := bd_some hs
    refine V_callVs X [] dX6_chute_122 m_X6_302 v_X0_isUsable ⟨Nat.le_of_ble_eq_true rfl, Nat.le_of_ble_eq_true rfl⟩ ⟨Nat.zero_le _, Nat.zero_le _⟩ rfl (Nat.le_of_ble_eq_true rfl) (gm0 (gmT hK (by decide)) (inb_lt h5)) rfl cl0 (c_X0_isUsable (gmT hK (by decide)) (inb_lt h5) eq13) ?_
    refine V_if_eq X 132 dX6_chute_125 (by decide) (fun c14 => ?_) (fun c14 => ?_)
    · replace hs := if_t hs c14
      refine V_iconst X (0 : Int32) dX6_chute_132 (by decide) ?_
      exact (lr_no hs).elim
    · replace hs := if_f hs c14
      refine V_iconst X (1 : Int32) dX6_chute_128 (by decide) ?_
      refine V_goto X 133 dX6_chute_129 (by decide) ?_
      exact (lr_no hs).elim
  replace hs := if_f hs c12
  by_cases c15 : p2 = (6 : Int32)
  · replace hs := if_t hs c15
    refine V_tsw X 134 dX6_chute_28 (6) (by rw [c15]; rfl) (by decide) (by decide) rfl (by decide) ?_
    refine V_aload_n X dX6_chute_134 rfl 0 rfl ?_
    refine V_get X dX6_chute_135 r_X6_305 (gm0 (gmT hK (by decide)) (inb_lt h5)) rfl rfl ?_
    exact (lr_no hs).elim
  replace hs := if_f hs c15
  by_cases c16 : p2 = (7 : Int32)
  · replace hs := if_t hs c16
    refine V_tsw X 139 dX6_chute_28 (7) (by rw [c16]; rfl) (by decide) (by decide) rfl (by decide) ?_
    refine V_aload_n X dX6_chute_139 rfl 0 rfl ?_
    refine V_get X dX6_chute_140 r_X6_308 (gm0 (gmT hK (by decide)) (inb_lt h5)) rfl rfl ?_
    exact (lr_no hs).elim
  replace hs := if_f hs c16
  by_cases c17 : p2 = (8 : Int32)
  · replace hs := if_t hs c17
    refine V_tsw X 144 dX6_chute_28 (8) (by rw [c17]; rfl) (by decide) (by decide) rfl (by decide) ?_
    refine V_aload_n X dX6_chute_144 rfl 0 rfl ?_
    refine V_get X dX6_chute_145 r_X6_311 (gm0 (gmT hK (by decide)) (inb_lt h5)) rfl rfl ?_
    exact (lr_no hs).elim
  replace hs := if_f hs c17
  by_cases c18 : p2 = (9 : Int32)
  · replace hs := if_t hs c18
    refine V_tsw X 149 dX6_chute_28 (9) (by rw [c18]; rfl) (by decide) (by decide) rfl (by decide) ?_
    refine V_aload_n X dX6_chute_149 rfl 0 rfl ?_
    refine V_get X dX6_chute_150 r_X6_314 (gm0 (gmT hK (by decide)) (inb_lt h5)) rfl rfl ?_
    exact (lr_no hs).elim
  replace hs := if_f hs c18
  by_cases c19 : p2 = (10 : Int32)
  · replace hs := if_t hs c19
    refine V_tsw X 154 dX6_chute_28 (10) (by rw [c19]; rfl) (by decide) (by decide) rfl (by decide) ?_
    refine V_aload_n X dX6_chute_154 rfl 0 rfl ?_
    refine V_get X dX6_chute_155 r_X6_317 (gm0 (gmT hK (by decide)) (inb_lt h5)) rfl rfl ?_
    exact (lr_no hs).elim
  replace hs := if_f hs c19
  refine V_tswD X 159 dX6_chute_28 (by have ec6 := sw_ne c6 (0) (by rfl); have ec7 := sw_ne c7 (1) (by rfl); have ec8 := sw_ne c8 (2) (by rfl); have ec9 := sw_ne c9 (3) (by rfl); have ec10 := sw_ne c10 (4) (by rfl); have ec12 := sw_ne c12 (5) (by rfl); have ec15 := sw_ne c15 (6) (by rfl); have ec16 := sw_ne c16 (7) (by rfl); have ec17 := sw_ne c17 (8) (by rfl); have ec18 := sw_ne c18 (9) (by rfl); have ec19 := sw_ne c19 (10) (by rfl); omega) (by decide) ?_
  refine V_aload_n X dX6_chute_159 rfl 1 rfl ?_
  refine V_get X dX6_chute_160 r_X6_10 (gm6 hK) rfl rfl ?_
  refine V_iload_n X dX6_chute_163 rfl 2 rfl ?_
  obtain ⟨q20, eq20, hs⟩ := bd_some hs
  refine V_callVs X [.int p1] dX6_chute_164 m_X6_320 v_X4_parcelsAimedAt ⟨Nat.le_of_ble_eq_true rfl, Nat.le_of_ble_eq_true rfl⟩ ⟨Nat.zero_le _, Nat.zero_le _⟩ rfl (Nat.le_of_ble_eq_true rfl) (gm4 (gmT hK (by decide))) rfl cl4 (c_X4_parcelsAimedAt (gmT hK (by decide)) eq20) ?_
  exact (lr_no hs).elim

def s_X6_station (p1 : Int32) (p2 : Int32) (S : S4) : Option ((Int32 × S4) ⊕ (Nat × S4)) := tb (s_X6_requireIndex p1 (S 4 0 0 3) S) fun Z2 => tb (s_X6_requireWhat p2 (3 : Int32) Z2) fun Z4 => gd (inb p1 3) ((if p2 = (0 : Int32) then some (.inl ((Z4 5 0 p1.toNatClampNeg 0), Z4)) else if p2 = (1 : Int32) then some (.inl ((Z4 5 0 p1.toNatClampNeg 1), Z4)) else if p2 = (2 : Int32) then (s_X5_firstWaiting 0 p1.toNatClampNeg Z4).bind fun q9 => some (.inl (q9, Z4)) else some (.inl ((Z4 5 0 p1.toNatClampNeg 2), Z4))))
set_option maxRecDepth 100000 in
set_option maxHeartbeats 4000000 in
theorem c_X6_station {l : Launch} {D : va_G} {cA : Nat → ClassId} {dm : Dm} {ad : Ad} {S : S4} {p1 : Int32} {p2 : Int32} (hK : DK dm) {out : (Int32 × S4)} (hs : s_X6_station p1 p2 S = some (.inl out)) : Ct D cA dm ad l yX6_station cX6_station 4 (some .int) 21 621 S [.ref (ad 6 0 0), .int p1, .int p2] (some (.int out.1)) out.2 := by
  refine Ct.of (by decide +kernel) (Nat.le_of_ble_eq_true rfl) [(0, .ref (ad 6 0 0)), (1, .int p1), (2, .int p2)] rfl (fun p e s m args below meth c A X hr => ?_)
  unfold s_X6_station at hs
  refine V_iload_n X dX6_station_0 rfl 1 rfl ?_
  refine V_aload_n X dX6_station_1 rfl 0 rfl ?_
  refine V_get X dX6_station_2 r_X6_10 (gm6 hK) rfl rfl ?_
  refine V_get X dX6_station_5 r_X6_61 (gm4 (gmT hK (by decide))) rfl rfl ?_
  obtain ⟨Z2, eZ2, hs⟩ := tb_l hs
  refine V_callSv X [.int p1, .int (S 4 0 0 3)] dX6_station_8 m_X6_157 t_X6_requireIndex ⟨Nat.le_of_ble_eq_true rfl, Nat.le_of_ble_eq_true rfl⟩ ⟨Nat.zero_le _, Nat.zero_le _⟩ rfl (Nat.le_of_ble_eq_true rfl) (c_X6_requireIndex  eZ2) ?_
  refine V_iload_n X dX6_station_11 rfl 2 rfl ?_
  refine V_iconst X (3 : Int32) dX6_station_12 (by decide) ?_
  obtain ⟨Z4, eZ4, hs⟩ := tb_l hs
  refine V_callSv X [.int p2, .int (3 : Int32)] dX6_station_13 m_X6_161 t_X6_requireWhat ⟨Nat.le_of_ble_eq_true rfl, Nat.le_of_ble_eq_true rfl⟩ ⟨Nat.zero_le _, Nat.zero_le _⟩ rfl (Nat.le_of_ble_eq_true rfl) (c_X6_requireWhat  eZ4) ?_
  refine V_aload_n X dX6_station_16 rfl 0 rfl ?_
  refine V_get X dX6_station_17 r_X6_10 (gm6 hK) rfl rfl ?_
  refine V_get X dX6_station_20 r_X6_205 (gm4 (gmT hK (by decide))) rfl rfl ?_
  refine V_iload_n X dX6_station_23 rfl 1 rfl ?_
  obtain ⟨h5, hs⟩ := gd_some hs
  refine V_aald X 3 rfl dX6_station_24 (gm15 (gmT hK (by decide))) rfl h5 (v := .ref (ad 5 0 p1.toNatClampNeg)) rfl ?_
  refine V_astore_n X dX6_station_25 rfl [(3, .ref (ad 5 0 p1.toNatClampNeg)), (0, .ref (ad 6 0 0)), (1, .int p1), (2, .int p2)] (by decide) rfl ?_
  refine V_iload_n X dX6_station_26 rfl 3 rfl ?_
  by_cases c6 : p2 = (0 : Int32)
  · replace hs := if_t hs c6
    refine V_tsw X 52 dX6_station_27 (0) (by rw [c6]; rfl) (by decide) (by decide) rfl (by decide) ?_
    refine V_aload_n X dX6_station_52 rfl 0 rfl ?_
    refine V_get X dX6_station_53 r_X6_323 (gm5 (gmT hK (by decide)) (inb_lt h5)) rfl rfl ?_
    obtain rfl := ll_eq hs; exact V_iret X hr dX6_station_56
  replace hs := if_f hs c6
  by_cases c7 : p2 = (1 : Int32)
  · replace hs := if_t hs c7
    refine V_tsw X 57 dX6_station_27 (1) (by rw [c7]; rfl) (by decide) (by decide) rfl (by decide) ?_
    refine V_aload_n X dX6_station_57 rfl 0 rfl ?_
    refine V_get X dX6_station_58 r_X6_324 (gm5 (gmT hK (by decide)) (inb_lt h5)) rfl rfl ?_
    obtain rfl := ll_eq hs; exact V_iret X hr dX6_station_61
  replace hs := if_f hs c7
  by_cases c8 : p2 = (2 : Int32)
  · replace hs := if_t hs c8
    refine V_tsw X 62 dX6_station_27 (2) (by rw [c8]; rfl) (by decide) (by decide) rfl (by decide) ?_
    refine V_aload_n X dX6_station_62 rfl 0 rfl ?_
    obtain ⟨q9, eq9, hs⟩ := bd_some hs
    refine V_callVs X [] dX6_station_63 m_X6_327 v_X5_firstWaiting ⟨Nat.le_of_ble_eq_true rfl, Nat.le_of_ble_eq_true rfl⟩ ⟨Nat.zero_le _, Nat.zero_le _⟩ rfl (Nat.le_of_ble_eq_true rfl) (gm5 (gmT hK (by decide)) (inb_lt h5)) rfl cl5 (c_X5_firstWaiting (gmT hK (by decide)) (inb_lt h5) eq9) ?_
    obtain rfl := ll_eq hs; exact V_iret X hr dX6_station_66
  replace hs := if_f hs c8
  refine V_tswD X 67 dX6_station_27 (by have ec6 := sw_ne c6 (0) (by rfl); have ec7 := sw_ne c7 (1) (by rfl); have ec8 := sw_ne c8 (2) (by rfl); omega) (by decide) ?_
  refine V_aload_n X dX6_station_67 rfl 0 rfl ?_
  refine V_get X dX6_station_68 r_X6_330 (gm5 (gmT hK (by decide)) (inb_lt h5)) rfl rfl ?_
  obtain rfl := ll_eq hs; exact V_iret X hr dX6_station_71
set_option maxRecDepth 100000 in
set_option maxHeartbeats 4000000 in
theorem x_X6_station {l : Launch} {D : va_G} {cA : Nat → ClassId} {dm : Dm} {ad : Ad} {S : S4} {p1 : Int32} {p2 : Int32} (hK : DK dm) (hl : l.stackTraces = false) {out : Nat × S4} (hs : s_X6_station p1 p2 S = some (.inr out)) : Cx D cA dm ad l yX6_station cX6_station 4 (some .int) 21 621 S [.ref (ad 6 0 0), .int p1, .int p2] out := by
  refine Cx.of (by decide +kernel) (Nat.le_of_ble_eq_true rfl) [(0, .ref (ad 6 0 0)), (1, .int p1), (2, .int p2)] rfl (fun p e s m args below meth c A X hr hZ hE => ?_)
  unfold s_X6_station at hs
  refine V_iload_n X dX6_station_0 rfl 1 rfl ?_
  refine V_aload_n X dX6_station_1 rfl 0 rfl ?_
  refine V_get X dX6_station_2 r_X6_10 (gm6 hK) rfl rfl ?_
  refine V_get X dX6_station_5 r_X6_61 (gm4 (gmT hK (by decide))) rfl rfl ?_
  rcases tb_r hs with ⟨Z2, eZ2, hs⟩ | hs9
  case inr => exact V_callSX X hE hZ [.int p1, .int (S 4 0 0 3)] dX6_station_8 m_X6_157 t_X6_requireIndex ⟨Nat.le_of_ble_eq_true rfl, Nat.le_of_ble_eq_true rfl⟩ ⟨by decide, by decide⟩ ⟨by decide, by decide⟩ rfl (Nat.le_of_ble_eq_true rfl) (x_X6_requireIndex  hl hs9)
  refine V_callSv X [.int p1, .int (S 4 0 0 3)] dX6_station_8 m_X6_157 t_X6_requireIndex ⟨Nat.le_of_ble_eq_true rfl, Nat.le_of_ble_eq_true rfl⟩ ⟨Nat.zero_le _, Nat.zero_le _⟩ rfl (Nat.le_of_ble_eq_true rfl) (c_X6_requireIndex  eZ2) ?_
  refine V_iload_n X dX6_station_11 rfl 2 rfl ?_
  refine V_iconst X (3 : Int32) dX6_station_12 (by decide) ?_
  rcases tb_r hs with ⟨Z4, eZ4, hs⟩ | hs9
  case inr => exact V_callSX X hE hZ [.int p2, .int (3 : Int32)] dX6_station_13 m_X6_161 t_X6_requireWhat ⟨Nat.le_of_ble_eq_true rfl, Nat.le_of_ble_eq_true rfl⟩ ⟨by decide, by decide⟩ ⟨by decide, by decide⟩ rfl (Nat.le_of_ble_eq_true rfl) (x_X6_requireWhat  hl hs9)
  refine V_callSv X [.int p2, .int (3 : Int32)] dX6_station_13 m_X6_161 t_X6_requireWhat ⟨Nat.le_of_ble_eq_true rfl, Nat.le_of_ble_eq_true rfl⟩ ⟨Nat.zero_le _, Nat.zero_le _⟩ rfl (Nat.le_of_ble_eq_true rfl) (c_X6_requireWhat  eZ4) ?_
  refine V_aload_n X dX6_station_16 rfl 0 rfl ?_
  refine V_get X dX6_station_17 r_X6_10 (gm6 hK) rfl rfl ?_
  refine V_get X dX6_station_20 r_X6_205 (gm4 (gmT hK (by decide))) rfl rfl ?_
  refine V_iload_n X dX6_station_23 rfl 1 rfl ?_
  obtain ⟨h5, hs⟩ := gd_some hs
  refine V_aald X 3 rfl dX6_station_24 (gm15 (gmT hK (by decide))) rfl h5 (v := .ref (ad 5 0 p1.toNatClampNeg)) rfl ?_
  refine V_astore_n X dX6_station_25 rfl [(3, .ref (ad 5 0 p1.toNatClampNeg)), (0, .ref (ad 6 0 0)), (1, .int p1), (2, .int p2)] (by decide) rfl ?_
  refine V_iload_n X dX6_station_26 rfl 3 rfl ?_
  by_cases c6 : p2 = (0 : Int32)
  · replace hs := if_t hs c6
    refine V_tsw X 52 dX6_station_27 (0) (by rw [c6]; rfl) (by decide) (by decide) rfl (by decide) ?_
    refine V_aload_n X dX6_station_52 rfl 0 rfl ?_
    refine V_get X dX6_station_53 r_X6_323 (gm5 (gmT hK (by decide)) (inb_lt h5)) rfl rfl ?_
    exact (lr_no hs).elim
  replace hs := if_f hs c6
  by_cases c7 : p2 = (1 : Int32)
  · replace hs := if_t hs c7
    refine V_tsw X 57 dX6_station_27 (1) (by rw [c7]; rfl) (by decide) (by decide) rfl (by decide) ?_
    refine V_aload_n X dX6_station_57 rfl 0 rfl ?_
    refine V_get X dX6_station_58 r_X6_324 (gm5 (gmT hK (by decide)) (inb_lt h5)) rfl rfl ?_
    exact (lr_no hs).elim
  replace hs := if_f hs c7
  by_cases c8 : p2 = (2 : Int32)
  · replace hs := if_t hs c8
    refine V_tsw X 62 dX6_station_27 (2) (by rw [c8]; rfl) (by decide) (by decide) rfl (by decide) ?_
    refine V_aload_n X dX6_station_62 rfl 0 rfl ?_
    obtain ⟨q9, eq9, hs⟩ := bd_some hs
    refine V_callVs X [] dX6_station_63 m_X6_327 v_X5_firstWaiting ⟨Nat.le_of_ble_eq_true rfl, Nat.le_of_ble_eq_true rfl⟩ ⟨Nat.zero_le _, Nat.zero_le _⟩ rfl (Nat.le_of_ble_eq_true rfl) (gm5 (gmT hK (by decide)) (inb_lt h5)) rfl cl5 (c_X5_firstWaiting (gmT hK (by decide)) (inb_lt h5) eq9) ?_
    exact (lr_no hs).elim
  replace hs := if_f hs c8
  refine V_tswD X 67 dX6_station_27 (by have ec6 := sw_ne c6 (0) (by rfl); have ec7 := sw_ne c7 (1) (by rfl); have ec8 := sw_ne c8 (2) (by rfl); omega) (by decide) ?_
  refine V_aload_n X dX6_station_67 rfl 0 rfl ?_
  refine V_get X dX6_station_68 r_X6_330 (gm5 (gmT hK (by decide)) (inb_lt h5)) rfl rfl ?_
  exact (lr_no hs).elim

def s_X6_count (fu : Nat) (p1 : Int32) (S : S4) : Option ((Int32 × S4) ⊕ (Nat × S4)) := tb (s_X6_requireWhat p1 (16 : Int32) S) fun Z2 => (if p1 = (0 : Int32) then some (.inl ((Z2 4 0 0 0), Z2)) else if p1 = (1 : Int32) then some (.inl ((Z2 4 0 0 1), Z2)) else if p1 = (2 : Int32) then some (.inl ((Z2 4 0 0 3), Z2)) else if p1 = (3 : Int32) then some (.inl ((Z2 4 0 0 4), Z2)) else if p1 = (4 : Int32) then some (.inl ((Z2 4 0 0 5), Z2)) else if p1 = (5 : Int32) then some (.inl ((Z2 4 0 0 6), Z2)) else if p1 = (6 : Int32) then (s_X4_waitingInStations fu 0 Z2).bind fun q10 => some (.inl (q10, Z2)) else if p1 = (7 : Int32) then (s_X4_carriedOnLoop fu 0 Z2).bind fun q12 => some (.inl (q12, Z2)) else if p1 = (8 : Int32) then some (.inl ((Z2 4 0 0 7), Z2)) else if p1 = (9 : Int32) then gd (inb (0 : Int32) 4) (some (.inl ((Z2 21 0 0 (0 : Int32).toNatClampNeg), Z2))) else if p1 = (10 : Int32) then gd (inb (1 : Int32) 4) (some (.inl ((Z2 21 0 0 (1 : Int32).toNatClampNeg), Z2))) else if p1 = (11 : Int32) then gd (inb (2 : Int32) 4) (some (.inl ((Z2 21 0 0 (2 : Int32).toNatClampNeg), Z2))) else if p1 = (12 : Int32) then gd (inb (3 : Int32) 4) (some (.inl ((Z2 21 0 0 (3 : Int32).toNatClampNeg), Z2))) else if p1 = (13 : Int32) then some (.inl ((Z2 4 0 0 8), Z2)) else if p1 = (14 : Int32) then (s_X4_jamsOfChutes fu 0 Z2).bind fun q24 => some (.inl (q24, Z2)) else if p1 = (15 : Int32) then (s_X4_bagsOfChutes fu 0 Z2).bind fun q26 => some (.inl (q26, Z2)) else (s_X4_greatestRounds fu 0 Z2).bind fun q27 => some (.inl (q27, Z2)))
set_option maxRecDepth 100000 in
set_option maxHeartbeats 4000000 in
theorem c_X6_count {l : Launch} {D : va_G} {cA : Nat → ClassId} {dm : Dm} {ad : Ad} {fu : Nat} {S : S4} {p1 : Int32} (hK : DK dm) {out : (Int32 × S4)} (hs : s_X6_count fu p1 S = some (.inl out)) : Ct D cA dm ad l yX6_count cX6_count 2 (some .int) 21 621 S [.ref (ad 6 0 0), .int p1] (some (.int out.1)) out.2 := by
  refine Ct.of (by decide +kernel) (Nat.le_of_ble_eq_true rfl) [(0, .ref (ad 6 0 0)), (1, .int p1)] rfl (fun p e s m args below meth c A X hr => ?_)
  unfold s_X6_count at hs
  refine V_iload_n X dX6_count_0 rfl 1 rfl ?_
  refine V_bipush X (16 : Int32) dX6_count_1 (by decide) ?_
  obtain ⟨Z2, eZ2, hs⟩ := tb_l hs
  refine V_callSv X [.int p1, .int (16 : Int32)] dX6_count_3 m_X6_161 t_X6_requireWhat ⟨Nat.le_of_ble_eq_true rfl, Nat.le_of_ble_eq_true rfl⟩ ⟨Nat.zero_le _, Nat.zero_le _⟩ rfl (Nat.le_of_ble_eq_true rfl) (c_X6_requireWhat  eZ2) ?_
  refine V_iload_n X dX6_count_6 rfl 1 rfl ?_
  by_cases c3 : p1 = (0 : Int32)
  · replace hs := if_t hs c3
    refine V_tsw X 84 dX6_count_7 (0) (by rw [c3]; rfl) (by decide) (by decide) rfl (by decide) ?_
    refine V_aload_n X dX6_count_84 rfl 0 rfl ?_
    refine V_get X dX6_count_85 r_X6_10 (gm6 hK) rfl rfl ?_
    refine V_get X dX6_count_88 r_X6_333 (gm4 (gmT hK (by decide))) rfl rfl ?_
    obtain rfl := ll_eq hs; exact V_iret X hr dX6_count_91
  replace hs := if_f hs c3
  by_cases c4 : p1 = (1 : Int32)
  · replace hs := if_t hs c4
    refine V_tsw X 92 dX6_count_7 (1) (by rw [c4]; rfl) (by decide) (by decide) rfl (by decide) ?_
    refine V_aload_n X dX6_count_92 rfl 0 rfl ?_
    refine V_get X dX6_count_93 r_X6_10 (gm6 hK) rfl rfl ?_
    refine V_get X dX6_count_96 r_X6_266 (gm4 (gmT hK (by decide))) rfl rfl ?_
    obtain rfl := ll_eq hs; exact V_iret X hr dX6_count_99
  replace hs := if_f hs c4
  by_cases c5 : p1 = (2 : Int32)
  · replace hs := if_t hs c5
    refine V_tsw X 100 dX6_count_7 (2) (by rw [c5]; rfl) (by decide) (by decide) rfl (by decide) ?_
    refine V_aload_n X dX6_count_100 rfl 0 rfl ?_
    refine V_get X dX6_count_101 r_X6_10 (gm6 hK) rfl rfl ?_
    refine V_get X dX6_count_104 r_X6_61 (gm4 (gmT hK (by decide))) rfl rfl ?_
    obtain rfl := ll_eq hs; exact V_iret X hr dX6_count_107
  replace hs := if_f hs c5
  by_cases c6 : p1 = (3 : Int32)
  · replace hs := if_t hs c6
    refine V_tsw X 108 dX6_count_7 (3) (by rw [c6]; rfl) (by decide) (by decide) rfl (by decide) ?_
    refine V_aload_n X dX6_count_108 rfl 0 rfl ?_
    refine V_get X dX6_count_109 r_X6_10 (gm6 hK) rfl rfl ?_
    refine V_get X dX6_count_112 r_X6_82 (gm4 (gmT hK (by decide))) rfl rfl ?_
    obtain rfl := ll_eq hs; exact V_iret X hr dX6_count_115
  replace hs := if_f hs c6
  by_cases c7 : p1 = (4 : Int32)
  · replace hs := if_t hs c7
    refine V_tsw X 116 dX6_count_7 (4) (by rw [c7]; rfl) (by decide) (by decide) rfl (by decide) ?_
    refine V_aload_n X dX6_count_116 rfl 0 rfl ?_
    refine V_get X dX6_count_117 r_X6_10 (gm6 hK) rfl rfl ?_
    refine V_get X dX6_count_120 r_X6_142 (gm4 (gmT hK (by decide))) rfl rfl ?_
    obtain rfl := ll_eq hs; exact V_iret X hr dX6_count_123
  replace hs := if_f hs c7
  by_cases c8 : p1 = (5 : Int32)
  · replace hs := if_t hs c8
    refine V_tsw X 124 dX6_count_7 (5) (by rw [c8]; rfl) (by decide) (by decide) rfl (by decide) ?_
    refine V_aload_n X dX6_count_124 rfl 0 rfl ?_
    refine V_get X dX6_count_125 r_X6_10 (gm6 hK) rfl rfl ?_
    refine V_get X dX6_count_128 r_X6_44 (gm4 (gmT hK (by decide))) rfl rfl ?_
    obtain rfl := ll_eq hs; exact V_iret X hr dX6_count_131
  replace hs := if_f hs c8
  by_cases c9 : p1 = (6 : Int32)
  · replace hs := if_t hs c9
    refine V_tsw X 132 dX6_count_7 (6) (by rw [c9]; rfl) (by decide) (by decide) rfl (by decide) ?_
    refine V_aload_n X dX6_count_132 rfl 0 rfl ?_
    refine V_get X dX6_count_133 r_X6_10 (gm6 hK) rfl rfl ?_
    obtain ⟨q10, eq10, hs⟩ := bd_some hs
    refine V_callVs X [] dX6_count_136 m_X6_336 v_X4_waitingInStations ⟨Nat.le_of_ble_eq_true rfl, Nat.le_of_ble_eq_true rfl⟩ ⟨Nat.zero_le _, Nat.zero_le _⟩ rfl (Nat.le_of_ble_eq_true rfl) (gm4 (gmT hK (by decide))) rfl cl4 (c_X4_waitingInStations (gmT hK (by decide)) eq10) ?_
    obtain rfl := ll_eq hs; exact V_iret X hr dX6_count_139
  replace hs := if_f hs c9
  by_cases c11 : p1 = (7 : Int32)
  · replace hs := if_t hs c11
    refine V_tsw X 140 dX6_count_7 (7) (by rw [c11]; rfl) (by decide) (by decide) rfl (by decide) ?_
    refine V_aload_n X dX6_count_140 rfl 0 rfl ?_
    refine V_get X dX6_count_141 r_X6_10 (gm6 hK) rfl rfl ?_
    obtain ⟨q12, eq12, hs⟩ := bd_some hs
    refine V_callVs X [] dX6_count_144 m_X6_339 v_X4_carriedOnLoop ⟨Nat.le_of_ble_eq_true rfl, Nat.le_of_ble_eq_true rfl⟩ ⟨Nat.zero_le _, Nat.zero_le _⟩ rfl (Nat.le_of_ble_eq_true rfl) (gm4 (gmT hK (by decide))) rfl cl4 (c_X4_carriedOnLoop (gmT hK (by decide)) eq12) ?_
    obtain rfl := ll_eq hs; exact V_iret X hr dX6_count_147
  replace hs := if_f hs c11
  by_cases c13 : p1 = (8 : Int32)
  · replace hs := if_t hs c13
    refine V_tsw X 148 dX6_count_7 (8) (by rw [c13]; rfl) (by decide) (by decide) rfl (by decide) ?_
    refine V_aload_n X dX6_count_148 rfl 0 rfl ?_
    refine V_get X dX6_count_149 r_X6_10 (gm6 hK) rfl rfl ?_
    refine V_get X dX6_count_152 r_X6_277 (gm4 (gmT hK (by decide))) rfl rfl ?_
    obtain rfl := ll_eq hs; exact V_iret X hr dX6_count_155
  replace hs := if_f hs c13
  by_cases c14 : p1 = (9 : Int32)
  · replace hs := if_t hs c14
    refine V_tsw X 156 dX6_count_7 (9) (by rw [c14]; rfl) (by decide) (by decide) rfl (by decide) ?_
    refine V_aload_n X dX6_count_156 rfl 0 rfl ?_
    refine V_get X dX6_count_157 r_X6_10 (gm6 hK) rfl rfl ?_
    refine V_get X dX6_count_160 r_X6_342 (gm4 (gmT hK (by decide))) rfl rfl ?_
    refine V_iconst X (0 : Int32) dX6_count_163 (by decide) ?_
    obtain ⟨h15, hs⟩ := gd_some hs
    refine V_iald X dX6_count_164 (gm21 (gmT hK (by decide))) rfl h15 ?_
    obtain rfl := ll_eq hs; exact V_iret X hr dX6_count_165
  replace hs := if_f hs c14
  by_cases c16 : p1 = (10 : Int32)
  · replace hs := if_t hs c16
    refine V_tsw X 166 dX6_count_7 (10) (by rw [c16]; rfl) (by decide) (by decide) rfl (by decide) ?_
    refine V_aload_n X dX6_count_166 rfl 0 rfl ?_
    refine V_get X dX6_count_167 r_X6_10 (gm6 hK) rfl rfl ?_
    refine V_get X dX6_count_170 r_X6_342 (gm4 (gmT hK (by decide))) rfl rfl ?_
    refine V_iconst X (1 : Int32) dX6_count_173 (by decide) ?_
    obtain ⟨h17, hs⟩ := gd_some hs
    refine V_iald X dX6_count_174 (gm21 (gmT hK (by decide))) rfl h17 ?_
    obtain rfl := ll_eq hs; exact V_iret X hr dX6_count_175
  replace hs := if_f hs c16
  by_cases c18 : p1 = (11 : Int32)
  · replace hs := if_t hs c18
    refine V_tsw X 176 dX6_count_7 (11) (by rw [c18]; rfl) (by decide) (by decide) rfl (by decide) ?_
    refine V_aload_n X dX6_count_176 rfl 0 rfl ?_
    refine V_get X dX6_count_177 r_X6_10 (gm6 hK) rfl rfl ?_
    refine V_get X dX6_count_180 r_X6_342 (gm4 (gmT hK (by decide))) rfl rfl ?_
    refine V_iconst X (2 : Int32) dX6_count_183 (by decide) ?_
    obtain ⟨h19, hs⟩ := gd_some hs
    refine V_iald X dX6_count_184 (gm21 (gmT hK (by decide))) rfl h19 ?_
    obtain rfl := ll_eq hs; exact V_iret X hr dX6_count_185
  replace hs := if_f hs c18
  by_cases c20 : p1 = (12 : Int32)
  · replace hs := if_t hs c20
    refine V_tsw X 186 dX6_count_7 (12) (by rw [c20]; rfl) (by decide) (by decide) rfl (by decide) ?_
    refine V_aload_n X dX6_count_186 rfl 0 rfl ?_
    refine V_get X dX6_count_187 r_X6_10 (gm6 hK) rfl rfl ?_
    refine V_get X dX6_count_190 r_X6_342 (gm4 (gmT hK (by decide))) rfl rfl ?_
    refine V_iconst X (3 : Int32) dX6_count_193 (by decide) ?_
    obtain ⟨h21, hs⟩ := gd_some hs
    refine V_iald X dX6_count_194 (gm21 (gmT hK (by decide))) rfl h21 ?_
    obtain rfl := ll_eq hs; exact V_iret X hr dX6_count_195
  replace hs := if_f hs c20
  by_cases c22 : p1 = (13 : Int32)
  · replace hs := if_t hs c22
    refine V_tsw X 196 dX6_count_7 (13) (by rw [c22]; rfl) (by decide) (by decide) rfl (by decide) ?_
    refine V_aload_n X dX6_count_196 rfl 0 rfl ?_
    refine V_get X dX6_count_197 r_X6_10 (gm6 hK) rfl rfl ?_
    refine V_get X dX6_count_200 r_X6_345 (gm4 (gmT hK (by decide))) rfl rfl ?_
    obtain rfl := ll_eq hs; exact V_iret X hr dX6_count_203
  replace hs := if_f hs c22
  by_cases c23 : p1 = (14 : Int32)
  · replace hs := if_t hs c23
    refine V_tsw X 204 dX6_count_7 (14) (by rw [c23]; rfl) (by decide) (by decide) rfl (by decide) ?_
    refine V_aload_n X dX6_count_204 rfl 0 rfl ?_
    refine V_get X dX6_count_205 r_X6_10 (gm6 hK) rfl rfl ?_
    obtain ⟨q24, eq24, hs⟩ := bd_some hs
    refine V_callVs X [] dX6_count_208 m_X6_348 v_X4_jamsOfChutes ⟨Nat.le_of_ble_eq_true rfl, Nat.le_of_ble_eq_true rfl⟩ ⟨Nat.zero_le _, Nat.zero_le _⟩ rfl (Nat.le_of_ble_eq_true rfl) (gm4 (gmT hK (by decide))) rfl cl4 (c_X4_jamsOfChutes (gmT hK (by decide)) eq24) ?_
    obtain rfl := ll_eq hs; exact V_iret X hr dX6_count_211
  replace hs := if_f hs c23
  by_cases c25 : p1 = (15 : Int32)
  · replace hs := if_t hs c25
    refine V_tsw X 212 dX6_count_7 (15) (by rw [c25]; rfl) (by decide) (by decide) rfl (by decide) ?_
    refine V_aload_n X dX6_count_212 rfl 0 rfl ?_
    refine V_get X dX6_count_213 r_X6_10 (gm6 hK) rfl rfl ?_
    obtain ⟨q26, eq26, hs⟩ := bd_some hs
    refine V_callVs X [] dX6_count_216 m_X6_351 v_X4_bagsOfChutes ⟨Nat.le_of_ble_eq_true rfl, Nat.le_of_ble_eq_true rfl⟩ ⟨Nat.zero_le _, Nat.zero_le _⟩ rfl (Nat.le_of_ble_eq_true rfl) (gm4 (gmT hK (by decide))) rfl cl4 (c_X4_bagsOfChutes (gmT hK (by decide)) eq26) ?_
    obtain rfl := ll_eq hs; exact V_iret X hr dX6_count_219
  replace hs := if_f hs c25
  refine V_tswD X 220 dX6_count_7 (by have ec3 := sw_ne c3 (0) (by rfl); have ec4 := sw_ne c4 (1) (by rfl); have ec5 := sw_ne c5 (2) (by rfl); have ec6 := sw_ne c6 (3) (by rfl); have ec7 := sw_ne c7 (4) (by rfl); have ec8 := sw_ne c8 (5) (by rfl); have ec9 := sw_ne c9 (6) (by rfl); have ec11 := sw_ne c11 (7) (by rfl); have ec13 := sw_ne c13 (8) (by rfl); have ec14 := sw_ne c14 (9) (by rfl); have ec16 := sw_ne c16 (10) (by rfl); have ec18 := sw_ne c18 (11) (by rfl); have ec20 := sw_ne c20 (12) (by rfl); have ec22 := sw_ne c22 (13) (by rfl); have ec23 := sw_ne c23 (14) (by rfl); have ec25 := sw_ne c25 (15) (by rfl); omega) (by decide) ?_
  refine V_aload_n X dX6_count_220 rfl 0 rfl ?_
  refine V_get X dX6_count_221 r_X6_10 (gm6 hK) rfl rfl ?_
  obtain ⟨q27, eq27, hs⟩ := bd_some hs
  refine V_callVs X [] dX6_count_224 m_X6_354 v_X4_greatestRounds ⟨Nat.le_of_ble_eq_true rfl, Nat.le_of_ble_eq_true rfl⟩ ⟨Nat.zero_le _, Nat.zero_le _⟩ rfl (Nat.le_of_ble_eq_true rfl) (gm4 (gmT hK (by decide))) rfl cl4 (c_X4_greatestRounds (gmT hK (by decide)) eq27) ?_
  obtain rfl := ll_eq hs; exact V_iret X hr dX6_count_227
set_option maxRecDepth 100000 in
set_option maxHeartbeats 4000000 in
theorem x_X6_count {l : Launch} {D : va_G} {cA : Nat → ClassId} {dm : Dm} {ad : Ad} {fu : Nat} {S : S4} {p1 : Int32} (hK : DK dm) (hl : l.stackTraces = false) {out : Nat × S4} (hs : s_X6_count fu p1 S = some (.inr out)) : Cx D cA dm ad l yX6_count cX6_count 2 (some .int) 21 621 S [.ref (ad 6 0 0), .int p1] out := by
  refine Cx.of (by decide +kernel) (Nat.le_of_ble_eq_true rfl) [(0, .ref (ad 6 0 0)), (1, .int p1)] rfl (fun p e s m args below meth c A X hr hZ hE => ?_)
  unfold s_X6_count at hs
  refine V_iload_n X dX6_count_0 rfl 1 rfl ?_
  refine V_bipush X (16 : Int32) dX6_count_1 (by decide) ?_
  rcases tb_r hs with ⟨Z2, eZ2, hs⟩ | hs9
  case inr => exact V_callSX X hE hZ [.int p1, .int (16 : Int32)] dX6_count_3 m_X6_161 t_X6_requireWhat ⟨Nat.le_of_ble_eq_true rfl, Nat.le_of_ble_eq_true rfl⟩ ⟨by decide, by decide⟩ ⟨by decide, by decide⟩ rfl (Nat.le_of_ble_eq_true rfl) (x_X6_requireWhat  hl hs9)
  refine V_callSv X [.int p1, .int (16 : Int32)] dX6_count_3 m_X6_161 t_X6_requireWhat ⟨Nat.le_of_ble_eq_true rfl, Nat.le_of_ble_eq_true rfl⟩ ⟨Nat.zero_le _, Nat.zero_le _⟩ rfl (Nat.le_of_ble_eq_true rfl) (c_X6_requireWhat  eZ2) ?_
  refine V_iload_n X dX6_count_6 rfl 1 rfl ?_
  by_cases c3 : p1 = (0 : Int32)
  · replace hs := if_t hs c3
    refine V_tsw X 84 dX6_count_7 (0) (by rw [c3]; rfl) (by decide) (by decide) rfl (by decide) ?_
    refine V_aload_n X dX6_count_84 rfl 0 rfl ?_
    refine V_get X dX6_count_85 r_X6_10 (gm6 hK) rfl rfl ?_
    refine V_get X dX6_count_88 r_X6_333 (gm4 (gmT hK (by decide))) rfl rfl ?_
    exact (lr_no hs).elim
  replace hs := if_f hs c3
  by_cases c4 : p1 = (1 : Int32)
  · replace hs := if_t hs c4
    refine V_tsw X 92 dX6_count_7 (1) (by rw [c4]; rfl) (by decide) (by decide) rfl (by decide) ?_
    refine V_aload_n X dX6_count_92 rfl 0 rfl ?_
    refine V_get X dX6_count_93 r_X6_10 (gm6 hK) rfl rfl ?_
    refine V_get X dX6_count_96 r_X6_266 (gm4 (gmT hK (by decide))) rfl rfl ?_
    exact (lr_no hs).elim
  replace hs := if_f hs c4
  by_cases c5 : p1 = (2 : Int32)
  · replace hs := if_t hs c5
    refine V_tsw X 100 dX6_count_7 (2) (by rw [c5]; rfl) (by decide) (by decide) rfl (by decide) ?_
    refine V_aload_n X dX6_count_100 rfl 0 rfl ?_
    refine V_get X dX6_count_101 r_X6_10 (gm6 hK) rfl rfl ?_
    refine V_get X dX6_count_104 r_X6_61 (gm4 (gmT hK (by decide))) rfl rfl ?_
    exact (lr_no hs).elim
  replace hs := if_f hs c5
  by_cases c6 : p1 = (3 : Int32)
  · replace hs := if_t hs c6
    refine V_tsw X 108 dX6_count_7 (3) (by rw [c6]; rfl) (by decide) (by decide) rfl (by decide) ?_
    refine V_aload_n X dX6_count_108 rfl 0 rfl ?_
    refine V_get X dX6_count_109 r_X6_10 (gm6 hK) rfl rfl ?_
    refine V_get X dX6_count_112 r_X6_82 (gm4 (gmT hK (by decide))) rfl rfl ?_
    exact (lr_no hs).elim
  replace hs := if_f hs c6
  by_cases c7 : p1 = (4 : Int32)
  · replace hs := if_t hs c7
    refine V_tsw X 116 dX6_count_7 (4) (by rw [c7]; rfl) (by decide) (by decide) rfl (by decide) ?_
    refine V_aload_n X dX6_count_116 rfl 0 rfl ?_
    refine V_get X dX6_count_117 r_X6_10 (gm6 hK) rfl rfl ?_
    refine V_get X dX6_count_120 r_X6_142 (gm4 (gmT hK (by decide))) rfl rfl ?_
    exact (lr_no hs).elim
  replace hs := if_f hs c7
  by_cases c8 : p1 = (5 : Int32)
  · replace hs := if_t hs c8
    refine V_tsw X 124 dX6_count_7 (5) (by rw [c8]; rfl) (by decide) (by decide) rfl (by decide) ?_
    refine V_aload_n X dX6_count_124 rfl 0 rfl ?_
    refine V_get X dX6_count_125 r_X6_10 (gm6 hK) rfl rfl ?_
    refine V_get X dX6_count_128 r_X6_44 (gm4 (gmT hK (by decide))) rfl rfl ?_
    exact (lr_no hs).elim
  replace hs := if_f hs c8
  by_cases c9 : p1 = (6 : Int32)
  · replace hs := if_t hs c9
    refine V_tsw X 132 dX6_count_7 (6) (by rw [c9]; rfl) (by decide) (by decide) rfl (by decide) ?_
    refine V_aload_n X dX6_count_132 rfl 0 rfl ?_
    refine V_get X dX6_count_133 r_X6_10 (gm6 hK) rfl rfl ?_
    obtain ⟨q10, eq10, hs⟩ := bd_some hs
    refine V_callVs X [] dX6_count_136 m_X6_336 v_X4_waitingInStations ⟨Nat.le_of_ble_eq_true rfl, Nat.le_of_ble_eq_true rfl⟩ ⟨Nat.zero_le _, Nat.zero_le _⟩ rfl (Nat.le_of_ble_eq_true rfl) (gm4 (gmT hK (by decide))) rfl cl4 (c_X4_waitingInStations (gmT hK (by decide)) eq10) ?_
    exact (lr_no hs).elim
  replace hs := if_f hs c9
  by_cases c11 : p1 = (7 : Int32)
  · replace hs := if_t hs c11
    refine V_tsw X 140 dX6_count_7 (7) (by rw [c11]; rfl) (by decide) (by decide) rfl (by decide) ?_
    refine V_aload_n X dX6_count_140 rfl 0 rfl ?_
    refine V_get X dX6_count_141 r_X6_10 (gm6 hK) rfl rfl ?_
    obtain ⟨q12, eq12, hs⟩ := bd_some hs
    refine V_callVs X [] dX6_count_144 m_X6_339 v_X4_carriedOnLoop ⟨Nat.le_of_ble_eq_true rfl, Nat.le_of_ble_eq_true rfl⟩ ⟨Nat.zero_le _, Nat.zero_le _⟩ rfl (Nat.le_of_ble_eq_true rfl) (gm4 (gmT hK (by decide))) rfl cl4 (c_X4_carriedOnLoop (gmT hK (by decide)) eq12) ?_
    exact (lr_no hs).elim
  replace hs := if_f hs c11
  by_cases c13 : p1 = (8 : Int32)
  · replace hs := if_t hs c13
    refine V_tsw X 148 dX6_count_7 (8) (by rw [c13]; rfl) (by decide) (by decide) rfl (by decide) ?_
    refine V_aload_n X dX6_count_148 rfl 0 rfl ?_
    refine V_get X dX6_count_149 r_X6_10 (gm6 hK) rfl rfl ?_
    refine V_get X dX6_count_152 r_X6_277 (gm4 (gmT hK (by decide))) rfl rfl ?_
    exact (lr_no hs).elim
  replace hs := if_f hs c13
  by_cases c14 : p1 = (9 : Int32)
  · replace hs := if_t hs c14
    refine V_tsw X 156 dX6_count_7 (9) (by rw [c14]; rfl) (by decide) (by decide) rfl (by decide) ?_
    refine V_aload_n X dX6_count_156 rfl 0 rfl ?_
    refine V_get X dX6_count_157 r_X6_10 (gm6 hK) rfl rfl ?_
    refine V_get X dX6_count_160 r_X6_342 (gm4 (gmT hK (by decide))) rfl rfl ?_
    refine V_iconst X (0 : Int32) dX6_count_163 (by decide) ?_
    obtain ⟨h15, hs⟩ := gd_some hs
    refine V_iald X dX6_count_164 (gm21 (gmT hK (by decide))) rfl h15 ?_
    exact (lr_no hs).elim
  replace hs := if_f hs c14
  by_cases c16 : p1 = (10 : Int32)
  · replace hs := if_t hs c16
    refine V_tsw X 166 dX6_count_7 (10) (by rw [c16]; rfl) (by decide) (by decide) rfl (by decide) ?_
    refine V_aload_n X dX6_count_166 rfl 0 rfl ?_
    refine V_get X dX6_count_167 r_X6_10 (gm6 hK) rfl rfl ?_
    refine V_get X dX6_count_170 r_X6_342 (gm4 (gmT hK (by decide))) rfl rfl ?_
    refine V_iconst X (1 : Int32) dX6_count_173 (by decide) ?_
    obtain ⟨h17, hs⟩ := gd_some hs
    refine V_iald X dX6_count_174 (gm21 (gmT hK (by decide))) rfl h17 ?_
    exact (lr_no hs).elim
  replace hs := if_f hs c16
  by_cases c18 : p1 = (11 : Int32)
  · replace hs := if_t hs c18
    refine V_tsw X 176 dX6_count_7 (11) (by rw [c18]; rfl) (by decide) (by decide) rfl (by decide) ?_
    refine V_aload_n X dX6_count_176 rfl 0 rfl ?_
    refine V_get X dX6_count_177 r_X6_10 (gm6 hK) rfl rfl ?_
    refine V_get X dX6_count_180 r_X6_342 (gm4 (gmT hK (by decide))) rfl rfl ?_
    refine V_iconst X (2 : Int32) dX6_count_183 (by decide) ?_
    obtain ⟨h19, hs⟩ := gd_some hs
    refine V_iald X dX6_count_184 (gm21 (gmT hK (by decide))) rfl h19 ?_
    exact (lr_no hs).elim
  replace hs := if_f hs c18
  by_cases c20 : p1 = (12 : Int32)
  · replace hs := if_t hs c20
    refine V_tsw X 186 dX6_count_7 (12) (by rw [c20]; rfl) (by decide) (by decide) rfl (by decide) ?_
    refine V_aload_n X dX6_count_186 rfl 0 rfl ?_
    refine V_get X dX6_count_187 r_X6_10 (gm6 hK) rfl rfl ?_
    refine V_get X dX6_count_190 r_X6_342 (gm4 (gmT hK (by decide))) rfl rfl ?_
    refine V_iconst X (3 : Int32) dX6_count_193 (by decide) ?_
    obtain ⟨h21, hs⟩ := gd_some hs
    refine V_iald X dX6_count_194 (gm21 (gmT hK (by decide))) rfl h21 ?_
    exact (lr_no hs).elim
  replace hs := if_f hs c20
  by_cases c22 : p1 = (13 : Int32)
  · replace hs := if_t hs c22
    refine V_tsw X 196 dX6_count_7 (13) (by rw [c22]; rfl) (by decide) (by decide) rfl (by decide) ?_
    refine V_aload_n X dX6_count_196 rfl 0 rfl ?_
    refine V_get X dX6_count_197 r_X6_10 (gm6 hK) rfl rfl ?_
    refine V_get X dX6_count_200 r_X6_345 (gm4 (gmT hK (by decide))) rfl rfl ?_
    exact (lr_no hs).elim
  replace hs := if_f hs c22
  by_cases c23 : p1 = (14 : Int32)
  · replace hs := if_t hs c23
    refine V_tsw X 204 dX6_count_7 (14) (by rw [c23]; rfl) (by decide) (by decide) rfl (by decide) ?_
    refine V_aload_n X dX6_count_204 rfl 0 rfl ?_
    refine V_get X dX6_count_205 r_X6_10 (gm6 hK) rfl rfl ?_
    obtain ⟨q24, eq24, hs⟩ := bd_some hs
    refine V_callVs X [] dX6_count_208 m_X6_348 v_X4_jamsOfChutes ⟨Nat.le_of_ble_eq_true rfl, Nat.le_of_ble_eq_true rfl⟩ ⟨Nat.zero_le _, Nat.zero_le _⟩ rfl (Nat.le_of_ble_eq_true rfl) (gm4 (gmT hK (by decide))) rfl cl4 (c_X4_jamsOfChutes (gmT hK (by decide)) eq24) ?_
    exact (lr_no hs).elim
  replace hs := if_f hs c23
  by_cases c25 : p1 = (15 : Int32)
  · replace hs := if_t hs c25
    refine V_tsw X 212 dX6_count_7 (15) (by rw [c25]; rfl) (by decide) (by decide) rfl (by decide) ?_
    refine V_aload_n X dX6_count_212 rfl 0 rfl ?_
    refine V_get X dX6_count_213 r_X6_10 (gm6 hK) rfl rfl ?_
    obtain ⟨q26, eq26, hs⟩ := bd_some hs
    refine V_callVs X [] dX6_count_216 m_X6_351 v_X4_bagsOfChutes ⟨Nat.le_of_ble_eq_true rfl, Nat.le_of_ble_eq_true rfl⟩ ⟨Nat.zero_le _, Nat.zero_le _⟩ rfl (Nat.le_of_ble_eq_true rfl) (gm4 (gmT hK (by decide))) rfl cl4 (c_X4_bagsOfChutes (gmT hK (by decide)) eq26) ?_
    exact (lr_no hs).elim
  replace hs := if_f hs c25
  refine V_tswD X 220 dX6_count_7 (by have ec3 := sw_ne c3 (0) (by rfl); have ec4 := sw_ne c4 (1) (by rfl); have ec5 := sw_ne c5 (2) (by rfl); have ec6 := sw_ne c6 (3) (by rfl); have ec7 := sw_ne c7 (4) (by rfl); have ec8 := sw_ne c8 (5) (by rfl); have ec9 := sw_ne c9 (6) (by rfl); have ec11 := sw_ne c11 (7) (by rfl); have ec13 := sw_ne c13 (8) (by rfl); have ec14 := sw_ne c14 (9) (by rfl); have ec16 := sw_ne c16 (10) (by rfl); have ec18 := sw_ne c18 (11) (by rfl); have ec20 := sw_ne c20 (12) (by rfl); have ec22 := sw_ne c22 (13) (by rfl); have ec23 := sw_ne c23 (14) (by rfl); have ec25 := sw_ne c25 (15) (by rfl); omega) (by decide) ?_
  refine V_aload_n X dX6_count_220 rfl 0 rfl ?_
  refine V_get X dX6_count_221 r_X6_10 (gm6 hK) rfl rfl ?_
  obtain ⟨q27, eq27, hs⟩ := bd_some hs
  refine V_callVs X [] dX6_count_224 m_X6_354 v_X4_greatestRounds ⟨Nat.le_of_ble_eq_true rfl, Nat.le_of_ble_eq_true rfl⟩ ⟨Nat.zero_le _, Nat.zero_le _⟩ rfl (Nat.le_of_ble_eq_true rfl) (gm4 (gmT hK (by decide))) rfl cl4 (c_X4_greatestRounds (gmT hK (by decide)) eq27) ?_
  exact (lr_no hs).elim

def s_X6_meanRounds (fu : Nat)  (S : S4) : Option (((Int32 × Int32) × S4) ⊕ (Nat × S4)) := (if (S 4 0 0 7) = 0 then some (.inr (6, S)) else (s_X4_roundsOfDropped fu 0 S).bind fun q2 => gd (¬ (S 4 0 0 7) = 0) (some (.inl ((q2, (S 4 0 0 7)), S))))
set_option maxRecDepth 100000 in
set_option maxHeartbeats 4000000 in
theorem c_X6_meanRounds {l : Launch} {D : va_G} {cA : Nat → ClassId} {dm : Dm} {ad : Ad} {fu : Nat} {S : S4} (hK : DK dm) {out : ((Int32 × Int32) × S4)} (hs : s_X6_meanRounds fu S = some (.inl out)) : Ct D cA dm ad l yX6_meanRounds cX6_meanRounds 1 (some .double) 20 600 S [.ref (ad 6 0 0)] (some (.double (dv out.1.1 out.1.2))) out.2 := by
  refine Ct.of (by decide +kernel) (Nat.le_of_ble_eq_true rfl) [(0, .ref (ad 6 0 0))] rfl (fun p e s m args below meth c A X hr => ?_)
  unfold s_X6_meanRounds at hs
  refine V_aload_n X dX6_meanRounds_0 rfl 0 rfl ?_
  refine V_get X dX6_meanRounds_1 r_X6_10 (gm6 hK) rfl rfl ?_
  refine V_get X dX6_meanRounds_4 r_X6_277 (gm4 (gmT hK (by decide))) rfl rfl ?_
  refine V_if_ne X 21 dX6_meanRounds_7 (by decide) (fun c1 => ?_) (fun c1 => ?_)
  · replace hs := if_f hs c1
    refine V_aload_n X dX6_meanRounds_21 rfl 0 rfl ?_
    refine V_get X dX6_meanRounds_22 r_X6_10 (gm6 hK) rfl rfl ?_
    obtain ⟨q2, eq2, hs⟩ := bd_some hs
    refine V_callVs X [] dX6_meanRounds_25 m_X6_362 v_X4_roundsOfDropped ⟨Nat.le_of_ble_eq_true rfl, Nat.le_of_ble_eq_true rfl⟩ ⟨Nat.zero_le _, Nat.zero_le _⟩ rfl (Nat.le_of_ble_eq_true rfl) (gm4 (gmT hK (by decide))) rfl cl4 (c_X4_roundsOfDropped (gmT hK (by decide)) eq2) ?_
    refine V_i2d X dX6_meanRounds_28 ?_
    refine V_aload_n X dX6_meanRounds_29 rfl 0 rfl ?_
    refine V_get X dX6_meanRounds_30 r_X6_10 (gm6 hK) rfl rfl ?_
    refine V_get X dX6_meanRounds_33 r_X6_277 (gm4 (gmT hK (by decide))) rfl rfl ?_
    refine V_i2d X dX6_meanRounds_36 ?_
    obtain ⟨h3, hs⟩ := gd_some hs
    refine V_ddiv X h3 dX6_meanRounds_37 ?_
    obtain rfl := ll_eq hs; exact V_dret X hr (dv_q h3) dX6_meanRounds_38
  · replace hs := if_t hs c1
    exact (rl_no hs).elim
set_option maxRecDepth 100000 in
set_option maxHeartbeats 4000000 in
theorem x_X6_meanRounds {l : Launch} {D : va_G} {cA : Nat → ClassId} {dm : Dm} {ad : Ad} {fu : Nat} {S : S4} (hK : DK dm) (hl : l.stackTraces = false) {out : Nat × S4} (hs : s_X6_meanRounds fu S = some (.inr out)) : Cx D cA dm ad l yX6_meanRounds cX6_meanRounds 1 (some .double) 20 600 S [.ref (ad 6 0 0)] out := by
  refine Cx.of (by decide +kernel) (Nat.le_of_ble_eq_true rfl) [(0, .ref (ad 6 0 0))] rfl (fun p e s m args below meth c A X hr hZ hE => ?_)
  unfold s_X6_meanRounds at hs
  refine V_aload_n X dX6_meanRounds_0 rfl 0 rfl ?_
  refine V_get X dX6_meanRounds_1 r_X6_10 (gm6 hK) rfl rfl ?_
  refine V_get X dX6_meanRounds_4 r_X6_277 (gm4 (gmT hK (by decide))) rfl rfl ?_
  refine V_if_ne X 21 dX6_meanRounds_7 (by decide) (fun c1 => ?_) (fun c1 => ?_)
  · replace hs := if_f hs c1
    refine V_aload_n X dX6_meanRounds_21 rfl 0 rfl ?_
    refine V_get X dX6_meanRounds_22 r_X6_10 (gm6 hK) rfl rfl ?_
    obtain ⟨q2, eq2, hs⟩ := bd_some hs
    refine V_callVs X [] dX6_meanRounds_25 m_X6_362 v_X4_roundsOfDropped ⟨Nat.le_of_ble_eq_true rfl, Nat.le_of_ble_eq_true rfl⟩ ⟨Nat.zero_le _, Nat.zero_le _⟩ rfl (Nat.le_of_ble_eq_true rfl) (gm4 (gmT hK (by decide))) rfl cl4 (c_X4_roundsOfDropped (gmT hK (by decide)) eq2) ?_
    refine V_i2d X dX6_meanRounds_28 ?_
    refine V_aload_n X dX6_meanRounds_29 rfl 0 rfl ?_
    refine V_get X dX6_meanRounds_30 r_X6_10 (gm6 hK) rfl rfl ?_
    refine V_get X dX6_meanRounds_33 r_X6_277 (gm4 (gmT hK (by decide))) rfl rfl ?_
    refine V_i2d X dX6_meanRounds_36 ?_
    obtain ⟨h3, hs⟩ := gd_some hs
    refine V_ddiv X h3 dX6_meanRounds_37 ?_
    exact (lr_no hs).elim
  · replace hs := if_t hs c1
    obtain rfl := rr_eq hs
    exact V_throwSW X hE hl hZ tw_6 (text := "no parcel was dropped") (by decide +kernel) dX6_meanRounds_10 dX6_meanRounds_13 dX6_meanRounds_14 dX6_meanRounds_17 dX6_meanRounds_20 (Nat.le_of_ble_eq_true rfl) ⟨by decide, by decide, by decide, by decide⟩ ⟨by decide, by decide⟩

def s_X6_foresee_L43 (np : Nat) (fu : Nat) (p1 : Int32) (p2 : Int32) (p3 : Int32) : Nat → Int32 → S4 → Option ((Int32 × S4) ⊕ (Nat × S4))
  | 0, _, _ => none
  | f43+1, v5, Z8 => (if p2 ≤ v5 then (if (Z8 1 1 p1.toNatClampNeg 4) = (2 : Int32) then (if p3 = 0 then some (.inl ((Z8 1 1 p1.toNatClampNeg 5), Z8)) else some (.inl ((Z8 1 1 p1.toNatClampNeg 9), Z8))) else some (.inr (4, Z8))) else (if (Z8 1 1 p1.toNatClampNeg 4) = (2 : Int32) then (if (Z8 1 1 p1.toNatClampNeg 4) = (2 : Int32) then (if p3 = 0 then some (.inl ((Z8 1 1 p1.toNatClampNeg 5), Z8)) else some (.inl ((Z8 1 1 p1.toNatClampNeg 9), Z8))) else some (.inr (4, Z8))) else (s_X4_passTick np fu 1 Z8).bind fun Z16 => s_X6_foresee_L43 np fu p1 p2 p3 f43 (v5 + (1 : Int32)) Z16))
def s_X6_foresee (np : Nat) (fu : Nat) (p1 : Int32) (p2 : Int32) (p3 : Int32) (S : S4) : Option ((Int32 × S4) ⊕ (Nat × S4)) := tb (s_X6_requireIndex p1 (S 4 0 0 6) S) fun Z2 => tb (s_X6_requireTicks p2 (200 : Int32) Z2) fun Z4 => (s_X4_copyFrom np fu 1 0 Z4).bind fun Z6 => gd (inb p1 60) (s_X6_foresee_L43 np fu p1 p2 p3 fu (0 : Int32) Z6)
set_option maxRecDepth 100000 in
set_option maxHeartbeats 4000000 in
theorem c_X6_foresee {l : Launch} {D : va_G} {cA : Nat → ClassId} {dm : Dm} {ad : Ad} {np : Nat} {fu : Nat} {S : S4} {p1 : Int32} {p2 : Int32} {p3 : Int32} (hK : DK dm) (hnp : ∀ i, i < np → DP dm i) {out : (Int32 × S4)} (hs : s_X6_foresee np fu p1 p2 p3 S = some (.inl out)) : Ct D cA dm ad l yX6_foresee cX6_foresee 6 (some .int) 21 621 S [.ref (ad 6 0 0), .int p1, .int p2, .int p3] (some (.int out.1)) out.2 := by
  refine Ct.of (by decide +kernel) (Nat.le_of_ble_eq_true rfl) [(0, .ref (ad 6 0 0)), (1, .int p1), (2, .int p2), (3, .int p3)] rfl (fun p e s m args below meth c A X hr => ?_)
  unfold s_X6_foresee at hs
  refine V_iload_n X dX6_foresee_0 rfl 1 rfl ?_
  refine V_aload_n X dX6_foresee_1 rfl 0 rfl ?_
  refine V_get X dX6_foresee_2 r_X6_10 (gm6 hK) rfl rfl ?_
  refine V_get X dX6_foresee_5 r_X6_44 (gm4 (gmT hK (by decide))) rfl rfl ?_
  obtain ⟨Z2, eZ2, hs⟩ := tb_l hs
  refine V_callSv X [.int p1, .int (S 4 0 0 6)] dX6_foresee_8 m_X6_157 t_X6_requireIndex ⟨Nat.le_of_ble_eq_true rfl, Nat.le_of_ble_eq_true rfl⟩ ⟨Nat.zero_le _, Nat.zero_le _⟩ rfl (Nat.le_of_ble_eq_true rfl) (c_X6_requireIndex  eZ2) ?_
  refine V_iload_n X dX6_foresee_11 rfl 2 rfl ?_
  refine V_sipush X (200 : Int32) dX6_foresee_12 (by decide) ?_
  obtain ⟨Z4, eZ4, hs⟩ := tb_l hs
  refine V_callSv X [.int p2, .int (200 : Int32)] dX6_foresee_15 m_X6_274 t_X6_requireTicks ⟨Nat.le_of_ble_eq_true rfl, Nat.le_of_ble_eq_true rfl⟩ ⟨Nat.zero_le _, Nat.zero_le _⟩ rfl (Nat.le_of_ble_eq_true rfl) (c_X6_requireTicks  eZ4) ?_
  refine V_aload_n X dX6_foresee_18 rfl 0 rfl ?_
  refine V_get X dX6_foresee_19 r_X6_16 (gm6 hK) rfl rfl ?_
  refine V_aload_n X dX6_foresee_22 rfl 0 rfl ?_
  refine V_get X dX6_foresee_23 r_X6_10 (gm6 hK) rfl rfl ?_
  obtain ⟨Z6, eZ6, hs⟩ := bd_some hs
  refine V_callVv X [.ref (ad 4 0 0)] dX6_foresee_26 m_X6_365 v_X4_copyFrom ⟨Nat.le_of_ble_eq_true rfl, Nat.le_of_ble_eq_true rfl⟩ ⟨Nat.zero_le _, Nat.zero_le _⟩ rfl (Nat.le_of_ble_eq_true rfl) (gm4 (gmT hK (by decide))) rfl cl4 (c_X4_copyFrom (gmT hK (by decide)) (gmT hK (by decide)) hnp eZ6) ?_
  refine V_aload_n X dX6_foresee_29 rfl 0 rfl ?_
  refine V_get X dX6_foresee_30 r_X6_16 (gm6 hK) rfl rfl ?_
  refine V_get X dX6_foresee_33 r_X6_219 (gm4 (gmT hK (by decide))) rfl rfl ?_
  refine V_iload_n X dX6_foresee_36 rfl 1 rfl ?_
  obtain ⟨h7, hs⟩ := gd_some hs
  refine V_aald X 6 rfl dX6_foresee_37 (gm18 (gmT hK (by decide))) rfl h7 (v := .ref (ad 1 1 p1.toNatClampNeg)) rfl ?_
  refine V_astore X dX6_foresee_38 [(4, .ref (ad 1 1 p1.toNatClampNeg)), (0, .ref (ad 6 0 0)), (1, .int p1), (2, .int p2), (3, .int p3)] (by decide) rfl ?_
  refine V_iconst X (0 : Int32) dX6_foresee_40 (by decide) ?_
  refine V_istore X dX6_foresee_41 [(5, .int (0 : Int32)), (4, .ref (ad 1 1 p1.toNatClampNeg)), (0, .ref (ad 6 0 0)), (1, .int p1), (2, .int p2), (3, .int p3)] (by decide) rfl ?_
  have L43 : ∀ (n : Nat) (v5 : Int32) (S1 : S4), s_X6_foresee_L43 np fu p1 p2 p3 n v5 S1 = some (.inl out) → V D cA dm ad A 6 p l e ({ frames := 21, cells := 0, slots := 0, locals := 621 }) s m args below meth c 0 0 (MQ below (gQ D cA dm ad out.2 (some (.int out.1)) A) args s 0 0 A) S1 43 [(0, .ref (ad 6 0 0)), (2, .int p2), (3, .int p3), (4, .ref (ad 1 1 p1.toNatClampNeg)), (5, .int v5)] [] := by
    intro n
    induction n with
    | zero => intro v5 S1 hs; rw [s_X6_foresee_L43] at hs; cases hs
    | succ f43 ih43 =>
      intro v5 Z8 hs
      rw [s_X6_foresee_L43] at hs
      refine V_iload X dX6_foresee_43 4 rfl ?_
      refine V_iload_n X dX6_foresee_45 rfl 1 rfl ?_
      refine V_icmp_ge X 71 dX6_foresee_46 (by decide) (fun c9 => ?_) (fun c9 => ?_)
      · replace hs := if_t hs c9
        refine V_aload X dX6_foresee_71 3 rfl ?_
        refine V_get X dX6_foresee_73 r_X6_239 (gm1 (gmT hK (by decide)) (inb_lt h7)) rfl rfl ?_
        refine V_iconst X (2 : Int32) dX6_foresee_76 (by decide) ?_
        refine V_icmp_eq X 91 dX6_foresee_77 (by decide) (fun c10 => ?_) (fun c10 => ?_)
        · replace hs := if_t hs c10
          refine V_iload_n X dX6_foresee_91 rfl 2 rfl ?_
          refine V_if_eq X 103 dX6_foresee_92 (by decide) (fun c11 => ?_) (fun c11 => ?_)
          · replace hs := if_t hs c11
            refine V_aload X dX6_foresee_103 3 rfl ?_
            refine V_get X dX6_foresee_105 r_X6_242 (gm1 (gmT hK (by decide)) (inb_lt h7)) rfl rfl ?_
            obtain rfl := ll_eq hs; exact V_iret X hr dX6_foresee_108
          · replace hs := if_f hs c11
            refine V_aload X dX6_foresee_95 3 rfl ?_
            refine V_get X dX6_foresee_97 r_X6_257 (gm1 (gmT hK (by decide)) (inb_lt h7)) rfl rfl ?_
            refine V_goto X 108 dX6_foresee_100 (by decide) ?_
            obtain rfl := ll_eq hs; exact V_iret X hr dX6_foresee_108
        · replace hs := if_f hs c10
          exact (rl_no hs).elim
      · replace hs := if_f hs c9
        refine V_aload X dX6_foresee_49 3 rfl ?_
        refine V_get X dX6_foresee_51 r_X6_239 (gm1 (gmT hK (by decide)) (inb_lt h7)) rfl rfl ?_
        refine V_iconst X (2 : Int32) dX6_foresee_54 (by decide) ?_
        refine V_icmp_eq X 71 dX6_foresee_55 (by decide) (fun c12 => ?_) (fun c12 => ?_)
        · replace hs := if_t hs c12
          refine V_aload X dX6_foresee_71 3 rfl ?_
          refine V_get X dX6_foresee_73 r_X6_239 (gm1 (gmT hK (by decide)) (inb_lt h7)) rfl rfl ?_
          refine V_iconst X (2 : Int32) dX6_foresee_76 (by decide) ?_
          refine V_icmp_eq X 91 dX6_foresee_77 (by decide) (fun c13 => ?_) (fun c13 => ?_)
          · replace hs := if_t hs c13
            refine V_iload_n X dX6_foresee_91 rfl 2 rfl ?_
            refine V_if_eq X 103 dX6_foresee_92 (by decide) (fun c14 => ?_) (fun c14 => ?_)
            · replace hs := if_t hs c14
              refine V_aload X dX6_foresee_103 3 rfl ?_
              refine V_get X dX6_foresee_105 r_X6_242 (gm1 (gmT hK (by decide)) (inb_lt h7)) rfl rfl ?_
              obtain rfl := ll_eq hs; exact V_iret X hr dX6_foresee_108
            · replace hs := if_f hs c14
              refine V_aload X dX6_foresee_95 3 rfl ?_
              refine V_get X dX6_foresee_97 r_X6_257 (gm1 (gmT hK (by decide)) (inb_lt h7)) rfl rfl ?_
              refine V_goto X 108 dX6_foresee_100 (by decide) ?_
              obtain rfl := ll_eq hs; exact V_iret X hr dX6_foresee_108
          · replace hs := if_f hs c13
            exact (rl_no hs).elim
        · replace hs := if_f hs c12
          refine V_aload_n X dX6_foresee_58 rfl 0 rfl ?_
          refine V_get X dX6_foresee_59 r_X6_16 (gm6 hK) rfl rfl ?_
          obtain ⟨Z16, eZ16, hs⟩ := bd_some hs
          refine V_callVv X [] dX6_foresee_62 m_X6_280 v_X4_passTick ⟨Nat.le_of_ble_eq_true rfl, Nat.le_of_ble_eq_true rfl⟩ ⟨Nat.zero_le _, Nat.zero_le _⟩ rfl (Nat.le_of_ble_eq_true rfl) (gm4 (gmT hK (by decide))) rfl cl4 (c_X4_passTick (gmT hK (by decide)) hnp eZ16) ?_
          refine V_iinc X (v5 + (1 : Int32)) dX6_foresee_65 4 rfl rfl [(5, .int (v5 + (1 : Int32))), (0, .ref (ad 6 0 0)), (2, .int p2), (3, .int p3), (4, .ref (ad 1 1 p1.toNatClampNeg))] (by decide) rfl ?_
          refine V_goto X 43 dX6_foresee_68 (by decide) ?_
          refine V_sub [1, 2, 3, 4, 0] rfl ?_
          exact ih43 _ _ hs
  refine V_sub [2, 4, 5, 1, 0] rfl ?_
  exact L43 _ _ _ hs
set_option maxRecDepth 100000 in
set_option maxHeartbeats 4000000 in
theorem x_X6_foresee {l : Launch} {D : va_G} {cA : Nat → ClassId} {dm : Dm} {ad : Ad} {np : Nat} {fu : Nat} {S : S4} {p1 : Int32} {p2 : Int32} {p3 : Int32} (hK : DK dm) (hnp : ∀ i, i < np → DP dm i) (hl : l.stackTraces = false) {out : Nat × S4} (hs : s_X6_foresee np fu p1 p2 p3 S = some (.inr out)) : Cx D cA dm ad l yX6_foresee cX6_foresee 6 (some .int) 21 621 S [.ref (ad 6 0 0), .int p1, .int p2, .int p3] out := by
  refine Cx.of (by decide +kernel) (Nat.le_of_ble_eq_true rfl) [(0, .ref (ad 6 0 0)), (1, .int p1), (2, .int p2), (3, .int p3)] rfl (fun p e s m args below meth c A X hr hZ hE => ?_)
  unfold s_X6_foresee at hs
  refine V_iload_n X dX6_foresee_0 rfl 1 rfl ?_
  refine V_aload_n X dX6_foresee_1 rfl 0 rfl ?_
  refine V_get X dX6_foresee_2 r_X6_10 (gm6 hK) rfl rfl ?_
  refine V_get X dX6_foresee_5 r_X6_44 (gm4 (gmT hK (by decide))) rfl rfl ?_
  rcases tb_r hs with ⟨Z2, eZ2, hs⟩ | hs9
  case inr => exact V_callSX X hE hZ [.int p1, .int (S 4 0 0 6)] dX6_foresee_8 m_X6_157 t_X6_requireIndex ⟨Nat.le_of_ble_eq_true rfl, Nat.le_of_ble_eq_true rfl⟩ ⟨by decide, by decide⟩ ⟨by decide, by decide⟩ rfl (Nat.le_of_ble_eq_true rfl) (x_X6_requireIndex  hl hs9)
  refine V_callSv X [.int p1, .int (S 4 0 0 6)] dX6_foresee_8 m_X6_157 t_X6_requireIndex ⟨Nat.le_of_ble_eq_true rfl, Nat.le_of_ble_eq_true rfl⟩ ⟨Nat.zero_le _, Nat.zero_le _⟩ rfl (Nat.le_of_ble_eq_true rfl) (c_X6_requireIndex  eZ2) ?_
  refine V_iload_n X dX6_foresee_11 rfl 2 rfl ?_
  refine V_sipush X (200 : Int32) dX6_foresee_12 (by decide) ?_
  rcases tb_r hs with ⟨Z4, eZ4, hs⟩ | hs9
  case inr => exact V_callSX X hE hZ [.int p2, .int (200 : Int32)] dX6_foresee_15 m_X6_274 t_X6_requireTicks ⟨Nat.le_of_ble_eq_true rfl, Nat.le_of_ble_eq_true rfl⟩ ⟨by decide, by decide⟩ ⟨by decide, by decide⟩ rfl (Nat.le_of_ble_eq_true rfl) (x_X6_requireTicks  hl hs9)
  refine V_callSv X [.int p2, .int (200 : Int32)] dX6_foresee_15 m_X6_274 t_X6_requireTicks ⟨Nat.le_of_ble_eq_true rfl, Nat.le_of_ble_eq_true rfl⟩ ⟨Nat.zero_le _, Nat.zero_le _⟩ rfl (Nat.le_of_ble_eq_true rfl) (c_X6_requireTicks  eZ4) ?_
  refine V_aload_n X dX6_foresee_18 rfl 0 rfl ?_
  refine V_get X dX6_foresee_19 r_X6_16 (gm6 hK) rfl rfl ?_
  refine V_aload_n X dX6_foresee_22 rfl 0 rfl ?_
  refine V_get X dX6_foresee_23 r_X6_10 (gm6 hK) rfl rfl ?_
  obtain ⟨Z6, eZ6, hs⟩ := bd_some hs
  refine V_callVv X [.ref (ad 4 0 0)] dX6_foresee_26 m_X6_365 v_X4_copyFrom ⟨Nat.le_of_ble_eq_true rfl, Nat.le_of_ble_eq_true rfl⟩ ⟨Nat.zero_le _, Nat.zero_le _⟩ rfl (Nat.le_of_ble_eq_true rfl) (gm4 (gmT hK (by decide))) rfl cl4 (c_X4_copyFrom (gmT hK (by decide)) (gmT hK (by decide)) hnp eZ6) ?_
  refine V_aload_n X dX6_foresee_29 rfl 0 rfl ?_
  refine V_get X dX6_foresee_30 r_X6_16 (gm6 hK) rfl rfl ?_
  refine V_get X dX6_foresee_33 r_X6_219 (gm4 (gmT hK (by decide))) rfl rfl ?_
  refine V_iload_n X dX6_foresee_36 rfl 1 rfl ?_
  obtain ⟨h7, hs⟩ := gd_some hs
  refine V_aald X 6 rfl dX6_foresee_37 (gm18 (gmT hK (by decide))) rfl h7 (v := .ref (ad 1 1 p1.toNatClampNeg)) rfl ?_
  refine V_astore X dX6_foresee_38 [(4, .ref (ad 1 1 p1.toNatClampNeg)), (0, .ref (ad 6 0 0)), (1, .int p1), (2, .int p2), (3, .int p3)] (by decide) rfl ?_
  refine V_iconst X (0 : Int32) dX6_foresee_40 (by decide) ?_
  refine V_istore X dX6_foresee_41 [(5, .int (0 : Int32)), (4, .ref (ad 1 1 p1.toNatClampNeg)), (0, .ref (ad 6 0 0)), (1, .int p1), (2, .int p2), (3, .int p3)] (by decide) rfl ?_
  have L43 : ∀ (n : Nat) (v5 : Int32) (S1 : S4), s_X6_foresee_L43 np fu p1 p2 p3 n v5 S1 = some (.inr out) → V D cA dm ad A 6 p l e ({ frames := 21, cells := 1, slots := 6, locals := 621 }) s m args below meth c 0 0 (vx_MQ below qN (xQ D cA dm ad out.2 out.1 A) args s 1 6 A) S1 43 [(0, .ref (ad 6 0 0)), (2, .int p2), (3, .int p3), (4, .ref (ad 1 1 p1.toNatClampNeg)), (5, .int v5)] [] := by
    intro n
    induction n with
    | zero => intro v5 S1 hs; rw [s_X6_foresee_L43] at hs; cases hs
    | succ f43 ih43 =>
      intro v5 Z8 hs
      rw [s_X6_foresee_L43] at hs
      refine V_iload X dX6_foresee_43 4 rfl ?_
      refine V_iload_n X dX6_foresee_45 rfl 1 rfl ?_
      refine V_icmp_ge X 71 dX6_foresee_46 (by decide) (fun c9 => ?_) (fun c9 => ?_)
      · replace hs := if_t hs c9
        refine V_aload X dX6_foresee_71 3 rfl ?_
        refine V_get X dX6_foresee_73 r_X6_239 (gm1 (gmT hK (by decide)) (inb_lt h7)) rfl rfl ?_
        refine V_iconst X (2 : Int32) dX6_foresee_76 (by decide) ?_
        refine V_icmp_eq X 91 dX6_foresee_77 (by decide) (fun c10 => ?_) (fun c10 => ?_)
        · replace hs := if_t hs c10
          refine V_iload_n X dX6_foresee_91 rfl 2 rfl ?_
          refine V_if_eq X 103 dX6_foresee_92 (by decide) (fun c11 => ?_) (fun c11 => ?_)
          · replace hs := if_t hs c11
            refine V_aload X dX6_foresee_103 3 rfl ?_
            refine V_get X dX6_foresee_105 r_X6_242 (gm1 (gmT hK (by decide)) (inb_lt h7)) rfl rfl ?_
            exact (lr_no hs).elim
          · replace hs := if_f hs c11
            refine V_aload X dX6_foresee_95 3 rfl ?_
            refine V_get X dX6_foresee_97 r_X6_257 (gm1 (gmT hK (by decide)) (inb_lt h7)) rfl rfl ?_
            refine V_goto X 108 dX6_foresee_100 (by decide) ?_
            exact (lr_no hs).elim
        · replace hs := if_f hs c10
          obtain rfl := rr_eq hs
          exact V_throwSW X hE hl hZ tw_4 (text := "not dropped within these ticks") (by decide +kernel) dX6_foresee_80 dX6_foresee_83 dX6_foresee_84 dX6_foresee_87 dX6_foresee_90 (Nat.le_of_ble_eq_true rfl) ⟨by decide, by decide, by decide, by decide⟩ ⟨by decide, by decide⟩
      · replace hs := if_f hs c9
        refine V_aload X dX6_foresee_49 3 rfl ?_
        refine V_get X dX6_foresee_51 r_X6_239 (gm1 (gmT hK (by decide)) (inb_lt h7)) rfl rfl ?_
        refine V_iconst X (2 : Int32) dX6_foresee_54 (by decide) ?_
        refine V_icmp_eq X 71 dX6_foresee_55 (by decide) (fun c12 => ?_) (fun c12 => ?_)
        · replace hs := if_t hs c12
          refine V_aload X dX6_foresee_71 3 rfl ?_
          refine V_get X dX6_foresee_73 r_X6_239 (gm1 (gmT hK (by decide)) (inb_lt h7)) rfl rfl ?_
          refine V_iconst X (2 : Int32) dX6_foresee_76 (by decide) ?_
          refine V_icmp_eq X 91 dX6_foresee_77 (by decide) (fun c13 => ?_) (fun c13 => ?_)
          · replace hs := if_t hs c13
            refine V_iload_n X dX6_foresee_91 rfl 2 rfl ?_
            refine V_if_eq X 103 dX6_foresee_92 (by decide) (fun c14 => ?_) (fun c14 => ?_)
            · replace hs := if_t hs c14
              refine V_aload X dX6_foresee_103 3 rfl ?_
              refine V_get X dX6_foresee_105 r_X6_242 (gm1 (gmT hK (by decide)) (inb_lt h7)) rfl rfl ?_
              exact (lr_no hs).elim
            · replace hs := if_f hs c14
              refine V_aload X dX6_foresee_95 3 rfl ?_
              refine V_get X dX6_foresee_97 r_X6_257 (gm1 (gmT hK (by decide)) (inb_lt h7)) rfl rfl ?_
              refine V_goto X 108 dX6_foresee_100 (by decide) ?_
              exact (lr_no hs).elim
          · replace hs := if_f hs c13
            obtain rfl := rr_eq hs
            exact V_throwSW X hE hl hZ tw_4 (text := "not dropped within these ticks") (by decide +kernel) dX6_foresee_80 dX6_foresee_83 dX6_foresee_84 dX6_foresee_87 dX6_foresee_90 (Nat.le_of_ble_eq_true rfl) ⟨by decide, by decide, by decide, by decide⟩ ⟨by decide, by decide⟩
        · replace hs := if_f hs c12
          refine V_aload_n X dX6_foresee_58 rfl 0 rfl ?_
          refine V_get X dX6_foresee_59 r_X6_16 (gm6 hK) rfl rfl ?_
          obtain ⟨Z16, eZ16, hs⟩ := bd_some hs
          refine V_callVv X [] dX6_foresee_62 m_X6_280 v_X4_passTick ⟨Nat.le_of_ble_eq_true rfl, Nat.le_of_ble_eq_true rfl⟩ ⟨Nat.zero_le _, Nat.zero_le _⟩ rfl (Nat.le_of_ble_eq_true rfl) (gm4 (gmT hK (by decide))) rfl cl4 (c_X4_passTick (gmT hK (by decide)) hnp eZ16) ?_
          refine V_iinc X (v5 + (1 : Int32)) dX6_foresee_65 4 rfl rfl [(5, .int (v5 + (1 : Int32))), (0, .ref (ad 6 0 0)), (2, .int p2), (3, .int p3), (4, .ref (ad 1 1 p1.toNatClampNeg))] (by decide) rfl ?_
          refine V_goto X 43 dX6_foresee_68 (by decide) ?_
          refine V_sub [1, 2, 3, 4, 0] rfl ?_
          exact ih43 _ _ hs
  refine V_sub [2, 4, 5, 1, 0] rfl ?_
  exact L43 _ _ _ hs

def s_X6_untilEmpty_L20 (np : Nat) (fu : Nat) (p1 : Int32) : Nat → Int32 → S4 → Option ((Int32 × S4) ⊕ (Nat × S4))
  | 0, _, _ => none
  | f20+1, v2, Z5 => (if p1 ≤ v2 then (s_X4_isEmpty 1 Z5).bind fun q7 => (if q7 = 0 then some (.inr (4, Z5)) else some (.inl (((Z5 4 1 0 0) - (Z5 4 0 0 0)), Z5))) else (s_X4_isEmpty 1 Z5).bind fun q9 => (if q9 = 0 then (s_X4_passTick np fu 1 Z5).bind fun Z14 => s_X6_untilEmpty_L20 np fu p1 f20 (v2 + (1 : Int32)) Z14 else (s_X4_isEmpty 1 Z5).bind fun q11 => (if q11 = 0 then some (.inr (4, Z5)) else some (.inl (((Z5 4 1 0 0) - (Z5 4 0 0 0)), Z5)))))
def s_X6_untilEmpty (np : Nat) (fu : Nat) (p1 : Int32) (S : S4) : Option ((Int32 × S4) ⊕ (Nat × S4)) := tb (s_X6_requireTicks p1 (200 : Int32) S) fun Z2 => (s_X4_copyFrom np fu 1 0 Z2).bind fun Z4 => s_X6_untilEmpty_L20 np fu p1 fu (0 : Int32) Z4
set_option maxRecDepth 100000 in
set_option maxHeartbeats 4000000 in
theorem c_X6_untilEmpty {l : Launch} {D : va_G} {cA : Nat → ClassId} {dm : Dm} {ad : Ad} {np : Nat} {fu : Nat} {S : S4} {p1 : Int32} (hK : DK dm) (hnp : ∀ i, i < np → DP dm i) {out : (Int32 × S4)} (hs : s_X6_untilEmpty np fu p1 S = some (.inl out)) : Ct D cA dm ad l yX6_untilEmpty cX6_untilEmpty 3 (some .int) 21 621 S [.ref (ad 6 0 0), .int p1] (some (.int out.1)) out.2 := by
  refine Ct.of (by decide +kernel) (Nat.le_of_ble_eq_true rfl) [(0, .ref (ad 6 0 0)), (1, .int p1)] rfl (fun p e s m args below meth c A X hr => ?_)
  unfold s_X6_untilEmpty at hs
  refine V_iload_n X dX6_untilEmpty_0 rfl 1 rfl ?_
  refine V_sipush X (200 : Int32) dX6_untilEmpty_1 (by decide) ?_
  obtain ⟨Z2, eZ2, hs⟩ := tb_l hs
  refine V_callSv X [.int p1, .int (200 : Int32)] dX6_untilEmpty_4 m_X6_274 t_X6_requireTicks ⟨Nat.le_of_ble_eq_true rfl, Nat.le_of_ble_eq_true rfl⟩ ⟨Nat.zero_le _, Nat.zero_le _⟩ rfl (Nat.le_of_ble_eq_true rfl) (c_X6_requireTicks  eZ2) ?_
  refine V_aload_n X dX6_untilEmpty_7 rfl 0 rfl ?_
  refine V_get X dX6_untilEmpty_8 r_X6_16 (gm6 hK) rfl rfl ?_
  refine V_aload_n X dX6_untilEmpty_11 rfl 0 rfl ?_
  refine V_get X dX6_untilEmpty_12 r_X6_10 (gm6 hK) rfl rfl ?_
  obtain ⟨Z4, eZ4, hs⟩ := bd_some hs
  refine V_callVv X [.ref (ad 4 0 0)] dX6_untilEmpty_15 m_X6_365 v_X4_copyFrom ⟨Nat.le_of_ble_eq_true rfl, Nat.le_of_ble_eq_true rfl⟩ ⟨Nat.zero_le _, Nat.zero_le _⟩ rfl (Nat.le_of_ble_eq_true rfl) (gm4 (gmT hK (by decide))) rfl cl4 (c_X4_copyFrom (gmT hK (by decide)) (gmT hK (by decide)) hnp eZ4) ?_
  refine V_iconst X (0 : Int32) dX6_untilEmpty_18 (by decide) ?_
  refine V_istore_n X dX6_untilEmpty_19 rfl [(2, .int (0 : Int32)), (0, .ref (ad 6 0 0)), (1, .int p1)] (by decide) rfl ?_
  have L20 : ∀ (n : Nat) (v2 : Int32) (S1 : S4), s_X6_untilEmpty_L20 np fu p1 n v2 S1 = some (.inl out) → V D cA dm ad A 3 p l e ({ frames := 21, cells := 0, slots := 0, locals := 621 }) s m args below meth c 0 0 (MQ below (gQ D cA dm ad out.2 (some (.int out.1)) A) args s 0 0 A) S1 20 [(0, .ref (ad 6 0 0)), (1, .int p1), (2, .int v2)] [] := by
    intro n
    induction n with
    | zero => intro v2 S1 hs; rw [s_X6_untilEmpty_L20] at hs; cases hs
    | succ f20 ih20 =>
      intro v2 Z5 hs
      rw [s_X6_untilEmpty_L20] at hs
      refine V_iload_n X dX6_untilEmpty_20 rfl 2 rfl ?_
      refine V_iload_n X dX6_untilEmpty_21 rfl 1 rfl ?_
      refine V_icmp_ge X 48 dX6_untilEmpty_22 (by decide) (fun c6 => ?_) (fun c6 => ?_)
      · replace hs := if_t hs c6
        refine V_aload_n X dX6_untilEmpty_48 rfl 0 rfl ?_
        refine V_get X dX6_untilEmpty_49 r_X6_16 (gm6 hK) rfl rfl ?_
        obtain ⟨q7, eq7, hs⟩ := bd_some hs
        refine V_callVs X [] dX6_untilEmpty_52 m_X6_371 v_X4_isEmpty ⟨Nat.le_of_ble_eq_true rfl, Nat.le_of_ble_eq_true rfl⟩ ⟨Nat.zero_le _, Nat.zero_le _⟩ rfl (Nat.le_of_ble_eq_true rfl) (gm4 (gmT hK (by decide))) rfl cl4 (c_X4_isEmpty (gmT hK (by decide)) eq7) ?_
        refine V_if_ne X 69 dX6_untilEmpty_55 (by decide) (fun c8 => ?_) (fun c8 => ?_)
        · replace hs := if_f hs c8
          refine V_aload_n X dX6_untilEmpty_69 rfl 0 rfl ?_
          refine V_get X dX6_untilEmpty_70 r_X6_16 (gm6 hK) rfl rfl ?_
          refine V_get X dX6_untilEmpty_73 r_X6_333 (gm4 (gmT hK (by decide))) rfl rfl ?_
          refine V_aload_n X dX6_untilEmpty_76 rfl 0 rfl ?_
          refine V_get X dX6_untilEmpty_77 r_X6_10 (gm6 hK) rfl rfl ?_
          refine V_get X dX6_untilEmpty_80 r_X6_333 (gm4 (gmT hK (by decide))) rfl rfl ?_
          refine V_isub X dX6_untilEmpty_83 ?_
          obtain rfl := ll_eq hs; exact V_iret X hr dX6_untilEmpty_84
        · replace hs := if_t hs c8
          exact (rl_no hs).elim
      · replace hs := if_f hs c6
        refine V_aload_n X dX6_untilEmpty_25 rfl 0 rfl ?_
        refine V_get X dX6_untilEmpty_26 r_X6_16 (gm6 hK) rfl rfl ?_
        obtain ⟨q9, eq9, hs⟩ := bd_some hs
        refine V_callVs X [] dX6_untilEmpty_29 m_X6_371 v_X4_isEmpty ⟨Nat.le_of_ble_eq_true rfl, Nat.le_of_ble_eq_true rfl⟩ ⟨Nat.zero_le _, Nat.zero_le _⟩ rfl (Nat.le_of_ble_eq_true rfl) (gm4 (gmT hK (by decide))) rfl cl4 (c_X4_isEmpty (gmT hK (by decide)) eq9) ?_
        refine V_if_ne X 48 dX6_untilEmpty_32 (by decide) (fun c10 => ?_) (fun c10 => ?_)
        · replace hs := if_f hs c10
          refine V_aload_n X dX6_untilEmpty_48 rfl 0 rfl ?_
          refine V_get X dX6_untilEmpty_49 r_X6_16 (gm6 hK) rfl rfl ?_
          obtain ⟨q11, eq11, hs⟩ := bd_some hs
          refine V_callVs X [] dX6_untilEmpty_52 m_X6_371 v_X4_isEmpty ⟨Nat.le_of_ble_eq_true rfl, Nat.le_of_ble_eq_true rfl⟩ ⟨Nat.zero_le _, Nat.zero_le _⟩ rfl (Nat.le_of_ble_eq_true rfl) (gm4 (gmT hK (by decide))) rfl cl4 (c_X4_isEmpty (gmT hK (by decide)) eq11) ?_
          refine V_if_ne X 69 dX6_untilEmpty_55 (by decide) (fun c12 => ?_) (fun c12 => ?_)
          · replace hs := if_f hs c12
            refine V_aload_n X dX6_untilEmpty_69 rfl 0 rfl ?_
            refine V_get X dX6_untilEmpty_70 r_X6_16 (gm6 hK) rfl rfl ?_
            refine V_get X dX6_untilEmpty_73 r_X6_333 (gm4 (gmT hK (by decide))) rfl rfl ?_
            refine V_aload_n X dX6_untilEmpty_76 rfl 0 rfl ?_
            refine V_get X dX6_untilEmpty_77 r_X6_10 (gm6 hK) rfl rfl ?_
            refine V_get X dX6_untilEmpty_80 r_X6_333 (gm4 (gmT hK (by decide))) rfl rfl ?_
            refine V_isub X dX6_untilEmpty_83 ?_
            obtain rfl := ll_eq hs; exact V_iret X hr dX6_untilEmpty_84
          · replace hs := if_t hs c12
            exact (rl_no hs).elim
        · replace hs := if_t hs c10
          refine V_aload_n X dX6_untilEmpty_35 rfl 0 rfl ?_
          refine V_get X dX6_untilEmpty_36 r_X6_16 (gm6 hK) rfl rfl ?_
          obtain ⟨Z14, eZ14, hs⟩ := bd_some hs
          refine V_callVv X [] dX6_untilEmpty_39 m_X6_280 v_X4_passTick ⟨Nat.le_of_ble_eq_true rfl, Nat.le_of_ble_eq_true rfl⟩ ⟨Nat.zero_le _, Nat.zero_le _⟩ rfl (Nat.le_of_ble_eq_true rfl) (gm4 (gmT hK (by decide))) rfl cl4 (c_X4_passTick (gmT hK (by decide)) hnp eZ14) ?_
          refine V_iinc X (v2 + (1 : Int32)) dX6_untilEmpty_42 2 rfl rfl [(2, .int (v2 + (1 : Int32))), (0, .ref (ad 6 0 0)), (1, .int p1)] (by decide) rfl ?_
          refine V_goto X 20 dX6_untilEmpty_45 (by decide) ?_
          refine V_sub [1, 2, 0] rfl ?_
          exact ih20 _ _ hs
  refine V_sub [1, 2, 0] rfl ?_
  exact L20 _ _ _ hs
set_option maxRecDepth 100000 in
set_option maxHeartbeats 4000000 in
theorem x_X6_untilEmpty {l : Launch} {D : va_G} {cA : Nat → ClassId} {dm : Dm} {ad : Ad} {np : Nat} {fu : Nat} {S : S4} {p1 : Int32} (hK : DK dm) (hnp : ∀ i, i < np → DP dm i) (hl : l.stackTraces = false) {out : Nat × S4} (hs : s_X6_untilEmpty np fu p1 S = some (.inr out)) : Cx D cA dm ad l yX6_untilEmpty cX6_untilEmpty 3 (some .int) 21 621 S [.ref (ad 6 0 0), .int p1] out := by
  refine Cx.of (by decide +kernel) (Nat.le_of_ble_eq_true rfl) [(0, .ref (ad 6 0 0)), (1, .int p1)] rfl (fun p e s m args below meth c A X hr hZ hE => ?_)
  unfold s_X6_untilEmpty at hs
  refine V_iload_n X dX6_untilEmpty_0 rfl 1 rfl ?_
  refine V_sipush X (200 : Int32) dX6_untilEmpty_1 (by decide) ?_
  rcases tb_r hs with ⟨Z2, eZ2, hs⟩ | hs9
  case inr => exact V_callSX X hE hZ [.int p1, .int (200 : Int32)] dX6_untilEmpty_4 m_X6_274 t_X6_requireTicks ⟨Nat.le_of_ble_eq_true rfl, Nat.le_of_ble_eq_true rfl⟩ ⟨by decide, by decide⟩ ⟨by decide, by decide⟩ rfl (Nat.le_of_ble_eq_true rfl) (x_X6_requireTicks  hl hs9)
  refine V_callSv X [.int p1, .int (200 : Int32)] dX6_untilEmpty_4 m_X6_274 t_X6_requireTicks ⟨Nat.le_of_ble_eq_true rfl, Nat.le_of_ble_eq_true rfl⟩ ⟨Nat.zero_le _, Nat.zero_le _⟩ rfl (Nat.le_of_ble_eq_true rfl) (c_X6_requireTicks  eZ2) ?_
  refine V_aload_n X dX6_untilEmpty_7 rfl 0 rfl ?_
  refine V_get X dX6_untilEmpty_8 r_X6_16 (gm6 hK) rfl rfl ?_
  refine V_aload_n X dX6_untilEmpty_11 rfl 0 rfl ?_
  refine V_get X dX6_untilEmpty_12 r_X6_10 (gm6 hK) rfl rfl ?_
  obtain ⟨Z4, eZ4, hs⟩ := bd_some hs
  refine V_callVv X [.ref (ad 4 0 0)] dX6_untilEmpty_15 m_X6_365 v_X4_copyFrom ⟨Nat.le_of_ble_eq_true rfl, Nat.le_of_ble_eq_true rfl⟩ ⟨Nat.zero_le _, Nat.zero_le _⟩ rfl (Nat.le_of_ble_eq_true rfl) (gm4 (gmT hK (by decide))) rfl cl4 (c_X4_copyFrom (gmT hK (by decide)) (gmT hK (by decide)) hnp eZ4) ?_
  refine V_iconst X (0 : Int32) dX6_untilEmpty_18 (by decide) ?_
  refine V_istore_n X dX6_untilEmpty_19 rfl [(2, .int (0 : Int32)), (0, .ref (ad 6 0 0)), (1, .int p1)] (by decide) rfl ?_
  have L20 : ∀ (n : Nat) (v2 : Int32) (S1 : S4), s_X6_untilEmpty_L20 np fu p1 n v2 S1 = some (.inr out) → V D cA dm ad A 3 p l e ({ frames := 21, cells := 1, slots := 6, locals := 621 }) s m args below meth c 0 0 (vx_MQ below qN (xQ D cA dm ad out.2 out.1 A) args s 1 6 A) S1 20 [(0, .ref (ad 6 0 0)), (1, .int p1), (2, .int v2)] [] := by
    intro n
    induction n with
    | zero => intro v2 S1 hs; rw [s_X6_untilEmpty_L20] at hs; cases hs
    | succ f20 ih20 =>
      intro v2 Z5 hs
      rw [s_X6_untilEmpty_L20] at hs
      refine V_iload_n X dX6_untilEmpty_20 rfl 2 rfl ?_
      refine V_iload_n X dX6_untilEmpty_21 rfl 1 rfl ?_
      refine V_icmp_ge X 48 dX6_untilEmpty_22 (by decide) (fun c6 => ?_) (fun c6 => ?_)
      · replace hs := if_t hs c6
        refine V_aload_n X dX6_untilEmpty_48 rfl 0 rfl ?_
        refine V_get X dX6_untilEmpty_49 r_X6_16 (gm6 hK) rfl rfl ?_
        obtain ⟨q7, eq7, hs⟩ := bd_some hs
        refine V_callVs X [] dX6_untilEmpty_52 m_X6_371 v_X4_isEmpty ⟨Nat.le_of_ble_eq_true rfl, Nat.le_of_ble_eq_true rfl⟩ ⟨Nat.zero_le _, Nat.zero_le _⟩ rfl (Nat.le_of_ble_eq_true rfl) (gm4 (gmT hK (by decide))) rfl cl4 (c_X4_isEmpty (gmT hK (by decide)) eq7) ?_
        refine V_if_ne X 69 dX6_untilEmpty_55 (by decide) (fun c8 => ?_) (fun c8 => ?_)
        · replace hs := if_f hs c8
          refine V_aload_n X dX6_untilEmpty_69 rfl 0 rfl ?_
          refine V_get X dX6_untilEmpty_70 r_X6_16 (gm6 hK) rfl rfl ?_
          refine V_get X dX6_untilEmpty_73 r_X6_333 (gm4 (gmT hK (by decide))) rfl rfl ?_
          refine V_aload_n X dX6_untilEmpty_76 rfl 0 rfl ?_
          refine V_get X dX6_untilEmpty_77 r_X6_10 (gm6 hK) rfl rfl ?_
          refine V_get X dX6_untilEmpty_80 r_X6_333 (gm4 (gmT hK (by decide))) rfl rfl ?_
          refine V_isub X dX6_untilEmpty_83 ?_
          exact (lr_no hs).elim
        · replace hs := if_t hs c8
          obtain rfl := rr_eq hs
          exact V_throwSW X hE hl hZ tw_4 (text := "not empty within these ticks") (by decide +kernel) dX6_untilEmpty_58 dX6_untilEmpty_61 dX6_untilEmpty_62 dX6_untilEmpty_65 dX6_untilEmpty_68 (Nat.le_of_ble_eq_true rfl) ⟨by decide, by decide, by decide, by decide⟩ ⟨by decide, by decide⟩
      · replace hs := if_f hs c6
        refine V_aload_n X dX6_untilEmpty_25 rfl 0 rfl ?_
        refine V_get X dX6_untilEmpty_26 r_X6_16 (gm6 hK) rfl rfl ?_
        obtain ⟨q9, eq9, hs⟩ := bd_some hs
        refine V_callVs X [] dX6_untilEmpty_29 m_X6_371 v_X4_isEmpty ⟨Nat.le_of_ble_eq_true rfl, Nat.le_of_ble_eq_true rfl⟩ ⟨Nat.zero_le _, Nat.zero_le _⟩ rfl (Nat.le_of_ble_eq_true rfl) (gm4 (gmT hK (by decide))) rfl cl4 (c_X4_isEmpty (gmT hK (by decide)) eq9) ?_
        refine V_if_ne X 48 dX6_untilEmpty_32 (by decide) (fun c10 => ?_) (fun c10 => ?_)
        · replace hs := if_f hs c10
          refine V_aload_n X dX6_untilEmpty_48 rfl 0 rfl ?_
          refine V_get X dX6_untilEmpty_49 r_X6_16 (gm6 hK) rfl rfl ?_
          obtain ⟨q11, eq11, hs⟩ := bd_some hs
          refine V_callVs X [] dX6_untilEmpty_52 m_X6_371 v_X4_isEmpty ⟨Nat.le_of_ble_eq_true rfl, Nat.le_of_ble_eq_true rfl⟩ ⟨Nat.zero_le _, Nat.zero_le _⟩ rfl (Nat.le_of_ble_eq_true rfl) (gm4 (gmT hK (by decide))) rfl cl4 (c_X4_isEmpty (gmT hK (by decide)) eq11) ?_
          refine V_if_ne X 69 dX6_untilEmpty_55 (by decide) (fun c12 => ?_) (fun c12 => ?_)
          · replace hs := if_f hs c12
            refine V_aload_n X dX6_untilEmpty_69 rfl 0 rfl ?_
            refine V_get X dX6_untilEmpty_70 r_X6_16 (gm6 hK) rfl rfl ?_
            refine V_get X dX6_untilEmpty_73 r_X6_333 (gm4 (gmT hK (by decide))) rfl rfl ?_
            refine V_aload_n X dX6_untilEmpty_76 rfl 0 rfl ?_
            refine V_get X dX6_untilEmpty_77 r_X6_10 (gm6 hK) rfl rfl ?_
            refine V_get X dX6_untilEmpty_80 r_X6_333 (gm4 (gmT hK (by decide))) rfl rfl ?_
            refine V_isub X dX6_untilEmpty_83 ?_
            exact (lr_no hs).elim
          · replace hs := if_t hs c12
            obtain rfl := rr_eq hs
            exact V_throwSW X hE hl hZ tw_4 (text := "not empty within these ticks") (by decide +kernel) dX6_untilEmpty_58 dX6_untilEmpty_61 dX6_untilEmpty_62 dX6_untilEmpty_65 dX6_untilEmpty_68 (Nat.le_of_ble_eq_true rfl) ⟨by decide, by decide, by decide, by decide⟩ ⟨by decide, by decide⟩
        · replace hs := if_t hs c10
          refine V_aload_n X dX6_untilEmpty_35 rfl 0 rfl ?_
          refine V_get X dX6_untilEmpty_36 r_X6_16 (gm6 hK) rfl rfl ?_
          obtain ⟨Z14, eZ14, hs⟩ := bd_some hs
          refine V_callVv X [] dX6_untilEmpty_39 m_X6_280 v_X4_passTick ⟨Nat.le_of_ble_eq_true rfl, Nat.le_of_ble_eq_true rfl⟩ ⟨Nat.zero_le _, Nat.zero_le _⟩ rfl (Nat.le_of_ble_eq_true rfl) (gm4 (gmT hK (by decide))) rfl cl4 (c_X4_passTick (gmT hK (by decide)) hnp eZ14) ?_
          refine V_iinc X (v2 + (1 : Int32)) dX6_untilEmpty_42 2 rfl rfl [(2, .int (v2 + (1 : Int32))), (0, .ref (ad 6 0 0)), (1, .int p1)] (by decide) rfl ?_
          refine V_goto X 20 dX6_untilEmpty_45 (by decide) ?_
          refine V_sub [1, 2, 0] rfl ?_
          exact ih20 _ _ hs
  refine V_sub [1, 2, 0] rfl ?_
  exact L20 _ _ _ hs

def s_X6_ledger (p1 : Int32) (p2 : Int32) (S : S4) : Option ((Int32 × S4) ⊕ (Nat × S4)) := tb (s_X6_requireIndex p1 (S 4 0 0 7) S) fun Z2 => tb (s_X6_requireWhat p2 (3 : Int32) Z2) fun Z4 => gd (inb p1 60) (tb (s_X6_requireIndex (Z4 20 0 0 p1.toNatClampNeg) (Z4 4 0 0 6) Z4) fun Z7 => gd (inb (Z4 20 0 0 p1.toNatClampNeg) 60) ((if p2 = (0 : Int32) then some (.inl ((Z4 20 0 0 p1.toNatClampNeg), Z7)) else if p2 = (1 : Int32) then some (.inl ((Z7 1 0 ((Z4 20 0 0 p1.toNatClampNeg).toNatClampNeg) 5), Z7)) else if p2 = (2 : Int32) then some (.inl ((Z7 1 0 ((Z4 20 0 0 p1.toNatClampNeg).toNatClampNeg) 9), Z7)) else some (.inl ((Z7 1 0 ((Z4 20 0 0 p1.toNatClampNeg).toNatClampNeg) 10), Z7)))))
set_option maxRecDepth 100000 in
set_option maxHeartbeats 4000000 in
theorem c_X6_ledger {l : Launch} {D : va_G} {cA : Nat → ClassId} {dm : Dm} {ad : Ad} {S : S4} {p1 : Int32} {p2 : Int32} (hK : DK dm) {out : (Int32 × S4)} (hs : s_X6_ledger p1 p2 S = some (.inl out)) : Ct D cA dm ad l yX6_ledger cX6_ledger 5 (some .int) 21 621 S [.ref (ad 6 0 0), .int p1, .int p2] (some (.int out.1)) out.2 := by
  refine Ct.of (by decide +kernel) (Nat.le_of_ble_eq_true rfl) [(0, .ref (ad 6 0 0)), (1, .int p1), (2, .int p2)] rfl (fun p e s m args below meth c A X hr => ?_)
  unfold s_X6_ledger at hs
  refine V_iload_n X dX6_ledger_0 rfl 1 rfl ?_
  refine V_aload_n X dX6_ledger_1 rfl 0 rfl ?_
  refine V_get X dX6_ledger_2 r_X6_10 (gm6 hK) rfl rfl ?_
  refine V_get X dX6_ledger_5 r_X6_277 (gm4 (gmT hK (by decide))) rfl rfl ?_
  obtain ⟨Z2, eZ2, hs⟩ := tb_l hs
  refine V_callSv X [.int p1, .int (S 4 0 0 7)] dX6_ledger_8 m_X6_157 t_X6_requireIndex ⟨Nat.le_of_ble_eq_true rfl, Nat.le_of_ble_eq_true rfl⟩ ⟨Nat.zero_le _, Nat.zero_le _⟩ rfl (Nat.le_of_ble_eq_true rfl) (c_X6_requireIndex  eZ2) ?_
  refine V_iload_n X dX6_ledger_11 rfl 2 rfl ?_
  refine V_iconst X (3 : Int32) dX6_ledger_12 (by decide) ?_
  obtain ⟨Z4, eZ4, hs⟩ := tb_l hs
  refine V_callSv X [.int p2, .int (3 : Int32)] dX6_ledger_13 m_X6_161 t_X6_requireWhat ⟨Nat.le_of_ble_eq_true rfl, Nat.le_of_ble_eq_true rfl⟩ ⟨Nat.zero_le _, Nat.zero_le _⟩ rfl (Nat.le_of_ble_eq_true rfl) (c_X6_requireWhat  eZ4) ?_
  refine V_aload_n X dX6_ledger_16 rfl 0 rfl ?_
  refine V_get X dX6_ledger_17 r_X6_10 (gm6 hK) rfl rfl ?_
  refine V_get X dX6_ledger_20 r_X6_388 (gm4 (gmT hK (by decide))) rfl rfl ?_
  refine V_iload_n X dX6_ledger_23 rfl 1 rfl ?_
  obtain ⟨h5, hs⟩ := gd_some hs
  refine V_iald X dX6_ledger_24 (gm20 (gmT hK (by decide))) rfl h5 ?_
  refine V_istore_n X dX6_ledger_25 rfl [(3, .int (Z4 20 0 0 p1.toNatClampNeg)), (0, .ref (ad 6 0 0)), (1, .int p1), (2, .int p2)] (by decide) rfl ?_
  refine V_iload_n X dX6_ledger_26 rfl 0 rfl ?_
  refine V_aload_n X dX6_ledger_27 rfl 1 rfl ?_
  refine V_get X dX6_ledger_28 r_X6_10 (gm6 hK) rfl rfl ?_
  refine V_get X dX6_ledger_31 r_X6_44 (gm4 (gmT hK (by decide))) rfl rfl ?_
  obtain ⟨Z7, eZ7, hs⟩ := tb_l hs
  refine V_callSv X [.int (Z4 20 0 0 p1.toNatClampNeg), .int (Z4 4 0 0 6)] dX6_ledger_34 m_X6_157 t_X6_requireIndex ⟨Nat.le_of_ble_eq_true rfl, Nat.le_of_ble_eq_true rfl⟩ ⟨Nat.zero_le _, Nat.zero_le _⟩ rfl (Nat.le_of_ble_eq_true rfl) (c_X6_requireIndex  eZ7) ?_
  refine V_aload_n X dX6_ledger_37 rfl 1 rfl ?_
  refine V_get X dX6_ledger_38 r_X6_10 (gm6 hK) rfl rfl ?_
  refine V_get X dX6_ledger_41 r_X6_219 (gm4 (gmT hK (by decide))) rfl rfl ?_
  refine V_iload_n X dX6_ledger_44 rfl 0 rfl ?_
  obtain ⟨h8, hs⟩ := gd_some hs
  refine V_aald X 6 rfl dX6_ledger_45 (gm18 (gmT hK (by decide))) rfl h8 (v := .ref (ad 1 0 ((Z4 20 0 0 p1.toNatClampNeg).toNatClampNeg))) rfl ?_
  refine V_astore X dX6_ledger_46 [(4, .ref (ad 1 0 ((Z4 20 0 0 p1.toNatClampNeg).toNatClampNeg))), (3, .int (Z4 20 0 0 p1.toNatClampNeg)), (0, .ref (ad 6 0 0)), (1, .int p1), (2, .int p2)] (by decide) rfl ?_
  refine V_iload_n X dX6_ledger_48 rfl 4 rfl ?_
  by_cases c9 : p2 = (0 : Int32)
  · replace hs := if_t hs c9
    refine V_tsw X 76 dX6_ledger_49 (0) (by rw [c9]; rfl) (by decide) (by decide) rfl (by decide) ?_
    refine V_iload_n X dX6_ledger_76 rfl 1 rfl ?_
    obtain rfl := ll_eq hs; exact V_iret X hr dX6_ledger_77
  replace hs := if_f hs c9
  by_cases c10 : p2 = (1 : Int32)
  · replace hs := if_t hs c10
    refine V_tsw X 78 dX6_ledger_49 (1) (by rw [c10]; rfl) (by decide) (by decide) rfl (by decide) ?_
    refine V_aload X dX6_ledger_78 0 rfl ?_
    refine V_get X dX6_ledger_80 r_X6_242 (gm1 (gmT hK (by decide)) (inb_lt h8)) rfl rfl ?_
    obtain rfl := ll_eq hs; exact V_iret X hr dX6_ledger_83
  replace hs := if_f hs c10
  by_cases c11 : p2 = (2 : Int32)
  · replace hs := if_t hs c11
    refine V_tsw X 84 dX6_ledger_49 (2) (by rw [c11]; rfl) (by decide) (by decide) rfl (by decide) ?_
    refine V_aload X dX6_ledger_84 0 rfl ?_
    refine V_get X dX6_ledger_86 r_X6_257 (gm1 (gmT hK (by decide)) (inb_lt h8)) rfl rfl ?_
    obtain rfl := ll_eq hs; exact V_iret X hr dX6_ledger_89
  replace hs := if_f hs c11
  refine V_tswD X 90 dX6_ledger_49 (by have ec9 := sw_ne c9 (0) (by rfl); have ec10 := sw_ne c10 (1) (by rfl); have ec11 := sw_ne c11 (2) (by rfl); omega) (by decide) ?_
  refine V_aload X dX6_ledger_90 0 rfl ?_
  refine V_get X dX6_ledger_92 r_X6_260 (gm1 (gmT hK (by decide)) (inb_lt h8)) rfl rfl ?_
  obtain rfl := ll_eq hs; exact V_iret X hr dX6_ledger_95
set_option maxRecDepth 100000 in
set_option maxHeartbeats 4000000 in
theorem x_X6_ledger {l : Launch} {D : va_G} {cA : Nat → ClassId} {dm : Dm} {ad : Ad} {S : S4} {p1 : Int32} {p2 : Int32} (hK : DK dm) (hl : l.stackTraces = false) {out : Nat × S4} (hs : s_X6_ledger p1 p2 S = some (.inr out)) : Cx D cA dm ad l yX6_ledger cX6_ledger 5 (some .int) 21 621 S [.ref (ad 6 0 0), .int p1, .int p2] out := by
  refine Cx.of (by decide +kernel) (Nat.le_of_ble_eq_true rfl) [(0, .ref (ad 6 0 0)), (1, .int p1), (2, .int p2)] rfl (fun p e s m args below meth c A X hr hZ hE => ?_)
  unfold s_X6_ledger at hs
  refine V_iload_n X dX6_ledger_0 rfl 1 rfl ?_
  refine V_aload_n X dX6_ledger_1 rfl 0 rfl ?_
  refine V_get X dX6_ledger_2 r_X6_10 (gm6 hK) rfl rfl ?_
  refine V_get X dX6_ledger_5 r_X6_277 (gm4 (gmT hK (by decide))) rfl rfl ?_
  rcases tb_r hs with ⟨Z2, eZ2, hs⟩ | hs9
  case inr => exact V_callSX X hE hZ [.int p1, .int (S 4 0 0 7)] dX6_ledger_8 m_X6_157 t_X6_requireIndex ⟨Nat.le_of_ble_eq_true rfl, Nat.le_of_ble_eq_true rfl⟩ ⟨by decide, by decide⟩ ⟨by decide, by decide⟩ rfl (Nat.le_of_ble_eq_true rfl) (x_X6_requireIndex  hl hs9)
  refine V_callSv X [.int p1, .int (S 4 0 0 7)] dX6_ledger_8 m_X6_157 t_X6_requireIndex ⟨Nat.le_of_ble_eq_true rfl, Nat.le_of_ble_eq_true rfl⟩ ⟨Nat.zero_le _, Nat.zero_le _⟩ rfl (Nat.le_of_ble_eq_true rfl) (c_X6_requireIndex  eZ2) ?_
  refine V_iload_n X dX6_ledger_11 rfl 2 rfl ?_
  refine V_iconst X (3 : Int32) dX6_ledger_12 (by decide) ?_
  rcases tb_r hs with ⟨Z4, eZ4, hs⟩ | hs9
  case inr => exact V_callSX X hE hZ [.int p2, .int (3 : Int32)] dX6_ledger_13 m_X6_161 t_X6_requireWhat ⟨Nat.le_of_ble_eq_true rfl, Nat.le_of_ble_eq_true rfl⟩ ⟨by decide, by decide⟩ ⟨by decide, by decide⟩ rfl (Nat.le_of_ble_eq_true rfl) (x_X6_requireWhat  hl hs9)
  refine V_callSv X [.int p2, .int (3 : Int32)] dX6_ledger_13 m_X6_161 t_X6_requireWhat ⟨Nat.le_of_ble_eq_true rfl, Nat.le_of_ble_eq_true rfl⟩ ⟨Nat.zero_le _, Nat.zero_le _⟩ rfl (Nat.le_of_ble_eq_true rfl) (c_X6_requireWhat  eZ4) ?_
  refine V_aload_n X dX6_ledger_16 rfl 0 rfl ?_
  refine V_get X dX6_ledger_17 r_X6_10 (gm6 hK) rfl rfl ?_
  refine V_get X dX6_ledger_20 r_X6_388 (gm4 (gmT hK (by decide))) rfl rfl ?_
  refine V_iload_n X dX6_ledger_23 rfl 1 rfl ?_
  obtain ⟨h5, hs⟩ := gd_some hs
  refine V_iald X dX6_ledger_24 (gm20 (gmT hK (by decide))) rfl h5 ?_
  refine V_istore_n X dX6_ledger_25 rfl [(3, .int (Z4 20 0 0 p1.toNatClampNeg)), (0, .ref (ad 6 0 0)), (1, .int p1), (2, .int p2)] (by decide) rfl ?_
  refine V_iload_n X dX6_ledger_26 rfl 0 rfl ?_
  refine V_aload_n X dX6_ledger_27 rfl 1 rfl ?_
  refine V_get X dX6_ledger_28 r_X6_10 (gm6 hK) rfl rfl ?_
  refine V_get X dX6_ledger_31 r_X6_44 (gm4 (gmT hK (by decide))) rfl rfl ?_
  rcases tb_r hs with ⟨Z7, eZ7, hs⟩ | hs9
  case inr => exact V_callSX X hE hZ [.int (Z4 20 0 0 p1.toNatClampNeg), .int (Z4 4 0 0 6)] dX6_ledger_34 m_X6_157 t_X6_requireIndex ⟨Nat.le_of_ble_eq_true rfl, Nat.le_of_ble_eq_true rfl⟩ ⟨by decide, by decide⟩ ⟨by decide, by decide⟩ rfl (Nat.le_of_ble_eq_true rfl) (x_X6_requireIndex  hl hs9)
  refine V_callSv X [.int (Z4 20 0 0 p1.toNatClampNeg), .int (Z4 4 0 0 6)] dX6_ledger_34 m_X6_157 t_X6_requireIndex ⟨Nat.le_of_ble_eq_true rfl, Nat.le_of_ble_eq_true rfl⟩ ⟨Nat.zero_le _, Nat.zero_le _⟩ rfl (Nat.le_of_ble_eq_true rfl) (c_X6_requireIndex  eZ7) ?_
  refine V_aload_n X dX6_ledger_37 rfl 1 rfl ?_
  refine V_get X dX6_ledger_38 r_X6_10 (gm6 hK) rfl rfl ?_
  refine V_get X dX6_ledger_41 r_X6_219 (gm4 (gmT hK (by decide))) rfl rfl ?_
  refine V_iload_n X dX6_ledger_44 rfl 0 rfl ?_
  obtain ⟨h8, hs⟩ := gd_some hs
  refine V_aald X 6 rfl dX6_ledger_45 (gm18 (gmT hK (by decide))) rfl h8 (v := .ref (ad 1 0 ((Z4 20 0 0 p1.toNatClampNeg).toNatClampNeg))) rfl ?_
  refine V_astore X dX6_ledger_46 [(4, .ref (ad 1 0 ((Z4 20 0 0 p1.toNatClampNeg).toNatClampNeg))), (3, .int (Z4 20 0 0 p1.toNatClampNeg)), (0, .ref (ad 6 0 0)), (1, .int p1), (2, .int p2)] (by decide) rfl ?_
  refine V_iload_n X dX6_ledger_48 rfl 4 rfl ?_
  by_cases c9 : p2 = (0 : Int32)
  · replace hs := if_t hs c9
    refine V_tsw X 76 dX6_ledger_49 (0) (by rw [c9]; rfl) (by decide) (by decide) rfl (by decide) ?_
    refine V_iload_n X dX6_ledger_76 rfl 1 rfl ?_
    exact (lr_no hs).elim
  replace hs := if_f hs c9
  by_cases c10 : p2 = (1 : Int32)
  · replace hs := if_t hs c10
    refine V_tsw X 78 dX6_ledger_49 (1) (by rw [c10]; rfl) (by decide) (by decide) rfl (by decide) ?_
    refine V_aload X dX6_ledger_78 0 rfl ?_
    refine V_get X dX6_ledger_80 r_X6_242 (gm1 (gmT hK (by decide)) (inb_lt h8)) rfl rfl ?_
    exact (lr_no hs).elim
  replace hs := if_f hs c10
  by_cases c11 : p2 = (2 : Int32)
  · replace hs := if_t hs c11
    refine V_tsw X 84 dX6_ledger_49 (2) (by rw [c11]; rfl) (by decide) (by decide) rfl (by decide) ?_
    refine V_aload X dX6_ledger_84 0 rfl ?_
    refine V_get X dX6_ledger_86 r_X6_257 (gm1 (gmT hK (by decide)) (inb_lt h8)) rfl rfl ?_
    exact (lr_no hs).elim
  replace hs := if_f hs c11
  refine V_tswD X 90 dX6_ledger_49 (by have ec9 := sw_ne c9 (0) (by rfl); have ec10 := sw_ne c10 (1) (by rfl); have ec11 := sw_ne c11 (2) (by rfl); omega) (by decide) ?_
  refine V_aload X dX6_ledger_90 0 rfl ?_
  refine V_get X dX6_ledger_92 r_X6_260 (gm1 (gmT hK (by decide)) (inb_lt h8)) rfl rfl ?_
  exact (lr_no hs).elim

def s_X6_undo (np : Nat) (fu : Nat)  (S : S4) : Option ((Int32 × S4) ⊕ (Nat × S4)) := (if (S 6 0 0 4) = 0 then some (.inr (2, S)) else sv (u4 S 6 0 0 4 ((S 6 0 0 4) - (1 : Int32))) fun Z2 => ((if (Z2 6 0 0 5) ≤ 0 then some (7 : Int32) else some ((Z2 6 0 0 5) - (1 : Int32)))).bind fun q3 => sv (u4 Z2 6 0 0 5 q3) fun Z4 => gd (inb (Z4 6 0 0 5) 8) ((s_X4_copyFrom np fu 0 (3 + (Z4 6 0 0 5).toNatClampNeg) Z4).bind fun Z7 => some (.inl ((Z7 6 0 0 4), Z7))))
set_option maxRecDepth 100000 in
set_option maxHeartbeats 4000000 in
theorem c_X6_undo {l : Launch} {D : va_G} {cA : Nat → ClassId} {dm : Dm} {ad : Ad} {np : Nat} {fu : Nat} {S : S4} (hK : DK dm) (hnp : ∀ i, i < np → DP dm i) {out : (Int32 × S4)} (hs : s_X6_undo np fu S = some (.inl out)) : Ct D cA dm ad l yX6_undo cX6_undo 1 (some .int) 20 600 S [.ref (ad 6 0 0)] (some (.int out.1)) out.2 := by
  refine Ct.of (by decide +kernel) (Nat.le_of_ble_eq_true rfl) [(0, .ref (ad 6 0 0))] rfl (fun p e s m args below meth c A X hr => ?_)
  unfold s_X6_undo at hs
  refine V_aload_n X dX6_undo_0 rfl 0 rfl ?_
  refine V_get X dX6_undo_1 r_X6_391 (gm6 hK) rfl rfl ?_
  refine V_if_ne X 18 dX6_undo_4 (by decide) (fun c1 => ?_) (fun c1 => ?_)
  · replace hs := if_f hs c1
    refine V_aload_n X dX6_undo_18 rfl 0 rfl ?_
    refine V_dup X dX6_undo_19 rfl ?_
    refine V_get X dX6_undo_20 r_X6_391 (gm6 hK) rfl rfl ?_
    refine V_iconst X (1 : Int32) dX6_undo_23 (by decide) ?_
    refine V_isub X dX6_undo_24 ?_
    refine V_put X dX6_undo_25 f_X6_391 (gm6 hK) rfl (Nat.le_of_ble_eq_true rfl) rfl rfl rfl (fun Z2 eZ2 => ?_)
    replace hs := sv_some hs Z2 eZ2
    clear eZ2
    refine V_aload_n X dX6_undo_28 rfl 0 rfl ?_
    refine V_aload_n X dX6_undo_29 rfl 0 rfl ?_
    refine V_get X dX6_undo_30 r_X6_396 (gm6 hK) rfl rfl ?_
    refine jn (P := fun q => V D cA dm ad A 1 p l e ({ frames := 20, cells := 0, slots := 0, locals := 600 }) s m args below meth c 0 0 (MQ below (gQ D cA dm ad out.2 (some (.int out.1)) A) args s 0 0 A) Z2 47 [(0, .ref (ad 6 0 0))] [.int q, .ref (ad 6 0 0)]) hs (fun q3 hs => ?_) (fun J47 hs => ?_)
    · refine V_put X dX6_undo_47 f_X6_396 (gm6 hK) rfl (Nat.le_of_ble_eq_true rfl) rfl rfl rfl (fun Z4 eZ4 => ?_)
      replace hs := sv_some hs Z4 eZ4
      clear eZ4
      refine V_aload_n X dX6_undo_50 rfl 0 rfl ?_
      refine V_get X dX6_undo_51 r_X6_10 (gm6 hK) rfl rfl ?_
      refine V_aload_n X dX6_undo_54 rfl 0 rfl ?_
      refine V_get X dX6_undo_55 r_X6_22 (gm6 hK) rfl rfl ?_
      refine V_aload_n X dX6_undo_58 rfl 0 rfl ?_
      refine V_get X dX6_undo_59 r_X6_396 (gm6 hK) rfl rfl ?_
      obtain ⟨h5, hs⟩ := gd_some hs
      refine V_aald X 2 rfl dX6_undo_62 (gm22 hK) rfl h5 (v := .ref (ad 4 (3 + (Z4 6 0 0 5).toNatClampNeg) 0)) rfl ?_
      obtain ⟨Z7, eZ7, hs⟩ := bd_some hs
      refine V_callVv X [.ref (ad 4 (3 + (Z4 6 0 0 5).toNatClampNeg) 0)] dX6_undo_63 m_X6_365 v_X4_copyFrom ⟨Nat.le_of_ble_eq_true rfl, Nat.le_of_ble_eq_true rfl⟩ ⟨Nat.zero_le _, Nat.zero_le _⟩ rfl (Nat.le_of_ble_eq_true rfl) (gm4 (gmT hK (by decide))) rfl cl4 (c_X4_copyFrom (gmT hK (by decide)) (gmT hK (inb_past h5)) hnp eZ7) ?_
      refine V_aload_n X dX6_undo_66 rfl 0 rfl ?_
      refine V_get X dX6_undo_67 r_X6_391 (gm6 hK) rfl rfl ?_
      obtain rfl := ll_eq hs; exact V_iret X hr dX6_undo_70
    · refine V_if_le X 45 dX6_undo_33 (by decide) (fun c8 => ?_) (fun c8 => ?_)
      · replace hs := if_tB hs c8
        refine V_bipush X (7 : Int32) dX6_undo_45 (by decide) ?_
        exact J47 _ (bs_some hs)
      · replace hs := if_fB hs c8
        refine V_aload_n X dX6_undo_36 rfl 0 rfl ?_
        refine V_get X dX6_undo_37 r_X6_396 (gm6 hK) rfl rfl ?_
        refine V_iconst X (1 : Int32) dX6_undo_40 (by decide) ?_
        refine V_isub X dX6_undo_41 ?_
        refine V_goto X 47 dX6_undo_42 (by decide) ?_
        exact J47 _ (bs_some hs)
  · replace hs := if_t hs c1
    exact (rl_no hs).elim
set_option maxRecDepth 100000 in
set_option maxHeartbeats 4000000 in
theorem x_X6_undo {l : Launch} {D : va_G} {cA : Nat → ClassId} {dm : Dm} {ad : Ad} {np : Nat} {fu : Nat} {S : S4} (hK : DK dm) (hnp : ∀ i, i < np → DP dm i) (hl : l.stackTraces = false) {out : Nat × S4} (hs : s_X6_undo np fu S = some (.inr out)) : Cx D cA dm ad l yX6_undo cX6_undo 1 (some .int) 20 600 S [.ref (ad 6 0 0)] out := by
  refine Cx.of (by decide +kernel) (Nat.le_of_ble_eq_true rfl) [(0, .ref (ad 6 0 0))] rfl (fun p e s m args below meth c A X hr hZ hE => ?_)
  unfold s_X6_undo at hs
  refine V_aload_n X dX6_undo_0 rfl 0 rfl ?_
  refine V_get X dX6_undo_1 r_X6_391 (gm6 hK) rfl rfl ?_
  refine V_if_ne X 18 dX6_undo_4 (by decide) (fun c1 => ?_) (fun c1 => ?_)
  · replace hs := if_f hs c1
    refine V_aload_n X dX6_undo_18 rfl 0 rfl ?_
    refine V_dup X dX6_undo_19 rfl ?_
    refine V_get X dX6_undo_20 r_X6_391 (gm6 hK) rfl rfl ?_
    refine V_iconst X (1 : Int32) dX6_undo_23 (by decide) ?_
    refine V_isub X dX6_undo_24 ?_
    refine V_put X dX6_undo_25 f_X6_391 (gm6 hK) rfl (Nat.le_of_ble_eq_true rfl) rfl rfl rfl (fun Z2 eZ2 => ?_)
    replace hs := sv_some hs Z2 eZ2
    clear eZ2
    refine V_aload_n X dX6_undo_28 rfl 0 rfl ?_
    refine V_aload_n X dX6_undo_29 rfl 0 rfl ?_
    refine V_get X dX6_undo_30 r_X6_396 (gm6 hK) rfl rfl ?_
    refine jn (P := fun q => V D cA dm ad A 1 p l e ({ frames := 20, cells := 1, slots := 6, locals := 600 }) s m args below meth c 0 0 (vx_MQ below qN (xQ D cA dm ad out.2 out.1 A) args s 1 6 A) Z2 47 [(0, .ref (ad 6 0 0))] [.int q, .ref (ad 6 0 0)]) hs (fun q3 hs => ?_) (fun J47 hs => ?_)
    · refine V_put X dX6_undo_47 f_X6_396 (gm6 hK) rfl (Nat.le_of_ble_eq_true rfl) rfl rfl rfl (fun Z4 eZ4 => ?_)
      replace hs := sv_some hs Z4 eZ4
      clear eZ4
      refine V_aload_n X dX6_undo_50 rfl 0 rfl ?_
      refine V_get X dX6_undo_51 r_X6_10 (gm6 hK) rfl rfl ?_
      refine V_aload_n X dX6_undo_54 rfl 0 rfl ?_
      refine V_get X dX6_undo_55 r_X6_22 (gm6 hK) rfl rfl ?_
      refine V_aload_n X dX6_undo_58 rfl 0 rfl ?_
      refine V_get X dX6_undo_59 r_X6_396 (gm6 hK) rfl rfl ?_
      obtain ⟨h5, hs⟩ := gd_some hs
      refine V_aald X 2 rfl dX6_undo_62 (gm22 hK) rfl h5 (v := .ref (ad 4 (3 + (Z4 6 0 0 5).toNatClampNeg) 0)) rfl ?_
      obtain ⟨Z7, eZ7, hs⟩ := bd_some hs
      refine V_callVv X [.ref (ad 4 (3 + (Z4 6 0 0 5).toNatClampNeg) 0)] dX6_undo_63 m_X6_365 v_X4_copyFrom ⟨Nat.le_of_ble_eq_true rfl, Nat.le_of_ble_eq_true rfl⟩ ⟨Nat.zero_le _, Nat.zero_le _⟩ rfl (Nat.le_of_ble_eq_true rfl) (gm4 (gmT hK (by decide))) rfl cl4 (c_X4_copyFrom (gmT hK (by decide)) (gmT hK (inb_past h5)) hnp eZ7) ?_
      refine V_aload_n X dX6_undo_66 rfl 0 rfl ?_
      refine V_get X dX6_undo_67 r_X6_391 (gm6 hK) rfl rfl ?_
      exact (lr_no hs).elim
    · refine V_if_le X 45 dX6_undo_33 (by decide) (fun c8 => ?_) (fun c8 => ?_)
      · replace hs := if_tB hs c8
        refine V_bipush X (7 : Int32) dX6_undo_45 (by decide) ?_
        exact J47 _ (bs_some hs)
      · replace hs := if_fB hs c8
        refine V_aload_n X dX6_undo_36 rfl 0 rfl ?_
        refine V_get X dX6_undo_37 r_X6_396 (gm6 hK) rfl rfl ?_
        refine V_iconst X (1 : Int32) dX6_undo_40 (by decide) ?_
        refine V_isub X dX6_undo_41 ?_
        refine V_goto X 47 dX6_undo_42 (by decide) ?_
        exact J47 _ (bs_some hs)
  · replace hs := if_t hs c1
    obtain rfl := rr_eq hs
    exact V_throwSW X hE hl hZ tw_2 (text := "no change to undo") (by decide +kernel) dX6_undo_7 dX6_undo_10 dX6_undo_11 dX6_undo_14 dX6_undo_17 (Nat.le_of_ble_eq_true rfl) ⟨by decide, by decide, by decide, by decide⟩ ⟨by decide, by decide⟩

def s_X6_restoreSnapshot (np : Nat) (fu : Nat)  (S : S4) : Option ((Int32 × S4) ⊕ (Nat × S4)) := (if (S 6 0 0 6) = 0 then some (.inr (2, S)) else (s_X4_copyFrom np fu 0 2 S).bind fun Z3 => (s_X6_forgetChanges Z3).bind fun Z5 => some (.inl ((Z5 4 0 0 0), Z5)))
set_option maxRecDepth 100000 in
set_option maxHeartbeats 4000000 in
theorem c_X6_restoreSnapshot {l : Launch} {D : va_G} {cA : Nat → ClassId} {dm : Dm} {ad : Ad} {np : Nat} {fu : Nat} {S : S4} (hK : DK dm) (hnp : ∀ i, i < np → DP dm i) {out : (Int32 × S4)} (hs : s_X6_restoreSnapshot np fu S = some (.inl out)) : Ct D cA dm ad l yX6_restoreSnapshot cX6_restoreSnapshot 1 (some .int) 20 600 S [.ref (ad 6 0 0)] (some (.int out.1)) out.2 := by
  refine Ct.of (by decide +kernel) (Nat.le_of_ble_eq_true rfl) [(0, .ref (ad 6 0 0))] rfl (fun p e s m args below meth c A X hr => ?_)
  unfold s_X6_restoreSnapshot at hs
  refine V_aload_n X dX6_restoreSnapshot_0 rfl 0 rfl ?_
  refine V_get X dX6_restoreSnapshot_1 r_X6_399 (gm6 hK) rfl rfl ?_
  refine V_if_ne X 18 dX6_restoreSnapshot_4 (by decide) (fun c1 => ?_) (fun c1 => ?_)
  · replace hs := if_f hs c1
    refine V_aload_n X dX6_restoreSnapshot_18 rfl 0 rfl ?_
    refine V_get X dX6_restoreSnapshot_19 r_X6_10 (gm6 hK) rfl rfl ?_
    refine V_aload_n X dX6_restoreSnapshot_22 rfl 0 rfl ?_
    refine V_get X dX6_restoreSnapshot_23 r_X6_19 (gm6 hK) rfl rfl ?_
    obtain ⟨Z3, eZ3, hs⟩ := bd_some hs
    refine V_callVv X [.ref (ad 4 2 0)] dX6_restoreSnapshot_26 m_X6_365 v_X4_copyFrom ⟨Nat.le_of_ble_eq_true rfl, Nat.le_of_ble_eq_true rfl⟩ ⟨Nat.zero_le _, Nat.zero_le _⟩ rfl (Nat.le_of_ble_eq_true rfl) (gm4 (gmT hK (by decide))) rfl cl4 (c_X4_copyFrom (gmT hK (by decide)) (gmT hK (by decide)) hnp eZ3) ?_
    refine V_aload_n X dX6_restoreSnapshot_29 rfl 0 rfl ?_
    obtain ⟨Z5, eZ5, hs⟩ := bd_some hs
    refine V_callVv X [] dX6_restoreSnapshot_30 m_X6_52 v_X6_forgetChanges ⟨Nat.le_of_ble_eq_true rfl, Nat.le_of_ble_eq_true rfl⟩ ⟨Nat.zero_le _, Nat.zero_le _⟩ rfl (Nat.le_of_ble_eq_true rfl) (gm6 hK) rfl cl6 (c_X6_forgetChanges hK eZ5) ?_
    refine V_aload_n X dX6_restoreSnapshot_33 rfl 0 rfl ?_
    refine V_get X dX6_restoreSnapshot_34 r_X6_10 (gm6 hK) rfl rfl ?_
    refine V_get X dX6_restoreSnapshot_37 r_X6_333 (gm4 (gmT hK (by decide))) rfl rfl ?_
    obtain rfl := ll_eq hs; exact V_iret X hr dX6_restoreSnapshot_40
  · replace hs := if_t hs c1
    exact (rl_no hs).elim
set_option maxRecDepth 100000 in
set_option maxHeartbeats 4000000 in
theorem x_X6_restoreSnapshot {l : Launch} {D : va_G} {cA : Nat → ClassId} {dm : Dm} {ad : Ad} {np : Nat} {fu : Nat} {S : S4} (hK : DK dm) (hnp : ∀ i, i < np → DP dm i) (hl : l.stackTraces = false) {out : Nat × S4} (hs : s_X6_restoreSnapshot np fu S = some (.inr out)) : Cx D cA dm ad l yX6_restoreSnapshot cX6_restoreSnapshot 1 (some .int) 20 600 S [.ref (ad 6 0 0)] out := by
  refine Cx.of (by decide +kernel) (Nat.le_of_ble_eq_true rfl) [(0, .ref (ad 6 0 0))] rfl (fun p e s m args below meth c A X hr hZ hE => ?_)
  unfold s_X6_restoreSnapshot at hs
  refine V_aload_n X dX6_restoreSnapshot_0 rfl 0 rfl ?_
  refine V_get X dX6_restoreSnapshot_1 r_X6_399 (gm6 hK) rfl rfl ?_
  refine V_if_ne X 18 dX6_restoreSnapshot_4 (by decide) (fun c1 => ?_) (fun c1 => ?_)
  · replace hs := if_f hs c1
    refine V_aload_n X dX6_restoreSnapshot_18 rfl 0 rfl ?_
    refine V_get X dX6_restoreSnapshot_19 r_X6_10 (gm6 hK) rfl rfl ?_
    refine V_aload_n X dX6_restoreSnapshot_22 rfl 0 rfl ?_
    refine V_get X dX6_restoreSnapshot_23 r_X6_19 (gm6 hK) rfl rfl ?_
    obtain ⟨Z3, eZ3, hs⟩ := bd_some hs
    refine V_callVv X [.ref (ad 4 2 0)] dX6_restoreSnapshot_26 m_X6_365 v_X4_copyFrom ⟨Nat.le_of_ble_eq_true rfl, Nat.le_of_ble_eq_true rfl⟩ ⟨Nat.zero_le _, Nat.zero_le _⟩ rfl (Nat.le_of_ble_eq_true rfl) (gm4 (gmT hK (by decide))) rfl cl4 (c_X4_copyFrom (gmT hK (by decide)) (gmT hK (by decide)) hnp eZ3) ?_
    refine V_aload_n X dX6_restoreSnapshot_29 rfl 0 rfl ?_
    obtain ⟨Z5, eZ5, hs⟩ := bd_some hs
    refine V_callVv X [] dX6_restoreSnapshot_30 m_X6_52 v_X6_forgetChanges ⟨Nat.le_of_ble_eq_true rfl, Nat.le_of_ble_eq_true rfl⟩ ⟨Nat.zero_le _, Nat.zero_le _⟩ rfl (Nat.le_of_ble_eq_true rfl) (gm6 hK) rfl cl6 (c_X6_forgetChanges hK eZ5) ?_
    refine V_aload_n X dX6_restoreSnapshot_33 rfl 0 rfl ?_
    refine V_get X dX6_restoreSnapshot_34 r_X6_10 (gm6 hK) rfl rfl ?_
    refine V_get X dX6_restoreSnapshot_37 r_X6_333 (gm4 (gmT hK (by decide))) rfl rfl ?_
    exact (lr_no hs).elim
  · replace hs := if_t hs c1
    obtain rfl := rr_eq hs
    exact V_throwSW X hE hl hZ tw_2 (text := "no snapshot was saved") (by decide +kernel) dX6_restoreSnapshot_7 dX6_restoreSnapshot_10 dX6_restoreSnapshot_11 dX6_restoreSnapshot_14 dX6_restoreSnapshot_17 (Nat.le_of_ble_eq_true rfl) ⟨by decide, by decide, by decide, by decide⟩ ⟨by decide, by decide⟩
