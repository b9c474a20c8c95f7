def s_L_build (fu : Nat) (p2 : Int32) (S : S4) : Option (Int32 × S4) := (s_X6_build fu p2 S).bind fun r1 => Sum.elim (fun q2 => sv (u4 q2.2 36 0 0 ((0 : Int32).toNatClampNeg) q2.1) fun Z4 => some ((0 : Int32), Z4)) (fun e3 => if e3.1 = 1 then some ((1 : Int32), e3.2) else none) r1
set_option maxRecDepth 100000 in
set_option maxHeartbeats 4000000 in
theorem c_L_build {l : Launch} {D : va_G} {cA : Nat → ClassId} {dm : Dm} {ad : Ad} {fu : Nat} {S : S4} {p2 : Int32} (hK : DK dm) (hL : dm 36 0 0) (hl : l.stackTraces = false) {out : (Int32 × S4)} (hs : s_L_build fu p2 S = some out) : Cw D cA dm ad l yL_build cL_build 4 (some .int) [(0, 9, 12, 13)] 21 622 S [.ref (ad 6 0 0), .int p2, .ref (ad 36 0 0)] (some (.int out.1)) out.2 := by
  refine Cw.of (by decide +kernel) (Nat.le_of_ble_eq_true rfl) [(0, .ref (ad 6 0 0)), (1, .int p2), (2, .ref (ad 36 0 0))] rfl (fun p e s m args below meth c A X hr hZ htab => ?_)
  unfold s_L_build at hs
  refine V_aload_n X dL_build_0 rfl 2 rfl ?_
  refine V_iconst X (0 : Int32) dL_build_1 (by decide) ?_
  refine V_aload_n X dL_build_2 rfl 0 rfl ?_
  refine V_iload_n X dL_build_3 rfl 1 rfl ?_
  obtain ⟨r1, er1, hs⟩ := bd_some hs
  cases r1 with
  | inl q2 =>
    replace hs := el_l hs
    refine V_callVs X [.int p2] dL_build_4 m_L_7 v_X6_build ⟨Nat.le_of_ble_eq_true rfl, Nat.le_of_ble_eq_true rfl⟩ ⟨Nat.zero_le _, Nat.zero_le _⟩ rfl (Nat.le_of_ble_eq_true rfl) (gm6 hK) rfl cl6 (c_X6_build hK er1) ?_
    refine V_i2l X dL_build_7 ?_
    refine V_last X hL (z := q2.1) rfl (by decide) dL_build_8 (fun Z4 eZ4 => ?_)
    replace hs := sv_some hs Z4 eZ4
    clear eZ4
    refine V_goto X 15 dL_build_9 (by decide) ?_
    refine V_iconst X (0 : Int32) dL_build_15 (by decide) ?_
    obtain rfl := Option.some.inj hs; exact V_wret X hr dL_build_16 (by decide) (by decide)
  | inr e3 =>
    replace hs := el_r hs
    by_cases c5 : e3.1 = 1
    · replace hs := if_t hs c5
      refine V_callVC X hZ htab c5 [.int p2] dL_build_4 m_L_7 v_X6_build ⟨Nat.le_of_ble_eq_true rfl, Nat.le_of_ble_eq_true rfl⟩ ⟨by decide, by decide⟩ rfl (Nat.le_of_ble_eq_true rfl) (gm6 hK) rfl cl6 (x_X6_build hK hl er1) [] ⟨0, 9, 12, 13⟩ [] rfl (fun z hz => nomatch hz) rfl (by decide) k_L_13 (by decide) (fun q6 => ?_)
      refine V_astore_n X dL_build_12 rfl [(3, .ref q6), (0, .ref (ad 6 0 0)), (1, .int p2), (2, .ref (ad 36 0 0))] (by decide) rfl ?_
      refine V_iconst X (1 : Int32) dL_build_13 (by decide) ?_
      obtain rfl := Option.some.inj hs; exact V_wret X hr dL_build_14 (by decide) (by decide)
    replace hs := if_f hs c5
    cases hs

def s_L_addStation (np : Nat) (fu : Nat) (p2 : Int32) (S : S4) : Option (Int32 × S4) := (s_X6_addStation np fu p2 S).bind fun r1 => Sum.elim (fun q2 => sv (u4 q2.2 36 0 0 ((0 : Int32).toNatClampNeg) q2.1) fun Z4 => some ((0 : Int32), Z4)) (fun e3 => if e3.1 = 1 then some ((1 : Int32), e3.2) else if e3.1 = 2 then some ((2 : Int32), e3.2) else none) r1
set_option maxRecDepth 100000 in
set_option maxHeartbeats 4000000 in
theorem c_L_addStation {l : Launch} {D : va_G} {cA : Nat → ClassId} {dm : Dm} {ad : Ad} {np : Nat} {fu : Nat} {S : S4} {p2 : Int32} (hK : DK dm) (hL : dm 36 0 0) (hnp : ∀ i, i < np → DP dm i) (hl : l.stackTraces = false) {out : (Int32 × S4)} (hs : s_L_addStation np fu p2 S = some out) : Cw D cA dm ad l yL_addStation cL_addStation 4 (some .int) [(0, 9, 12, 13), (0, 9, 15, 18)] 21 621 S [.ref (ad 6 0 0), .int p2, .ref (ad 36 0 0)] (some (.int out.1)) out.2 := by
  refine Cw.of (by decide +kernel) (Nat.le_of_ble_eq_true rfl) [(0, .ref (ad 6 0 0)), (1, .int p2), (2, .ref (ad 36 0 0))] rfl (fun p e s m args below meth c A X hr hZ htab => ?_)
  unfold s_L_addStation at hs
  refine V_aload_n X dL_addStation_0 rfl 2 rfl ?_
  refine V_iconst X (0 : Int32) dL_addStation_1 (by decide) ?_
  refine V_aload_n X dL_addStation_2 rfl 0 rfl ?_
  refine V_iload_n X dL_addStation_3 rfl 1 rfl ?_
  obtain ⟨r1, er1, hs⟩ := bd_some hs
  cases r1 with
  | inl q2 =>
    replace hs := el_l hs
    refine V_callVs X [.int p2] dL_addStation_4 m_L_15 v_X6_addStation ⟨Nat.le_of_ble_eq_true rfl, Nat.le_of_ble_eq_true rfl⟩ ⟨Nat.zero_le _, Nat.zero_le _⟩ rfl (Nat.le_of_ble_eq_true rfl) (gm6 hK) rfl cl6 (c_X6_addStation hK hnp er1) ?_
    refine V_i2l X dL_addStation_7 ?_
    refine V_last X hL (z := q2.1) rfl (by decide) dL_addStation_8 (fun Z4 eZ4 => ?_)
    replace hs := sv_some hs Z4 eZ4
    clear eZ4
    refine V_goto X 18 dL_addStation_9 (by decide) ?_
    refine V_iconst X (0 : Int32) dL_addStation_18 (by decide) ?_
    obtain rfl := Option.some.inj hs; exact V_wret X hr dL_addStation_19 (by decide) (by decide)
  | inr e3 =>
    replace hs := el_r hs
    by_cases c5 : e3.1 = 1
    · replace hs := if_t hs c5
      refine V_callVC X hZ htab c5 [.int p2] dL_addStation_4 m_L_15 v_X6_addStation ⟨Nat.le_of_ble_eq_true rfl, Nat.le_of_ble_eq_true rfl⟩ ⟨by decide, by decide⟩ rfl (Nat.le_of_ble_eq_true rfl) (gm6 hK) rfl cl6 (x_X6_addStation hK hnp hl er1) [] ⟨0, 9, 12, 13⟩ [⟨0, 9, 15, 18⟩] rfl (fun z hz => nomatch hz) rfl (by decide) k_L_13 (by decide) (fun q6 => ?_)
      refine V_astore_n X dL_addStation_12 rfl [(3, .ref q6), (0, .ref (ad 6 0 0)), (1, .int p2), (2, .ref (ad 36 0 0))] (by decide) rfl ?_
      refine V_iconst X (1 : Int32) dL_addStation_13 (by decide) ?_
      obtain rfl := Option.some.inj hs; exact V_wret X hr dL_addStation_14 (by decide) (by decide)
    replace hs := if_f hs c5
    by_cases c7 : e3.1 = 2
    · replace hs := if_t hs c7
      refine V_callVC X hZ htab c7 [.int p2] dL_addStation_4 m_L_15 v_X6_addStation ⟨Nat.le_of_ble_eq_true rfl, Nat.le_of_ble_eq_true rfl⟩ ⟨by decide, by decide⟩ rfl (Nat.le_of_ble_eq_true rfl) (gm6 hK) rfl cl6 (x_X6_addStation hK hnp hl er1) [⟨0, 9, 12, 13⟩] ⟨0, 9, 15, 18⟩ [] rfl (by intro z hz; simp only [List.mem_cons, List.not_mem_nil, or_false] at hz; rcases hz with rfl <;> first | exact ⟨by decide, _, k_L_13, by decide⟩) rfl (by decide) k_L_18 (by decide) (fun q8 => ?_)
      refine V_astore_n X dL_addStation_15 rfl [(3, .ref q8), (0, .ref (ad 6 0 0)), (1, .int p2), (2, .ref (ad 36 0 0))] (by decide) rfl ?_
      refine V_iconst X (2 : Int32) dL_addStation_16 (by decide) ?_
      obtain rfl := Option.some.inj hs; exact V_wret X hr dL_addStation_17 (by decide) (by decide)
    replace hs := if_f hs c7
    cases hs

def s_L_addChute (np : Nat) (fu : Nat) (p2 : Int32) (p3 : Int32) (p4 : Int32) (p5 : Int32) (p6 : Int32) (p7 : Int32) (S : S4) : Option (Int32 × S4) := (s_X6_addChute np fu p2 p3 p4 p5 p6 p7 S).bind fun r1 => Sum.elim (fun q2 => sv (u4 q2.2 36 0 0 ((0 : Int32).toNatClampNeg) q2.1) fun Z4 => some ((0 : Int32), Z4)) (fun e3 => if e3.1 = 1 then some ((1 : Int32), e3.2) else if e3.1 = 2 then some ((2 : Int32), e3.2) else none) r1
set_option maxRecDepth 100000 in
set_option maxHeartbeats 4000000 in
theorem c_L_addChute {l : Launch} {D : va_G} {cA : Nat → ClassId} {dm : Dm} {ad : Ad} {np : Nat} {fu : Nat} {S : S4} {p2 : Int32} {p3 : Int32} {p4 : Int32} {p5 : Int32} {p6 : Int32} {p7 : Int32} (hK : DK dm) (hL : dm 36 0 0) (hnp : ∀ i, i < np → DP dm i) (hl : l.stackTraces = false) {out : (Int32 × S4)} (hs : s_L_addChute np fu p2 p3 p4 p5 p6 p7 S = some out) : Cw D cA dm ad l yL_addChute cL_addChute 9 (some .int) [(0, 18, 21, 13), (0, 18, 25, 18)] 21 627 S [.ref (ad 6 0 0), .int p2, .int p3, .int p4, .int p5, .int p6, .int p7, .ref (ad 36 0 0)] (some (.int out.1)) out.2 := by
  refine Cw.of (by decide +kernel) (Nat.le_of_ble_eq_true rfl) [(0, .ref (ad 6 0 0)), (1, .int p2), (2, .int p3), (3, .int p4), (4, .int p5), (5, .int p6), (6, .int p7), (7, .ref (ad 36 0 0))] rfl (fun p e s m args below meth c A X hr hZ htab => ?_)
  unfold s_L_addChute at hs
  refine V_aload X dL_addChute_0 7 rfl ?_
  refine V_iconst X (0 : Int32) dL_addChute_2 (by decide) ?_
  refine V_aload_n X dL_addChute_3 rfl 0 rfl ?_
  refine V_iload_n X dL_addChute_4 rfl 1 rfl ?_
  refine V_iload_n X dL_addChute_5 rfl 2 rfl ?_
  refine V_iload_n X dL_addChute_6 rfl 3 rfl ?_
  refine V_iload X dL_addChute_7 4 rfl ?_
  refine V_iload X dL_addChute_9 5 rfl ?_
  refine V_iload X dL_addChute_11 6 rfl ?_
  obtain ⟨r1, er1, hs⟩ := bd_some hs
  cases r1 with
  | inl q2 =>
    replace hs := el_l hs
    refine V_callVs X [.int p2, .int p3, .int p4, .int p5, .int p6, .int p7] dL_addChute_13 m_L_20 v_X6_addChute ⟨Nat.le_of_ble_eq_true rfl, Nat.le_of_ble_eq_true rfl⟩ ⟨Nat.zero_le _, Nat.zero_le _⟩ rfl (Nat.le_of_ble_eq_true rfl) (gm6 hK) rfl cl6 (c_X6_addChute hK hnp er1) ?_
    refine V_i2l X dL_addChute_16 ?_
    refine V_last X hL (z := q2.1) rfl (by decide) dL_addChute_17 (fun Z4 eZ4 => ?_)
    replace hs := sv_some hs Z4 eZ4
    clear eZ4
    refine V_goto X 29 dL_addChute_18 (by decide) ?_
    refine V_iconst X (0 : Int32) dL_addChute_29 (by decide) ?_
    obtain rfl := Option.some.inj hs; exact V_wret X hr dL_addChute_30 (by decide) (by decide)
  | inr e3 =>
    replace hs := el_r hs
    by_cases c5 : e3.1 = 1
    · replace hs := if_t hs c5
      refine V_callVC X hZ htab c5 [.int p2, .int p3, .int p4, .int p5, .int p6, .int p7] dL_addChute_13 m_L_20 v_X6_addChute ⟨Nat.le_of_ble_eq_true rfl, Nat.le_of_ble_eq_true rfl⟩ ⟨by decide, by decide⟩ rfl (Nat.le_of_ble_eq_true rfl) (gm6 hK) rfl cl6 (x_X6_addChute hK hnp hl er1) [] ⟨0, 18, 21, 13⟩ [⟨0, 18, 25, 18⟩] rfl (fun z hz => nomatch hz) rfl (by decide) k_L_13 (by decide) (fun q6 => ?_)
      refine V_astore X dL_addChute_21 [(8, .ref q6), (0, .ref (ad 6 0 0)), (1, .int p2), (2, .int p3), (3, .int p4), (4, .int p5), (5, .int p6), (6, .int p7), (7, .ref (ad 36 0 0))] (by decide) rfl ?_
      refine V_iconst X (1 : Int32) dL_addChute_23 (by decide) ?_
      obtain rfl := Option.some.inj hs; exact V_wret X hr dL_addChute_24 (by decide) (by decide)
    replace hs := if_f hs c5
    by_cases c7 : e3.1 = 2
    · replace hs := if_t hs c7
      refine V_callVC X hZ htab c7 [.int p2, .int p3, .int p4, .int p5, .int p6, .int p7] dL_addChute_13 m_L_20 v_X6_addChute ⟨Nat.le_of_ble_eq_true rfl, Nat.le_of_ble_eq_true rfl⟩ ⟨by decide, by decide⟩ rfl (Nat.le_of_ble_eq_true rfl) (gm6 hK) rfl cl6 (x_X6_addChute hK hnp hl er1) [⟨0, 18, 21, 13⟩] ⟨0, 18, 25, 18⟩ [] rfl (by intro z hz; simp only [List.mem_cons, List.not_mem_nil, or_false] at hz; rcases hz with rfl <;> first | exact ⟨by decide, _, k_L_13, by decide⟩) rfl (by decide) k_L_18 (by decide) (fun q8 => ?_)
      refine V_astore X dL_addChute_25 [(8, .ref q8), (0, .ref (ad 6 0 0)), (1, .int p2), (2, .int p3), (3, .int p4), (4, .int p5), (5, .int p6), (6, .int p7), (7, .ref (ad 36 0 0))] (by decide) rfl ?_
      refine V_iconst X (2 : Int32) dL_addChute_27 (by decide) ?_
      obtain rfl := Option.some.inj hs; exact V_wret X hr dL_addChute_28 (by decide) (by decide)
    replace hs := if_f hs c7
    cases hs

def s_L_feed (p2 : Int32) (S : S4) : Option (Int32 × S4) := (s_X6_feed p2 S).bind fun r1 => Sum.elim (fun q2 => sv (u4 q2.2 36 0 0 ((0 : Int32).toNatClampNeg) q2.1) fun Z4 => some ((0 : Int32), Z4)) (fun e3 => if e3.1 = 2 then some ((1 : Int32), e3.2) else none) r1
set_option maxRecDepth 100000 in
set_option maxHeartbeats 4000000 in
theorem c_L_feed {l : Launch} {D : va_G} {cA : Nat → ClassId} {dm : Dm} {ad : Ad} {S : S4} {p2 : Int32} (hK : DK dm) (hL : dm 36 0 0) (hl : l.stackTraces = false) {out : (Int32 × S4)} (hs : s_L_feed p2 S = some out) : Cw D cA dm ad l yL_feed cL_feed 4 (some .int) [(0, 9, 12, 18)] 21 621 S [.ref (ad 6 0 0), .int p2, .ref (ad 36 0 0)] (some (.int out.1)) out.2 := by
  refine Cw.of (by decide +kernel) (Nat.le_of_ble_eq_true rfl) [(0, .ref (ad 6 0 0)), (1, .int p2), (2, .ref (ad 36 0 0))] rfl (fun p e s m args below meth c A X hr hZ htab => ?_)
  unfold s_L_feed at hs
  refine V_aload_n X dL_feed_0 rfl 2 rfl ?_
  refine V_iconst X (0 : Int32) dL_feed_1 (by decide) ?_
  refine V_aload_n X dL_feed_2 rfl 0 rfl ?_
  refine V_iload_n X dL_feed_3 rfl 1 rfl ?_
  obtain ⟨r1, er1, hs⟩ := bd_some hs
  cases r1 with
  | inl q2 =>
    replace hs := el_l hs
    refine V_callVs X [.int p2] dL_feed_4 m_L_24 v_X6_feed ⟨Nat.le_of_ble_eq_true rfl, Nat.le_of_ble_eq_true rfl⟩ ⟨Nat.zero_le _, Nat.zero_le _⟩ rfl (Nat.le_of_ble_eq_true rfl) (gm6 hK) rfl cl6 (c_X6_feed hK er1) ?_
    refine V_i2l X dL_feed_7 ?_
    refine V_last X hL (z := q2.1) rfl (by decide) dL_feed_8 (fun Z4 eZ4 => ?_)
    replace hs := sv_some hs Z4 eZ4
    clear eZ4
    refine V_goto X 15 dL_feed_9 (by decide) ?_
    refine V_iconst X (0 : Int32) dL_feed_15 (by decide) ?_
    obtain rfl := Option.some.inj hs; exact V_wret X hr dL_feed_16 (by decide) (by decide)
  | inr e3 =>
    replace hs := el_r hs
    by_cases c5 : e3.1 = 2
    · replace hs := if_t hs c5
      refine V_callVC X hZ htab c5 [.int p2] dL_feed_4 m_L_24 v_X6_feed ⟨Nat.le_of_ble_eq_true rfl, Nat.le_of_ble_eq_true rfl⟩ ⟨by decide, by decide⟩ rfl (Nat.le_of_ble_eq_true rfl) (gm6 hK) rfl cl6 (x_X6_feed hK hl er1) [] ⟨0, 9, 12, 18⟩ [] rfl (fun z hz => nomatch hz) rfl (by decide) k_L_18 (by decide) (fun q6 => ?_)
      refine V_astore_n X dL_feed_12 rfl [(3, .ref q6), (0, .ref (ad 6 0 0)), (1, .int p2), (2, .ref (ad 36 0 0))] (by decide) rfl ?_
      refine V_iconst X (1 : Int32) dL_feed_13 (by decide) ?_
      obtain rfl := Option.some.inj hs; exact V_wret X hr dL_feed_14 (by decide) (by decide)
    replace hs := if_f hs c5
    cases hs

def s_L_plan (np : Nat) (fu : Nat) (p2 : Int32) (p3 : Int32) (S : S4) : Option (Int32 × S4) := (s_X6_plan np fu p2 p3 S).bind fun r1 => Sum.elim (fun q2 => sv (u4 q2.2 36 0 0 ((0 : Int32).toNatClampNeg) q2.1) fun Z4 => some ((0 : Int32), Z4)) (fun e3 => if e3.1 = 5 then some ((1 : Int32), e3.2) else if e3.1 = 1 then some ((2 : Int32), e3.2) else none) r1
set_option maxRecDepth 100000 in
set_option maxHeartbeats 4000000 in
theorem c_L_plan {l : Launch} {D : va_G} {cA : Nat → ClassId} {dm : Dm} {ad : Ad} {np : Nat} {fu : Nat} {S : S4} {p2 : Int32} {p3 : Int32} (hK : DK dm) (hL : dm 36 0 0) (hnp : ∀ i, i < np → DP dm i) (hl : l.stackTraces = false) {out : (Int32 × S4)} (hs : s_L_plan np fu p2 p3 S = some out) : Cw D cA dm ad l yL_plan cL_plan 5 (some .int) [(0, 10, 13, 38), (0, 10, 17, 13)] 22 644 S [.ref (ad 6 0 0), .int p2, .int p3, .ref (ad 36 0 0)] (some (.int out.1)) out.2 := by
  refine Cw.of (by decide +kernel) (Nat.le_of_ble_eq_true rfl) [(0, .ref (ad 6 0 0)), (1, .int p2), (2, .int p3), (3, .ref (ad 36 0 0))] rfl (fun p e s m args below meth c A X hr hZ htab => ?_)
  unfold s_L_plan at hs
  refine V_aload_n X dL_plan_0 rfl 3 rfl ?_
  refine V_iconst X (0 : Int32) dL_plan_1 (by decide) ?_
  refine V_aload_n X dL_plan_2 rfl 0 rfl ?_
  refine V_iload_n X dL_plan_3 rfl 1 rfl ?_
  refine V_iload_n X dL_plan_4 rfl 2 rfl ?_
  obtain ⟨r1, er1, hs⟩ := bd_some hs
  cases r1 with
  | inl q2 =>
    replace hs := el_l hs
    refine V_callVs X [.int p2, .int p3] dL_plan_5 m_L_34 v_X6_plan ⟨Nat.le_of_ble_eq_true rfl, Nat.le_of_ble_eq_true rfl⟩ ⟨Nat.zero_le _, Nat.zero_le _⟩ rfl (Nat.le_of_ble_eq_true rfl) (gm6 hK) rfl cl6 (c_X6_plan hK hnp er1) ?_
    refine V_i2l X dL_plan_8 ?_
    refine V_last X hL (z := q2.1) rfl (by decide) dL_plan_9 (fun Z4 eZ4 => ?_)
    replace hs := sv_some hs Z4 eZ4
    clear eZ4
    refine V_goto X 21 dL_plan_10 (by decide) ?_
    refine V_iconst X (0 : Int32) dL_plan_21 (by decide) ?_
    obtain rfl := Option.some.inj hs; exact V_wret X hr dL_plan_22 (by decide) (by decide)
  | inr e3 =>
    replace hs := el_r hs
    by_cases c5 : e3.1 = 5
    · replace hs := if_t hs c5
      refine V_callVC X hZ htab c5 [.int p2, .int p3] dL_plan_5 m_L_34 v_X6_plan ⟨Nat.le_of_ble_eq_true rfl, Nat.le_of_ble_eq_true rfl⟩ ⟨by decide, by decide⟩ rfl (Nat.le_of_ble_eq_true rfl) (gm6 hK) rfl cl6 (x_X6_plan hK hnp hl er1) [] ⟨0, 10, 13, 38⟩ [⟨0, 10, 17, 13⟩] rfl (fun z hz => nomatch hz) rfl (by decide) k_L_38 (by decide) (fun q6 => ?_)
      refine V_astore X dL_plan_13 [(4, .ref q6), (0, .ref (ad 6 0 0)), (1, .int p2), (2, .int p3), (3, .ref (ad 36 0 0))] (by decide) rfl ?_
      refine V_iconst X (1 : Int32) dL_plan_15 (by decide) ?_
      obtain rfl := Option.some.inj hs; exact V_wret X hr dL_plan_16 (by decide) (by decide)
    replace hs := if_f hs c5
    by_cases c7 : e3.1 = 1
    · replace hs := if_t hs c7
      refine V_callVC X hZ htab c7 [.int p2, .int p3] dL_plan_5 m_L_34 v_X6_plan ⟨Nat.le_of_ble_eq_true rfl, Nat.le_of_ble_eq_true rfl⟩ ⟨by decide, by decide⟩ rfl (Nat.le_of_ble_eq_true rfl) (gm6 hK) rfl cl6 (x_X6_plan hK hnp hl er1) [⟨0, 10, 13, 38⟩] ⟨0, 10, 17, 13⟩ [] rfl (by intro z hz; simp only [List.mem_cons, List.not_mem_nil, or_false] at hz; rcases hz with rfl <;> first | exact ⟨by decide, _, k_L_38, by decide⟩) rfl (by decide) k_L_13 (by decide) (fun q8 => ?_)
      refine V_astore X dL_plan_17 [(4, .ref q8), (0, .ref (ad 6 0 0)), (1, .int p2), (2, .int p3), (3, .ref (ad 36 0 0))] (by decide) rfl ?_
      refine V_iconst X (2 : Int32) dL_plan_19 (by decide) ?_
      obtain rfl := Option.some.inj hs; exact V_wret X hr dL_plan_20 (by decide) (by decide)
    replace hs := if_f hs c7
    cases hs

def s_L_route (np : Nat) (fu : Nat) (p2 : Int32) (p3 : Int32) (p4 : Int32) (S : S4) : Option (Int32 × S4) := (s_X6_route np fu p2 p3 p4 S).bind fun r1 => Sum.elim (fun q2 => sv (u4 q2.2 36 0 0 ((0 : Int32).toNatClampNeg) q2.1) fun Z4 => some ((0 : Int32), Z4)) (fun e3 => if e3.1 = 1 then some ((1 : Int32), e3.2) else if e3.1 = 2 then some ((2 : Int32), e3.2) else if e3.1 = 4 then some ((3 : Int32), e3.2) else none) r1
set_option maxRecDepth 100000 in
set_option maxHeartbeats 4000000 in
theorem c_L_route {l : Launch} {D : va_G} {cA : Nat → ClassId} {dm : Dm} {ad : Ad} {np : Nat} {fu : Nat} {S : S4} {p2 : Int32} {p3 : Int32} {p4 : Int32} (hK : DK dm) (hL : dm 36 0 0) (hnp : ∀ i, i < np → DP dm i) (hl : l.stackTraces = false) {out : (Int32 × S4)} (hs : s_L_route np fu p2 p3 p4 S = some out) : Cw D cA dm ad l yL_route cL_route 6 (some .int) [(0, 12, 15, 13), (0, 12, 19, 18), (0, 12, 23, 44)] 21 625 S [.ref (ad 6 0 0), .int p2, .int p3, .int p4, .ref (ad 36 0 0)] (some (.int out.1)) out.2 := by
  refine Cw.of (by decide +kernel) (Nat.le_of_ble_eq_true rfl) [(0, .ref (ad 6 0 0)), (1, .int p2), (2, .int p3), (3, .int p4), (4, .ref (ad 36 0 0))] rfl (fun p e s m args below meth c A X hr hZ htab => ?_)
  unfold s_L_route at hs
  refine V_aload X dL_route_0 4 rfl ?_
  refine V_iconst X (0 : Int32) dL_route_2 (by decide) ?_
  refine V_aload_n X dL_route_3 rfl 0 rfl ?_
  refine V_iload_n X dL_route_4 rfl 1 rfl ?_
  refine V_iload_n X dL_route_5 rfl 2 rfl ?_
  refine V_iload_n X dL_route_6 rfl 3 rfl ?_
  obtain ⟨r1, er1, hs⟩ := bd_some hs
  cases r1 with
  | inl q2 =>
    replace hs := el_l hs
    refine V_callVs X [.int p2, .int p3, .int p4] dL_route_7 m_L_40 v_X6_route ⟨Nat.le_of_ble_eq_true rfl, Nat.le_of_ble_eq_true rfl⟩ ⟨Nat.zero_le _, Nat.zero_le _⟩ rfl (Nat.le_of_ble_eq_true rfl) (gm6 hK) rfl cl6 (c_X6_route hK hnp er1) ?_
    refine V_i2l X dL_route_10 ?_
    refine V_last X hL (z := q2.1) rfl (by decide) dL_route_11 (fun Z4 eZ4 => ?_)
    replace hs := sv_some hs Z4 eZ4
    clear eZ4
    refine V_goto X 27 dL_route_12 (by decide) ?_
    refine V_iconst X (0 : Int32) dL_route_27 (by decide) ?_
    obtain rfl := Option.some.inj hs; exact V_wret X hr dL_route_28 (by decide) (by decide)
  | inr e3 =>
    replace hs := el_r hs
    by_cases c5 : e3.1 = 1
    · replace hs := if_t hs c5
      refine V_callVC X hZ htab c5 [.int p2, .int p3, .int p4] dL_route_7 m_L_40 v_X6_route ⟨Nat.le_of_ble_eq_true rfl, Nat.le_of_ble_eq_true rfl⟩ ⟨by decide, by decide⟩ rfl (Nat.le_of_ble_eq_true rfl) (gm6 hK) rfl cl6 (x_X6_route hK hnp hl er1) [] ⟨0, 12, 15, 13⟩ [⟨0, 12, 19, 18⟩, ⟨0, 12, 23, 44⟩] rfl (fun z hz => nomatch hz) rfl (by decide) k_L_13 (by decide) (fun q6 => ?_)
      refine V_astore X dL_route_15 [(5, .ref q6), (0, .ref (ad 6 0 0)), (1, .int p2), (2, .int p3), (3, .int p4), (4, .ref (ad 36 0 0))] (by decide) rfl ?_
      refine V_iconst X (1 : Int32) dL_route_17 (by decide) ?_
      obtain rfl := Option.some.inj hs; exact V_wret X hr dL_route_18 (by decide) (by decide)
    replace hs := if_f hs c5
    by_cases c7 : e3.1 = 2
    · replace hs := if_t hs c7
      refine V_callVC X hZ htab c7 [.int p2, .int p3, .int p4] dL_route_7 m_L_40 v_X6_route ⟨Nat.le_of_ble_eq_true rfl, Nat.le_of_ble_eq_true rfl⟩ ⟨by decide, by decide⟩ rfl (Nat.le_of_ble_eq_true rfl) (gm6 hK) rfl cl6 (x_X6_route hK hnp hl er1) [⟨0, 12, 15, 13⟩] ⟨0, 12, 19, 18⟩ [⟨0, 12, 23, 44⟩] rfl (by intro z hz; simp only [List.mem_cons, List.not_mem_nil, or_false] at hz; rcases hz with rfl <;> first | exact ⟨by decide, _, k_L_13, by decide⟩) rfl (by decide) k_L_18 (by decide) (fun q8 => ?_)
      refine V_astore X dL_route_19 [(5, .ref q8), (0, .ref (ad 6 0 0)), (1, .int p2), (2, .int p3), (3, .int p4), (4, .ref (ad 36 0 0))] (by decide) rfl ?_
      refine V_iconst X (2 : Int32) dL_route_21 (by decide) ?_
      obtain rfl := Option.some.inj hs; exact V_wret X hr dL_route_22 (by decide) (by decide)
    replace hs := if_f hs c7
    by_cases c9 : e3.1 = 4
    · replace hs := if_t hs c9
      refine V_callVC X hZ htab c9 [.int p2, .int p3, .int p4] dL_route_7 m_L_40 v_X6_route ⟨Nat.le_of_ble_eq_true rfl, Nat.le_of_ble_eq_true rfl⟩ ⟨by decide, by decide⟩ rfl (Nat.le_of_ble_eq_true rfl) (gm6 hK) rfl cl6 (x_X6_route hK hnp hl er1) [⟨0, 12, 15, 13⟩, ⟨0, 12, 19, 18⟩] ⟨0, 12, 23, 44⟩ [] rfl (by intro z hz; simp only [List.mem_cons, List.not_mem_nil, or_false] at hz; rcases hz with rfl | rfl <;> first | exact ⟨by decide, _, k_L_13, by decide⟩ | exact ⟨by decide, _, k_L_18, by decide⟩) rfl (by decide) k_L_44 (by decide) (fun q10 => ?_)
      refine V_astore X dL_route_23 [(5, .ref q10), (0, .ref (ad 6 0 0)), (1, .int p2), (2, .int p3), (3, .int p4), (4, .ref (ad 36 0 0))] (by decide) rfl ?_
      refine V_iconst X (3 : Int32) dL_route_25 (by decide) ?_
      obtain rfl := Option.some.inj hs; exact V_wret X hr dL_route_26 (by decide) (by decide)
    replace hs := if_f hs c9
    cases hs

def s_L_arrive (np : Nat) (fu : Nat) (p2 : Int32) (p3 : Int32) (p4 : Int32) (p5 : Int32) (S : S4) : Option (Int32 × S4) := (s_X6_arrive np fu p2 p3 p4 p5 S).bind fun r1 => Sum.elim (fun q2 => sv (u4 q2.2 36 0 0 ((0 : Int32).toNatClampNeg) q2.1) fun Z4 => some ((0 : Int32), Z4)) (fun e3 => if e3.1 = 5 then some ((1 : Int32), e3.2) else if e3.1 = 1 then some ((2 : Int32), e3.2) else if e3.1 = 2 then some ((3 : Int32), e3.2) else none) r1
set_option maxRecDepth 100000 in
set_option maxHeartbeats 4000000 in
theorem c_L_arrive {l : Launch} {D : va_G} {cA : Nat → ClassId} {dm : Dm} {ad : Ad} {np : Nat} {fu : Nat} {S : S4} {p2 : Int32} {p3 : Int32} {p4 : Int32} {p5 : Int32} (hK : DK dm) (hL : dm 36 0 0) (hnp : ∀ i, i < np → DP dm i) (hl : l.stackTraces = false) {out : (Int32 × S4)} (hs : s_L_arrive np fu p2 p3 p4 p5 S = some out) : Cw D cA dm ad l yL_arrive cL_arrive 7 (some .int) [(0, 14, 17, 38), (0, 14, 21, 13), (0, 14, 25, 18)] 22 646 S [.ref (ad 6 0 0), .int p2, .int p3, .int p4, .int p5, .ref (ad 36 0 0)] (some (.int out.1)) out.2 := by
  refine Cw.of (by decide +kernel) (Nat.le_of_ble_eq_true rfl) [(0, .ref (ad 6 0 0)), (1, .int p2), (2, .int p3), (3, .int p4), (4, .int p5), (5, .ref (ad 36 0 0))] rfl (fun p e s m args below meth c A X hr hZ htab => ?_)
  unfold s_L_arrive at hs
  refine V_aload X dL_arrive_0 5 rfl ?_
  refine V_iconst X (0 : Int32) dL_arrive_2 (by decide) ?_
  refine V_aload_n X dL_arrive_3 rfl 0 rfl ?_
  refine V_iload_n X dL_arrive_4 rfl 1 rfl ?_
  refine V_iload_n X dL_arrive_5 rfl 2 rfl ?_
  refine V_iload_n X dL_arrive_6 rfl 3 rfl ?_
  refine V_iload X dL_arrive_7 4 rfl ?_
  obtain ⟨r1, er1, hs⟩ := bd_some hs
  cases r1 with
  | inl q2 =>
    replace hs := el_l hs
    refine V_callVs X [.int p2, .int p3, .int p4, .int p5] dL_arrive_9 m_L_46 v_X6_arrive ⟨Nat.le_of_ble_eq_true rfl, Nat.le_of_ble_eq_true rfl⟩ ⟨Nat.zero_le _, Nat.zero_le _⟩ rfl (Nat.le_of_ble_eq_true rfl) (gm6 hK) rfl cl6 (c_X6_arrive hK hnp er1) ?_
    refine V_i2l X dL_arrive_12 ?_
    refine V_last X hL (z := q2.1) rfl (by decide) dL_arrive_13 (fun Z4 eZ4 => ?_)
    replace hs := sv_some hs Z4 eZ4
    clear eZ4
    refine V_goto X 29 dL_arrive_14 (by decide) ?_
    refine V_iconst X (0 : Int32) dL_arrive_29 (by decide) ?_
    obtain rfl := Option.some.inj hs; exact V_wret X hr dL_arrive_30 (by decide) (by decide)
  | inr e3 =>
    replace hs := el_r hs
    by_cases c5 : e3.1 = 5
    · replace hs := if_t hs c5
      refine V_callVC X hZ htab c5 [.int p2, .int p3, .int p4, .int p5] dL_arrive_9 m_L_46 v_X6_arrive ⟨Nat.le_of_ble_eq_true rfl, Nat.le_of_ble_eq_true rfl⟩ ⟨by decide, by decide⟩ rfl (Nat.le_of_ble_eq_true rfl) (gm6 hK) rfl cl6 (x_X6_arrive hK hnp hl er1) [] ⟨0, 14, 17, 38⟩ [⟨0, 14, 21, 13⟩, ⟨0, 14, 25, 18⟩] rfl (fun z hz => nomatch hz) rfl (by decide) k_L_38 (by decide) (fun q6 => ?_)
      refine V_astore X dL_arrive_17 [(6, .ref q6), (0, .ref (ad 6 0 0)), (1, .int p2), (2, .int p3), (3, .int p4), (4, .int p5), (5, .ref (ad 36 0 0))] (by decide) rfl ?_
      refine V_iconst X (1 : Int32) dL_arrive_19 (by decide) ?_
      obtain rfl := Option.some.inj hs; exact V_wret X hr dL_arrive_20 (by decide) (by decide)
    replace hs := if_f hs c5
    by_cases c7 : e3.1 = 1
    · replace hs := if_t hs c7
      refine V_callVC X hZ htab c7 [.int p2, .int p3, .int p4, .int p5] dL_arrive_9 m_L_46 v_X6_arrive ⟨Nat.le_of_ble_eq_true rfl, Nat.le_of_ble_eq_true rfl⟩ ⟨by decide, by decide⟩ rfl (Nat.le_of_ble_eq_true rfl) (gm6 hK) rfl cl6 (x_X6_arrive hK hnp hl er1) [⟨0, 14, 17, 38⟩] ⟨0, 14, 21, 13⟩ [⟨0, 14, 25, 18⟩] rfl (by intro z hz; simp only [List.mem_cons, List.not_mem_nil, or_false] at hz; rcases hz with rfl <;> first | exact ⟨by decide, _, k_L_38, by decide⟩) rfl (by decide) k_L_13 (by decide) (fun q8 => ?_)
      refine V_astore X dL_arrive_21 [(6, .ref q8), (0, .ref (ad 6 0 0)), (1, .int p2), (2, .int p3), (3, .int p4), (4, .int p5), (5, .ref (ad 36 0 0))] (by decide) rfl ?_
      refine V_iconst X (2 : Int32) dL_arrive_23 (by decide) ?_
      obtain rfl := Option.some.inj hs; exact V_wret X hr dL_arrive_24 (by decide) (by decide)
    replace hs := if_f hs c7
    by_cases c9 : e3.1 = 2
    · replace hs := if_t hs c9
      refine V_callVC X hZ htab c9 [.int p2, .int p3, .int p4, .int p5] dL_arrive_9 m_L_46 v_X6_arrive ⟨Nat.le_of_ble_eq_true rfl, Nat.le_of_ble_eq_true rfl⟩ ⟨by decide, by decide⟩ rfl (Nat.le_of_ble_eq_true rfl) (gm6 hK) rfl cl6 (x_X6_arrive hK hnp hl er1) [⟨0, 14, 17, 38⟩, ⟨0, 14, 21, 13⟩] ⟨0, 14, 25, 18⟩ [] rfl (by intro z hz; simp only [List.mem_cons, List.not_mem_nil, or_false] at hz; rcases hz with rfl | rfl <;> first | exact ⟨by decide, _, k_L_38, by decide⟩ | exact ⟨by decide, _, k_L_13, by decide⟩) rfl (by decide) k_L_18 (by decide) (fun q10 => ?_)
      refine V_astore X dL_arrive_25 [(6, .ref q10), (0, .ref (ad 6 0 0)), (1, .int p2), (2, .int p3), (3, .int p4), (4, .int p5), (5, .ref (ad 36 0 0))] (by decide) rfl ?_
      refine V_iconst X (3 : Int32) dL_arrive_27 (by decide) ?_
      obtain rfl := Option.some.inj hs; exact V_wret X hr dL_arrive_28 (by decide) (by decide)
    replace hs := if_f hs c9
    cases hs

def s_L_find (fu : Nat) (p2 : Int32) (p3 : Int32) (S : S4) : Option (Int32 × S4) := (s_X6_find fu p2 p3 S).bind fun r1 => Sum.elim (fun q2 => sv (u4 q2.2 36 0 0 ((0 : Int32).toNatClampNeg) q2.1) fun Z4 => some ((0 : Int32), Z4)) (fun e3 => if e3.1 = 4 then some ((1 : Int32), e3.2) else none) r1
set_option maxRecDepth 100000 in
set_option maxHeartbeats 4000000 in
theorem c_L_find {l : Launch} {D : va_G} {cA : Nat → ClassId} {dm : Dm} {ad : Ad} {fu : Nat} {S : S4} {p2 : Int32} {p3 : Int32} (hK : DK dm) (hL : dm 36 0 0) (hl : l.stackTraces = false) {out : (Int32 × S4)} (hs : s_L_find fu p2 p3 S = some out) : Cw D cA dm ad l yL_find cL_find 5 (some .int) [(0, 10, 13, 44)] 21 624 S [.ref (ad 6 0 0), .int p2, .int p3, .ref (ad 36 0 0)] (some (.int out.1)) out.2 := by
  refine Cw.of (by decide +kernel) (Nat.le_of_ble_eq_true rfl) [(0, .ref (ad 6 0 0)), (1, .int p2), (2, .int p3), (3, .ref (ad 36 0 0))] rfl (fun p e s m args below meth c A X hr hZ htab => ?_)
  unfold s_L_find at hs
  refine V_aload_n X dL_find_0 rfl 3 rfl ?_
  refine V_iconst X (0 : Int32) dL_find_1 (by decide) ?_
  refine V_aload_n X dL_find_2 rfl 0 rfl ?_
  refine V_iload_n X dL_find_3 rfl 1 rfl ?_
  refine V_iload_n X dL_find_4 rfl 2 rfl ?_
  obtain ⟨r1, er1, hs⟩ := bd_some hs
  cases r1 with
  | inl q2 =>
    replace hs := el_l hs
    refine V_callVs X [.int p2, .int p3] dL_find_5 m_L_50 v_X6_find ⟨Nat.le_of_ble_eq_true rfl, Nat.le_of_ble_eq_true rfl⟩ ⟨Nat.zero_le _, Nat.zero_le _⟩ rfl (Nat.le_of_ble_eq_true rfl) (gm6 hK) rfl cl6 (c_X6_find hK er1) ?_
    refine V_i2l X dL_find_8 ?_
    refine V_last X hL (z := q2.1) rfl (by decide) dL_find_9 (fun Z4 eZ4 => ?_)
    replace hs := sv_some hs Z4 eZ4
    clear eZ4
    refine V_goto X 17 dL_find_10 (by decide) ?_
    refine V_iconst X (0 : Int32) dL_find_17 (by decide) ?_
    obtain rfl := Option.some.inj hs; exact V_wret X hr dL_find_18 (by decide) (by decide)
  | inr e3 =>
    replace hs := el_r hs
    by_cases c5 : e3.1 = 4
    · replace hs := if_t hs c5
      refine V_callVC X hZ htab c5 [.int p2, .int p3] dL_find_5 m_L_50 v_X6_find ⟨Nat.le_of_ble_eq_true rfl, Nat.le_of_ble_eq_true rfl⟩ ⟨by decide, by decide⟩ rfl (Nat.le_of_ble_eq_true rfl) (gm6 hK) rfl cl6 (x_X6_find hK hl er1) [] ⟨0, 10, 13, 44⟩ [] rfl (fun z hz => nomatch hz) rfl (by decide) k_L_44 (by decide) (fun q6 => ?_)
      refine V_astore X dL_find_13 [(4, .ref q6), (0, .ref (ad 6 0 0)), (1, .int p2), (2, .int p3), (3, .ref (ad 36 0 0))] (by decide) rfl ?_
      refine V_iconst X (1 : Int32) dL_find_15 (by decide) ?_
      obtain rfl := Option.some.inj hs; exact V_wret X hr dL_find_16 (by decide) (by decide)
    replace hs := if_f hs c5
    cases hs

def s_L_parcel (p2 : Int32) (p3 : Int32) (S : S4) : Option (Int32 × S4) := (s_X6_parcel p2 p3 S).bind fun r1 => Sum.elim (fun q2 => sv (u4 q2.2 36 0 0 ((0 : Int32).toNatClampNeg) q2.1) fun Z4 => some ((0 : Int32), Z4)) (fun e3 => if e3.1 = 5 then some ((1 : Int32), e3.2) else if e3.1 = 1 then some ((2 : Int32), e3.2) else none) r1
set_option maxRecDepth 100000 in
set_option maxHeartbeats 4000000 in
theorem c_L_parcel {l : Launch} {D : va_G} {cA : Nat → ClassId} {dm : Dm} {ad : Ad} {S : S4} {p2 : Int32} {p3 : Int32} (hK : DK dm) (hL : dm 36 0 0) (hl : l.stackTraces = false) {out : (Int32 × S4)} (hs : s_L_parcel p2 p3 S = some out) : Cw D cA dm ad l yL_parcel cL_parcel 5 (some .int) [(0, 10, 13, 38), (0, 10, 17, 13)] 22 644 S [.ref (ad 6 0 0), .int p2, .int p3, .ref (ad 36 0 0)] (some (.int out.1)) out.2 := by
  refine Cw.of (by decide +kernel) (Nat.le_of_ble_eq_true rfl) [(0, .ref (ad 6 0 0)), (1, .int p2), (2, .int p3), (3, .ref (ad 36 0 0))] rfl (fun p e s m args below meth c A X hr hZ htab => ?_)
  unfold s_L_parcel at hs
  refine V_aload_n X dL_parcel_0 rfl 3 rfl ?_
  refine V_iconst X (0 : Int32) dL_parcel_1 (by decide) ?_
  refine V_aload_n X dL_parcel_2 rfl 0 rfl ?_
  refine V_iload_n X dL_parcel_3 rfl 1 rfl ?_
  refine V_iload_n X dL_parcel_4 rfl 2 rfl ?_
  obtain ⟨r1, er1, hs⟩ := bd_some hs
  cases r1 with
  | inl q2 =>
    replace hs := el_l hs
    refine V_callVs X [.int p2, .int p3] dL_parcel_5 m_L_53 v_X6_parcel ⟨Nat.le_of_ble_eq_true rfl, Nat.le_of_ble_eq_true rfl⟩ ⟨Nat.zero_le _, Nat.zero_le _⟩ rfl (Nat.le_of_ble_eq_true rfl) (gm6 hK) rfl cl6 (c_X6_parcel hK er1) ?_
    refine V_i2l X dL_parcel_8 ?_
    refine V_last X hL (z := q2.1) rfl (by decide) dL_parcel_9 (fun Z4 eZ4 => ?_)
    replace hs := sv_some hs Z4 eZ4
    clear eZ4
    refine V_goto X 21 dL_parcel_10 (by decide) ?_
    refine V_iconst X (0 : Int32) dL_parcel_21 (by decide) ?_
    obtain rfl := Option.some.inj hs; exact V_wret X hr dL_parcel_22 (by decide) (by decide)
  | inr e3 =>
    replace hs := el_r hs
    by_cases c5 : e3.1 = 5
    · replace hs := if_t hs c5
      refine V_callVC X hZ htab c5 [.int p2, .int p3] dL_parcel_5 m_L_53 v_X6_parcel ⟨Nat.le_of_ble_eq_true rfl, Nat.le_of_ble_eq_true rfl⟩ ⟨by decide, by decide⟩ rfl (Nat.le_of_ble_eq_true rfl) (gm6 hK) rfl cl6 (x_X6_parcel hK hl er1) [] ⟨0, 10, 13, 38⟩ [⟨0, 10, 17, 13⟩] rfl (fun z hz => nomatch hz) rfl (by decide) k_L_38 (by decide) (fun q6 => ?_)
      refine V_astore X dL_parcel_13 [(4, .ref q6), (0, .ref (ad 6 0 0)), (1, .int p2), (2, .int p3), (3, .ref (ad 36 0 0))] (by decide) rfl ?_
      refine V_iconst X (1 : Int32) dL_parcel_15 (by decide) ?_
      obtain rfl := Option.some.inj hs; exact V_wret X hr dL_parcel_16 (by decide) (by decide)
    replace hs := if_f hs c5
    by_cases c7 : e3.1 = 1
    · replace hs := if_t hs c7
      refine V_callVC X hZ htab c7 [.int p2, .int p3] dL_parcel_5 m_L_53 v_X6_parcel ⟨Nat.le_of_ble_eq_true rfl, Nat.le_of_ble_eq_true rfl⟩ ⟨by decide, by decide⟩ rfl (Nat.le_of_ble_eq_true rfl) (gm6 hK) rfl cl6 (x_X6_parcel hK hl er1) [⟨0, 10, 13, 38⟩] ⟨0, 10, 17, 13⟩ [] rfl (by intro z hz; simp only [List.mem_cons, List.not_mem_nil, or_false] at hz; rcases hz with rfl <;> first | exact ⟨by decide, _, k_L_38, by decide⟩) rfl (by decide) k_L_13 (by decide) (fun q8 => ?_)
      refine V_astore X dL_parcel_17 [(4, .ref q8), (0, .ref (ad 6 0 0)), (1, .int p2), (2, .int p3), (3, .ref (ad 36 0 0))] (by decide) rfl ?_
      refine V_iconst X (2 : Int32) dL_parcel_19 (by decide) ?_
      obtain rfl := Option.some.inj hs; exact V_wret X hr dL_parcel_20 (by decide) (by decide)
    replace hs := if_f hs c7
    cases hs

def s_L_carried (p2 : Int32) (S : S4) : Option (Int32 × S4) := (s_X6_carried p2 S).bind fun r1 => Sum.elim (fun q2 => sv (u4 q2.2 36 0 0 ((0 : Int32).toNatClampNeg) q2.1) fun Z4 => some ((0 : Int32), Z4)) (fun e3 => if e3.1 = 5 then some ((1 : Int32), e3.2) else if e3.1 = 4 then some ((2 : Int32), e3.2) else none) r1
set_option maxRecDepth 100000 in
set_option maxHeartbeats 4000000 in
theorem c_L_carried {l : Launch} {D : va_G} {cA : Nat → ClassId} {dm : Dm} {ad : Ad} {S : S4} {p2 : Int32} (hK : DK dm) (hL : dm 36 0 0) (hl : l.stackTraces = false) {out : (Int32 × S4)} (hs : s_L_carried p2 S = some out) : Cw D cA dm ad l yL_carried cL_carried 4 (some .int) [(0, 9, 12, 38), (0, 9, 15, 44)] 22 643 S [.ref (ad 6 0 0), .int p2, .ref (ad 36 0 0)] (some (.int out.1)) out.2 := by
  refine Cw.of (by decide +kernel) (Nat.le_of_ble_eq_true rfl) [(0, .ref (ad 6 0 0)), (1, .int p2), (2, .ref (ad 36 0 0))] rfl (fun p e s m args below meth c A X hr hZ htab => ?_)
  unfold s_L_carried at hs
  refine V_aload_n X dL_carried_0 rfl 2 rfl ?_
  refine V_iconst X (0 : Int32) dL_carried_1 (by decide) ?_
  refine V_aload_n X dL_carried_2 rfl 0 rfl ?_
  refine V_iload_n X dL_carried_3 rfl 1 rfl ?_
  obtain ⟨r1, er1, hs⟩ := bd_some hs
  cases r1 with
  | inl q2 =>
    replace hs := el_l hs
    refine V_callVs X [.int p2] dL_carried_4 m_L_56 v_X6_carried ⟨Nat.le_of_ble_eq_true rfl, Nat.le_of_ble_eq_true rfl⟩ ⟨Nat.zero_le _, Nat.zero_le _⟩ rfl (Nat.le_of_ble_eq_true rfl) (gm6 hK) rfl cl6 (c_X6_carried hK er1) ?_
    refine V_i2l X dL_carried_7 ?_
    refine V_last X hL (z := q2.1) rfl (by decide) dL_carried_8 (fun Z4 eZ4 => ?_)
    replace hs := sv_some hs Z4 eZ4
    clear eZ4
    refine V_goto X 18 dL_carried_9 (by decide) ?_
    refine V_iconst X (0 : Int32) dL_carried_18 (by decide) ?_
    obtain rfl := Option.some.inj hs; exact V_wret X hr dL_carried_19 (by decide) (by decide)
  | inr e3 =>
    replace hs := el_r hs
    by_cases c5 : e3.1 = 5
    · replace hs := if_t hs c5
      refine V_callVC X hZ htab c5 [.int p2] dL_carried_4 m_L_56 v_X6_carried ⟨Nat.le_of_ble_eq_true rfl, Nat.le_of_ble_eq_true rfl⟩ ⟨by decide, by decide⟩ rfl (Nat.le_of_ble_eq_true rfl) (gm6 hK) rfl cl6 (x_X6_carried hK hl er1) [] ⟨0, 9, 12, 38⟩ [⟨0, 9, 15, 44⟩] rfl (fun z hz => nomatch hz) rfl (by decide) k_L_38 (by decide) (fun q6 => ?_)
      refine V_astore_n X dL_carried_12 rfl [(3, .ref q6), (0, .ref (ad 6 0 0)), (1, .int p2), (2, .ref (ad 36 0 0))] (by decide) rfl ?_
      refine V_iconst X (1 : Int32) dL_carried_13 (by decide) ?_
      obtain rfl := Option.some.inj hs; exact V_wret X hr dL_carried_14 (by decide) (by decide)
    replace hs := if_f hs c5
    by_cases c7 : e3.1 = 4
    · replace hs := if_t hs c7
      refine V_callVC X hZ htab c7 [.int p2] dL_carried_4 m_L_56 v_X6_carried ⟨Nat.le_of_ble_eq_true rfl, Nat.le_of_ble_eq_true rfl⟩ ⟨by decide, by decide⟩ rfl (Nat.le_of_ble_eq_true rfl) (gm6 hK) rfl cl6 (x_X6_carried hK hl er1) [⟨0, 9, 12, 38⟩] ⟨0, 9, 15, 44⟩ [] rfl (by intro z hz; simp only [List.mem_cons, List.not_mem_nil, or_false] at hz; rcases hz with rfl <;> first | exact ⟨by decide, _, k_L_38, by decide⟩) rfl (by decide) k_L_44 (by decide) (fun q8 => ?_)
      refine V_astore_n X dL_carried_15 rfl [(3, .ref q8), (0, .ref (ad 6 0 0)), (1, .int p2), (2, .ref (ad 36 0 0))] (by decide) rfl ?_
      refine V_iconst X (2 : Int32) dL_carried_16 (by decide) ?_
      obtain rfl := Option.some.inj hs; exact V_wret X hr dL_carried_17 (by decide) (by decide)
    replace hs := if_f hs c7
    cases hs

def s_L_run (np : Nat) (fu : Nat) (p2 : Int32) (S : S4) : Option (Int32 × S4) := (s_X6_run np fu p2 S).bind fun r1 => Sum.elim (fun q2 => sv (u4 q2.2 36 0 0 ((0 : Int32).toNatClampNeg) q2.1) fun Z4 => some ((0 : Int32), Z4)) (fun e3 => if e3.1 = 1 then some ((1 : Int32), e3.2) else none) r1
set_option maxRecDepth 100000 in
set_option maxHeartbeats 4000000 in
theorem c_L_run {l : Launch} {D : va_G} {cA : Nat → ClassId} {dm : Dm} {ad : Ad} {np : Nat} {fu : Nat} {S : S4} {p2 : Int32} (hK : DK dm) (hL : dm 36 0 0) (hnp : ∀ i, i < np → DP dm i) (hl : l.stackTraces = false) {out : (Int32 × S4)} (hs : s_L_run np fu p2 S = some out) : Cw D cA dm ad l yL_run cL_run 4 (some .int) [(0, 9, 12, 13)] 22 644 S [.ref (ad 6 0 0), .int p2, .ref (ad 36 0 0)] (some (.int out.1)) out.2 := by
  refine Cw.of (by decide +kernel) (Nat.le_of_ble_eq_true rfl) [(0, .ref (ad 6 0 0)), (1, .int p2), (2, .ref (ad 36 0 0))] rfl (fun p e s m args below meth c A X hr hZ htab => ?_)
  unfold s_L_run at hs
  refine V_aload_n X dL_run_0 rfl 2 rfl ?_
  refine V_iconst X (0 : Int32) dL_run_1 (by decide) ?_
  refine V_aload_n X dL_run_2 rfl 0 rfl ?_
  refine V_iload_n X dL_run_3 rfl 1 rfl ?_
  obtain ⟨r1, er1, hs⟩ := bd_some hs
  cases r1 with
  | inl q2 =>
    replace hs := el_l hs
    refine V_callVs X [.int p2] dL_run_4 m_L_59 v_X6_run ⟨Nat.le_of_ble_eq_true rfl, Nat.le_of_ble_eq_true rfl⟩ ⟨Nat.zero_le _, Nat.zero_le _⟩ rfl (Nat.le_of_ble_eq_true rfl) (gm6 hK) rfl cl6 (c_X6_run hK hnp er1) ?_
    refine V_i2l X dL_run_7 ?_
    refine V_last X hL (z := q2.1) rfl (by decide) dL_run_8 (fun Z4 eZ4 => ?_)
    replace hs := sv_some hs Z4 eZ4
    clear eZ4
    refine V_goto X 15 dL_run_9 (by decide) ?_
    refine V_iconst X (0 : Int32) dL_run_15 (by decide) ?_
    obtain rfl := Option.some.inj hs; exact V_wret X hr dL_run_16 (by decide) (by decide)
  | inr e3 =>
    replace hs := el_r hs
    by_cases c5 : e3.1 = 1
    · replace hs := if_t hs c5
      refine V_callVC X hZ htab c5 [.int p2] dL_run_4 m_L_59 v_X6_run ⟨Nat.le_of_ble_eq_true rfl, Nat.le_of_ble_eq_true rfl⟩ ⟨by decide, by decide⟩ rfl (Nat.le_of_ble_eq_true rfl) (gm6 hK) rfl cl6 (x_X6_run hK hnp hl er1) [] ⟨0, 9, 12, 13⟩ [] rfl (fun z hz => nomatch hz) rfl (by decide) k_L_13 (by decide) (fun q6 => ?_)
      refine V_astore_n X dL_run_12 rfl [(3, .ref q6), (0, .ref (ad 6 0 0)), (1, .int p2), (2, .ref (ad 36 0 0))] (by decide) rfl ?_
      refine V_iconst X (1 : Int32) dL_run_13 (by decide) ?_
      obtain rfl := Option.some.inj hs; exact V_wret X hr dL_run_14 (by decide) (by decide)
    replace hs := if_f hs c5
    cases hs

def s_L_setClosed (np : Nat) (fu : Nat) (p2 : Int32) (p3 : Int32) (S : S4) : Option (Int32 × S4) := (s_X6_setClosed np fu p2 p3 S).bind fun r1 => Sum.elim (fun q2 => (if q2.1 = 0 then sv (u4 q2.2 36 0 0 ((0 : Int32).toNatClampNeg) (0 : Int32)) fun Z5 => some ((0 : Int32), Z5) else sv (u4 q2.2 36 0 0 ((0 : Int32).toNatClampNeg) (1 : Int32)) fun Z6 => some ((0 : Int32), Z6))) (fun e3 => if e3.1 = 5 then some ((1 : Int32), e3.2) else none) r1
set_option maxRecDepth 100000 in
set_option maxHeartbeats 4000000 in
theorem c_L_setClosed {l : Launch} {D : va_G} {cA : Nat → ClassId} {dm : Dm} {ad : Ad} {np : Nat} {fu : Nat} {S : S4} {p2 : Int32} {p3 : Int32} (hK : DK dm) (hL : dm 36 0 0) (hnp : ∀ i, i < np → DP dm i) (hl : l.stackTraces = false) {out : (Int32 × S4)} (hs : s_L_setClosed np fu p2 p3 S = some out) : Cw D cA dm ad l yL_setClosed cL_setClosed 5 (some .int) [(0, 17, 20, 38)] 22 644 S [.ref (ad 6 0 0), .int p2, .int p3, .ref (ad 36 0 0)] (some (.int out.1)) out.2 := by
  refine Cw.of (by decide +kernel) (Nat.le_of_ble_eq_true rfl) [(0, .ref (ad 6 0 0)), (1, .int p2), (2, .int p3), (3, .ref (ad 36 0 0))] rfl (fun p e s m args below meth c A X hr hZ htab => ?_)
  unfold s_L_setClosed at hs
  refine V_aload_n X dL_setClosed_0 rfl 3 rfl ?_
  refine V_iconst X (0 : Int32) dL_setClosed_1 (by decide) ?_
  refine V_aload_n X dL_setClosed_2 rfl 0 rfl ?_
  refine V_iload_n X dL_setClosed_3 rfl 1 rfl ?_
  refine V_iload_n X dL_setClosed_4 rfl 2 rfl ?_
  obtain ⟨r1, er1, hs⟩ := bd_some hs
  cases r1 with
  | inl q2 =>
    replace hs := el_l hs
    refine V_callVs X [.int p2, .int p3] dL_setClosed_5 m_L_62 v_X6_setClosed ⟨Nat.le_of_ble_eq_true rfl, Nat.le_of_ble_eq_true rfl⟩ ⟨Nat.zero_le _, Nat.zero_le _⟩ rfl (Nat.le_of_ble_eq_true rfl) (gm6 hK) rfl cl6 (c_X6_setClosed hK hnp er1) ?_
    refine V_if_eq X 15 dL_setClosed_8 (by decide) (fun c4 => ?_) (fun c4 => ?_)
    · replace hs := if_t hs c4
      refine V_lconst X (0 : Int64) dL_setClosed_15 (by decide) ?_
      refine V_last X hL (z := (0 : Int32)) (by decide) (by decide) dL_setClosed_16 (fun Z5 eZ5 => ?_)
      replace hs := sv_some hs Z5 eZ5
      clear eZ5
      refine V_goto X 24 dL_setClosed_17 (by decide) ?_
      refine V_iconst X (0 : Int32) dL_setClosed_24 (by decide) ?_
      obtain rfl := Option.some.inj hs; exact V_wret X hr dL_setClosed_25 (by decide) (by decide)
    · replace hs := if_f hs c4
      refine V_lconst X (1 : Int64) dL_setClosed_11 (by decide) ?_
      refine V_goto X 16 dL_setClosed_12 (by decide) ?_
      refine V_last X hL (z := (1 : Int32)) (by decide) (by decide) dL_setClosed_16 (fun Z6 eZ6 => ?_)
      replace hs := sv_some hs Z6 eZ6
      clear eZ6
      refine V_goto X 24 dL_setClosed_17 (by decide) ?_
      refine V_iconst X (0 : Int32) dL_setClosed_24 (by decide) ?_
      obtain rfl := Option.some.inj hs; exact V_wret X hr dL_setClosed_25 (by decide) (by decide)
  | inr e3 =>
    replace hs := el_r hs
    by_cases c7 : e3.1 = 5
    · replace hs := if_t hs c7
      refine V_callVC X hZ htab c7 [.int p2, .int p3] dL_setClosed_5 m_L_62 v_X6_setClosed ⟨Nat.le_of_ble_eq_true rfl, Nat.le_of_ble_eq_true rfl⟩ ⟨by decide, by decide⟩ rfl (Nat.le_of_ble_eq_true rfl) (gm6 hK) rfl cl6 (x_X6_setClosed hK hnp hl er1) [] ⟨0, 17, 20, 38⟩ [] rfl (fun z hz => nomatch hz) rfl (by decide) k_L_38 (by decide) (fun q8 => ?_)
      refine V_astore X dL_setClosed_20 [(4, .ref q8), (0, .ref (ad 6 0 0)), (1, .int p2), (2, .int p3), (3, .ref (ad 36 0 0))] (by decide) rfl ?_
      refine V_iconst X (1 : Int32) dL_setClosed_22 (by decide) ?_
      obtain rfl := Option.some.inj hs; exact V_wret X hr dL_setClosed_23 (by decide) (by decide)
    replace hs := if_f hs c7
    cases hs

def s_L_clear (np : Nat) (fu : Nat) (p2 : Int32) (S : S4) : Option (Int32 × S4) := (s_X6_clear np fu p2 S).bind fun r1 => Sum.elim (fun q2 => sv (u4 q2.2 36 0 0 ((0 : Int32).toNatClampNeg) q2.1) fun Z4 => some ((0 : Int32), Z4)) (fun e3 => if e3.1 = 5 then some ((1 : Int32), e3.2) else if e3.1 = 2 then some ((2 : Int32), e3.2) else none) r1
set_option maxRecDepth 100000 in
set_option maxHeartbeats 4000000 in
theorem c_L_clear {l : Launch} {D : va_G} {cA : Nat → ClassId} {dm : Dm} {ad : Ad} {np : Nat} {fu : Nat} {S : S4} {p2 : Int32} (hK : DK dm) (hL : dm 36 0 0) (hnp : ∀ i, i < np → DP dm i) (hl : l.stackTraces = false) {out : (Int32 × S4)} (hs : s_L_clear np fu p2 S = some out) : Cw D cA dm ad l yL_clear cL_clear 4 (some .int) [(0, 9, 12, 38), (0, 9, 15, 18)] 22 643 S [.ref (ad 6 0 0), .int p2, .ref (ad 36 0 0)] (some (.int out.1)) out.2 := by
  refine Cw.of (by decide +kernel) (Nat.le_of_ble_eq_true rfl) [(0, .ref (ad 6 0 0)), (1, .int p2), (2, .ref (ad 36 0 0))] rfl (fun p e s m args below meth c A X hr hZ htab => ?_)
  unfold s_L_clear at hs
  refine V_aload_n X dL_clear_0 rfl 2 rfl ?_
  refine V_iconst X (0 : Int32) dL_clear_1 (by decide) ?_
  refine V_aload_n X dL_clear_2 rfl 0 rfl ?_
  refine V_iload_n X dL_clear_3 rfl 1 rfl ?_
  obtain ⟨r1, er1, hs⟩ := bd_some hs
  cases r1 with
  | inl q2 =>
    replace hs := el_l hs
    refine V_callVs X [.int p2] dL_clear_4 m_L_66 v_X6_clear ⟨Nat.le_of_ble_eq_true rfl, Nat.le_of_ble_eq_true rfl⟩ ⟨Nat.zero_le _, Nat.zero_le _⟩ rfl (Nat.le_of_ble_eq_true rfl) (gm6 hK) rfl cl6 (c_X6_clear hK hnp er1) ?_
    refine V_i2l X dL_clear_7 ?_
    refine V_last X hL (z := q2.1) rfl (by decide) dL_clear_8 (fun Z4 eZ4 => ?_)
    replace hs := sv_some hs Z4 eZ4
    clear eZ4
    refine V_goto X 18 dL_clear_9 (by decide) ?_
    refine V_iconst X (0 : Int32) dL_clear_18 (by decide) ?_
    obtain rfl := Option.some.inj hs; exact V_wret X hr dL_clear_19 (by decide) (by decide)
  | inr e3 =>
    replace hs := el_r hs
    by_cases c5 : e3.1 = 5
    · replace hs := if_t hs c5
      refine V_callVC X hZ htab c5 [.int p2] dL_clear_4 m_L_66 v_X6_clear ⟨Nat.le_of_ble_eq_true rfl, Nat.le_of_ble_eq_true rfl⟩ ⟨by decide, by decide⟩ rfl (Nat.le_of_ble_eq_true rfl) (gm6 hK) rfl cl6 (x_X6_clear hK hnp hl er1) [] ⟨0, 9, 12, 38⟩ [⟨0, 9, 15, 18⟩] rfl (fun z hz => nomatch hz) rfl (by decide) k_L_38 (by decide) (fun q6 => ?_)
      refine V_astore_n X dL_clear_12 rfl [(3, .ref q6), (0, .ref (ad 6 0 0)), (1, .int p2), (2, .ref (ad 36 0 0))] (by decide) rfl ?_
      refine V_iconst X (1 : Int32) dL_clear_13 (by decide) ?_
      obtain rfl := Option.some.inj hs; exact V_wret X hr dL_clear_14 (by decide) (by decide)
    replace hs := if_f hs c5
    by_cases c7 : e3.1 = 2
    · replace hs := if_t hs c7
      refine V_callVC X hZ htab c7 [.int p2] dL_clear_4 m_L_66 v_X6_clear ⟨Nat.le_of_ble_eq_true rfl, Nat.le_of_ble_eq_true rfl⟩ ⟨by decide, by decide⟩ rfl (Nat.le_of_ble_eq_true rfl) (gm6 hK) rfl cl6 (x_X6_clear hK hnp hl er1) [⟨0, 9, 12, 38⟩] ⟨0, 9, 15, 18⟩ [] rfl (by intro z hz; simp only [List.mem_cons, List.not_mem_nil, or_false] at hz; rcases hz with rfl <;> first | exact ⟨by decide, _, k_L_38, by decide⟩) rfl (by decide) k_L_18 (by decide) (fun q8 => ?_)
      refine V_astore_n X dL_clear_15 rfl [(3, .ref q8), (0, .ref (ad 6 0 0)), (1, .int p2), (2, .ref (ad 36 0 0))] (by decide) rfl ?_
      refine V_iconst X (2 : Int32) dL_clear_16 (by decide) ?_
      obtain rfl := Option.some.inj hs; exact V_wret X hr dL_clear_17 (by decide) (by decide)
    replace hs := if_f hs c7
    cases hs

def s_L_chute (fu : Nat) (p2 : Int32) (p3 : Int32) (S : S4) : Option (Int32 × S4) := (s_X6_chute fu p2 p3 S).bind fun r1 => Sum.elim (fun q2 => sv (u4 q2.2 36 0 0 ((0 : Int32).toNatClampNeg) q2.1) fun Z4 => some ((0 : Int32), Z4)) (fun e3 => if e3.1 = 5 then some ((1 : Int32), e3.2) else if e3.1 = 1 then some ((2 : Int32), e3.2) else none) r1
set_option maxRecDepth 100000 in
set_option maxHeartbeats 4000000 in
theorem c_L_chute {l : Launch} {D : va_G} {cA : Nat → ClassId} {dm : Dm} {ad : Ad} {fu : Nat} {S : S4} {p2 : Int32} {p3 : Int32} (hK : DK dm) (hL : dm 36 0 0) (hl : l.stackTraces = false) {out : (Int32 × S4)} (hs : s_L_chute fu p2 p3 S = some out) : Cw D cA dm ad l yL_chute cL_chute 5 (some .int) [(0, 10, 13, 38), (0, 10, 17, 13)] 22 644 S [.ref (ad 6 0 0), .int p2, .int p3, .ref (ad 36 0 0)] (some (.int out.1)) out.2 := by
  refine Cw.of (by decide +kernel) (Nat.le_of_ble_eq_true rfl) [(0, .ref (ad 6 0 0)), (1, .int p2), (2, .int p3), (3, .ref (ad 36 0 0))] rfl (fun p e s m args below meth c A X hr hZ htab => ?_)
  unfold s_L_chute at hs
  refine V_aload_n X dL_chute_0 rfl 3 rfl ?_
  refine V_iconst X (0 : Int32) dL_chute_1 (by decide) ?_
  refine V_aload_n X dL_chute_2 rfl 0 rfl ?_
  refine V_iload_n X dL_chute_3 rfl 1 rfl ?_
  refine V_iload_n X dL_chute_4 rfl 2 rfl ?_
  obtain ⟨r1, er1, hs⟩ := bd_some hs
  cases r1 with
  | inl q2 =>
    replace hs := el_l hs
    refine V_callVs X [.int p2, .int p3] dL_chute_5 m_L_69 v_X6_chute ⟨Nat.le_of_ble_eq_true rfl, Nat.le_of_ble_eq_true rfl⟩ ⟨Nat.zero_le _, Nat.zero_le _⟩ rfl (Nat.le_of_ble_eq_true rfl) (gm6 hK) rfl cl6 (c_X6_chute hK er1) ?_
    refine V_i2l X dL_chute_8 ?_
    refine V_last X hL (z := q2.1) rfl (by decide) dL_chute_9 (fun Z4 eZ4 => ?_)
    replace hs := sv_some hs Z4 eZ4
    clear eZ4
    refine V_goto X 21 dL_chute_10 (by decide) ?_
    refine V_iconst X (0 : Int32) dL_chute_21 (by decide) ?_
    obtain rfl := Option.some.inj hs; exact V_wret X hr dL_chute_22 (by decide) (by decide)
  | inr e3 =>
    replace hs := el_r hs
    by_cases c5 : e3.1 = 5
    · replace hs := if_t hs c5
      refine V_callVC X hZ htab c5 [.int p2, .int p3] dL_chute_5 m_L_69 v_X6_chute ⟨Nat.le_of_ble_eq_true rfl, Nat.le_of_ble_eq_true rfl⟩ ⟨by decide, by decide⟩ rfl (Nat.le_of_ble_eq_true rfl) (gm6 hK) rfl cl6 (x_X6_chute hK hl er1) [] ⟨0, 10, 13, 38⟩ [⟨0, 10, 17, 13⟩] rfl (fun z hz => nomatch hz) rfl (by decide) k_L_38 (by decide) (fun q6 => ?_)
      refine V_astore X dL_chute_13 [(4, .ref q6), (0, .ref (ad 6 0 0)), (1, .int p2), (2, .int p3), (3, .ref (ad 36 0 0))] (by decide) rfl ?_
      refine V_iconst X (1 : Int32) dL_chute_15 (by decide) ?_
      obtain rfl := Option.some.inj hs; exact V_wret X hr dL_chute_16 (by decide) (by decide)
    replace hs := if_f hs c5
    by_cases c7 : e3.1 = 1
    · replace hs := if_t hs c7
      refine V_callVC X hZ htab c7 [.int p2, .int p3] dL_chute_5 m_L_69 v_X6_chute ⟨Nat.le_of_ble_eq_true rfl, Nat.le_of_ble_eq_true rfl⟩ ⟨by decide, by decide⟩ rfl (Nat.le_of_ble_eq_true rfl) (gm6 hK) rfl cl6 (x_X6_chute hK hl er1) [⟨0, 10, 13, 38⟩] ⟨0, 10, 17, 13⟩ [] rfl (by intro z hz; simp only [List.mem_cons, List.not_mem_nil, or_false] at hz; rcases hz with rfl <;> first | exact ⟨by decide, _, k_L_38, by decide⟩) rfl (by decide) k_L_13 (by decide) (fun q8 => ?_)
      refine V_astore X dL_chute_17 [(4, .ref q8), (0, .ref (ad 6 0 0)), (1, .int p2), (2, .int p3), (3, .ref (ad 36 0 0))] (by decide) rfl ?_
      refine V_iconst X (2 : Int32) dL_chute_19 (by decide) ?_
      obtain rfl := Option.some.inj hs; exact V_wret X hr dL_chute_20 (by decide) (by decide)
    replace hs := if_f hs c7
    cases hs

def s_L_station (p2 : Int32) (p3 : Int32) (S : S4) : Option (Int32 × S4) := (s_X6_station p2 p3 S).bind fun r1 => Sum.elim (fun q2 => sv (u4 q2.2 36 0 0 ((0 : Int32).toNatClampNeg) q2.1) fun Z4 => some ((0 : Int32), Z4)) (fun e3 => if e3.1 = 5 then some ((1 : Int32), e3.2) else if e3.1 = 1 then some ((2 : Int32), e3.2) else none) r1
set_option maxRecDepth 100000 in
set_option maxHeartbeats 4000000 in
theorem c_L_station {l : Launch} {D : va_G} {cA : Nat → ClassId} {dm : Dm} {ad : Ad} {S : S4} {p2 : Int32} {p3 : Int32} (hK : DK dm) (hL : dm 36 0 0) (hl : l.stackTraces = false) {out : (Int32 × S4)} (hs : s_L_station p2 p3 S = some out) : Cw D cA dm ad l yL_station cL_station 5 (some .int) [(0, 10, 13, 38), (0, 10, 17, 13)] 22 644 S [.ref (ad 6 0 0), .int p2, .int p3, .ref (ad 36 0 0)] (some (.int out.1)) out.2 := by
  refine Cw.of (by decide +kernel) (Nat.le_of_ble_eq_true rfl) [(0, .ref (ad 6 0 0)), (1, .int p2), (2, .int p3), (3, .ref (ad 36 0 0))] rfl (fun p e s m args below meth c A X hr hZ htab => ?_)
  unfold s_L_station at hs
  refine V_aload_n X dL_station_0 rfl 3 rfl ?_
  refine V_iconst X (0 : Int32) dL_station_1 (by decide) ?_
  refine V_aload_n X dL_station_2 rfl 0 rfl ?_
  refine V_iload_n X dL_station_3 rfl 1 rfl ?_
  refine V_iload_n X dL_station_4 rfl 2 rfl ?_
  obtain ⟨r1, er1, hs⟩ := bd_some hs
  cases r1 with
  | inl q2 =>
    replace hs := el_l hs
    refine V_callVs X [.int p2, .int p3] dL_station_5 m_L_72 v_X6_station ⟨Nat.le_of_ble_eq_true rfl, Nat.le_of_ble_eq_true rfl⟩ ⟨Nat.zero_le _, Nat.zero_le _⟩ rfl (Nat.le_of_ble_eq_true rfl) (gm6 hK) rfl cl6 (c_X6_station hK er1) ?_
    refine V_i2l X dL_station_8 ?_
    refine V_last X hL (z := q2.1) rfl (by decide) dL_station_9 (fun Z4 eZ4 => ?_)
    replace hs := sv_some hs Z4 eZ4
    clear eZ4
    refine V_goto X 21 dL_station_10 (by decide) ?_
    refine V_iconst X (0 : Int32) dL_station_21 (by decide) ?_
    obtain rfl := Option.some.inj hs; exact V_wret X hr dL_station_22 (by decide) (by decide)
  | inr e3 =>
    replace hs := el_r hs
    by_cases c5 : e3.1 = 5
    · replace hs := if_t hs c5
      refine V_callVC X hZ htab c5 [.int p2, .int p3] dL_station_5 m_L_72 v_X6_station ⟨Nat.le_of_ble_eq_true rfl, Nat.le_of_ble_eq_true rfl⟩ ⟨by decide, by decide⟩ rfl (Nat.le_of_ble_eq_true rfl) (gm6 hK) rfl cl6 (x_X6_station hK hl er1) [] ⟨0, 10, 13, 38⟩ [⟨0, 10, 17, 13⟩] rfl (fun z hz => nomatch hz) rfl (by decide) k_L_38 (by decide) (fun q6 => ?_)
      refine V_astore X dL_station_13 [(4, .ref q6), (0, .ref (ad 6 0 0)), (1, .int p2), (2, .int p3), (3, .ref (ad 36 0 0))] (by decide) rfl ?_
      refine V_iconst X (1 : Int32) dL_station_15 (by decide) ?_
      obtain rfl := Option.some.inj hs; exact V_wret X hr dL_station_16 (by decide) (by decide)
    replace hs := if_f hs c5
    by_cases c7 : e3.1 = 1
    · replace hs := if_t hs c7
      refine V_callVC X hZ htab c7 [.int p2, .int p3] dL_station_5 m_L_72 v_X6_station ⟨Nat.le_of_ble_eq_true rfl, Nat.le_of_ble_eq_true rfl⟩ ⟨by decide, by decide⟩ rfl (Nat.le_of_ble_eq_true rfl) (gm6 hK) rfl cl6 (x_X6_station hK hl er1) [⟨0, 10, 13, 38⟩] ⟨0, 10, 17, 13⟩ [] rfl (by intro z hz; simp only [List.mem_cons, List.not_mem_nil, or_false] at hz; rcases hz with rfl <;> first | exact ⟨by decide, _, k_L_38, by decide⟩) rfl (by decide) k_L_13 (by decide) (fun q8 => ?_)
      refine V_astore X dL_station_17 [(4, .ref q8), (0, .ref (ad 6 0 0)), (1, .int p2), (2, .int p3), (3, .ref (ad 36 0 0))] (by decide) rfl ?_
      refine V_iconst X (2 : Int32) dL_station_19 (by decide) ?_
      obtain rfl := Option.some.inj hs; exact V_wret X hr dL_station_20 (by decide) (by decide)
    replace hs := if_f hs c7
    cases hs

def s_L_count (fu : Nat) (p2 : Int32) (S : S4) : Option (Int32 × S4) := (s_X6_count fu p2 S).bind fun r1 => Sum.elim (fun q2 => sv (u4 q2.2 36 0 0 ((0 : Int32).toNatClampNeg) q2.1) fun Z4 => some ((0 : Int32), Z4)) (fun e3 => if e3.1 = 1 then some ((1 : Int32), e3.2) else none) r1
set_option maxRecDepth 100000 in
set_option maxHeartbeats 4000000 in
theorem c_L_count {l : Launch} {D : va_G} {cA : Nat → ClassId} {dm : Dm} {ad : Ad} {fu : Nat} {S : S4} {p2 : Int32} (hK : DK dm) (hL : dm 36 0 0) (hl : l.stackTraces = false) {out : (Int32 × S4)} (hs : s_L_count fu p2 S = some out) : Cw D cA dm ad l yL_count cL_count 4 (some .int) [(0, 9, 12, 13)] 22 642 S [.ref (ad 6 0 0), .int p2, .ref (ad 36 0 0)] (some (.int out.1)) out.2 := by
  refine Cw.of (by decide +kernel) (Nat.le_of_ble_eq_true rfl) [(0, .ref (ad 6 0 0)), (1, .int p2), (2, .ref (ad 36 0 0))] rfl (fun p e s m args below meth c A X hr hZ htab => ?_)
  unfold s_L_count at hs
  refine V_aload_n X dL_count_0 rfl 2 rfl ?_
  refine V_iconst X (0 : Int32) dL_count_1 (by decide) ?_
  refine V_aload_n X dL_count_2 rfl 0 rfl ?_
  refine V_iload_n X dL_count_3 rfl 1 rfl ?_
  obtain ⟨r1, er1, hs⟩ := bd_some hs
  cases r1 with
  | inl q2 =>
    replace hs := el_l hs
    refine V_callVs X [.int p2] dL_count_4 m_L_75 v_X6_count ⟨Nat.le_of_ble_eq_true rfl, Nat.le_of_ble_eq_true rfl⟩ ⟨Nat.zero_le _, Nat.zero_le _⟩ rfl (Nat.le_of_ble_eq_true rfl) (gm6 hK) rfl cl6 (c_X6_count hK er1) ?_
    refine V_i2l X dL_count_7 ?_
    refine V_last X hL (z := q2.1) rfl (by decide) dL_count_8 (fun Z4 eZ4 => ?_)
    replace hs := sv_some hs Z4 eZ4
    clear eZ4
    refine V_goto X 15 dL_count_9 (by decide) ?_
    refine V_iconst X (0 : Int32) dL_count_15 (by decide) ?_
    obtain rfl := Option.some.inj hs; exact V_wret X hr dL_count_16 (by decide) (by decide)
  | inr e3 =>
    replace hs := el_r hs
    by_cases c5 : e3.1 = 1
    · replace hs := if_t hs c5
      refine V_callVC X hZ htab c5 [.int p2] dL_count_4 m_L_75 v_X6_count ⟨Nat.le_of_ble_eq_true rfl, Nat.le_of_ble_eq_true rfl⟩ ⟨by decide, by decide⟩ rfl (Nat.le_of_ble_eq_true rfl) (gm6 hK) rfl cl6 (x_X6_count hK hl er1) [] ⟨0, 9, 12, 13⟩ [] rfl (fun z hz => nomatch hz) rfl (by decide) k_L_13 (by decide) (fun q6 => ?_)
      refine V_astore_n X dL_count_12 rfl [(3, .ref q6), (0, .ref (ad 6 0 0)), (1, .int p2), (2, .ref (ad 36 0 0))] (by decide) rfl ?_
      refine V_iconst X (1 : Int32) dL_count_13 (by decide) ?_
      obtain rfl := Option.some.inj hs; exact V_wret X hr dL_count_14 (by decide) (by decide)
    replace hs := if_f hs c5
    cases hs

def s_L_meanRounds (fu : Nat)  (S : S4) : Option (Int32 × S4) := (s_X6_meanRounds fu S).bind fun r1 => Sum.elim (fun q2 => sv (w4 q2.2 37 0 0 (upd (upd (upd (q2.2 37 0 0) 0 q2.1.1) 1 q2.1.2) 2 1)) fun Z4 => some ((0 : Int32), Z4)) (fun e3 => if e3.1 = 6 then some ((1 : Int32), e3.2) else none) r1
set_option maxRecDepth 100000 in
set_option maxHeartbeats 4000000 in
theorem c_L_meanRounds {l : Launch} {D : va_G} {cA : Nat → ClassId} {dm : Dm} {ad : Ad} {fu : Nat} {S : S4} (hK : DK dm) (hL : dm 37 0 0) (hl : l.stackTraces = false) {out : (Int32 × S4)} (hs : s_L_meanRounds fu S = some out) : Cw D cA dm ad l yL_meanRounds cL_meanRounds 3 (some .int) [(0, 7, 10, 82)] 21 620 S [.ref (ad 6 0 0), .ref (ad 37 0 0)] (some (.int out.1)) out.2 := by
  refine Cw.of (by decide +kernel) (Nat.le_of_ble_eq_true rfl) [(0, .ref (ad 6 0 0)), (1, .ref (ad 37 0 0))] rfl (fun p e s m args below meth c A X hr hZ htab => ?_)
  unfold s_L_meanRounds at hs
  refine V_aload_n X dL_meanRounds_0 rfl 1 rfl ?_
  refine V_iconst X (0 : Int32) dL_meanRounds_1 (by decide) ?_
  refine V_aload_n X dL_meanRounds_2 rfl 0 rfl ?_
  obtain ⟨r1, er1, hs⟩ := bd_some hs
  cases r1 with
  | inl q2 =>
    replace hs := el_l hs
    refine V_callVs X [] dL_meanRounds_3 m_L_78 v_X6_meanRounds ⟨Nat.le_of_ble_eq_true rfl, Nat.le_of_ble_eq_true rfl⟩ ⟨Nat.zero_le _, Nat.zero_le _⟩ rfl (Nat.le_of_ble_eq_true rfl) (gm6 hK) rfl cl6 (c_X6_meanRounds hK er1) ?_
    refine V_dast X hL rfl dL_meanRounds_6 (fun Z4 eZ4 => ?_)
    replace hs := sv_some hs Z4 eZ4
    clear eZ4
    refine V_goto X 13 dL_meanRounds_7 (by decide) ?_
    refine V_iconst X (0 : Int32) dL_meanRounds_13 (by decide) ?_
    obtain rfl := Option.some.inj hs; exact V_wret X hr dL_meanRounds_14 (by decide) (by decide)
  | inr e3 =>
    replace hs := el_r hs
    by_cases c5 : e3.1 = 6
    · replace hs := if_t hs c5
      refine V_callVC X hZ htab c5 [] dL_meanRounds_3 m_L_78 v_X6_meanRounds ⟨Nat.le_of_ble_eq_true rfl, Nat.le_of_ble_eq_true rfl⟩ ⟨by decide, by decide⟩ rfl (Nat.le_of_ble_eq_true rfl) (gm6 hK) rfl cl6 (x_X6_meanRounds hK hl er1) [] ⟨0, 7, 10, 82⟩ [] rfl (fun z hz => nomatch hz) rfl (by decide) k_L_82 (by decide) (fun q6 => ?_)
      refine V_astore_n X dL_meanRounds_10 rfl [(2, .ref q6), (0, .ref (ad 6 0 0)), (1, .ref (ad 37 0 0))] (by decide) rfl ?_
      refine V_iconst X (1 : Int32) dL_meanRounds_11 (by decide) ?_
      obtain rfl := Option.some.inj hs; exact V_wret X hr dL_meanRounds_12 (by decide) (by decide)
    replace hs := if_f hs c5
    cases hs

def s_L_foresee (np : Nat) (fu : Nat) (p2 : Int32) (p3 : Int32) (p4 : Int32) (S : S4) : Option (Int32 × S4) := (s_X6_foresee np fu p2 p3 p4 S).bind fun r1 => Sum.elim (fun q2 => sv (u4 q2.2 36 0 0 ((0 : Int32).toNatClampNeg) q2.1) fun Z4 => some ((0 : Int32), Z4)) (fun e3 => if e3.1 = 5 then some ((1 : Int32), e3.2) else if e3.1 = 1 then some ((2 : Int32), e3.2) else if e3.1 = 4 then some ((3 : Int32), e3.2) else none) r1
set_option maxRecDepth 100000 in
set_option maxHeartbeats 4000000 in
theorem c_L_foresee {l : Launch} {D : va_G} {cA : Nat → ClassId} {dm : Dm} {ad : Ad} {np : Nat} {fu : Nat} {S : S4} {p2 : Int32} {p3 : Int32} {p4 : Int32} (hK : DK dm) (hL : dm 36 0 0) (hnp : ∀ i, i < np → DP dm i) (hl : l.stackTraces = false) {out : (Int32 × S4)} (hs : s_L_foresee np fu p2 p3 p4 S = some out) : Cw D cA dm ad l yL_foresee cL_foresee 6 (some .int) [(0, 12, 15, 38), (0, 12, 19, 13), (0, 12, 23, 44)] 22 646 S [.ref (ad 6 0 0), .int p2, .int p3, .int p4, .ref (ad 36 0 0)] (some (.int out.1)) out.2 := by
  refine Cw.of (by decide +kernel) (Nat.le_of_ble_eq_true rfl) [(0, .ref (ad 6 0 0)), (1, .int p2), (2, .int p3), (3, .int p4), (4, .ref (ad 36 0 0))] rfl (fun p e s m args below meth c A X hr hZ htab => ?_)
  unfold s_L_foresee at hs
  refine V_aload X dL_foresee_0 4 rfl ?_
  refine V_iconst X (0 : Int32) dL_foresee_2 (by decide) ?_
  refine V_aload_n X dL_foresee_3 rfl 0 rfl ?_
  refine V_iload_n X dL_foresee_4 rfl 1 rfl ?_
  refine V_iload_n X dL_foresee_5 rfl 2 rfl ?_
  refine V_iload_n X dL_foresee_6 rfl 3 rfl ?_
  obtain ⟨r1, er1, hs⟩ := bd_some hs
  cases r1 with
  | inl q2 =>
    replace hs := el_l hs
    refine V_callVs X [.int p2, .int p3, .int p4] dL_foresee_7 m_L_84 v_X6_foresee ⟨Nat.le_of_ble_eq_true rfl, Nat.le_of_ble_eq_true rfl⟩ ⟨Nat.zero_le _, Nat.zero_le _⟩ rfl (Nat.le_of_ble_eq_true rfl) (gm6 hK) rfl cl6 (c_X6_foresee hK hnp er1) ?_
    refine V_i2l X dL_foresee_10 ?_
    refine V_last X hL (z := q2.1) rfl (by decide) dL_foresee_11 (fun Z4 eZ4 => ?_)
    replace hs := sv_some hs Z4 eZ4
    clear eZ4
    refine V_goto X 27 dL_foresee_12 (by decide) ?_
    refine V_iconst X (0 : Int32) dL_foresee_27 (by decide) ?_
    obtain rfl := Option.some.inj hs; exact V_wret X hr dL_foresee_28 (by decide) (by decide)
  | inr e3 =>
    replace hs := el_r hs
    by_cases c5 : e3.1 = 5
    · replace hs := if_t hs c5
      refine V_callVC X hZ htab c5 [.int p2, .int p3, .int p4] dL_foresee_7 m_L_84 v_X6_foresee ⟨Nat.le_of_ble_eq_true rfl, Nat.le_of_ble_eq_true rfl⟩ ⟨by decide, by decide⟩ rfl (Nat.le_of_ble_eq_true rfl) (gm6 hK) rfl cl6 (x_X6_foresee hK hnp hl er1) [] ⟨0, 12, 15, 38⟩ [⟨0, 12, 19, 13⟩, ⟨0, 12, 23, 44⟩] rfl (fun z hz => nomatch hz) rfl (by decide) k_L_38 (by decide) (fun q6 => ?_)
      refine V_astore X dL_foresee_15 [(5, .ref q6), (0, .ref (ad 6 0 0)), (1, .int p2), (2, .int p3), (3, .int p4), (4, .ref (ad 36 0 0))] (by decide) rfl ?_
      refine V_iconst X (1 : Int32) dL_foresee_17 (by decide) ?_
      obtain rfl := Option.some.inj hs; exact V_wret X hr dL_foresee_18 (by decide) (by decide)
    replace hs := if_f hs c5
    by_cases c7 : e3.1 = 1
    · replace hs := if_t hs c7
      refine V_callVC X hZ htab c7 [.int p2, .int p3, .int p4] dL_foresee_7 m_L_84 v_X6_foresee ⟨Nat.le_of_ble_eq_true rfl, Nat.le_of_ble_eq_true rfl⟩ ⟨by decide, by decide⟩ rfl (Nat.le_of_ble_eq_true rfl) (gm6 hK) rfl cl6 (x_X6_foresee hK hnp hl er1) [⟨0, 12, 15, 38⟩] ⟨0, 12, 19, 13⟩ [⟨0, 12, 23, 44⟩] rfl (by intro z hz; simp only [List.mem_cons, List.not_mem_nil, or_false] at hz; rcases hz with rfl <;> first | exact ⟨by decide, _, k_L_38, by decide⟩) rfl (by decide) k_L_13 (by decide) (fun q8 => ?_)
      refine V_astore X dL_foresee_19 [(5, .ref q8), (0, .ref (ad 6 0 0)), (1, .int p2), (2, .int p3), (3, .int p4), (4, .ref (ad 36 0 0))] (by decide) rfl ?_
      refine V_iconst X (2 : Int32) dL_foresee_21 (by decide) ?_
      obtain rfl := Option.some.inj hs; exact V_wret X hr dL_foresee_22 (by decide) (by decide)
    replace hs := if_f hs c7
    by_cases c9 : e3.1 = 4
    · replace hs := if_t hs c9
      refine V_callVC X hZ htab c9 [.int p2, .int p3, .int p4] dL_foresee_7 m_L_84 v_X6_foresee ⟨Nat.le_of_ble_eq_true rfl, Nat.le_of_ble_eq_true rfl⟩ ⟨by decide, by decide⟩ rfl (Nat.le_of_ble_eq_true rfl) (gm6 hK) rfl cl6 (x_X6_foresee hK hnp hl er1) [⟨0, 12, 15, 38⟩, ⟨0, 12, 19, 13⟩] ⟨0, 12, 23, 44⟩ [] rfl (by intro z hz; simp only [List.mem_cons, List.not_mem_nil, or_false] at hz; rcases hz with rfl | rfl <;> first | exact ⟨by decide, _, k_L_38, by decide⟩ | exact ⟨by decide, _, k_L_13, by decide⟩) rfl (by decide) k_L_44 (by decide) (fun q10 => ?_)
      refine V_astore X dL_foresee_23 [(5, .ref q10), (0, .ref (ad 6 0 0)), (1, .int p2), (2, .int p3), (3, .int p4), (4, .ref (ad 36 0 0))] (by decide) rfl ?_
      refine V_iconst X (3 : Int32) dL_foresee_25 (by decide) ?_
      obtain rfl := Option.some.inj hs; exact V_wret X hr dL_foresee_26 (by decide) (by decide)
    replace hs := if_f hs c9
    cases hs

def s_L_untilEmpty (np : Nat) (fu : Nat) (p2 : Int32) (S : S4) : Option (Int32 × S4) := (s_X6_untilEmpty np fu p2 S).bind fun r1 => Sum.elim (fun q2 => sv (u4 q2.2 36 0 0 ((0 : Int32).toNatClampNeg) q2.1) fun Z4 => some ((0 : Int32), Z4)) (fun e3 => if e3.1 = 1 then some ((1 : Int32), e3.2) else if e3.1 = 4 then some ((2 : Int32), e3.2) else none) r1
set_option maxRecDepth 100000 in
set_option maxHeartbeats 4000000 in
theorem c_L_untilEmpty {l : Launch} {D : va_G} {cA : Nat → ClassId} {dm : Dm} {ad : Ad} {np : Nat} {fu : Nat} {S : S4} {p2 : Int32} (hK : DK dm) (hL : dm 36 0 0) (hnp : ∀ i, i < np → DP dm i) (hl : l.stackTraces = false) {out : (Int32 × S4)} (hs : s_L_untilEmpty np fu p2 S = some out) : Cw D cA dm ad l yL_untilEmpty cL_untilEmpty 4 (some .int) [(0, 9, 12, 13), (0, 9, 15, 44)] 22 643 S [.ref (ad 6 0 0), .int p2, .ref (ad 36 0 0)] (some (.int out.1)) out.2 := by
  refine Cw.of (by decide +kernel) (Nat.le_of_ble_eq_true rfl) [(0, .ref (ad 6 0 0)), (1, .int p2), (2, .ref (ad 36 0 0))] rfl (fun p e s m args below meth c A X hr hZ htab => ?_)
  unfold s_L_untilEmpty at hs
  refine V_aload_n X dL_untilEmpty_0 rfl 2 rfl ?_
  refine V_iconst X (0 : Int32) dL_untilEmpty_1 (by decide) ?_
  refine V_aload_n X dL_untilEmpty_2 rfl 0 rfl ?_
  refine V_iload_n X dL_untilEmpty_3 rfl 1 rfl ?_
  obtain ⟨r1, er1, hs⟩ := bd_some hs
  cases r1 with
  | inl q2 =>
    replace hs := el_l hs
    refine V_callVs X [.int p2] dL_untilEmpty_4 m_L_88 v_X6_untilEmpty ⟨Nat.le_of_ble_eq_true rfl, Nat.le_of_ble_eq_true rfl⟩ ⟨Nat.zero_le _, Nat.zero_le _⟩ rfl (Nat.le_of_ble_eq_true rfl) (gm6 hK) rfl cl6 (c_X6_untilEmpty hK hnp er1) ?_
    refine V_i2l X dL_untilEmpty_7 ?_
    refine V_last X hL (z := q2.1) rfl (by decide) dL_untilEmpty_8 (fun Z4 eZ4 => ?_)
    replace hs := sv_some hs Z4 eZ4
    clear eZ4
    refine V_goto X 18 dL_untilEmpty_9 (by decide) ?_
    refine V_iconst X (0 : Int32) dL_untilEmpty_18 (by decide) ?_
    obtain rfl := Option.some.inj hs; exact V_wret X hr dL_untilEmpty_19 (by decide) (by decide)
  | inr e3 =>
    replace hs := el_r hs
    by_cases c5 : e3.1 = 1
    · replace hs := if_t hs c5
      refine V_callVC X hZ htab c5 [.int p2] dL_untilEmpty_4 m_L_88 v_X6_untilEmpty ⟨Nat.le_of_ble_eq_true rfl, Nat.le_of_ble_eq_true rfl⟩ ⟨by decide, by decide⟩ rfl (Nat.le_of_ble_eq_true rfl) (gm6 hK) rfl cl6 (x_X6_untilEmpty hK hnp hl er1) [] ⟨0, 9, 12, 13⟩ [⟨0, 9, 15, 44⟩] rfl (fun z hz => nomatch hz) rfl (by decide) k_L_13 (by decide) (fun q6 => ?_)
      refine V_astore_n X dL_untilEmpty_12 rfl [(3, .ref q6), (0, .ref (ad 6 0 0)), (1, .int p2), (2, .ref (ad 36 0 0))] (by decide) rfl ?_
      refine V_iconst X (1 : Int32) dL_untilEmpty_13 (by decide) ?_
      obtain rfl := Option.some.inj hs; exact V_wret X hr dL_untilEmpty_14 (by decide) (by decide)
    replace hs := if_f hs c5
    by_cases c7 : e3.1 = 4
    · replace hs := if_t hs c7
      refine V_callVC X hZ htab c7 [.int p2] dL_untilEmpty_4 m_L_88 v_X6_untilEmpty ⟨Nat.le_of_ble_eq_true rfl, Nat.le_of_ble_eq_true rfl⟩ ⟨by decide, by decide⟩ rfl (Nat.le_of_ble_eq_true rfl) (gm6 hK) rfl cl6 (x_X6_untilEmpty hK hnp hl er1) [⟨0, 9, 12, 13⟩] ⟨0, 9, 15, 44⟩ [] rfl (by intro z hz; simp only [List.mem_cons, List.not_mem_nil, or_false] at hz; rcases hz with rfl <;> first | exact ⟨by decide, _, k_L_13, by decide⟩) rfl (by decide) k_L_44 (by decide) (fun q8 => ?_)
      refine V_astore_n X dL_untilEmpty_15 rfl [(3, .ref q8), (0, .ref (ad 6 0 0)), (1, .int p2), (2, .ref (ad 36 0 0))] (by decide) rfl ?_
      refine V_iconst X (2 : Int32) dL_untilEmpty_16 (by decide) ?_
      obtain rfl := Option.some.inj hs; exact V_wret X hr dL_untilEmpty_17 (by decide) (by decide)
    replace hs := if_f hs c7
    cases hs

def s_L_ledger (p2 : Int32) (p3 : Int32) (S : S4) : Option (Int32 × S4) := (s_X6_ledger p2 p3 S).bind fun r1 => Sum.elim (fun q2 => sv (u4 q2.2 36 0 0 ((0 : Int32).toNatClampNeg) q2.1) fun Z4 => some ((0 : Int32), Z4)) (fun e3 => if e3.1 = 5 then some ((1 : Int32), e3.2) else if e3.1 = 1 then some ((2 : Int32), e3.2) else none) r1
set_option maxRecDepth 100000 in
set_option maxHeartbeats 4000000 in
theorem c_L_ledger {l : Launch} {D : va_G} {cA : Nat → ClassId} {dm : Dm} {ad : Ad} {S : S4} {p2 : Int32} {p3 : Int32} (hK : DK dm) (hL : dm 36 0 0) (hl : l.stackTraces = false) {out : (Int32 × S4)} (hs : s_L_ledger p2 p3 S = some out) : Cw D cA dm ad l yL_ledger cL_ledger 5 (some .int) [(0, 10, 13, 38), (0, 10, 17, 13)] 22 645 S [.ref (ad 6 0 0), .int p2, .int p3, .ref (ad 36 0 0)] (some (.int out.1)) out.2 := by
  refine Cw.of (by decide +kernel) (Nat.le_of_ble_eq_true rfl) [(0, .ref (ad 6 0 0)), (1, .int p2), (2, .int p3), (3, .ref (ad 36 0 0))] rfl (fun p e s m args below meth c A X hr hZ htab => ?_)
  unfold s_L_ledger at hs
  refine V_aload_n X dL_ledger_0 rfl 3 rfl ?_
  refine V_iconst X (0 : Int32) dL_ledger_1 (by decide) ?_
  refine V_aload_n X dL_ledger_2 rfl 0 rfl ?_
  refine V_iload_n X dL_ledger_3 rfl 1 rfl ?_
  refine V_iload_n X dL_ledger_4 rfl 2 rfl ?_
  obtain ⟨r1, er1, hs⟩ := bd_some hs
  cases r1 with
  | inl q2 =>
    replace hs := el_l hs
    refine V_callVs X [.int p2, .int p3] dL_ledger_5 m_L_91 v_X6_ledger ⟨Nat.le_of_ble_eq_true rfl, Nat.le_of_ble_eq_true rfl⟩ ⟨Nat.zero_le _, Nat.zero_le _⟩ rfl (Nat.le_of_ble_eq_true rfl) (gm6 hK) rfl cl6 (c_X6_ledger hK er1) ?_
    refine V_i2l X dL_ledger_8 ?_
    refine V_last X hL (z := q2.1) rfl (by decide) dL_ledger_9 (fun Z4 eZ4 => ?_)
    replace hs := sv_some hs Z4 eZ4
    clear eZ4
    refine V_goto X 21 dL_ledger_10 (by decide) ?_
    refine V_iconst X (0 : Int32) dL_ledger_21 (by decide) ?_
    obtain rfl := Option.some.inj hs; exact V_wret X hr dL_ledger_22 (by decide) (by decide)
  | inr e3 =>
    replace hs := el_r hs
    by_cases c5 : e3.1 = 5
    · replace hs := if_t hs c5
      refine V_callVC X hZ htab c5 [.int p2, .int p3] dL_ledger_5 m_L_91 v_X6_ledger ⟨Nat.le_of_ble_eq_true rfl, Nat.le_of_ble_eq_true rfl⟩ ⟨by decide, by decide⟩ rfl (Nat.le_of_ble_eq_true rfl) (gm6 hK) rfl cl6 (x_X6_ledger hK hl er1) [] ⟨0, 10, 13, 38⟩ [⟨0, 10, 17, 13⟩] rfl (fun z hz => nomatch hz) rfl (by decide) k_L_38 (by decide) (fun q6 => ?_)
      refine V_astore X dL_ledger_13 [(4, .ref q6), (0, .ref (ad 6 0 0)), (1, .int p2), (2, .int p3), (3, .ref (ad 36 0 0))] (by decide) rfl ?_
      refine V_iconst X (1 : Int32) dL_ledger_15 (by decide) ?_
      obtain rfl := Option.some.inj hs; exact V_wret X hr dL_ledger_16 (by decide) (by decide)
    replace hs := if_f hs c5
    by_cases c7 : e3.1 = 1
    · replace hs := if_t hs c7
      refine V_callVC X hZ htab c7 [.int p2, .int p3] dL_ledger_5 m_L_91 v_X6_ledger ⟨Nat.le_of_ble_eq_true rfl, Nat.le_of_ble_eq_true rfl⟩ ⟨by decide, by decide⟩ rfl (Nat.le_of_ble_eq_true rfl) (gm6 hK) rfl cl6 (x_X6_ledger hK hl er1) [⟨0, 10, 13, 38⟩] ⟨0, 10, 17, 13⟩ [] rfl (by intro z hz; simp only [List.mem_cons, List.not_mem_nil, or_false] at hz; rcases hz with rfl <;> first | exact ⟨by decide, _, k_L_38, by decide⟩) rfl (by decide) k_L_13 (by decide) (fun q8 => ?_)
      refine V_astore X dL_ledger_17 [(4, .ref q8), (0, .ref (ad 6 0 0)), (1, .int p2), (2, .int p3), (3, .ref (ad 36 0 0))] (by decide) rfl ?_
      refine V_iconst X (2 : Int32) dL_ledger_19 (by decide) ?_
      obtain rfl := Option.some.inj hs; exact V_wret X hr dL_ledger_20 (by decide) (by decide)
    replace hs := if_f hs c7
    cases hs

def s_L_undo (np : Nat) (fu : Nat)  (S : S4) : Option (Int32 × S4) := (s_X6_undo np fu S).bind fun r1 => Sum.elim (fun q2 => sv (u4 q2.2 36 0 0 ((0 : Int32).toNatClampNeg) q2.1) fun Z4 => some ((0 : Int32), Z4)) (fun e3 => if e3.1 = 2 then some ((1 : Int32), e3.2) else none) r1
set_option maxRecDepth 100000 in
set_option maxHeartbeats 4000000 in
theorem c_L_undo {l : Launch} {D : va_G} {cA : Nat → ClassId} {dm : Dm} {ad : Ad} {np : Nat} {fu : Nat} {S : S4} (hK : DK dm) (hL : dm 36 0 0) (hnp : ∀ i, i < np → DP dm i) (hl : l.stackTraces = false) {out : (Int32 × S4)} (hs : s_L_undo np fu S = some out) : Cw D cA dm ad l yL_undo cL_undo 3 (some .int) [(0, 8, 11, 18)] 21 620 S [.ref (ad 6 0 0), .ref (ad 36 0 0)] (some (.int out.1)) out.2 := by
  refine Cw.of (by decide +kernel) (Nat.le_of_ble_eq_true rfl) [(0, .ref (ad 6 0 0)), (1, .ref (ad 36 0 0))] rfl (fun p e s m args below meth c A X hr hZ htab => ?_)
  unfold s_L_undo at hs
  refine V_aload_n X dL_undo_0 rfl 1 rfl ?_
  refine V_iconst X (0 : Int32) dL_undo_1 (by decide) ?_
  refine V_aload_n X dL_undo_2 rfl 0 rfl ?_
  obtain ⟨r1, er1, hs⟩ := bd_some hs
  cases r1 with
  | inl q2 =>
    replace hs := el_l hs
    refine V_callVs X [] dL_undo_3 m_L_94 v_X6_undo ⟨Nat.le_of_ble_eq_true rfl, Nat.le_of_ble_eq_true rfl⟩ ⟨Nat.zero_le _, Nat.zero_le _⟩ rfl (Nat.le_of_ble_eq_true rfl) (gm6 hK) rfl cl6 (c_X6_undo hK hnp er1) ?_
    refine V_i2l X dL_undo_6 ?_
    refine V_last X hL (z := q2.1) rfl (by decide) dL_undo_7 (fun Z4 eZ4 => ?_)
    replace hs := sv_some hs Z4 eZ4
    clear eZ4
    refine V_goto X 14 dL_undo_8 (by decide) ?_
    refine V_iconst X (0 : Int32) dL_undo_14 (by decide) ?_
    obtain rfl := Option.some.inj hs; exact V_wret X hr dL_undo_15 (by decide) (by decide)
  | inr e3 =>
    replace hs := el_r hs
    by_cases c5 : e3.1 = 2
    · replace hs := if_t hs c5
      refine V_callVC X hZ htab c5 [] dL_undo_3 m_L_94 v_X6_undo ⟨Nat.le_of_ble_eq_true rfl, Nat.le_of_ble_eq_true rfl⟩ ⟨by decide, by decide⟩ rfl (Nat.le_of_ble_eq_true rfl) (gm6 hK) rfl cl6 (x_X6_undo hK hnp hl er1) [] ⟨0, 8, 11, 18⟩ [] rfl (fun z hz => nomatch hz) rfl (by decide) k_L_18 (by decide) (fun q6 => ?_)
      refine V_astore_n X dL_undo_11 rfl [(2, .ref q6), (0, .ref (ad 6 0 0)), (1, .ref (ad 36 0 0))] (by decide) rfl ?_
      refine V_iconst X (1 : Int32) dL_undo_12 (by decide) ?_
      obtain rfl := Option.some.inj hs; exact V_wret X hr dL_undo_13 (by decide) (by decide)
    replace hs := if_f hs c5
    cases hs

def s_L_restoreSnapshot (np : Nat) (fu : Nat)  (S : S4) : Option (Int32 × S4) := (s_X6_restoreSnapshot np fu S).bind fun r1 => Sum.elim (fun q2 => sv (u4 q2.2 36 0 0 ((0 : Int32).toNatClampNeg) q2.1) fun Z4 => some ((0 : Int32), Z4)) (fun e3 => if e3.1 = 2 then some ((1 : Int32), e3.2) else none) r1
set_option maxRecDepth 100000 in
set_option maxHeartbeats 4000000 in
theorem c_L_restoreSnapshot {l : Launch} {D : va_G} {cA : Nat → ClassId} {dm : Dm} {ad : Ad} {np : Nat} {fu : Nat} {S : S4} (hK : DK dm) (hL : dm 36 0 0) (hnp : ∀ i, i < np → DP dm i) (hl : l.stackTraces = false) {out : (Int32 × S4)} (hs : s_L_restoreSnapshot np fu S = some out) : Cw D cA dm ad l yL_restoreSnapshot cL_restoreSnapshot 3 (some .int) [(0, 8, 11, 18)] 21 620 S [.ref (ad 6 0 0), .ref (ad 36 0 0)] (some (.int out.1)) out.2 := by
  refine Cw.of (by decide +kernel) (Nat.le_of_ble_eq_true rfl) [(0, .ref (ad 6 0 0)), (1, .ref (ad 36 0 0))] rfl (fun p e s m args below meth c A X hr hZ htab => ?_)
  unfold s_L_restoreSnapshot at hs
  refine V_aload_n X dL_restoreSnapshot_0 rfl 1 rfl ?_
  refine V_iconst X (0 : Int32) dL_restoreSnapshot_1 (by decide) ?_
  refine V_aload_n X dL_restoreSnapshot_2 rfl 0 rfl ?_
  obtain ⟨r1, er1, hs⟩ := bd_some hs
  cases r1 with
  | inl q2 =>
    replace hs := el_l hs
    refine V_callVs X [] dL_restoreSnapshot_3 m_L_97 v_X6_restoreSnapshot ⟨Nat.le_of_ble_eq_true rfl, Nat.le_of_ble_eq_true rfl⟩ ⟨Nat.zero_le _, Nat.zero_le _⟩ rfl (Nat.le_of_ble_eq_true rfl) (gm6 hK) rfl cl6 (c_X6_restoreSnapshot hK hnp er1) ?_
    refine V_i2l X dL_restoreSnapshot_6 ?_
    refine V_last X hL (z := q2.1) rfl (by decide) dL_restoreSnapshot_7 (fun Z4 eZ4 => ?_)
    replace hs := sv_some hs Z4 eZ4
    clear eZ4
    refine V_goto X 14 dL_restoreSnapshot_8 (by decide) ?_
    refine V_iconst X (0 : Int32) dL_restoreSnapshot_14 (by decide) ?_
    obtain rfl := Option.some.inj hs; exact V_wret X hr dL_restoreSnapshot_15 (by decide) (by decide)
  | inr e3 =>
    replace hs := el_r hs
    by_cases c5 : e3.1 = 2
    · replace hs := if_t hs c5
      refine V_callVC X hZ htab c5 [] dL_restoreSnapshot_3 m_L_97 v_X6_restoreSnapshot ⟨Nat.le_of_ble_eq_true rfl, Nat.le_of_ble_eq_true rfl⟩ ⟨by decide, by decide⟩ rfl (Nat.le_of_ble_eq_true rfl) (gm6 hK) rfl cl6 (x_X6_restoreSnapshot hK hnp hl er1) [] ⟨0, 8, 11, 18⟩ [] rfl (fun z hz => nomatch hz) rfl (by decide) k_L_18 (by decide) (fun q6 => ?_)
      refine V_astore_n X dL_restoreSnapshot_11 rfl [(2, .ref q6), (0, .ref (ad 6 0 0)), (1, .ref (ad 36 0 0))] (by decide) rfl ?_
      refine V_iconst X (1 : Int32) dL_restoreSnapshot_12 (by decide) ?_
      obtain rfl := Option.some.inj hs; exact V_wret X hr dL_restoreSnapshot_13 (by decide) (by decide)
    replace hs := if_f hs c5
    cases hs
