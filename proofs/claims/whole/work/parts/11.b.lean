def s_JA_fill_L5 (fu : Nat) (k1 : Nat) (t1 : Nat) (i1 : Nat) (ln1 : Nat) (p2 : Int32) : Nat → Int32 → Int32 → S4 → Option S4
  | 0, _, _, _ => none
  | f5+1, v2, v3, Z1 => (if v3 ≤ v2 then some Z1 else gd (inb v2 ln1) (sv (u4 Z1 k1 t1 i1 (v2.toNatClampNeg) p2) fun Z4 => s_JA_fill_L5 fu k1 t1 i1 ln1 p2 f5 (v2 + (1 : Int32)) v3 Z4))
def s_JA_fill (fu : Nat) (k1 : Nat) (t1 : Nat) (i1 : Nat) (ln1 : Nat) (p2 : Int32) (S : S4) : Option S4 := s_JA_fill_L5 fu k1 t1 i1 ln1 p2 fu (0 : Int32) (nI ln1) S
set_option maxRecDepth 100000 in
set_option maxHeartbeats 4000000 in
theorem c_JA_fill {l : Launch} {D : va_G} {cA : Nat → ClassId} {dm : Dm} {ad : Ad} {fu : Nat} {S : S4} {k1 : Nat} {t1 : Nat} {i1 : Nat} {ln1 : Nat} {p2 : Int32} (hk1 : IA dm cA ad k1 t1 i1 ln1) {out : S4} (hs : s_JA_fill fu k1 t1 i1 ln1 p2 S = some out) : Ct D cA dm ad l yJA_fill cJA_fill 4 none 0 0 S [.ref (ad k1 t1 i1), .int p2] none out := by
  refine Ct.of (by decide +kernel) (Nat.le_of_ble_eq_true rfl) [(0, .ref (ad k1 t1 i1)), (1, .int p2)] rfl (fun p e s m args below meth c A X hr => ?_)
  unfold s_JA_fill at hs
  refine V_iconst X (0 : Int32) dJA_fill_0 (by decide) ?_
  refine V_istore_n X dJA_fill_1 rfl [(2, .int (0 : Int32)), (0, .ref (ad k1 t1 i1)), (1, .int p2)] (by decide) rfl ?_
  refine V_aload_n X dJA_fill_2 rfl 1 rfl ?_
  refine V_alen X dJA_fill_3 hk1.1 (hk1.2 _) (v := nI ln1) rfl ?_
  refine V_istore_n X dJA_fill_4 rfl [(3, .int (nI ln1)), (2, .int (0 : Int32)), (0, .ref (ad k1 t1 i1)), (1, .int p2)] (by decide) rfl ?_
  have L5 : ∀ (n : Nat) (v2 v3 : Int32) (S1 : S4), s_JA_fill_L5 fu k1 t1 i1 ln1 p2 n v2 v3 S1 = some out → V D cA dm ad A 4 p l e ({ frames := 0, cells := 0, slots := 0, locals := 0 }) s m args below meth c 0 0 (MQ below (gQ D cA dm ad out none A) args s 0 0 A) S1 5 [(0, .ref (ad k1 t1 i1)), (1, .int p2), (2, .int v2), (3, .int v3)] [] := by
    intro n
    induction n with
    | zero => intro v2 v3 S1 hs; rw [s_JA_fill_L5] at hs; cases hs
    | succ f5 ih5 =>
      intro v2 v3 Z1 hs
      rw [s_JA_fill_L5] at hs
      refine V_iload_n X dJA_fill_5 rfl 2 rfl ?_
      refine V_iload_n X dJA_fill_6 rfl 3 rfl ?_
      refine V_icmp_ge X 20 dJA_fill_7 (by decide) (fun c2 => ?_) (fun c2 => ?_)
      · replace hs := if_t hs c2
        obtain rfl := Option.some.inj hs; exact V_vret X hr dJA_fill_20
      · replace hs := if_f hs c2
        refine V_aload_n X dJA_fill_10 rfl 0 rfl ?_
        refine V_iload_n X dJA_fill_11 rfl 2 rfl ?_
        refine V_iload_n X dJA_fill_12 rfl 1 rfl ?_
        obtain ⟨h3, hs⟩ := gd_some hs
        refine V_iast X dJA_fill_13 hk1.1 (hk1.2) h3 (fun Z4 eZ4 => ?_)
        replace hs := sv_some hs Z4 eZ4
        clear eZ4
        refine V_iinc X (v2 + (1 : Int32)) dJA_fill_14 2 rfl rfl [(2, .int (v2 + (1 : Int32))), (0, .ref (ad k1 t1 i1)), (1, .int p2), (3, .int v3)] (by decide) rfl ?_
        refine V_goto X 5 dJA_fill_17 (by decide) ?_
        refine V_sub [1, 2, 0, 3] rfl ?_
        exact ih5 _ _ _ hs
  refine V_sub [2, 3, 1, 0] rfl ?_
  exact L5 _ _ _ _ hs

def s_X6_isIn (p1 : Int32) (p2 : Int32) (p3 : Int32) (S : S4) : Option Int32 := (if p1 < p2 then some (0 : Int32) else (if p3 < p1 then some (0 : Int32) else some (1 : Int32)))
set_option maxRecDepth 100000 in
set_option maxHeartbeats 4000000 in
theorem c_X6_isIn {l : Launch} {D : va_G} {cA : Nat → ClassId} {dm : Dm} {ad : Ad} {S : S4} {p1 : Int32} {p2 : Int32} {p3 : Int32}  {out : Int32} (hs : s_X6_isIn p1 p2 p3 S = some out) : Ct D cA dm ad l yX6_isIn cX6_isIn 3 (some .boolean) 0 0 S [.int p1, .int p2, .int p3] (some (.int out)) S := by
  refine Ct.of (by decide +kernel) (Nat.le_of_ble_eq_true rfl) [(0, .int p1), (1, .int p2), (2, .int p3)] rfl (fun p e s m args below meth c A X hr => ?_)
  unfold s_X6_isIn at hs
  refine V_iload_n X dX6_isIn_0 rfl 0 rfl ?_
  refine V_iload_n X dX6_isIn_1 rfl 1 rfl ?_
  refine V_icmp_lt X 14 dX6_isIn_2 (by decide) (fun c1 => ?_) (fun c1 => ?_)
  · replace hs := if_t hs c1
    refine V_iconst X (0 : Int32) dX6_isIn_14 (by decide) ?_
    obtain rfl := Option.some.inj hs; exact V_zret X hr nb0 dX6_isIn_15
  · replace hs := if_f hs c1
    refine V_iload_n X dX6_isIn_5 rfl 0 rfl ?_
    refine V_iload_n X dX6_isIn_6 rfl 2 rfl ?_
    refine V_icmp_gt X 14 dX6_isIn_7 (by decide) (fun c2 => ?_) (fun c2 => ?_)
    · replace hs := if_t hs c2
      refine V_iconst X (0 : Int32) dX6_isIn_14 (by decide) ?_
      obtain rfl := Option.some.inj hs; exact V_zret X hr nb0 dX6_isIn_15
    · replace hs := if_f hs c2
      refine V_iconst X (1 : Int32) dX6_isIn_10 (by decide) ?_
      refine V_goto X 15 dX6_isIn_11 (by decide) ?_
      obtain rfl := Option.some.inj hs; exact V_zret X hr nb1 dX6_isIn_15

def s_X4_reset (fu : Nat) (t : Nat) (p1 : Int32) (S : S4) : Option S4 := sv (u4 S 4 t 0 1 p1) fun Z1 => sv (u4 Z1 4 t 0 0 (0 : Int32)) fun Z2 => sv (u4 Z2 4 t 0 2 (0 : Int32)) fun Z3 => sv (u4 Z3 4 t 0 3 (0 : Int32)) fun Z4 => sv (u4 Z4 4 t 0 4 (0 : Int32)) fun Z5 => sv (u4 Z5 4 t 0 5 (0 : Int32)) fun Z6 => sv (u4 Z6 4 t 0 6 (0 : Int32)) fun Z7 => sv (u4 Z7 4 t 0 7 (0 : Int32)) fun Z8 => sv (u4 Z8 4 t 0 8 (0 : Int32)) fun Z9 => (s_JA_fill fu 19 t 0 30 (-1 : Int32) Z9).bind fun Z11 => (s_JA_fill fu 21 t 0 4 (0 : Int32) Z11).bind fun Z13 => some Z13
set_option maxRecDepth 100000 in
set_option maxHeartbeats 4000000 in
theorem c_X4_reset {l : Launch} {D : va_G} {cA : Nat → ClassId} {dm : Dm} {ad : Ad} {fu : Nat} {S : S4} {t : Nat} {p1 : Int32} (ht : DS dm t) {out : S4} (hs : s_X4_reset fu t p1 S = some out) : Ct D cA dm ad l yX4_reset cX4_reset 2 none 1 23 S [.ref (ad 4 t 0), .int p1] none out := by
  refine Ct.of (by decide +kernel) (Nat.le_of_ble_eq_true rfl) [(0, .ref (ad 4 t 0)), (1, .int p1)] rfl (fun p e s m args below meth c A X hr => ?_)
  unfold s_X4_reset at hs
  refine V_aload_n X dX4_reset_0 rfl 0 rfl ?_
  refine V_iload_n X dX4_reset_1 rfl 1 rfl ?_
  refine V_put X dX4_reset_2 f_X4_52 (gm4 ht) rfl (Nat.le_of_ble_eq_true rfl) rfl rfl rfl (fun Z1 eZ1 => ?_)
  replace hs := sv_some hs Z1 eZ1
  clear eZ1
  refine V_aload_n X dX4_reset_5 rfl 0 rfl ?_
  refine V_iconst X (0 : Int32) dX4_reset_6 (by decide) ?_
  refine V_put X dX4_reset_7 f_X4_56 (gm4 ht) rfl (Nat.le_of_ble_eq_true rfl) rfl rfl rfl (fun Z2 eZ2 => ?_)
  replace hs := sv_some hs Z2 eZ2
  clear eZ2
  refine V_aload_n X dX4_reset_10 rfl 0 rfl ?_
  refine V_iconst X (0 : Int32) dX4_reset_11 (by decide) ?_
  refine V_put X dX4_reset_12 f_X4_59 (gm4 ht) rfl (Nat.le_of_ble_eq_true rfl) rfl rfl rfl (fun Z3 eZ3 => ?_)
  replace hs := sv_some hs Z3 eZ3
  clear eZ3
  refine V_aload_n X dX4_reset_15 rfl 0 rfl ?_
  refine V_iconst X (0 : Int32) dX4_reset_16 (by decide) ?_
  refine V_put X dX4_reset_17 f_X4_62 (gm4 ht) rfl (Nat.le_of_ble_eq_true rfl) rfl rfl rfl (fun Z4 eZ4 => ?_)
  replace hs := sv_some hs Z4 eZ4
  clear eZ4
  refine V_aload_n X dX4_reset_20 rfl 0 rfl ?_
  refine V_iconst X (0 : Int32) dX4_reset_21 (by decide) ?_
  refine V_put X dX4_reset_22 f_X4_65 (gm4 ht) rfl (Nat.le_of_ble_eq_true rfl) rfl rfl rfl (fun Z5 eZ5 => ?_)
  replace hs := sv_some hs Z5 eZ5
  clear eZ5
  refine V_aload_n X dX4_reset_25 rfl 0 rfl ?_
  refine V_iconst X (0 : Int32) dX4_reset_26 (by decide) ?_
  refine V_put X dX4_reset_27 f_X4_68 (gm4 ht) rfl (Nat.le_of_ble_eq_true rfl) rfl rfl rfl (fun Z6 eZ6 => ?_)
  replace hs := sv_some hs Z6 eZ6
  clear eZ6
  refine V_aload_n X dX4_reset_30 rfl 0 rfl ?_
  refine V_iconst X (0 : Int32) dX4_reset_31 (by decide) ?_
  refine V_put X dX4_reset_32 f_X4_71 (gm4 ht) rfl (Nat.le_of_ble_eq_true rfl) rfl rfl rfl (fun Z7 eZ7 => ?_)
  replace hs := sv_some hs Z7 eZ7
  clear eZ7
  refine V_aload_n X dX4_reset_35 rfl 0 rfl ?_
  refine V_iconst X (0 : Int32) dX4_reset_36 (by decide) ?_
  refine V_put X dX4_reset_37 f_X4_74 (gm4 ht) rfl (Nat.le_of_ble_eq_true rfl) rfl rfl rfl (fun Z8 eZ8 => ?_)
  replace hs := sv_some hs Z8 eZ8
  clear eZ8
  refine V_aload_n X dX4_reset_40 rfl 0 rfl ?_
  refine V_iconst X (0 : Int32) dX4_reset_41 (by decide) ?_
  refine V_put X dX4_reset_42 f_X4_77 (gm4 ht) rfl (Nat.le_of_ble_eq_true rfl) rfl rfl rfl (fun Z9 eZ9 => ?_)
  replace hs := sv_some hs Z9 eZ9
  clear eZ9
  refine V_aload_n X dX4_reset_45 rfl 0 rfl ?_
  refine V_get X dX4_reset_46 r_X4_35 (gm4 ht) rfl rfl ?_
  refine V_iconst X (-1 : Int32) dX4_reset_49 (by decide) ?_
  obtain ⟨Z11, eZ11, hs⟩ := bd_some hs
  refine V_callSv X [.ref (ad 19 t 0), .int (-1 : Int32)] dX4_reset_50 m_X4_80 t_JA_fill ⟨Nat.le_of_ble_eq_true rfl, Nat.le_of_ble_eq_true rfl⟩ ⟨Nat.zero_le _, Nat.zero_le _⟩ rfl (Nat.le_of_ble_eq_true rfl) (c_JA_fill (ia19 ht) eZ11) ?_
  refine V_aload_n X dX4_reset_53 rfl 0 rfl ?_
  refine V_get X dX4_reset_54 r_X4_42 (gm4 ht) rfl rfl ?_
  refine V_iconst X (0 : Int32) dX4_reset_57 (by decide) ?_
  obtain ⟨Z13, eZ13, hs⟩ := bd_some hs
  refine V_callSv X [.ref (ad 21 t 0), .int (0 : Int32)] dX4_reset_58 m_X4_80 t_JA_fill ⟨Nat.le_of_ble_eq_true rfl, Nat.le_of_ble_eq_true rfl⟩ ⟨Nat.zero_le _, Nat.zero_le _⟩ rfl (Nat.le_of_ble_eq_true rfl) (c_JA_fill (ia21 ht) eZ13) ?_
  obtain rfl := Option.some.inj hs; exact V_vret X hr dX4_reset_61

def s_X4_parcelsThatAre_L4 (fu : Nat) (t : Nat) (p1 : Int32) (S : S4) : Nat → Int32 → Int32 → Option Int32
  | 0, _, _ => none
  | f4+1, v2, v3 => (if (S 4 t 0 6) ≤ v3 then some v2 else gd (inb v3 60) ((if (S 1 t v3.toNatClampNeg 4) = p1 then s_X4_parcelsThatAre_L4 fu t p1 S f4 (v2 + (1 : Int32)) (v3 + (1 : Int32)) else s_X4_parcelsThatAre_L4 fu t p1 S f4 v2 (v3 + (1 : Int32)))))
def s_X4_parcelsThatAre (fu : Nat) (t : Nat) (p1 : Int32) (S : S4) : Option Int32 := s_X4_parcelsThatAre_L4 fu t p1 S fu (0 : Int32) (0 : Int32)
set_option maxRecDepth 100000 in
set_option maxHeartbeats 4000000 in
theorem c_X4_parcelsThatAre {l : Launch} {D : va_G} {cA : Nat → ClassId} {dm : Dm} {ad : Ad} {fu : Nat} {S : S4} {t : Nat} {p1 : Int32} (ht : DS dm t) {out : Int32} (hs : s_X4_parcelsThatAre fu t p1 S = some out) : Ct D cA dm ad l yX4_parcelsThatAre cX4_parcelsThatAre 4 (some .int) 0 0 S [.ref (ad 4 t 0), .int p1] (some (.int out)) S := by
  refine Ct.of (by decide +kernel) (Nat.le_of_ble_eq_true rfl) [(0, .ref (ad 4 t 0)), (1, .int p1)] rfl (fun p e s m args below meth c A X hr => ?_)
  unfold s_X4_parcelsThatAre at hs
  refine V_iconst X (0 : Int32) dX4_parcelsThatAre_0 (by decide) ?_
  refine V_istore_n X dX4_parcelsThatAre_1 rfl [(2, .int (0 : Int32)), (0, .ref (ad 4 t 0)), (1, .int p1)] (by decide) rfl ?_
  refine V_iconst X (0 : Int32) dX4_parcelsThatAre_2 (by decide) ?_
  refine V_istore_n X dX4_parcelsThatAre_3 rfl [(3, .int (0 : Int32)), (2, .int (0 : Int32)), (0, .ref (ad 4 t 0)), (1, .int p1)] (by decide) rfl ?_
  have L4 : ∀ (n : Nat) (v2 v3 : Int32) , s_X4_parcelsThatAre_L4 fu t p1 S n v2 v3 = some out → V D cA dm ad A 4 p l e ({ frames := 0, cells := 0, slots := 0, locals := 0 }) s m args below meth c 0 0 (MQ below (gQ D cA dm ad S (some (.int out)) A) args s 0 0 A) S 4 [(0, .ref (ad 4 t 0)), (1, .int p1), (2, .int v2), (3, .int v3)] [] := by
    intro n
    induction n with
    | zero => intro v2 v3 hs; rw [s_X4_parcelsThatAre_L4] at hs; cases hs
    | succ f4 ih4 =>
      intro v2 v3 hs
      rw [s_X4_parcelsThatAre_L4] at hs
      refine V_iload_n X dX4_parcelsThatAre_4 rfl 3 rfl ?_
      refine V_aload_n X dX4_parcelsThatAre_5 rfl 0 rfl ?_
      refine V_get X dX4_parcelsThatAre_6 r_X4_71 (gm4 ht) rfl rfl ?_
      refine V_icmp_ge X 34 dX4_parcelsThatAre_9 (by decide) (fun c1 => ?_) (fun c1 => ?_)
      · replace hs := if_t hs c1
        refine V_iload_n X dX4_parcelsThatAre_34 rfl 2 rfl ?_
        obtain rfl := Option.some.inj hs; exact V_iret X hr dX4_parcelsThatAre_35
      · replace hs := if_f hs c1
        refine V_aload_n X dX4_parcelsThatAre_12 rfl 0 rfl ?_
        refine V_get X dX4_parcelsThatAre_13 r_X4_31 (gm4 ht) rfl rfl ?_
        refine V_iload_n X dX4_parcelsThatAre_16 rfl 3 rfl ?_
        obtain ⟨h2, hs⟩ := gd_some hs
        refine V_aald X 6 rfl dX4_parcelsThatAre_17 (gm18 ht) rfl h2 (v := .ref (ad 1 t v3.toNatClampNeg)) rfl ?_
        refine V_get X dX4_parcelsThatAre_18 r_X4_238 (gm1 ht (inb_lt h2)) rfl rfl ?_
        refine V_iload_n X dX4_parcelsThatAre_21 rfl 1 rfl ?_
        refine V_icmp_ne X 28 dX4_parcelsThatAre_22 (by decide) (fun c3 => ?_) (fun c3 => ?_)
        · replace hs := if_f hs c3
          refine V_iinc X (v3 + (1 : Int32)) dX4_parcelsThatAre_28 3 rfl rfl [(3, .int (v3 + (1 : Int32))), (0, .ref (ad 4 t 0)), (1, .int p1), (2, .int v2)] (by decide) rfl ?_
          refine V_goto X 4 dX4_parcelsThatAre_31 (by decide) ?_
          refine V_sub [1, 2, 3, 0] rfl ?_
          exact ih4 _ _ hs
        · replace hs := if_t hs c3
          refine V_iinc X (v2 + (1 : Int32)) dX4_parcelsThatAre_25 2 rfl rfl [(2, .int (v2 + (1 : Int32))), (0, .ref (ad 4 t 0)), (1, .int p1), (3, .int v3)] (by decide) rfl ?_
          refine V_iinc X (v3 + (1 : Int32)) dX4_parcelsThatAre_28 3 rfl rfl [(3, .int (v3 + (1 : Int32))), (2, .int (v2 + (1 : Int32))), (0, .ref (ad 4 t 0)), (1, .int p1)] (by decide) rfl ?_
          refine V_goto X 4 dX4_parcelsThatAre_31 (by decide) ?_
          refine V_sub [2, 3, 1, 0] rfl ?_
          exact ih4 _ _ hs
  refine V_sub [2, 3, 1, 0] rfl ?_
  exact L4 _ _ _ hs

def s_X4_waitingInStations_L4 (fu : Nat) (t : Nat) (S : S4) : Nat → Int32 → Int32 → Option Int32
  | 0, _, _ => none
  | f4+1, v1, v2 => (if (S 4 t 0 3) ≤ v2 then some v1 else gd (inb v2 3) (s_X4_waitingInStations_L4 fu t S f4 (v1 + (S 5 t v2.toNatClampNeg 1)) (v2 + (1 : Int32))))
def s_X4_waitingInStations (fu : Nat) (t : Nat) (S : S4) : Option Int32 := s_X4_waitingInStations_L4 fu t S fu (0 : Int32) (0 : Int32)
set_option maxRecDepth 100000 in
set_option maxHeartbeats 4000000 in
theorem c_X4_waitingInStations {l : Launch} {D : va_G} {cA : Nat → ClassId} {dm : Dm} {ad : Ad} {fu : Nat} {S : S4} {t : Nat} (ht : DS dm t) {out : Int32} (hs : s_X4_waitingInStations fu t S = some out) : Ct D cA dm ad l yX4_waitingInStations cX4_waitingInStations 3 (some .int) 0 0 S [.ref (ad 4 t 0)] (some (.int out)) S := by
  refine Ct.of (by decide +kernel) (Nat.le_of_ble_eq_true rfl) [(0, .ref (ad 4 t 0))] rfl (fun p e s m args below meth c A X hr => ?_)
  unfold s_X4_waitingInStations at hs
  refine V_iconst X (0 : Int32) dX4_waitingInStations_0 (by decide) ?_
  refine V_istore_n X dX4_waitingInStations_1 rfl [(1, .int (0 : Int32)), (0, .ref (ad 4 t 0))] (by decide) rfl ?_
  refine V_iconst X (0 : Int32) dX4_waitingInStations_2 (by decide) ?_
  refine V_istore_n X dX4_waitingInStations_3 rfl [(2, .int (0 : Int32)), (1, .int (0 : Int32)), (0, .ref (ad 4 t 0))] (by decide) rfl ?_
  have L4 : ∀ (n : Nat) (v1 v2 : Int32) , s_X4_waitingInStations_L4 fu t S n v1 v2 = some out → V D cA dm ad A 3 p l e ({ frames := 0, cells := 0, slots := 0, locals := 0 }) s m args below meth c 0 0 (MQ below (gQ D cA dm ad S (some (.int out)) A) args s 0 0 A) S 4 [(0, .ref (ad 4 t 0)), (1, .int v1), (2, .int v2)] [] := by
    intro n
    induction n with
    | zero => intro v1 v2 hs; rw [s_X4_waitingInStations_L4] at hs; cases hs
    | succ f4 ih4 =>
      intro v1 v2 hs
      rw [s_X4_waitingInStations_L4] at hs
      refine V_iload_n X dX4_waitingInStations_4 rfl 2 rfl ?_
      refine V_aload_n X dX4_waitingInStations_5 rfl 0 rfl ?_
      refine V_get X dX4_waitingInStations_6 r_X4_62 (gm4 ht) rfl rfl ?_
      refine V_icmp_ge X 30 dX4_waitingInStations_9 (by decide) (fun c1 => ?_) (fun c1 => ?_)
      · replace hs := if_t hs c1
        refine V_iload_n X dX4_waitingInStations_30 rfl 1 rfl ?_
        obtain rfl := Option.some.inj hs; exact V_iret X hr dX4_waitingInStations_31
      · replace hs := if_f hs c1
        refine V_iload_n X dX4_waitingInStations_12 rfl 1 rfl ?_
        refine V_aload_n X dX4_waitingInStations_13 rfl 0 rfl ?_
        refine V_get X dX4_waitingInStations_14 r_X4_11 (gm4 ht) rfl rfl ?_
        refine V_iload_n X dX4_waitingInStations_17 rfl 2 rfl ?_
        obtain ⟨h2, hs⟩ := gd_some hs
        refine V_aald X 3 rfl dX4_waitingInStations_18 (gm15 ht) rfl h2 (v := .ref (ad 5 t v2.toNatClampNeg)) rfl ?_
        refine V_get X dX4_waitingInStations_19 r_X4_270 (gm5 ht (inb_lt h2)) rfl rfl ?_
        refine V_iadd X dX4_waitingInStations_22 ?_
        refine V_istore_n X dX4_waitingInStations_23 rfl [(1, .int (v1 + (S 5 t v2.toNatClampNeg 1))), (0, .ref (ad 4 t 0)), (2, .int v2)] (by decide) rfl ?_
        refine V_iinc X (v2 + (1 : Int32)) dX4_waitingInStations_24 2 rfl rfl [(2, .int (v2 + (1 : Int32))), (1, .int (v1 + (S 5 t v2.toNatClampNeg 1))), (0, .ref (ad 4 t 0))] (by decide) rfl ?_
        refine V_goto X 4 dX4_waitingInStations_27 (by decide) ?_
        refine V_sub [2, 1, 0] rfl ?_
        exact ih4 _ _ hs
  refine V_sub [2, 1, 0] rfl ?_
  exact L4 _ _ _ hs

def s_X4_carriedOnLoop_L4 (fu : Nat) (t : Nat) (S : S4) : Nat → Int32 → Int32 → Option Int32
  | 0, _, _ => none
  | f4+1, v1, v2 => (if (S 4 t 0 1) ≤ v2 then some v1 else gd (inb v2 30) ((if (S 19 t 0 v2.toNatClampNeg) = (-1 : Int32) then s_X4_carriedOnLoop_L4 fu t S f4 v1 (v2 + (1 : Int32)) else s_X4_carriedOnLoop_L4 fu t S f4 (v1 + (1 : Int32)) (v2 + (1 : Int32)))))
def s_X4_carriedOnLoop (fu : Nat) (t : Nat) (S : S4) : Option Int32 := s_X4_carriedOnLoop_L4 fu t S fu (0 : Int32) (0 : Int32)
set_option maxRecDepth 100000 in
set_option maxHeartbeats 4000000 in
theorem c_X4_carriedOnLoop {l : Launch} {D : va_G} {cA : Nat → ClassId} {dm : Dm} {ad : Ad} {fu : Nat} {S : S4} {t : Nat} (ht : DS dm t) {out : Int32} (hs : s_X4_carriedOnLoop fu t S = some out) : Ct D cA dm ad l yX4_carriedOnLoop cX4_carriedOnLoop 3 (some .int) 0 0 S [.ref (ad 4 t 0)] (some (.int out)) S := by
  refine Ct.of (by decide +kernel) (Nat.le_of_ble_eq_true rfl) [(0, .ref (ad 4 t 0))] rfl (fun p e s m args below meth c A X hr => ?_)
  unfold s_X4_carriedOnLoop at hs
  refine V_iconst X (0 : Int32) dX4_carriedOnLoop_0 (by decide) ?_
  refine V_istore_n X dX4_carriedOnLoop_1 rfl [(1, .int (0 : Int32)), (0, .ref (ad 4 t 0))] (by decide) rfl ?_
  refine V_iconst X (0 : Int32) dX4_carriedOnLoop_2 (by decide) ?_
  refine V_istore_n X dX4_carriedOnLoop_3 rfl [(2, .int (0 : Int32)), (1, .int (0 : Int32)), (0, .ref (ad 4 t 0))] (by decide) rfl ?_
  have L4 : ∀ (n : Nat) (v1 v2 : Int32) , s_X4_carriedOnLoop_L4 fu t S n v1 v2 = some out → V D cA dm ad A 3 p l e ({ frames := 0, cells := 0, slots := 0, locals := 0 }) s m args below meth c 0 0 (MQ below (gQ D cA dm ad S (some (.int out)) A) args s 0 0 A) S 4 [(0, .ref (ad 4 t 0)), (1, .int v1), (2, .int v2)] [] := by
    intro n
    induction n with
    | zero => intro v1 v2 hs; rw [s_X4_carriedOnLoop_L4] at hs; cases hs
    | succ f4 ih4 =>
      intro v1 v2 hs
      rw [s_X4_carriedOnLoop_L4] at hs
      refine V_iload_n X dX4_carriedOnLoop_4 rfl 2 rfl ?_
      refine V_aload_n X dX4_carriedOnLoop_5 rfl 0 rfl ?_
      refine V_get X dX4_carriedOnLoop_6 r_X4_52 (gm4 ht) rfl rfl ?_
      refine V_icmp_ge X 31 dX4_carriedOnLoop_9 (by decide) (fun c1 => ?_) (fun c1 => ?_)
      · replace hs := if_t hs c1
        refine V_iload_n X dX4_carriedOnLoop_31 rfl 1 rfl ?_
        obtain rfl := Option.some.inj hs; exact V_iret X hr dX4_carriedOnLoop_32
      · replace hs := if_f hs c1
        refine V_aload_n X dX4_carriedOnLoop_12 rfl 0 rfl ?_
        refine V_get X dX4_carriedOnLoop_13 r_X4_35 (gm4 ht) rfl rfl ?_
        refine V_iload_n X dX4_carriedOnLoop_16 rfl 2 rfl ?_
        obtain ⟨h2, hs⟩ := gd_some hs
        refine V_iald X dX4_carriedOnLoop_17 (gm19 ht) rfl h2 ?_
        refine V_iconst X (-1 : Int32) dX4_carriedOnLoop_18 (by decide) ?_
        refine V_icmp_eq X 25 dX4_carriedOnLoop_19 (by decide) (fun c3 => ?_) (fun c3 => ?_)
        · replace hs := if_t hs c3
          refine V_iinc X (v2 + (1 : Int32)) dX4_carriedOnLoop_25 2 rfl rfl [(2, .int (v2 + (1 : Int32))), (0, .ref (ad 4 t 0)), (1, .int v1)] (by decide) rfl ?_
          refine V_goto X 4 dX4_carriedOnLoop_28 (by decide) ?_
          refine V_sub [1, 2, 0] rfl ?_
          exact ih4 _ _ hs
        · replace hs := if_f hs c3
          refine V_iinc X (v1 + (1 : Int32)) dX4_carriedOnLoop_22 1 rfl rfl [(1, .int (v1 + (1 : Int32))), (0, .ref (ad 4 t 0)), (2, .int v2)] (by decide) rfl ?_
          refine V_iinc X (v2 + (1 : Int32)) dX4_carriedOnLoop_25 2 rfl rfl [(2, .int (v2 + (1 : Int32))), (1, .int (v1 + (1 : Int32))), (0, .ref (ad 4 t 0))] (by decide) rfl ?_
          refine V_goto X 4 dX4_carriedOnLoop_28 (by decide) ?_
          refine V_sub [2, 1, 0] rfl ?_
          exact ih4 _ _ hs
  refine V_sub [2, 1, 0] rfl ?_
  exact L4 _ _ _ hs

def s_X4_chutesAgree_L14 (fu : Nat) (t : Nat) (k2 : Int32 → Option Int32) (S : S4) : Nat → Int32 → Int32 → Int32 → Option Int32
  | 0, _, _, _ => none
  | f14+1, v1, v2, v3 => (if (S 4 t 0 6) ≤ v3 then gd (inb v1 8) ((if v2 = (S 0 t v1.toNatClampNeg 11) then k2 (v1 + (1 : Int32)) else some (0 : Int32))) else gd (inb v3 60) ((if (S 1 t v3.toNatClampNeg 4) = (2 : Int32) then gd (inb v3 60) ((if (S 1 t v3.toNatClampNeg 5) = v1 then s_X4_chutesAgree_L14 fu t k2 S f14 v1 (v2 + (1 : Int32)) (v3 + (1 : Int32)) else s_X4_chutesAgree_L14 fu t k2 S f14 v1 v2 (v3 + (1 : Int32)))) else s_X4_chutesAgree_L14 fu t k2 S f14 v1 v2 (v3 + (1 : Int32)))))
def s_X4_chutesAgree_L2 (fu : Nat) (t : Nat) (S : S4) : Nat → Int32 → Option Int32
  | 0, _ => none
  | f2+1, v1 => (if (S 4 t 0 4) ≤ v1 then some (1 : Int32) else s_X4_chutesAgree_L14 fu t (fun a1 => s_X4_chutesAgree_L2 fu t S f2 a1) S fu v1 (0 : Int32) (0 : Int32))
def s_X4_chutesAgree (fu : Nat) (t : Nat) (S : S4) : Option Int32 := s_X4_chutesAgree_L2 fu t S fu (0 : Int32)
set_option maxRecDepth 100000 in
set_option maxHeartbeats 4000000 in
theorem c_X4_chutesAgree {l : Launch} {D : va_G} {cA : Nat → ClassId} {dm : Dm} {ad : Ad} {fu : Nat} {S : S4} {t : Nat} (ht : DS dm t) {out : Int32} (hs : s_X4_chutesAgree fu t S = some out) : Ct D cA dm ad l yX4_chutesAgree cX4_chutesAgree 4 (some .boolean) 0 0 S [.ref (ad 4 t 0)] (some (.int out)) S := by
  refine Ct.of (by decide +kernel) (Nat.le_of_ble_eq_true rfl) [(0, .ref (ad 4 t 0))] rfl (fun p e s m args below meth c A X hr => ?_)
  unfold s_X4_chutesAgree at hs
  refine V_iconst X (0 : Int32) dX4_chutesAgree_0 (by decide) ?_
  refine V_istore_n X dX4_chutesAgree_1 rfl [(1, .int (0 : Int32)), (0, .ref (ad 4 t 0))] (by decide) rfl ?_
  have L2 : ∀ (n : Nat) (v1 : Int32) , s_X4_chutesAgree_L2 fu t S n v1 = some out → V D cA dm ad A 4 p l e ({ frames := 0, cells := 0, slots := 0, locals := 0 }) s m args below meth c 0 0 (MQ below (gQ D cA dm ad S (some (.int out)) A) args s 0 0 A) S 2 [(0, .ref (ad 4 t 0)), (1, .int v1)] [] := by
    intro n
    induction n with
    | zero => intro v1 hs; rw [s_X4_chutesAgree_L2] at hs; cases hs
    | succ f2 ih2 =>
      intro v1 hs
      rw [s_X4_chutesAgree_L2] at hs
      refine V_iload_n X dX4_chutesAgree_2 rfl 1 rfl ?_
      refine V_aload_n X dX4_chutesAgree_3 rfl 0 rfl ?_
      refine V_get X dX4_chutesAgree_4 r_X4_65 (gm4 ht) rfl rfl ?_
      refine V_icmp_ge X 78 dX4_chutesAgree_7 (by decide) (fun c1 => ?_) (fun c1 => ?_)
      · replace hs := if_t hs c1
        refine V_iconst X (1 : Int32) dX4_chutesAgree_78 (by decide) ?_
        obtain rfl := Option.some.inj hs; exact V_zret X hr nb1 dX4_chutesAgree_79
      · replace hs := if_f hs c1
        refine V_iconst X (0 : Int32) dX4_chutesAgree_10 (by decide) ?_
        refine V_istore_n X dX4_chutesAgree_11 rfl [(2, .int (0 : Int32)), (0, .ref (ad 4 t 0)), (1, .int v1)] (by decide) rfl ?_
        refine V_iconst X (0 : Int32) dX4_chutesAgree_12 (by decide) ?_
        refine V_istore_n X dX4_chutesAgree_13 rfl [(3, .int (0 : Int32)), (2, .int (0 : Int32)), (0, .ref (ad 4 t 0)), (1, .int v1)] (by decide) rfl ?_
        have L14 : ∀ (n : Nat) (v1 v2 v3 : Int32) , s_X4_chutesAgree_L14 fu t (fun a1 => s_X4_chutesAgree_L2 fu t S f2 a1) S n v1 v2 v3 = some out → V D cA dm ad A 4 p l e ({ frames := 0, cells := 0, slots := 0, locals := 0 }) s m args below meth c 0 0 (MQ below (gQ D cA dm ad S (some (.int out)) A) args s 0 0 A) S 14 [(0, .ref (ad 4 t 0)), (1, .int v1), (2, .int v2), (3, .int v3)] [] := by
          intro n
          induction n with
          | zero => intro v1 v2 v3 hs; rw [s_X4_chutesAgree_L14] at hs; cases hs
          | succ f14 ih14 =>
            intro v1 v2 v3 hs
            rw [s_X4_chutesAgree_L14] at hs
            refine V_iload_n X dX4_chutesAgree_14 rfl 3 rfl ?_
            refine V_aload_n X dX4_chutesAgree_15 rfl 0 rfl ?_
            refine V_get X dX4_chutesAgree_16 r_X4_71 (gm4 ht) rfl rfl ?_
            refine V_icmp_ge X 57 dX4_chutesAgree_19 (by decide) (fun c2 => ?_) (fun c2 => ?_)
            · replace hs := if_t hs c2
              refine V_iload_n X dX4_chutesAgree_57 rfl 2 rfl ?_
              refine V_aload_n X dX4_chutesAgree_58 rfl 0 rfl ?_
              refine V_get X dX4_chutesAgree_59 r_X4_19 (gm4 ht) rfl rfl ?_
              refine V_iload_n X dX4_chutesAgree_62 rfl 1 rfl ?_
              obtain ⟨h3, hs⟩ := gd_some hs
              refine V_aald X 4 rfl dX4_chutesAgree_63 (gm16 ht) rfl h3 (v := .ref (ad 0 t v1.toNatClampNeg)) rfl ?_
              refine V_get X dX4_chutesAgree_64 r_X4_284 (gm0 ht (inb_lt h3)) rfl rfl ?_
              refine V_icmp_eq X 72 dX4_chutesAgree_67 (by decide) (fun c4 => ?_) (fun c4 => ?_)
              · replace hs := if_t hs c4
                refine V_iinc X (v1 + (1 : Int32)) dX4_chutesAgree_72 1 rfl rfl [(1, .int (v1 + (1 : Int32))), (0, .ref (ad 4 t 0)), (2, .int v2), (3, .int v3)] (by decide) rfl ?_
                refine V_goto X 2 dX4_chutesAgree_75 (by decide) ?_
                refine V_sub [1, 0] rfl ?_
                exact ih2 _ hs
              · replace hs := if_f hs c4
                refine V_iconst X (0 : Int32) dX4_chutesAgree_70 (by decide) ?_
                obtain rfl := Option.some.inj hs; exact V_zret X hr nb0 dX4_chutesAgree_71
            · replace hs := if_f hs c2
              refine V_aload_n X dX4_chutesAgree_22 rfl 0 rfl ?_
              refine V_get X dX4_chutesAgree_23 r_X4_31 (gm4 ht) rfl rfl ?_
              refine V_iload_n X dX4_chutesAgree_26 rfl 3 rfl ?_
              obtain ⟨h5, hs⟩ := gd_some hs
              refine V_aald X 6 rfl dX4_chutesAgree_27 (gm18 ht) rfl h5 (v := .ref (ad 1 t v3.toNatClampNeg)) rfl ?_
              refine V_get X dX4_chutesAgree_28 r_X4_238 (gm1 ht (inb_lt h5)) rfl rfl ?_
              refine V_iconst X (2 : Int32) dX4_chutesAgree_31 (by decide) ?_
              refine V_icmp_ne X 51 dX4_chutesAgree_32 (by decide) (fun c6 => ?_) (fun c6 => ?_)
              · replace hs := if_f hs c6
                refine V_iinc X (v3 + (1 : Int32)) dX4_chutesAgree_51 3 rfl rfl [(3, .int (v3 + (1 : Int32))), (0, .ref (ad 4 t 0)), (1, .int v1), (2, .int v2)] (by decide) rfl ?_
                refine V_goto X 14 dX4_chutesAgree_54 (by decide) ?_
                refine V_sub [1, 2, 3, 0] rfl ?_
                exact ih14 _ _ _ hs
              · replace hs := if_t hs c6
                refine V_aload_n X dX4_chutesAgree_35 rfl 0 rfl ?_
                refine V_get X dX4_chutesAgree_36 r_X4_31 (gm4 ht) rfl rfl ?_
                refine V_iload_n X dX4_chutesAgree_39 rfl 3 rfl ?_
                obtain ⟨h7, hs⟩ := gd_some hs
                refine V_aald X 6 rfl dX4_chutesAgree_40 (gm18 ht) rfl h7 (v := .ref (ad 1 t v3.toNatClampNeg)) rfl ?_
                refine V_get X dX4_chutesAgree_41 r_X4_241 (gm1 ht (inb_lt h7)) rfl rfl ?_
                refine V_iload_n X dX4_chutesAgree_44 rfl 1 rfl ?_
                refine V_icmp_ne X 51 dX4_chutesAgree_45 (by decide) (fun c8 => ?_) (fun c8 => ?_)
                · replace hs := if_f hs c8
                  refine V_iinc X (v3 + (1 : Int32)) dX4_chutesAgree_51 3 rfl rfl [(3, .int (v3 + (1 : Int32))), (0, .ref (ad 4 t 0)), (1, .int v1), (2, .int v2)] (by decide) rfl ?_
                  refine V_goto X 14 dX4_chutesAgree_54 (by decide) ?_
                  refine V_sub [1, 2, 3, 0] rfl ?_
                  exact ih14 _ _ _ hs
                · replace hs := if_t hs c8
                  refine V_iinc X (v2 + (1 : Int32)) dX4_chutesAgree_48 2 rfl rfl [(2, .int (v2 + (1 : Int32))), (0, .ref (ad 4 t 0)), (1, .int v1), (3, .int v3)] (by decide) rfl ?_
                  refine V_iinc X (v3 + (1 : Int32)) dX4_chutesAgree_51 3 rfl rfl [(3, .int (v3 + (1 : Int32))), (2, .int (v2 + (1 : Int32))), (0, .ref (ad 4 t 0)), (1, .int v1)] (by decide) rfl ?_
                  refine V_goto X 14 dX4_chutesAgree_54 (by decide) ?_
                  refine V_sub [2, 3, 1, 0] rfl ?_
                  exact ih14 _ _ _ hs
        refine V_sub [2, 3, 1, 0] rfl ?_
        exact L14 _ _ _ _ hs
  refine V_sub [1, 0] rfl ?_
  exact L2 _ _ hs

def s_X4_verdictsAgree_L11 (fu : Nat) (t : Nat) (k2 : Int32 → Option Int32) (S : S4) : Nat → Int32 → Int32 → Int32 → Option Int32
  | 0, _, _, _ => none
  | f11+1, v1, v2, v3 => (if (S 4 t 0 6) ≤ v3 then gd (inb v1 4) ((if v2 = (S 21 t 0 v1.toNatClampNeg) then k2 (v1 + (1 : Int32)) else some (0 : Int32))) else gd (inb v3 60) ((if (S 1 t v3.toNatClampNeg 10) = v1 then s_X4_verdictsAgree_L11 fu t k2 S f11 v1 (v2 + (1 : Int32)) (v3 + (1 : Int32)) else s_X4_verdictsAgree_L11 fu t k2 S f11 v1 v2 (v3 + (1 : Int32)))))
def s_X4_verdictsAgree_L2 (fu : Nat) (t : Nat) (S : S4) : Nat → Int32 → Option Int32
  | 0, _ => none
  | f2+1, v1 => (if (4 : Int32) ≤ v1 then some (1 : Int32) else s_X4_verdictsAgree_L11 fu t (fun a1 => s_X4_verdictsAgree_L2 fu t S f2 a1) S fu v1 (0 : Int32) (0 : Int32))
def s_X4_verdictsAgree (fu : Nat) (t : Nat) (S : S4) : Option Int32 := s_X4_verdictsAgree_L2 fu t S fu (0 : Int32)
set_option maxRecDepth 100000 in
set_option maxHeartbeats 4000000 in
theorem c_X4_verdictsAgree {l : Launch} {D : va_G} {cA : Nat → ClassId} {dm : Dm} {ad : Ad} {fu : Nat} {S : S4} {t : Nat} (ht : DS dm t) {out : Int32} (hs : s_X4_verdictsAgree fu t S = some out) : Ct D cA dm ad l yX4_verdictsAgree cX4_verdictsAgree 4 (some .boolean) 0 0 S [.ref (ad 4 t 0)] (some (.int out)) S := by
  refine Ct.of (by decide +kernel) (Nat.le_of_ble_eq_true rfl) [(0, .ref (ad 4 t 0))] rfl (fun p e s m args below meth c A X hr => ?_)
  unfold s_X4_verdictsAgree at hs
  refine V_iconst X (0 : Int32) dX4_verdictsAgree_0 (by decide) ?_
  refine V_istore_n X dX4_verdictsAgree_1 rfl [(1, .int (0 : Int32)), (0, .ref (ad 4 t 0))] (by decide) rfl ?_
  have L2 : ∀ (n : Nat) (v1 : Int32) , s_X4_verdictsAgree_L2 fu t S n v1 = some out → V D cA dm ad A 4 p l e ({ frames := 0, cells := 0, slots := 0, locals := 0 }) s m args below meth c 0 0 (MQ below (gQ D cA dm ad S (some (.int out)) A) args s 0 0 A) S 2 [(0, .ref (ad 4 t 0)), (1, .int v1)] [] := by
    intro n
    induction n with
    | zero => intro v1 hs; rw [s_X4_verdictsAgree_L2] at hs; cases hs
    | succ f2 ih2 =>
      intro v1 hs
      rw [s_X4_verdictsAgree_L2] at hs
      refine V_iload_n X dX4_verdictsAgree_2 rfl 1 rfl ?_
      refine V_iconst X (4 : Int32) dX4_verdictsAgree_3 (by decide) ?_
      refine V_icmp_ge X 59 dX4_verdictsAgree_4 (by decide) (fun c1 => ?_) (fun c1 => ?_)
      · replace hs := if_t hs c1
        refine V_iconst X (1 : Int32) dX4_verdictsAgree_59 (by decide) ?_
        obtain rfl := Option.some.inj hs; exact V_zret X hr nb1 dX4_verdictsAgree_60
      · replace hs := if_f hs c1
        refine V_iconst X (0 : Int32) dX4_verdictsAgree_7 (by decide) ?_
        refine V_istore_n X dX4_verdictsAgree_8 rfl [(2, .int (0 : Int32)), (0, .ref (ad 4 t 0)), (1, .int v1)] (by decide) rfl ?_
        refine V_iconst X (0 : Int32) dX4_verdictsAgree_9 (by decide) ?_
        refine V_istore_n X dX4_verdictsAgree_10 rfl [(3, .int (0 : Int32)), (2, .int (0 : Int32)), (0, .ref (ad 4 t 0)), (1, .int v1)] (by decide) rfl ?_
        have L11 : ∀ (n : Nat) (v1 v2 v3 : Int32) , s_X4_verdictsAgree_L11 fu t (fun a1 => s_X4_verdictsAgree_L2 fu t S f2 a1) S n v1 v2 v3 = some out → V D cA dm ad A 4 p l e ({ frames := 0, cells := 0, slots := 0, locals := 0 }) s m args below meth c 0 0 (MQ below (gQ D cA dm ad S (some (.int out)) A) args s 0 0 A) S 11 [(0, .ref (ad 4 t 0)), (1, .int v1), (2, .int v2), (3, .int v3)] [] := by
          intro n
          induction n with
          | zero => intro v1 v2 v3 hs; rw [s_X4_verdictsAgree_L11] at hs; cases hs
          | succ f11 ih11 =>
            intro v1 v2 v3 hs
            rw [s_X4_verdictsAgree_L11] at hs
            refine V_iload_n X dX4_verdictsAgree_11 rfl 3 rfl ?_
            refine V_aload_n X dX4_verdictsAgree_12 rfl 0 rfl ?_
            refine V_get X dX4_verdictsAgree_13 r_X4_71 (gm4 ht) rfl rfl ?_
            refine V_icmp_ge X 41 dX4_verdictsAgree_16 (by decide) (fun c2 => ?_) (fun c2 => ?_)
            · replace hs := if_t hs c2
              refine V_iload_n X dX4_verdictsAgree_41 rfl 2 rfl ?_
              refine V_aload_n X dX4_verdictsAgree_42 rfl 0 rfl ?_
              refine V_get X dX4_verdictsAgree_43 r_X4_42 (gm4 ht) rfl rfl ?_
              refine V_iload_n X dX4_verdictsAgree_46 rfl 1 rfl ?_
              obtain ⟨h3, hs⟩ := gd_some hs
              refine V_iald X dX4_verdictsAgree_47 (gm21 ht) rfl h3 ?_
              refine V_icmp_eq X 53 dX4_verdictsAgree_48 (by decide) (fun c4 => ?_) (fun c4 => ?_)
              · replace hs := if_t hs c4
                refine V_iinc X (v1 + (1 : Int32)) dX4_verdictsAgree_53 1 rfl rfl [(1, .int (v1 + (1 : Int32))), (0, .ref (ad 4 t 0)), (2, .int v2), (3, .int v3)] (by decide) rfl ?_
                refine V_goto X 2 dX4_verdictsAgree_56 (by decide) ?_
                refine V_sub [1, 0] rfl ?_
                exact ih2 _ hs
              · replace hs := if_f hs c4
                refine V_iconst X (0 : Int32) dX4_verdictsAgree_51 (by decide) ?_
                obtain rfl := Option.some.inj hs; exact V_zret X hr nb0 dX4_verdictsAgree_52
            · replace hs := if_f hs c2
              refine V_aload_n X dX4_verdictsAgree_19 rfl 0 rfl ?_
              refine V_get X dX4_verdictsAgree_20 r_X4_31 (gm4 ht) rfl rfl ?_
              refine V_iload_n X dX4_verdictsAgree_23 rfl 3 rfl ?_
              obtain ⟨h5, hs⟩ := gd_some hs
              refine V_aald X 6 rfl dX4_verdictsAgree_24 (gm18 ht) rfl h5 (v := .ref (ad 1 t v3.toNatClampNeg)) rfl ?_
              refine V_get X dX4_verdictsAgree_25 r_X4_251 (gm1 ht (inb_lt h5)) rfl rfl ?_
              refine V_iload_n X dX4_verdictsAgree_28 rfl 1 rfl ?_
              refine V_icmp_ne X 35 dX4_verdictsAgree_29 (by decide) (fun c6 => ?_) (fun c6 => ?_)
              · replace hs := if_f hs c6
                refine V_iinc X (v3 + (1 : Int32)) dX4_verdictsAgree_35 3 rfl rfl [(3, .int (v3 + (1 : Int32))), (0, .ref (ad 4 t 0)), (1, .int v1), (2, .int v2)] (by decide) rfl ?_
                refine V_goto X 11 dX4_verdictsAgree_38 (by decide) ?_
                refine V_sub [1, 2, 3, 0] rfl ?_
                exact ih11 _ _ _ hs
              · replace hs := if_t hs c6
                refine V_iinc X (v2 + (1 : Int32)) dX4_verdictsAgree_32 2 rfl rfl [(2, .int (v2 + (1 : Int32))), (0, .ref (ad 4 t 0)), (1, .int v1), (3, .int v3)] (by decide) rfl ?_
                refine V_iinc X (v3 + (1 : Int32)) dX4_verdictsAgree_35 3 rfl rfl [(3, .int (v3 + (1 : Int32))), (2, .int (v2 + (1 : Int32))), (0, .ref (ad 4 t 0)), (1, .int v1)] (by decide) rfl ?_
                refine V_goto X 11 dX4_verdictsAgree_38 (by decide) ?_
                refine V_sub [2, 3, 1, 0] rfl ?_
                exact ih11 _ _ _ hs
        refine V_sub [2, 3, 1, 0] rfl ?_
        exact L11 _ _ _ _ hs
  refine V_sub [1, 0] rfl ?_
  exact L2 _ _ hs

def s_X1_rounds (t : Nat) (i : Nat) (S : S4) : Option Int32 := some (if ((S 1 t i 6) - (1 : Int32)) < (0 : Int32) then (0 : Int32) else ((S 1 t i 6) - (1 : Int32)))
set_option maxRecDepth 100000 in
set_option maxHeartbeats 4000000 in
theorem c_X1_rounds {l : Launch} {D : va_G} {cA : Nat → ClassId} {dm : Dm} {ad : Ad} {S : S4} {t : Nat} {i : Nat} (ht : DS dm t) (hi : i < 60) {out : Int32} (hs : s_X1_rounds t i S = some out) : Ct D cA dm ad l yX1_rounds cX1_rounds 1 (some .int) 1 60 S [.ref (ad 1 t i)] (some (.int out)) S := by
  refine Ct.of (by decide +kernel) (Nat.le_of_ble_eq_true rfl) [(0, .ref (ad 1 t i))] rfl (fun p e s m args below meth c A X hr => ?_)
  unfold s_X1_rounds at hs
  refine V_aload_n X dX1_rounds_0 rfl 0 rfl ?_
  refine V_get X dX1_rounds_1 r_X1_24 (gm1 ht hi) rfl rfl ?_
  refine V_iconst X (1 : Int32) dX1_rounds_4 (by decide) ?_
  refine V_isub X dX1_rounds_5 ?_
  refine V_iconst X (0 : Int32) dX1_rounds_6 (by decide) ?_
  refine V_mmax X dX1_rounds_7 mm_X1_48 ⟨by decide, by decide⟩ ⟨Nat.zero_le _, Nat.zero_le _⟩ (Nat.le_of_ble_eq_true rfl) ?_
  obtain rfl := Option.some.inj hs; exact V_iret X hr dX1_rounds_10

def s_X4_roundsAgree_L4 (fu : Nat) (t : Nat) (S : S4) : Nat → Int32 → Int32 → Option Int32
  | 0, _, _ => none
  | f4+1, v1, v2 => (if (S 4 t 0 6) ≤ v2 then (if v1 = (S 4 t 0 8) then some (1 : Int32) else some (0 : Int32)) else gd (inb v2 60) ((s_X1_rounds t v2.toNatClampNeg S).bind fun q4 => s_X4_roundsAgree_L4 fu t S f4 (v1 + q4) (v2 + (1 : Int32))))
def s_X4_roundsAgree (fu : Nat) (t : Nat) (S : S4) : Option Int32 := s_X4_roundsAgree_L4 fu t S fu (0 : Int32) (0 : Int32)
set_option maxRecDepth 100000 in
set_option maxHeartbeats 4000000 in
theorem c_X4_roundsAgree {l : Launch} {D : va_G} {cA : Nat → ClassId} {dm : Dm} {ad : Ad} {fu : Nat} {S : S4} {t : Nat} (ht : DS dm t) {out : Int32} (hs : s_X4_roundsAgree fu t S = some out) : Ct D cA dm ad l yX4_roundsAgree cX4_roundsAgree 3 (some .boolean) 2 80 S [.ref (ad 4 t 0)] (some (.int out)) S := by
  refine Ct.of (by decide +kernel) (Nat.le_of_ble_eq_true rfl) [(0, .ref (ad 4 t 0))] rfl (fun p e s m args below meth c A X hr => ?_)
  unfold s_X4_roundsAgree at hs
  refine V_iconst X (0 : Int32) dX4_roundsAgree_0 (by decide) ?_
  refine V_istore_n X dX4_roundsAgree_1 rfl [(1, .int (0 : Int32)), (0, .ref (ad 4 t 0))] (by decide) rfl ?_
  refine V_iconst X (0 : Int32) dX4_roundsAgree_2 (by decide) ?_
  refine V_istore_n X dX4_roundsAgree_3 rfl [(2, .int (0 : Int32)), (1, .int (0 : Int32)), (0, .ref (ad 4 t 0))] (by decide) rfl ?_
  have L4 : ∀ (n : Nat) (v1 v2 : Int32) , s_X4_roundsAgree_L4 fu t S n v1 v2 = some out → V D cA dm ad A 3 p l e ({ frames := 2, cells := 0, slots := 0, locals := 80 }) s m args below meth c 0 0 (MQ below (gQ D cA dm ad S (some (.int out)) A) args s 0 0 A) S 4 [(0, .ref (ad 4 t 0)), (1, .int v1), (2, .int v2)] [] := by
    intro n
    induction n with
    | zero => intro v1 v2 hs; rw [s_X4_roundsAgree_L4] at hs; cases hs
    | succ f4 ih4 =>
      intro v1 v2 hs
      rw [s_X4_roundsAgree_L4] at hs
      refine V_iload_n X dX4_roundsAgree_4 rfl 2 rfl ?_
      refine V_aload_n X dX4_roundsAgree_5 rfl 0 rfl ?_
      refine V_get X dX4_roundsAgree_6 r_X4_71 (gm4 ht) rfl rfl ?_
      refine V_icmp_ge X 30 dX4_roundsAgree_9 (by decide) (fun c1 => ?_) (fun c1 => ?_)
      · replace hs := if_t hs c1
        refine V_iload_n X dX4_roundsAgree_30 rfl 1 rfl ?_
        refine V_aload_n X dX4_roundsAgree_31 rfl 0 rfl ?_
        refine V_get X dX4_roundsAgree_32 r_X4_77 (gm4 ht) rfl rfl ?_
        refine V_icmp_ne X 42 dX4_roundsAgree_35 (by decide) (fun c2 => ?_) (fun c2 => ?_)
        · replace hs := if_f hs c2
          refine V_iconst X (0 : Int32) dX4_roundsAgree_42 (by decide) ?_
          obtain rfl := Option.some.inj hs; exact V_zret X hr nb0 dX4_roundsAgree_43
        · replace hs := if_t hs c2
          refine V_iconst X (1 : Int32) dX4_roundsAgree_38 (by decide) ?_
          refine V_goto X 43 dX4_roundsAgree_39 (by decide) ?_
          obtain rfl := Option.some.inj hs; exact V_zret X hr nb1 dX4_roundsAgree_43
      · replace hs := if_f hs c1
        refine V_iload_n X dX4_roundsAgree_12 rfl 1 rfl ?_
        refine V_aload_n X dX4_roundsAgree_13 rfl 0 rfl ?_
        refine V_get X dX4_roundsAgree_14 r_X4_31 (gm4 ht) rfl rfl ?_
        refine V_iload_n X dX4_roundsAgree_17 rfl 2 rfl ?_
        obtain ⟨h3, hs⟩ := gd_some hs
        refine V_aald X 6 rfl dX4_roundsAgree_18 (gm18 ht) rfl h3 (v := .ref (ad 1 t v2.toNatClampNeg)) rfl ?_
        obtain ⟨q4, eq4, hs⟩ := bd_some hs
        refine V_callVs X [] dX4_roundsAgree_19 m_X4_182 v_X1_rounds ⟨Nat.le_of_ble_eq_true rfl, Nat.le_of_ble_eq_true rfl⟩ ⟨Nat.zero_le _, Nat.zero_le _⟩ rfl (Nat.le_of_ble_eq_true rfl) (gm1 ht (inb_lt h3)) rfl cl1 (c_X1_rounds ht (inb_lt h3) eq4) ?_
        refine V_iadd X dX4_roundsAgree_22 ?_
        refine V_istore_n X dX4_roundsAgree_23 rfl [(1, .int (v1 + q4)), (0, .ref (ad 4 t 0)), (2, .int v2)] (by decide) rfl ?_
        refine V_iinc X (v2 + (1 : Int32)) dX4_roundsAgree_24 2 rfl rfl [(2, .int (v2 + (1 : Int32))), (1, .int (v1 + q4)), (0, .ref (ad 4 t 0))] (by decide) rfl ?_
        refine V_goto X 4 dX4_roundsAgree_27 (by decide) ?_
        refine V_sub [2, 1, 0] rfl ?_
        exact ih4 _ _ hs
  refine V_sub [2, 1, 0] rfl ?_
  exact L4 _ _ _ hs

def s_X5_copyFrom (t : Nat) (i : Nat) (t1 : Nat) (i1 : Nat) (S : S4) : Option S4 := sv (u4 S 5 t i 0 (S 5 t1 i1 0)) fun Z1 => sv (u4 Z1 5 t i 1 (Z1 5 t1 i1 1)) fun Z2 => sv (u4 Z2 5 t i 2 (Z2 5 t1 i1 2)) fun Z3 => sv (w4 Z3 14 t i (va_cpy (Z3 14 t1 i1) (Z3 14 t i) (0 : Int32).toNatClampNeg (0 : Int32).toNatClampNeg (10 : Int32).toNatClampNeg)) fun Z4 => some Z4
set_option maxRecDepth 100000 in
set_option maxHeartbeats 4000000 in
theorem c_X5_copyFrom {l : Launch} {D : va_G} {cA : Nat → ClassId} {dm : Dm} {ad : Ad} {S : S4} {t : Nat} {i : Nat} {t1 : Nat} {i1 : Nat} (ht : DS dm t) (hi : i < 3) (ht1 : DS dm t1) (hi1 : i1 < 3) {out : S4} (hs : s_X5_copyFrom t i t1 i1 S = some out) : Ct D cA dm ad l yX5_copyFrom cX5_copyFrom 2 none 1 60 S [.ref (ad 5 t i), .ref (ad 5 t1 i1)] none out := by
  refine Ct.of (by decide +kernel) (Nat.le_of_ble_eq_true rfl) [(0, .ref (ad 5 t i)), (1, .ref (ad 5 t1 i1))] rfl (fun p e s m args below meth c A X hr => ?_)
  unfold s_X5_copyFrom at hs
  refine V_aload_n X dX5_copyFrom_0 rfl 0 rfl ?_
  refine V_aload_n X dX5_copyFrom_1 rfl 1 rfl ?_
  refine V_get X dX5_copyFrom_2 r_X5_15 (gm5 ht1 hi1) rfl rfl ?_
  refine V_put X dX5_copyFrom_5 f_X5_15 (gm5 ht hi) rfl (Nat.le_of_ble_eq_true rfl) rfl rfl rfl (fun Z1 eZ1 => ?_)
  replace hs := sv_some hs Z1 eZ1
  clear eZ1
  refine V_aload_n X dX5_copyFrom_8 rfl 0 rfl ?_
  refine V_aload_n X dX5_copyFrom_9 rfl 1 rfl ?_
  refine V_get X dX5_copyFrom_10 r_X5_19 (gm5 ht1 hi1) rfl rfl ?_
  refine V_put X dX5_copyFrom_13 f_X5_19 (gm5 ht hi) rfl (Nat.le_of_ble_eq_true rfl) rfl rfl rfl (fun Z2 eZ2 => ?_)
  replace hs := sv_some hs Z2 eZ2
  clear eZ2
  refine V_aload_n X dX5_copyFrom_16 rfl 0 rfl ?_
  refine V_aload_n X dX5_copyFrom_17 rfl 1 rfl ?_
  refine V_get X dX5_copyFrom_18 r_X5_22 (gm5 ht1 hi1) rfl rfl ?_
  refine V_put X dX5_copyFrom_21 f_X5_22 (gm5 ht hi) rfl (Nat.le_of_ble_eq_true rfl) rfl rfl rfl (fun Z3 eZ3 => ?_)
  replace hs := sv_some hs Z3 eZ3
  clear eZ3
  refine V_aload_n X dX5_copyFrom_24 rfl 1 rfl ?_
  refine V_get X dX5_copyFrom_25 r_X5_9 (gm5 ht1 hi1) rfl rfl ?_
  refine V_iconst X (0 : Int32) dX5_copyFrom_28 (by decide) ?_
  refine V_aload_n X dX5_copyFrom_29 rfl 0 rfl ?_
  refine V_get X dX5_copyFrom_30 r_X5_9 (gm5 ht hi) rfl rfl ?_
  refine V_iconst X (0 : Int32) dX5_copyFrom_33 (by decide) ?_
  refine V_bipush X (10 : Int32) dX5_copyFrom_34 (by decide) ?_
  refine V_copy X dX5_copyFrom_36 cp_X5_25 (gm14 ht hi) (fun _ => rfl) (gm14 ht1 hi1) (fun _ => rfl) (by decide) (by decide) (by decide) (by decide) (by decide) (Nat.le_of_ble_eq_true rfl) ⟨by decide, by decide⟩ (fun Z4 eZ4 => ?_)
  replace hs := sv_some hs Z4 eZ4
  clear eZ4
  obtain rfl := Option.some.inj hs; exact V_vret X hr dX5_copyFrom_39

def s_X0_copyFrom (t : Nat) (i : Nat) (t1 : Nat) (i1 : Nat) (S : S4) : Option S4 := sv (u4 S 0 t i 0 (S 0 t1 i1 0)) fun Z1 => sv (u4 Z1 0 t i 1 (Z1 0 t1 i1 1)) fun Z2 => sv (u4 Z2 0 t i 2 (Z2 0 t1 i1 2)) fun Z3 => sv (u4 Z3 0 t i 3 (Z3 0 t1 i1 3)) fun Z4 => sv (u4 Z4 0 t i 4 (Z4 0 t1 i1 4)) fun Z5 => sv (u4 Z5 0 t i 5 (Z5 0 t1 i1 5)) fun Z6 => sv (u4 Z6 0 t i 6 (Z6 0 t1 i1 6)) fun Z7 => sv (u4 Z7 0 t i 7 (Z7 0 t1 i1 7)) fun Z8 => sv (u4 Z8 0 t i 8 (Z8 0 t1 i1 8)) fun Z9 => gd (isB (Z9 0 t1 i1 9)) (sv (u4 Z9 0 t i 9 (Z9 0 t1 i1 9)) fun Z11 => sv (u4 Z11 0 t i 10 (Z11 0 t1 i1 10)) fun Z12 => sv (u4 Z12 0 t i 11 (Z12 0 t1 i1 11)) fun Z13 => sv (u4 Z13 0 t i 12 (Z13 0 t1 i1 12)) fun Z14 => sv (u4 Z14 0 t i 13 (Z14 0 t1 i1 13)) fun Z15 => sv (u4 Z15 0 t i 14 (Z15 0 t1 i1 14)) fun Z16 => some Z16)
set_option maxRecDepth 100000 in
set_option maxHeartbeats 4000000 in
theorem c_X0_copyFrom {l : Launch} {D : va_G} {cA : Nat → ClassId} {dm : Dm} {ad : Ad} {S : S4} {t : Nat} {i : Nat} {t1 : Nat} {i1 : Nat} (ht : DS dm t) (hi : i < 8) (ht1 : DS dm t1) (hi1 : i1 < 8) {out : S4} (hs : s_X0_copyFrom t i t1 i1 S = some out) : Ct D cA dm ad l yX0_copyFrom cX0_copyFrom 2 none 0 0 S [.ref (ad 0 t i), .ref (ad 0 t1 i1)] none out := by
  refine Ct.of (by decide +kernel) (Nat.le_of_ble_eq_true rfl) [(0, .ref (ad 0 t i)), (1, .ref (ad 0 t1 i1))] rfl (fun p e s m args below meth c A X hr => ?_)
  unfold s_X0_copyFrom at hs
  refine V_aload_n X dX0_copyFrom_0 rfl 0 rfl ?_
  refine V_aload_n X dX0_copyFrom_1 rfl 1 rfl ?_
  refine V_get X dX0_copyFrom_2 r_X0_40 (gm0 ht1 hi1) rfl rfl ?_
  refine V_put X dX0_copyFrom_5 f_X0_40 (gm0 ht hi) rfl (Nat.le_of_ble_eq_true rfl) rfl rfl rfl (fun Z1 eZ1 => ?_)
  replace hs := sv_some hs Z1 eZ1
  clear eZ1
  refine V_aload_n X dX0_copyFrom_8 rfl 0 rfl ?_
  refine V_aload_n X dX0_copyFrom_9 rfl 1 rfl ?_
  refine V_get X dX0_copyFrom_10 r_X0_43 (gm0 ht1 hi1) rfl rfl ?_
  refine V_put X dX0_copyFrom_13 f_X0_43 (gm0 ht hi) rfl (Nat.le_of_ble_eq_true rfl) rfl rfl rfl (fun Z2 eZ2 => ?_)
  replace hs := sv_some hs Z2 eZ2
  clear eZ2
  refine V_aload_n X dX0_copyFrom_16 rfl 0 rfl ?_
  refine V_aload_n X dX0_copyFrom_17 rfl 1 rfl ?_
  refine V_get X dX0_copyFrom_18 r_X0_46 (gm0 ht1 hi1) rfl rfl ?_
  refine V_put X dX0_copyFrom_21 f_X0_46 (gm0 ht hi) rfl (Nat.le_of_ble_eq_true rfl) rfl rfl rfl (fun Z3 eZ3 => ?_)
  replace hs := sv_some hs Z3 eZ3
  clear eZ3
  refine V_aload_n X dX0_copyFrom_24 rfl 0 rfl ?_
  refine V_aload_n X dX0_copyFrom_25 rfl 1 rfl ?_
  refine V_get X dX0_copyFrom_26 r_X0_49 (gm0 ht1 hi1) rfl rfl ?_
  refine V_put X dX0_copyFrom_29 f_X0_49 (gm0 ht hi) rfl (Nat.le_of_ble_eq_true rfl) rfl rfl rfl (fun Z4 eZ4 => ?_)
  replace hs := sv_some hs Z4 eZ4
  clear eZ4
  refine V_aload_n X dX0_copyFrom_32 rfl 0 rfl ?_
  refine V_aload_n X dX0_copyFrom_33 rfl 1 rfl ?_
  refine V_get X dX0_copyFrom_34 r_X0_52 (gm0 ht1 hi1) rfl rfl ?_
  refine V_put X dX0_copyFrom_37 f_X0_52 (gm0 ht hi) rfl (Nat.le_of_ble_eq_true rfl) rfl rfl rfl (fun Z5 eZ5 => ?_)
  replace hs := sv_some hs Z5 eZ5
  clear eZ5
  refine V_aload_n X dX0_copyFrom_40 rfl 0 rfl ?_
  refine V_aload_n X dX0_copyFrom_41 rfl 1 rfl ?_
  refine V_get X dX0_copyFrom_42 r_X0_55 (gm0 ht1 hi1) rfl rfl ?_
  refine V_put X dX0_copyFrom_45 f_X0_55 (gm0 ht hi) rfl (Nat.le_of_ble_eq_true rfl) rfl rfl rfl (fun Z6 eZ6 => ?_)
  replace hs := sv_some hs Z6 eZ6
  clear eZ6
  refine V_aload_n X dX0_copyFrom_48 rfl 0 rfl ?_
  refine V_aload_n X dX0_copyFrom_49 rfl 1 rfl ?_
  refine V_get X dX0_copyFrom_50 r_X0_9 (gm0 ht1 hi1) rfl rfl ?_
  refine V_put X dX0_copyFrom_53 f_X0_9 (gm0 ht hi) rfl (Nat.le_of_ble_eq_true rfl) rfl rfl rfl (fun Z7 eZ7 => ?_)
  replace hs := sv_some hs Z7 eZ7
  clear eZ7
  refine V_aload_n X dX0_copyFrom_56 rfl 0 rfl ?_
  refine V_aload_n X dX0_copyFrom_57 rfl 1 rfl ?_
  refine V_get X dX0_copyFrom_58 r_X0_15 (gm0 ht1 hi1) rfl rfl ?_
  refine V_put X dX0_copyFrom_61 f_X0_15 (gm0 ht hi) rfl (Nat.le_of_ble_eq_true rfl) rfl rfl rfl (fun Z8 eZ8 => ?_)
  replace hs := sv_some hs Z8 eZ8
  clear eZ8
  refine V_aload_n X dX0_copyFrom_64 rfl 0 rfl ?_
  refine V_aload_n X dX0_copyFrom_65 rfl 1 rfl ?_
  refine V_get X dX0_copyFrom_66 r_X0_18 (gm0 ht1 hi1) rfl rfl ?_
  refine V_put X dX0_copyFrom_69 f_X0_18 (gm0 ht hi) rfl (Nat.le_of_ble_eq_true rfl) rfl rfl rfl (fun Z9 eZ9 => ?_)
  replace hs := sv_some hs Z9 eZ9
  clear eZ9
  refine V_aload_n X dX0_copyFrom_72 rfl 0 rfl ?_
  refine V_aload_n X dX0_copyFrom_73 rfl 1 rfl ?_
  refine V_get X dX0_copyFrom_74 r_X0_21 (gm0 ht1 hi1) rfl rfl ?_
  obtain ⟨h10, hs⟩ := gd_some hs
  refine V_put X dX0_copyFrom_77 f_X0_21 (gm0 ht hi) rfl (Nat.le_of_ble_eq_true rfl) rfl (bnar h10) (bfit h10) (fun Z11 eZ11 => ?_)
  replace hs := sv_some hs Z11 eZ11
  clear eZ11
  refine V_aload_n X dX0_copyFrom_80 rfl 0 rfl ?_
  refine V_aload_n X dX0_copyFrom_81 rfl 1 rfl ?_
  refine V_get X dX0_copyFrom_82 r_X0_25 (gm0 ht1 hi1) rfl rfl ?_
  refine V_put X dX0_copyFrom_85 f_X0_25 (gm0 ht hi) rfl (Nat.le_of_ble_eq_true rfl) rfl rfl rfl (fun Z12 eZ12 => ?_)
  replace hs := sv_some hs Z12 eZ12
  clear eZ12
  refine V_aload_n X dX0_copyFrom_88 rfl 0 rfl ?_
  refine V_aload_n X dX0_copyFrom_89 rfl 1 rfl ?_
  refine V_get X dX0_copyFrom_90 r_X0_28 (gm0 ht1 hi1) rfl rfl ?_
  refine V_put X dX0_copyFrom_93 f_X0_28 (gm0 ht hi) rfl (Nat.le_of_ble_eq_true rfl) rfl rfl rfl (fun Z13 eZ13 => ?_)
  replace hs := sv_some hs Z13 eZ13
  clear eZ13
  refine V_aload_n X dX0_copyFrom_96 rfl 0 rfl ?_
  refine V_aload_n X dX0_copyFrom_97 rfl 1 rfl ?_
  refine V_get X dX0_copyFrom_98 r_X0_31 (gm0 ht1 hi1) rfl rfl ?_
  refine V_put X dX0_copyFrom_101 f_X0_31 (gm0 ht hi) rfl (Nat.le_of_ble_eq_true rfl) rfl rfl rfl (fun Z14 eZ14 => ?_)
  replace hs := sv_some hs Z14 eZ14
  clear eZ14
  refine V_aload_n X dX0_copyFrom_104 rfl 0 rfl ?_
  refine V_aload_n X dX0_copyFrom_105 rfl 1 rfl ?_
  refine V_get X dX0_copyFrom_106 r_X0_34 (gm0 ht1 hi1) rfl rfl ?_
  refine V_put X dX0_copyFrom_109 f_X0_34 (gm0 ht hi) rfl (Nat.le_of_ble_eq_true rfl) rfl rfl rfl (fun Z15 eZ15 => ?_)
  replace hs := sv_some hs Z15 eZ15
  clear eZ15
  refine V_aload_n X dX0_copyFrom_112 rfl 0 rfl ?_
  refine V_aload_n X dX0_copyFrom_113 rfl 1 rfl ?_
  refine V_get X dX0_copyFrom_114 r_X0_37 (gm0 ht1 hi1) rfl rfl ?_
  refine V_put X dX0_copyFrom_117 f_X0_37 (gm0 ht hi) rfl (Nat.le_of_ble_eq_true rfl) rfl rfl rfl (fun Z16 eZ16 => ?_)
  replace hs := sv_some hs Z16 eZ16
  clear eZ16
  obtain rfl := Option.some.inj hs; exact V_vret X hr dX0_copyFrom_120

def s_X1_copyFrom (t : Nat) (i : Nat) (t1 : Nat) (i1 : Nat) (S : S4) : Option S4 := sv (u4 S 1 t i 0 (S 1 t1 i1 0)) fun Z1 => sv (u4 Z1 1 t i 1 (Z1 1 t1 i1 1)) fun Z2 => sv (u4 Z2 1 t i 2 (Z2 1 t1 i1 2)) fun Z3 => sv (u4 Z3 1 t i 3 (Z3 1 t1 i1 3)) fun Z4 => sv (u4 Z4 1 t i 4 (Z4 1 t1 i1 4)) fun Z5 => sv (u4 Z5 1 t i 5 (Z5 1 t1 i1 5)) fun Z6 => sv (u4 Z6 1 t i 6 (Z6 1 t1 i1 6)) fun Z7 => sv (u4 Z7 1 t i 7 (Z7 1 t1 i1 7)) fun Z8 => sv (u4 Z8 1 t i 8 (Z8 1 t1 i1 8)) fun Z9 => sv (u4 Z9 1 t i 9 (Z9 1 t1 i1 9)) fun Z10 => sv (u4 Z10 1 t i 10 (Z10 1 t1 i1 10)) fun Z11 => sv (u4 Z11 1 t i 11 (Z11 1 t1 i1 11)) fun Z12 => some Z12
set_option maxRecDepth 100000 in
set_option maxHeartbeats 4000000 in
theorem c_X1_copyFrom {l : Launch} {D : va_G} {cA : Nat → ClassId} {dm : Dm} {ad : Ad} {S : S4} {t : Nat} {i : Nat} {t1 : Nat} {i1 : Nat} (ht : DS dm t) (hi : i < 60) (ht1 : DS dm t1) (hi1 : i1 < 60) {out : S4} (hs : s_X1_copyFrom t i t1 i1 S = some out) : Ct D cA dm ad l yX1_copyFrom cX1_copyFrom 2 none 0 0 S [.ref (ad 1 t i), .ref (ad 1 t1 i1)] none out := by
  refine Ct.of (by decide +kernel) (Nat.le_of_ble_eq_true rfl) [(0, .ref (ad 1 t i)), (1, .ref (ad 1 t1 i1))] rfl (fun p e s m args below meth c A X hr => ?_)
  unfold s_X1_copyFrom at hs
  refine V_aload_n X dX1_copyFrom_0 rfl 0 rfl ?_
  refine V_aload_n X dX1_copyFrom_1 rfl 1 rfl ?_
  refine V_get X dX1_copyFrom_2 r_X1_9 (gm1 ht1 hi1) rfl rfl ?_
  refine V_put X dX1_copyFrom_5 f_X1_9 (gm1 ht hi) rfl (Nat.le_of_ble_eq_true rfl) rfl rfl rfl (fun Z1 eZ1 => ?_)
  replace hs := sv_some hs Z1 eZ1
  clear eZ1
  refine V_aload_n X dX1_copyFrom_8 rfl 0 rfl ?_
  refine V_aload_n X dX1_copyFrom_9 rfl 1 rfl ?_
  refine V_get X dX1_copyFrom_10 r_X1_15 (gm1 ht1 hi1) rfl rfl ?_
  refine V_put X dX1_copyFrom_13 f_X1_15 (gm1 ht hi) rfl (Nat.le_of_ble_eq_true rfl) rfl rfl rfl (fun Z2 eZ2 => ?_)
  replace hs := sv_some hs Z2 eZ2
  clear eZ2
  refine V_aload_n X dX1_copyFrom_16 rfl 0 rfl ?_
  refine V_aload_n X dX1_copyFrom_17 rfl 1 rfl ?_
  refine V_get X dX1_copyFrom_18 r_X1_42 (gm1 ht1 hi1) rfl rfl ?_
  refine V_put X dX1_copyFrom_21 f_X1_42 (gm1 ht hi) rfl (Nat.le_of_ble_eq_true rfl) rfl rfl rfl (fun Z3 eZ3 => ?_)
  replace hs := sv_some hs Z3 eZ3
  clear eZ3
  refine V_aload_n X dX1_copyFrom_24 rfl 0 rfl ?_
  refine V_aload_n X dX1_copyFrom_25 rfl 1 rfl ?_
  refine V_get X dX1_copyFrom_26 r_X1_45 (gm1 ht1 hi1) rfl rfl ?_
  refine V_put X dX1_copyFrom_29 f_X1_45 (gm1 ht hi) rfl (Nat.le_of_ble_eq_true rfl) rfl rfl rfl (fun Z4 eZ4 => ?_)
  replace hs := sv_some hs Z4 eZ4
  clear eZ4
  refine V_aload_n X dX1_copyFrom_32 rfl 0 rfl ?_
  refine V_aload_n X dX1_copyFrom_33 rfl 1 rfl ?_
  refine V_get X dX1_copyFrom_34 r_X1_18 (gm1 ht1 hi1) rfl rfl ?_
  refine V_put X dX1_copyFrom_37 f_X1_18 (gm1 ht hi) rfl (Nat.le_of_ble_eq_true rfl) rfl rfl rfl (fun Z5 eZ5 => ?_)
  replace hs := sv_some hs Z5 eZ5
  clear eZ5
  refine V_aload_n X dX1_copyFrom_40 rfl 0 rfl ?_
  refine V_aload_n X dX1_copyFrom_41 rfl 1 rfl ?_
  refine V_get X dX1_copyFrom_42 r_X1_21 (gm1 ht1 hi1) rfl rfl ?_
  refine V_put X dX1_copyFrom_45 f_X1_21 (gm1 ht hi) rfl (Nat.le_of_ble_eq_true rfl) rfl rfl rfl (fun Z6 eZ6 => ?_)
  replace hs := sv_some hs Z6 eZ6
  clear eZ6
  refine V_aload_n X dX1_copyFrom_48 rfl 0 rfl ?_
  refine V_aload_n X dX1_copyFrom_49 rfl 1 rfl ?_
  refine V_get X dX1_copyFrom_50 r_X1_24 (gm1 ht1 hi1) rfl rfl ?_
  refine V_put X dX1_copyFrom_53 f_X1_24 (gm1 ht hi) rfl (Nat.le_of_ble_eq_true rfl) rfl rfl rfl (fun Z7 eZ7 => ?_)
  replace hs := sv_some hs Z7 eZ7
  clear eZ7
  refine V_aload_n X dX1_copyFrom_56 rfl 0 rfl ?_
  refine V_aload_n X dX1_copyFrom_57 rfl 1 rfl ?_
  refine V_get X dX1_copyFrom_58 r_X1_27 (gm1 ht1 hi1) rfl rfl ?_
  refine V_put X dX1_copyFrom_61 f_X1_27 (gm1 ht hi) rfl (Nat.le_of_ble_eq_true rfl) rfl rfl rfl (fun Z8 eZ8 => ?_)
  replace hs := sv_some hs Z8 eZ8
  clear eZ8
  refine V_aload_n X dX1_copyFrom_64 rfl 0 rfl ?_
  refine V_aload_n X dX1_copyFrom_65 rfl 1 rfl ?_
  refine V_get X dX1_copyFrom_66 r_X1_30 (gm1 ht1 hi1) rfl rfl ?_
  refine V_put X dX1_copyFrom_69 f_X1_30 (gm1 ht hi) rfl (Nat.le_of_ble_eq_true rfl) rfl rfl rfl (fun Z9 eZ9 => ?_)
  replace hs := sv_some hs Z9 eZ9
  clear eZ9
  refine V_aload_n X dX1_copyFrom_72 rfl 0 rfl ?_
  refine V_aload_n X dX1_copyFrom_73 rfl 1 rfl ?_
  refine V_get X dX1_copyFrom_74 r_X1_33 (gm1 ht1 hi1) rfl rfl ?_
  refine V_put X dX1_copyFrom_77 f_X1_33 (gm1 ht hi) rfl (Nat.le_of_ble_eq_true rfl) rfl rfl rfl (fun Z10 eZ10 => ?_)
  replace hs := sv_some hs Z10 eZ10
  clear eZ10
  refine V_aload_n X dX1_copyFrom_80 rfl 0 rfl ?_
  refine V_aload_n X dX1_copyFrom_81 rfl 1 rfl ?_
  refine V_get X dX1_copyFrom_82 r_X1_36 (gm1 ht1 hi1) rfl rfl ?_
  refine V_put X dX1_copyFrom_85 f_X1_36 (gm1 ht hi) rfl (Nat.le_of_ble_eq_true rfl) rfl rfl rfl (fun Z11 eZ11 => ?_)
  replace hs := sv_some hs Z11 eZ11
  clear eZ11
  refine V_aload_n X dX1_copyFrom_88 rfl 0 rfl ?_
  refine V_aload_n X dX1_copyFrom_89 rfl 1 rfl ?_
  refine V_get X dX1_copyFrom_90 r_X1_39 (gm1 ht1 hi1) rfl rfl ?_
  refine V_put X dX1_copyFrom_93 f_X1_39 (gm1 ht hi) rfl (Nat.le_of_ble_eq_true rfl) rfl rfl rfl (fun Z12 eZ12 => ?_)
  replace hs := sv_some hs Z12 eZ12
  clear eZ12
  obtain rfl := Option.some.inj hs; exact V_vret X hr dX1_copyFrom_96

def s_X4_copyParts_L92 (np : Nat) (fu : Nat) (t : Nat) (t1 : Nat) : Nat → Int32 → S4 → Option S4
  | 0, _, _ => none
  | f92+1, v2, Z7 => (if (Z7 4 t 0 6) ≤ v2 then some Z7 else gd (inb v2 60) (gd (inb v2 60) ((s_X1_copyFrom t v2.toNatClampNeg t1 v2.toNatClampNeg Z7).bind fun Z12 => s_X4_copyParts_L92 np fu t t1 f92 (v2 + (1 : Int32)) Z12)))
def s_X4_copyParts_L64 (np : Nat) (fu : Nat) (t : Nat) (t1 : Nat) : Nat → Int32 → S4 → Option S4
  | 0, _, _ => none
  | f64+1, v2, Z5 => (if (Z5 4 t 0 5) ≤ v2 then s_X4_copyParts_L92 np fu t t1 fu (0 : Int32) Z5 else gd (inb v2 5) (gd (inb v2 5) (gd ((Z5 17 t1 0 v2.toNatClampNeg) < 0 ∨ (Z5 17 t1 0 v2.toNatClampNeg).toNatClampNeg < np) (sv (u4 Z5 17 t 0 (v2.toNatClampNeg) (Z5 17 t1 0 v2.toNatClampNeg)) fun Z16 => s_X4_copyParts_L64 np fu t t1 f64 (v2 + (1 : Int32)) Z16))))
def s_X4_copyParts_L33 (np : Nat) (fu : Nat) (t : Nat) (t1 : Nat) : Nat → Int32 → S4 → Option S4
  | 0, _, _ => none
  | f33+1, v2, Z3 => (if (Z3 4 t 0 4) ≤ v2 then s_X4_copyParts_L64 np fu t t1 fu (0 : Int32) Z3 else gd (inb v2 8) (gd (inb v2 8) ((s_X0_copyFrom t v2.toNatClampNeg t1 v2.toNatClampNeg Z3).bind fun Z20 => s_X4_copyParts_L33 np fu t t1 f33 (v2 + (1 : Int32)) Z20)))
def s_X4_copyParts_L2 (np : Nat) (fu : Nat) (t : Nat) (t1 : Nat) : Nat → Int32 → S4 → Option S4
  | 0, _, _ => none
  | f2+1, v2, Z1 => (if (Z1 4 t 0 3) ≤ v2 then s_X4_copyParts_L33 np fu t t1 fu (0 : Int32) Z1 else gd (inb v2 3) (gd (inb v2 3) ((s_X5_copyFrom t v2.toNatClampNeg t1 v2.toNatClampNeg Z1).bind fun Z24 => s_X4_copyParts_L2 np fu t t1 f2 (v2 + (1 : Int32)) Z24)))
def s_X4_copyParts (np : Nat) (fu : Nat) (t : Nat) (t1 : Nat) (S : S4) : Option S4 := s_X4_copyParts_L2 np fu t t1 fu (0 : Int32) S
set_option maxRecDepth 100000 in
set_option maxHeartbeats 4000000 in
theorem c_X4_copyParts {l : Launch} {D : va_G} {cA : Nat → ClassId} {dm : Dm} {ad : Ad} {np : Nat} {fu : Nat} {S : S4} {t : Nat} {t1 : Nat} (ht : DS dm t) (ht1 : DS dm t1) (hnp : ∀ i, i < np → DP dm i) {out : S4} (hs : s_X4_copyParts np fu t t1 S = some out) : Ct D cA dm ad l yX4_copyParts cX4_copyParts 3 none 2 81 S [.ref (ad 4 t 0), .ref (ad 4 t1 0)] none out := by
  refine Ct.of (by decide +kernel) (Nat.le_of_ble_eq_true rfl) [(0, .ref (ad 4 t 0)), (1, .ref (ad 4 t1 0))] rfl (fun p e s m args below meth c A X hr => ?_)
  unfold s_X4_copyParts at hs
  refine V_iconst X (0 : Int32) dX4_copyParts_0 (by decide) ?_
  refine V_istore_n X dX4_copyParts_1 rfl [(2, .int (0 : Int32)), (0, .ref (ad 4 t 0)), (1, .ref (ad 4 t1 0))] (by decide) rfl ?_
  have L2 : ∀ (n : Nat) (v2 : Int32) (S1 : S4), s_X4_copyParts_L2 np fu t t1 n v2 S1 = some out → V D cA dm ad A 3 p l e ({ frames := 2, cells := 0, slots := 0, locals := 81 }) s m args below meth c 0 0 (MQ below (gQ D cA dm ad out none A) args s 0 0 A) S1 2 [(0, .ref (ad 4 t 0)), (1, .ref (ad 4 t1 0)), (2, .int v2)] [] := by
    intro n
    induction n with
    | zero => intro v2 S1 hs; rw [s_X4_copyParts_L2] at hs; cases hs
    | succ f2 ih2 =>
      intro v2 Z1 hs
      rw [s_X4_copyParts_L2] at hs
      refine V_iload_n X dX4_copyParts_2 rfl 2 rfl ?_
      refine V_aload_n X dX4_copyParts_3 rfl 0 rfl ?_
      refine V_get X dX4_copyParts_4 r_X4_62 (gm4 ht) rfl rfl ?_
      refine V_icmp_ge X 31 dX4_copyParts_7 (by decide) (fun c2 => ?_) (fun c2 => ?_)
      · replace hs := if_t hs c2
        refine V_iconst X (0 : Int32) dX4_copyParts_31 (by decide) ?_
        refine V_istore_n X dX4_copyParts_32 rfl [(2, .int (0 : Int32)), (0, .ref (ad 4 t 0)), (1, .ref (ad 4 t1 0))] (by decide) rfl ?_
        have L33 : ∀ (n : Nat) (v2 : Int32) (S1 : S4), s_X4_copyParts_L33 np fu t t1 n v2 S1 = some out → V D cA dm ad A 3 p l e ({ frames := 2, cells := 0, slots := 0, locals := 81 }) s m args below meth c 0 0 (MQ below (gQ D cA dm ad out none A) args s 0 0 A) S1 33 [(0, .ref (ad 4 t 0)), (1, .ref (ad 4 t1 0)), (2, .int v2)] [] := by
          intro n
          induction n with
          | zero => intro v2 S1 hs; rw [s_X4_copyParts_L33] at hs; cases hs
          | succ f33 ih33 =>
            intro v2 Z3 hs
            rw [s_X4_copyParts_L33] at hs
            refine V_iload_n X dX4_copyParts_33 rfl 2 rfl ?_
            refine V_aload_n X dX4_copyParts_34 rfl 0 rfl ?_
            refine V_get X dX4_copyParts_35 r_X4_65 (gm4 ht) rfl rfl ?_
            refine V_icmp_ge X 62 dX4_copyParts_38 (by decide) (fun c4 => ?_) (fun c4 => ?_)
            · replace hs := if_t hs c4
              refine V_iconst X (0 : Int32) dX4_copyParts_62 (by decide) ?_
              refine V_istore_n X dX4_copyParts_63 rfl [(2, .int (0 : Int32)), (0, .ref (ad 4 t 0)), (1, .ref (ad 4 t1 0))] (by decide) rfl ?_
              have L64 : ∀ (n : Nat) (v2 : Int32) (S1 : S4), s_X4_copyParts_L64 np fu t t1 n v2 S1 = some out → V D cA dm ad A 3 p l e ({ frames := 2, cells := 0, slots := 0, locals := 81 }) s m args below meth c 0 0 (MQ below (gQ D cA dm ad out none A) args s 0 0 A) S1 64 [(0, .ref (ad 4 t 0)), (1, .ref (ad 4 t1 0)), (2, .int v2)] [] := by
                intro n
                induction n with
                | zero => intro v2 S1 hs; rw [s_X4_copyParts_L64] at hs; cases hs
                | succ f64 ih64 =>
                  intro v2 Z5 hs
                  rw [s_X4_copyParts_L64] at hs
                  refine V_iload_n X dX4_copyParts_64 rfl 2 rfl ?_
                  refine V_aload_n X dX4_copyParts_65 rfl 0 rfl ?_
                  refine V_get X dX4_copyParts_66 r_X4_68 (gm4 ht) rfl rfl ?_
                  refine V_icmp_ge X 90 dX4_copyParts_69 (by decide) (fun c6 => ?_) (fun c6 => ?_)
                  · replace hs := if_t hs c6
                    refine V_iconst X (0 : Int32) dX4_copyParts_90 (by decide) ?_
                    refine V_istore_n X dX4_copyParts_91 rfl [(2, .int (0 : Int32)), (0, .ref (ad 4 t 0)), (1, .ref (ad 4 t1 0))] (by decide) rfl ?_
                    have L92 : ∀ (n : Nat) (v2 : Int32) (S1 : S4), s_X4_copyParts_L92 np fu t t1 n v2 S1 = some out → V D cA dm ad A 3 p l e ({ frames := 2, cells := 0, slots := 0, locals := 81 }) s m args below meth c 0 0 (MQ below (gQ D cA dm ad out none A) args s 0 0 A) S1 92 [(0, .ref (ad 4 t 0)), (1, .ref (ad 4 t1 0)), (2, .int v2)] [] := by
                      intro n
                      induction n with
                      | zero => intro v2 S1 hs; rw [s_X4_copyParts_L92] at hs; cases hs
                      | succ f92 ih92 =>
                        intro v2 Z7 hs
                        rw [s_X4_copyParts_L92] at hs
                        refine V_iload_n X dX4_copyParts_92 rfl 2 rfl ?_
                        refine V_aload_n X dX4_copyParts_93 rfl 0 rfl ?_
                        refine V_get X dX4_copyParts_94 r_X4_71 (gm4 ht) rfl rfl ?_
                        refine V_icmp_ge X 121 dX4_copyParts_97 (by decide) (fun c8 => ?_) (fun c8 => ?_)
                        · replace hs := if_t hs c8
                          obtain rfl := Option.some.inj hs; exact V_vret X hr dX4_copyParts_121
                        · replace hs := if_f hs c8
                          refine V_aload_n X dX4_copyParts_100 rfl 0 rfl ?_
                          refine V_get X dX4_copyParts_101 r_X4_31 (gm4 ht) rfl rfl ?_
                          refine V_iload_n X dX4_copyParts_104 rfl 2 rfl ?_
                          obtain ⟨h9, hs⟩ := gd_some hs
                          refine V_aald X 6 rfl dX4_copyParts_105 (gm18 ht) rfl h9 (v := .ref (ad 1 t v2.toNatClampNeg)) rfl ?_
                          refine V_aload_n X dX4_copyParts_106 rfl 1 rfl ?_
                          refine V_get X dX4_copyParts_107 r_X4_31 (gm4 ht1) rfl rfl ?_
                          refine V_iload_n X dX4_copyParts_110 rfl 2 rfl ?_
                          obtain ⟨h10, hs⟩ := gd_some hs
                          refine V_aald X 6 rfl dX4_copyParts_111 (gm18 ht1) rfl h10 (v := .ref (ad 1 t1 v2.toNatClampNeg)) rfl ?_
                          obtain ⟨Z12, eZ12, hs⟩ := bd_some hs
                          refine V_callVv X [.ref (ad 1 t1 v2.toNatClampNeg)] dX4_copyParts_112 m_X4_103 v_X1_copyFrom ⟨Nat.le_of_ble_eq_true rfl, Nat.le_of_ble_eq_true rfl⟩ ⟨Nat.zero_le _, Nat.zero_le _⟩ rfl (Nat.le_of_ble_eq_true rfl) (gm1 ht (inb_lt h9)) rfl cl1 (c_X1_copyFrom ht (inb_lt h9) ht1 (inb_lt h10) eZ12) ?_
                          refine V_iinc X (v2 + (1 : Int32)) dX4_copyParts_115 2 rfl rfl [(2, .int (v2 + (1 : Int32))), (0, .ref (ad 4 t 0)), (1, .ref (ad 4 t1 0))] (by decide) rfl ?_
                          refine V_goto X 92 dX4_copyParts_118 (by decide) ?_
                          refine V_sub [1, 2, 0] rfl ?_
                          exact ih92 _ _ hs
                    refine V_sub [1, 2, 0] rfl ?_
                    exact L92 _ _ _ hs
                  · replace hs := if_f hs c6
                    refine V_aload_n X dX4_copyParts_72 rfl 0 rfl ?_
                    refine V_get X dX4_copyParts_73 r_X4_25 (gm4 ht) rfl rfl ?_
                    refine V_iload_n X dX4_copyParts_76 rfl 2 rfl ?_
                    refine V_aload_n X dX4_copyParts_77 rfl 1 rfl ?_
                    refine V_get X dX4_copyParts_78 r_X4_25 (gm4 ht1) rfl rfl ?_
                    refine V_iload_n X dX4_copyParts_81 rfl 2 rfl ?_
                    obtain ⟨h13, hs⟩ := gd_some hs
                    refine V_aald X 5 rfl dX4_copyParts_82 (gm17 ht1) rfl h13 (v := va_rf ((pcd (Z5 17 t1 0 v2.toNatClampNeg)).map (ad 2 0))) rfl ?_
                    obtain ⟨h14, hs⟩ := gd_some hs
                    obtain ⟨h15, hs⟩ := gd_some hs
                    refine V_aast X dX4_copyParts_83 ht h14 (z := (Z5 17 t1 0 v2.toNatClampNeg)) (or_np h15 hnp) rfl (fun Z16 eZ16 => ?_)
                    replace hs := sv_some hs Z16 eZ16
                    clear eZ16
                    refine V_iinc X (v2 + (1 : Int32)) dX4_copyParts_84 2 rfl rfl [(2, .int (v2 + (1 : Int32))), (0, .ref (ad 4 t 0)), (1, .ref (ad 4 t1 0))] (by decide) rfl ?_
                    refine V_goto X 64 dX4_copyParts_87 (by decide) ?_
                    refine V_sub [1, 2, 0] rfl ?_
                    exact ih64 _ _ hs
              refine V_sub [1, 2, 0] rfl ?_
              exact L64 _ _ _ hs
            · replace hs := if_f hs c4
              refine V_aload_n X dX4_copyParts_41 rfl 0 rfl ?_
              refine V_get X dX4_copyParts_42 r_X4_19 (gm4 ht) rfl rfl ?_
              refine V_iload_n X dX4_copyParts_45 rfl 2 rfl ?_
              obtain ⟨h17, hs⟩ := gd_some hs
              refine V_aald X 4 rfl dX4_copyParts_46 (gm16 ht) rfl h17 (v := .ref (ad 0 t v2.toNatClampNeg)) rfl ?_
              refine V_aload_n X dX4_copyParts_47 rfl 1 rfl ?_
              refine V_get X dX4_copyParts_48 r_X4_19 (gm4 ht1) rfl rfl ?_
              refine V_iload_n X dX4_copyParts_51 rfl 2 rfl ?_
              obtain ⟨h18, hs⟩ := gd_some hs
              refine V_aald X 4 rfl dX4_copyParts_52 (gm16 ht1) rfl h18 (v := .ref (ad 0 t1 v2.toNatClampNeg)) rfl ?_
              obtain ⟨Z20, eZ20, hs⟩ := bd_some hs
              refine V_callVv X [.ref (ad 0 t1 v2.toNatClampNeg)] dX4_copyParts_53 m_X4_100 v_X0_copyFrom ⟨Nat.le_of_ble_eq_true rfl, Nat.le_of_ble_eq_true rfl⟩ ⟨Nat.zero_le _, Nat.zero_le _⟩ rfl (Nat.le_of_ble_eq_true rfl) (gm0 ht (inb_lt h17)) rfl cl0 (c_X0_copyFrom ht (inb_lt h17) ht1 (inb_lt h18) eZ20) ?_
              refine V_iinc X (v2 + (1 : Int32)) dX4_copyParts_56 2 rfl rfl [(2, .int (v2 + (1 : Int32))), (0, .ref (ad 4 t 0)), (1, .ref (ad 4 t1 0))] (by decide) rfl ?_
              refine V_goto X 33 dX4_copyParts_59 (by decide) ?_
              refine V_sub [1, 2, 0] rfl ?_
              exact ih33 _ _ hs
        refine V_sub [1, 2, 0] rfl ?_
        exact L33 _ _ _ hs
      · replace hs := if_f hs c2
        refine V_aload_n X dX4_copyParts_10 rfl 0 rfl ?_
        refine V_get X dX4_copyParts_11 r_X4_11 (gm4 ht) rfl rfl ?_
        refine V_iload_n X dX4_copyParts_14 rfl 2 rfl ?_
        obtain ⟨h21, hs⟩ := gd_some hs
        refine V_aald X 3 rfl dX4_copyParts_15 (gm15 ht) rfl h21 (v := .ref (ad 5 t v2.toNatClampNeg)) rfl ?_
        refine V_aload_n X dX4_copyParts_16 rfl 1 rfl ?_
        refine V_get X dX4_copyParts_17 r_X4_11 (gm4 ht1) rfl rfl ?_
        refine V_iload_n X dX4_copyParts_20 rfl 2 rfl ?_
        obtain ⟨h22, hs⟩ := gd_some hs
        refine V_aald X 3 rfl dX4_copyParts_21 (gm15 ht1) rfl h22 (v := .ref (ad 5 t1 v2.toNatClampNeg)) rfl ?_
        obtain ⟨Z24, eZ24, hs⟩ := bd_some hs
        refine V_callVv X [.ref (ad 5 t1 v2.toNatClampNeg)] dX4_copyParts_22 m_X4_96 v_X5_copyFrom ⟨Nat.le_of_ble_eq_true rfl, Nat.le_of_ble_eq_true rfl⟩ ⟨Nat.zero_le _, Nat.zero_le _⟩ rfl (Nat.le_of_ble_eq_true rfl) (gm5 ht (inb_lt h21)) rfl cl5 (c_X5_copyFrom ht (inb_lt h21) ht1 (inb_lt h22) eZ24) ?_
        refine V_iinc X (v2 + (1 : Int32)) dX4_copyParts_25 2 rfl rfl [(2, .int (v2 + (1 : Int32))), (0, .ref (ad 4 t 0)), (1, .ref (ad 4 t1 0))] (by decide) rfl ?_
        refine V_goto X 2 dX4_copyParts_28 (by decide) ?_
        refine V_sub [1, 2, 0] rfl ?_
        exact ih2 _ _ hs
  refine V_sub [1, 2, 0] rfl ?_
  exact L2 _ _ _ hs

def s_X4_copyFrom (np : Nat) (fu : Nat) (t : Nat) (t1 : Nat) (S : S4) : Option S4 := sv (u4 S 4 t 0 0 (S 4 t1 0 0)) fun Z1 => sv (u4 Z1 4 t 0 1 (Z1 4 t1 0 1)) fun Z2 => sv (u4 Z2 4 t 0 2 (Z2 4 t1 0 2)) fun Z3 => sv (u4 Z3 4 t 0 3 (Z3 4 t1 0 3)) fun Z4 => sv (u4 Z4 4 t 0 4 (Z4 4 t1 0 4)) fun Z5 => sv (u4 Z5 4 t 0 5 (Z5 4 t1 0 5)) fun Z6 => sv (u4 Z6 4 t 0 6 (Z6 4 t1 0 6)) fun Z7 => sv (u4 Z7 4 t 0 7 (Z7 4 t1 0 7)) fun Z8 => sv (u4 Z8 4 t 0 8 (Z8 4 t1 0 8)) fun Z9 => (s_X4_copyParts np fu t t1 Z9).bind fun Z11 => sv (w4 Z11 19 t 0 (va_cpy (Z11 19 t1 0) (Z11 19 t 0) (0 : Int32).toNatClampNeg (0 : Int32).toNatClampNeg (30 : Int32).toNatClampNeg)) fun Z12 => sv (w4 Z12 20 t 0 (va_cpy (Z12 20 t1 0) (Z12 20 t 0) (0 : Int32).toNatClampNeg (0 : Int32).toNatClampNeg (60 : Int32).toNatClampNeg)) fun Z13 => sv (w4 Z13 21 t 0 (va_cpy (Z13 21 t1 0) (Z13 21 t 0) (0 : Int32).toNatClampNeg (0 : Int32).toNatClampNeg (4 : Int32).toNatClampNeg)) fun Z14 => some Z14
set_option maxRecDepth 100000 in
set_option maxHeartbeats 4000000 in
theorem c_X4_copyFrom {l : Launch} {D : va_G} {cA : Nat → ClassId} {dm : Dm} {ad : Ad} {np : Nat} {fu : Nat} {S : S4} {t : Nat} {t1 : Nat} (ht : DS dm t) (ht1 : DS dm t1) (hnp : ∀ i, i < np → DP dm i) {out : S4} (hs : s_X4_copyFrom np fu t t1 S = some out) : Ct D cA dm ad l yX4_copyFrom cX4_copyFrom 2 none 3 103 S [.ref (ad 4 t 0), .ref (ad 4 t1 0)] none out := by
  refine Ct.of (by decide +kernel) (Nat.le_of_ble_eq_true rfl) [(0, .ref (ad 4 t 0)), (1, .ref (ad 4 t1 0))] rfl (fun p e s m args below meth c A X hr => ?_)
  unfold s_X4_copyFrom at hs
  refine V_aload_n X dX4_copyFrom_0 rfl 0 rfl ?_
  refine V_aload_n X dX4_copyFrom_1 rfl 1 rfl ?_
  refine V_get X dX4_copyFrom_2 r_X4_56 (gm4 ht1) rfl rfl ?_
  refine V_put X dX4_copyFrom_5 f_X4_56 (gm4 ht) rfl (Nat.le_of_ble_eq_true rfl) rfl rfl rfl (fun Z1 eZ1 => ?_)
  replace hs := sv_some hs Z1 eZ1
  clear eZ1
  refine V_aload_n X dX4_copyFrom_8 rfl 0 rfl ?_
  refine V_aload_n X dX4_copyFrom_9 rfl 1 rfl ?_
  refine V_get X dX4_copyFrom_10 r_X4_52 (gm4 ht1) rfl rfl ?_
  refine V_put X dX4_copyFrom_13 f_X4_52 (gm4 ht) rfl (Nat.le_of_ble_eq_true rfl) rfl rfl rfl (fun Z2 eZ2 => ?_)
  replace hs := sv_some hs Z2 eZ2
  clear eZ2
  refine V_aload_n X dX4_copyFrom_16 rfl 0 rfl ?_
  refine V_aload_n X dX4_copyFrom_17 rfl 1 rfl ?_
  refine V_get X dX4_copyFrom_18 r_X4_59 (gm4 ht1) rfl rfl ?_
  refine V_put X dX4_copyFrom_21 f_X4_59 (gm4 ht) rfl (Nat.le_of_ble_eq_true rfl) rfl rfl rfl (fun Z3 eZ3 => ?_)
  replace hs := sv_some hs Z3 eZ3
  clear eZ3
  refine V_aload_n X dX4_copyFrom_24 rfl 0 rfl ?_
  refine V_aload_n X dX4_copyFrom_25 rfl 1 rfl ?_
  refine V_get X dX4_copyFrom_26 r_X4_62 (gm4 ht1) rfl rfl ?_
  refine V_put X dX4_copyFrom_29 f_X4_62 (gm4 ht) rfl (Nat.le_of_ble_eq_true rfl) rfl rfl rfl (fun Z4 eZ4 => ?_)
  replace hs := sv_some hs Z4 eZ4
  clear eZ4
  refine V_aload_n X dX4_copyFrom_32 rfl 0 rfl ?_
  refine V_aload_n X dX4_copyFrom_33 rfl 1 rfl ?_
  refine V_get X dX4_copyFrom_34 r_X4_65 (gm4 ht1) rfl rfl ?_
  refine V_put X dX4_copyFrom_37 f_X4_65 (gm4 ht) rfl (Nat.le_of_ble_eq_true rfl) rfl rfl rfl (fun Z5 eZ5 => ?_)
  replace hs := sv_some hs Z5 eZ5
  clear eZ5
  refine V_aload_n X dX4_copyFrom_40 rfl 0 rfl ?_
  refine V_aload_n X dX4_copyFrom_41 rfl 1 rfl ?_
  refine V_get X dX4_copyFrom_42 r_X4_68 (gm4 ht1) rfl rfl ?_
  refine V_put X dX4_copyFrom_45 f_X4_68 (gm4 ht) rfl (Nat.le_of_ble_eq_true rfl) rfl rfl rfl (fun Z6 eZ6 => ?_)
  replace hs := sv_some hs Z6 eZ6
  clear eZ6
  refine V_aload_n X dX4_copyFrom_48 rfl 0 rfl ?_
  refine V_aload_n X dX4_copyFrom_49 rfl 1 rfl ?_
  refine V_get X dX4_copyFrom_50 r_X4_71 (gm4 ht1) rfl rfl ?_
  refine V_put X dX4_copyFrom_53 f_X4_71 (gm4 ht) rfl (Nat.le_of_ble_eq_true rfl) rfl rfl rfl (fun Z7 eZ7 => ?_)
  replace hs := sv_some hs Z7 eZ7
  clear eZ7
  refine V_aload_n X dX4_copyFrom_56 rfl 0 rfl ?_
  refine V_aload_n X dX4_copyFrom_57 rfl 1 rfl ?_
  refine V_get X dX4_copyFrom_58 r_X4_74 (gm4 ht1) rfl rfl ?_
  refine V_put X dX4_copyFrom_61 f_X4_74 (gm4 ht) rfl (Nat.le_of_ble_eq_true rfl) rfl rfl rfl (fun Z8 eZ8 => ?_)
  replace hs := sv_some hs Z8 eZ8
  clear eZ8
  refine V_aload_n X dX4_copyFrom_64 rfl 0 rfl ?_
  refine V_aload_n X dX4_copyFrom_65 rfl 1 rfl ?_
  refine V_get X dX4_copyFrom_66 r_X4_77 (gm4 ht1) rfl rfl ?_
  refine V_put X dX4_copyFrom_69 f_X4_77 (gm4 ht) rfl (Nat.le_of_ble_eq_true rfl) rfl rfl rfl (fun Z9 eZ9 => ?_)
  replace hs := sv_some hs Z9 eZ9
  clear eZ9
  refine V_aload_n X dX4_copyFrom_72 rfl 0 rfl ?_
  refine V_aload_n X dX4_copyFrom_73 rfl 1 rfl ?_
  obtain ⟨Z11, eZ11, hs⟩ := bd_some hs
  refine V_callVv X [.ref (ad 4 t1 0)] dX4_copyFrom_74 m_X4_86 v_X4_copyParts ⟨Nat.le_of_ble_eq_true rfl, Nat.le_of_ble_eq_true rfl⟩ ⟨Nat.zero_le _, Nat.zero_le _⟩ rfl (Nat.le_of_ble_eq_true rfl) (gm4 ht) rfl cl4 (c_X4_copyParts ht ht1 hnp eZ11) ?_
  refine V_aload_n X dX4_copyFrom_77 rfl 1 rfl ?_
  refine V_get X dX4_copyFrom_78 r_X4_35 (gm4 ht1) rfl rfl ?_
  refine V_iconst X (0 : Int32) dX4_copyFrom_81 (by decide) ?_
  refine V_aload_n X dX4_copyFrom_82 rfl 0 rfl ?_
  refine V_get X dX4_copyFrom_83 r_X4_35 (gm4 ht) rfl rfl ?_
  refine V_iconst X (0 : Int32) dX4_copyFrom_86 (by decide) ?_
  refine V_bipush X (30 : Int32) dX4_copyFrom_87 (by decide) ?_
  refine V_copy X dX4_copyFrom_89 cp_X4_90 (gm19 ht) (fun _ => rfl) (gm19 ht1) (fun _ => rfl) (by decide) (by decide) (by decide) (by decide) (by decide) (Nat.le_of_ble_eq_true rfl) ⟨by decide, by decide⟩ (fun Z12 eZ12 => ?_)
  replace hs := sv_some hs Z12 eZ12
  clear eZ12
  refine V_aload_n X dX4_copyFrom_92 rfl 1 rfl ?_
  refine V_get X dX4_copyFrom_93 r_X4_39 (gm4 ht1) rfl rfl ?_
  refine V_iconst X (0 : Int32) dX4_copyFrom_96 (by decide) ?_
  refine V_aload_n X dX4_copyFrom_97 rfl 0 rfl ?_
  refine V_get X dX4_copyFrom_98 r_X4_39 (gm4 ht) rfl rfl ?_
  refine V_iconst X (0 : Int32) dX4_copyFrom_101 (by decide) ?_
  refine V_bipush X (60 : Int32) dX4_copyFrom_102 (by decide) ?_
  refine V_copy X dX4_copyFrom_104 cp_X4_90 (gm20 ht) (fun _ => rfl) (gm20 ht1) (fun _ => rfl) (by decide) (by decide) (by decide) (by decide) (by decide) (Nat.le_of_ble_eq_true rfl) ⟨by decide, by decide⟩ (fun Z13 eZ13 => ?_)
  replace hs := sv_some hs Z13 eZ13
  clear eZ13
  refine V_aload_n X dX4_copyFrom_107 rfl 1 rfl ?_
  refine V_get X dX4_copyFrom_108 r_X4_42 (gm4 ht1) rfl rfl ?_
  refine V_iconst X (0 : Int32) dX4_copyFrom_111 (by decide) ?_
  refine V_aload_n X dX4_copyFrom_112 rfl 0 rfl ?_
  refine V_get X dX4_copyFrom_113 r_X4_42 (gm4 ht) rfl rfl ?_
  refine V_iconst X (0 : Int32) dX4_copyFrom_116 (by decide) ?_
  refine V_iconst X (4 : Int32) dX4_copyFrom_117 (by decide) ?_
  refine V_copy X dX4_copyFrom_118 cp_X4_90 (gm21 ht) (fun _ => rfl) (gm21 ht1) (fun _ => rfl) (by decide) (by decide) (by decide) (by decide) (by decide) (Nat.le_of_ble_eq_true rfl) ⟨by decide, by decide⟩ (fun Z14 eZ14 => ?_)
  replace hs := sv_some hs Z14 eZ14
  clear eZ14
  obtain rfl := Option.some.inj hs; exact V_vret X hr dX4_copyFrom_121

def s_X4_isFree_L49 (fu : Nat) (t : Nat) (p1 : Int32) (S : S4) : Nat → Int32 → Option Int32
  | 0, _ => none
  | f49+1, v2 => (if (S 4 t 0 4) ≤ v2 then some (1 : Int32) else gd (inb v2 8) ((if (S 0 t v2.toNatClampNeg 0) = p1 then some (0 : Int32) else s_X4_isFree_L49 fu t p1 S f49 (v2 + (1 : Int32)))))
def s_X4_isFree_L18 (fu : Nat) (t : Nat) (p1 : Int32) (S : S4) : Nat → Int32 → Option Int32
  | 0, _ => none
  | f18+1, v2 => (if (S 4 t 0 3) ≤ v2 then s_X4_isFree_L49 fu t p1 S fu (0 : Int32) else gd (inb v2 3) ((if (S 5 t v2.toNatClampNeg 0) = p1 then some (0 : Int32) else s_X4_isFree_L18 fu t p1 S f18 (v2 + (1 : Int32)))))
def s_X4_isFree (fu : Nat) (t : Nat) (p1 : Int32) (S : S4) : Option Int32 := (s_X6_isIn p1 (1 : Int32) ((S 4 t 0 1) - (1 : Int32)) S).bind fun q1 => (if q1 = 0 then some (0 : Int32) else s_X4_isFree_L18 fu t p1 S fu (0 : Int32))
set_option maxRecDepth 100000 in
set_option maxHeartbeats 4000000 in
theorem c_X4_isFree {l : Launch} {D : va_G} {cA : Nat → ClassId} {dm : Dm} {ad : Ad} {fu : Nat} {S : S4} {t : Nat} {p1 : Int32} (ht : DS dm t) {out : Int32} (hs : s_X4_isFree fu t p1 S = some out) : Ct D cA dm ad l yX4_isFree cX4_isFree 3 (some .boolean) 1 22 S [.ref (ad 4 t 0), .int p1] (some (.int out)) S := by
  refine Ct.of (by decide +kernel) (Nat.le_of_ble_eq_true rfl) [(0, .ref (ad 4 t 0)), (1, .int p1)] rfl (fun p e s m args below meth c A X hr => ?_)
  unfold s_X4_isFree at hs
  refine V_iload_n X dX4_isFree_0 rfl 1 rfl ?_
  refine V_iconst X (1 : Int32) dX4_isFree_1 (by decide) ?_
  refine V_aload_n X dX4_isFree_2 rfl 0 rfl ?_
  refine V_get X dX4_isFree_3 r_X4_52 (gm4 ht) rfl rfl ?_
  refine V_iconst X (1 : Int32) dX4_isFree_6 (by decide) ?_
  refine V_isub X dX4_isFree_7 ?_
  obtain ⟨q1, eq1, hs⟩ := bd_some hs
  refine V_callSNs X [.int p1, .int (1 : Int32), .int ((S 4 t 0 1) - (1 : Int32))] dX4_isFree_8 ne_X4_106 ⟨Nat.le_of_ble_eq_true rfl, Nat.le_of_ble_eq_true rfl⟩ ⟨Nat.zero_le _, Nat.zero_le _⟩ rfl (Nat.le_of_ble_eq_true rfl) (c_X6_isIn  eq1) ?_
  refine V_if_ne X 16 dX4_isFree_11 (by decide) (fun c2 => ?_) (fun c2 => ?_)
  · replace hs := if_f hs c2
    refine V_iconst X (0 : Int32) dX4_isFree_16 (by decide) ?_
    refine V_istore_n X dX4_isFree_17 rfl [(2, .int (0 : Int32)), (0, .ref (ad 4 t 0)), (1, .int p1)] (by decide) rfl ?_
    have L18 : ∀ (n : Nat) (v2 : Int32) , s_X4_isFree_L18 fu t p1 S n v2 = some out → V D cA dm ad A 3 p l e ({ frames := 1, cells := 0, slots := 0, locals := 22 }) s m args below meth c 0 0 (MQ below (gQ D cA dm ad S (some (.int out)) A) args s 0 0 A) S 18 [(0, .ref (ad 4 t 0)), (1, .int p1), (2, .int v2)] [] := by
      intro n
      induction n with
      | zero => intro v2 hs; rw [s_X4_isFree_L18] at hs; cases hs
      | succ f18 ih18 =>
        intro v2 hs
        rw [s_X4_isFree_L18] at hs
        refine V_iload_n X dX4_isFree_18 rfl 2 rfl ?_
        refine V_aload_n X dX4_isFree_19 rfl 0 rfl ?_
        refine V_get X dX4_isFree_20 r_X4_62 (gm4 ht) rfl rfl ?_
        refine V_icmp_ge X 47 dX4_isFree_23 (by decide) (fun c3 => ?_) (fun c3 => ?_)
        · replace hs := if_t hs c3
          refine V_iconst X (0 : Int32) dX4_isFree_47 (by decide) ?_
          refine V_istore_n X dX4_isFree_48 rfl [(2, .int (0 : Int32)), (0, .ref (ad 4 t 0)), (1, .int p1)] (by decide) rfl ?_
          have L49 : ∀ (n : Nat) (v2 : Int32) , s_X4_isFree_L49 fu t p1 S n v2 = some out → V D cA dm ad A 3 p l e ({ frames := 1, cells := 0, slots := 0, locals := 22 }) s m args below meth c 0 0 (MQ below (gQ D cA dm ad S (some (.int out)) A) args s 0 0 A) S 49 [(0, .ref (ad 4 t 0)), (1, .int p1), (2, .int v2)] [] := by
            intro n
            induction n with
            | zero => intro v2 hs; rw [s_X4_isFree_L49] at hs; cases hs
            | succ f49 ih49 =>
              intro v2 hs
              rw [s_X4_isFree_L49] at hs
              refine V_iload_n X dX4_isFree_49 rfl 2 rfl ?_
              refine V_aload_n X dX4_isFree_50 rfl 0 rfl ?_
              refine V_get X dX4_isFree_51 r_X4_65 (gm4 ht) rfl rfl ?_
              refine V_icmp_ge X 78 dX4_isFree_54 (by decide) (fun c4 => ?_) (fun c4 => ?_)
              · replace hs := if_t hs c4
                refine V_iconst X (1 : Int32) dX4_isFree_78 (by decide) ?_
                obtain rfl := Option.some.inj hs; exact V_zret X hr nb1 dX4_isFree_79
              · replace hs := if_f hs c4
                refine V_aload_n X dX4_isFree_57 rfl 0 rfl ?_
                refine V_get X dX4_isFree_58 r_X4_19 (gm4 ht) rfl rfl ?_
                refine V_iload_n X dX4_isFree_61 rfl 2 rfl ?_
                obtain ⟨h5, hs⟩ := gd_some hs
                refine V_aald X 4 rfl dX4_isFree_62 (gm16 ht) rfl h5 (v := .ref (ad 0 t v2.toNatClampNeg)) rfl ?_
                refine V_get X dX4_isFree_63 r_X4_113 (gm0 ht (inb_lt h5)) rfl rfl ?_
                refine V_iload_n X dX4_isFree_66 rfl 1 rfl ?_
                refine V_icmp_ne X 72 dX4_isFree_67 (by decide) (fun c6 => ?_) (fun c6 => ?_)
                · replace hs := if_f hs c6
                  refine V_iinc X (v2 + (1 : Int32)) dX4_isFree_72 2 rfl rfl [(2, .int (v2 + (1 : Int32))), (0, .ref (ad 4 t 0)), (1, .int p1)] (by decide) rfl ?_
                  refine V_goto X 49 dX4_isFree_75 (by decide) ?_
                  refine V_sub [1, 2, 0] rfl ?_
                  exact ih49 _ hs
                · replace hs := if_t hs c6
                  refine V_iconst X (0 : Int32) dX4_isFree_70 (by decide) ?_
                  obtain rfl := Option.some.inj hs; exact V_zret X hr nb0 dX4_isFree_71
          refine V_sub [1, 2, 0] rfl ?_
          exact L49 _ _ hs
        · replace hs := if_f hs c3
          refine V_aload_n X dX4_isFree_26 rfl 0 rfl ?_
          refine V_get X dX4_isFree_27 r_X4_11 (gm4 ht) rfl rfl ?_
          refine V_iload_n X dX4_isFree_30 rfl 2 rfl ?_
          obtain ⟨h7, hs⟩ := gd_some hs
          refine V_aald X 3 rfl dX4_isFree_31 (gm15 ht) rfl h7 (v := .ref (ad 5 t v2.toNatClampNeg)) rfl ?_
          refine V_get X dX4_isFree_32 r_X4_110 (gm5 ht (inb_lt h7)) rfl rfl ?_
          refine V_iload_n X dX4_isFree_35 rfl 1 rfl ?_
          refine V_icmp_ne X 41 dX4_isFree_36 (by decide) (fun c8 => ?_) (fun c8 => ?_)
          · replace hs := if_f hs c8
            refine V_iinc X (v2 + (1 : Int32)) dX4_isFree_41 2 rfl rfl [(2, .int (v2 + (1 : Int32))), (0, .ref (ad 4 t 0)), (1, .int p1)] (by decide) rfl ?_
            refine V_goto X 18 dX4_isFree_44 (by decide) ?_
            refine V_sub [1, 2, 0] rfl ?_
            exact ih18 _ hs
          · replace hs := if_t hs c8
            refine V_iconst X (0 : Int32) dX4_isFree_39 (by decide) ?_
            obtain rfl := Option.some.inj hs; exact V_zret X hr nb0 dX4_isFree_40
    refine V_sub [1, 2, 0] rfl ?_
    exact L18 _ _ hs
  · replace hs := if_t hs c2
    refine V_iconst X (0 : Int32) dX4_isFree_14 (by decide) ?_
    obtain rfl := Option.some.inj hs; exact V_zret X hr nb0 dX4_isFree_15

def s_X5_reset (t : Nat) (i : Nat) (p1 : Int32) (S : S4) : Option S4 := sv (u4 S 5 t i 0 p1) fun Z1 => sv (u4 Z1 5 t i 1 (0 : Int32)) fun Z2 => sv (u4 Z2 5 t i 2 (0 : Int32)) fun Z3 => some Z3
set_option maxRecDepth 100000 in
set_option maxHeartbeats 4000000 in
theorem c_X5_reset {l : Launch} {D : va_G} {cA : Nat → ClassId} {dm : Dm} {ad : Ad} {S : S4} {t : Nat} {i : Nat} {p1 : Int32} (ht : DS dm t) (hi : i < 3) {out : S4} (hs : s_X5_reset t i p1 S = some out) : Ct D cA dm ad l yX5_reset cX5_reset 2 none 0 0 S [.ref (ad 5 t i), .int p1] none out := by
  refine Ct.of (by decide +kernel) (Nat.le_of_ble_eq_true rfl) [(0, .ref (ad 5 t i)), (1, .int p1)] rfl (fun p e s m args below meth c A X hr => ?_)
  unfold s_X5_reset at hs
  refine V_aload_n X dX5_reset_0 rfl 0 rfl ?_
  refine V_iload_n X dX5_reset_1 rfl 1 rfl ?_
  refine V_put X dX5_reset_2 f_X5_15 (gm5 ht hi) rfl (Nat.le_of_ble_eq_true rfl) rfl rfl rfl (fun Z1 eZ1 => ?_)
  replace hs := sv_some hs Z1 eZ1
  clear eZ1
  refine V_aload_n X dX5_reset_5 rfl 0 rfl ?_
  refine V_iconst X (0 : Int32) dX5_reset_6 (by decide) ?_
  refine V_put X dX5_reset_7 f_X5_19 (gm5 ht hi) rfl (Nat.le_of_ble_eq_true rfl) rfl rfl rfl (fun Z2 eZ2 => ?_)
  replace hs := sv_some hs Z2 eZ2
  clear eZ2
  refine V_aload_n X dX5_reset_10 rfl 0 rfl ?_
  refine V_iconst X (0 : Int32) dX5_reset_11 (by decide) ?_
  refine V_put X dX5_reset_12 f_X5_22 (gm5 ht hi) rfl (Nat.le_of_ble_eq_true rfl) rfl rfl rfl (fun Z3 eZ3 => ?_)
  replace hs := sv_some hs Z3 eZ3
  clear eZ3
  obtain rfl := Option.some.inj hs; exact V_vret X hr dX5_reset_15

def s_X4_putStation (t : Nat) (p1 : Int32) (S : S4) : Option (Int32 × S4) := gd (inb (S 4 t 0 3) 3) ((s_X5_reset t ((S 4 t 0 3).toNatClampNeg) p1 S).bind fun Z3 => sv (u4 Z3 4 t 0 3 ((Z3 4 t 0 3) + (1 : Int32))) fun Z4 => some (((Z4 4 t 0 3) - (1 : Int32)), Z4))
set_option maxRecDepth 100000 in
set_option maxHeartbeats 4000000 in
theorem c_X4_putStation {l : Launch} {D : va_G} {cA : Nat → ClassId} {dm : Dm} {ad : Ad} {S : S4} {t : Nat} {p1 : Int32} (ht : DS dm t) {out : (Int32 × S4)} (hs : s_X4_putStation t p1 S = some out) : Ct D cA dm ad l yX4_putStation cX4_putStation 2 (some .int) 1 21 S [.ref (ad 4 t 0), .int p1] (some (.int out.1)) out.2 := by
  refine Ct.of (by decide +kernel) (Nat.le_of_ble_eq_true rfl) [(0, .ref (ad 4 t 0)), (1, .int p1)] rfl (fun p e s m args below meth c A X hr => ?_)
  unfold s_X4_putStation at hs
  refine V_aload_n X dX4_putStation_0 rfl 0 rfl ?_
  refine V_get X dX4_putStation_1 r_X4_11 (gm4 ht) rfl rfl ?_
  refine V_aload_n X dX4_putStation_4 rfl 0 rfl ?_
  refine V_get X dX4_putStation_5 r_X4_62 (gm4 ht) rfl rfl ?_
  obtain ⟨h1, hs⟩ := gd_some hs
  refine V_aald X 3 rfl dX4_putStation_8 (gm15 ht) rfl h1 (v := .ref (ad 5 t ((S 4 t 0 3).toNatClampNeg))) rfl ?_
  refine V_iload_n X dX4_putStation_9 rfl 1 rfl ?_
  obtain ⟨Z3, eZ3, hs⟩ := bd_some hs
  refine V_callVv X [.int p1] dX4_putStation_10 m_X4_114 v_X5_reset ⟨Nat.le_of_ble_eq_true rfl, Nat.le_of_ble_eq_true rfl⟩ ⟨Nat.zero_le _, Nat.zero_le _⟩ rfl (Nat.le_of_ble_eq_true rfl) (gm5 ht (inb_lt h1)) rfl cl5 (c_X5_reset ht (inb_lt h1) eZ3) ?_
  refine V_aload_n X dX4_putStation_13 rfl 0 rfl ?_
  refine V_dup X dX4_putStation_14 rfl ?_
  refine V_get X dX4_putStation_15 r_X4_62 (gm4 ht) rfl rfl ?_
  refine V_iconst X (1 : Int32) dX4_putStation_18 (by decide) ?_
  refine V_iadd X dX4_putStation_19 ?_
  refine V_put X dX4_putStation_20 f_X4_62 (gm4 ht) rfl (Nat.le_of_ble_eq_true rfl) rfl rfl rfl (fun Z4 eZ4 => ?_)
  replace hs := sv_some hs Z4 eZ4
  clear eZ4
  refine V_aload_n X dX4_putStation_23 rfl 0 rfl ?_
  refine V_get X dX4_putStation_24 r_X4_62 (gm4 ht) rfl rfl ?_
  refine V_iconst X (1 : Int32) dX4_putStation_27 (by decide) ?_
  refine V_isub X dX4_putStation_28 ?_
  obtain rfl := Option.some.inj hs; exact V_iret X hr dX4_putStation_29

def s_X0_reset (t : Nat) (i : Nat) (S : S4) : Option S4 := sv (u4 S 0 t i 6 (0 : Int32)) fun Z1 => sv (u4 Z1 0 t i 7 (0 : Int32)) fun Z2 => sv (u4 Z2 0 t i 8 (0 : Int32)) fun Z3 => sv (u4 Z3 0 t i 9 (0 : Int32)) fun Z4 => sv (u4 Z4 0 t i 10 (-1 : Int32)) fun Z5 => sv (u4 Z5 0 t i 11 (0 : Int32)) fun Z6 => sv (u4 Z6 0 t i 12 (0 : Int32)) fun Z7 => sv (u4 Z7 0 t i 13 (0 : Int32)) fun Z8 => sv (u4 Z8 0 t i 14 (0 : Int32)) fun Z9 => some Z9
set_option maxRecDepth 100000 in
set_option maxHeartbeats 4000000 in
theorem c_X0_reset {l : Launch} {D : va_G} {cA : Nat → ClassId} {dm : Dm} {ad : Ad} {S : S4} {t : Nat} {i : Nat} (ht : DS dm t) (hi : i < 8) {out : S4} (hs : s_X0_reset t i S = some out) : Ct D cA dm ad l yX0_reset cX0_reset 1 none 0 0 S [.ref (ad 0 t i)] none out := by
  refine Ct.of (by decide +kernel) (Nat.le_of_ble_eq_true rfl) [(0, .ref (ad 0 t i))] rfl (fun p e s m args below meth c A X hr => ?_)
  unfold s_X0_reset at hs
  refine V_aload_n X dX0_reset_0 rfl 0 rfl ?_
  refine V_iconst X (0 : Int32) dX0_reset_1 (by decide) ?_
  refine V_put X dX0_reset_2 f_X0_9 (gm0 ht hi) rfl (Nat.le_of_ble_eq_true rfl) rfl rfl rfl (fun Z1 eZ1 => ?_)
  replace hs := sv_some hs Z1 eZ1
  clear eZ1
  refine V_aload_n X dX0_reset_5 rfl 0 rfl ?_
  refine V_iconst X (0 : Int32) dX0_reset_6 (by decide) ?_
  refine V_put X dX0_reset_7 f_X0_15 (gm0 ht hi) rfl (Nat.le_of_ble_eq_true rfl) rfl rfl rfl (fun Z2 eZ2 => ?_)
  replace hs := sv_some hs Z2 eZ2
  clear eZ2
  refine V_aload_n X dX0_reset_10 rfl 0 rfl ?_
  refine V_iconst X (0 : Int32) dX0_reset_11 (by decide) ?_
  refine V_put X dX0_reset_12 f_X0_18 (gm0 ht hi) rfl (Nat.le_of_ble_eq_true rfl) rfl rfl rfl (fun Z3 eZ3 => ?_)
  replace hs := sv_some hs Z3 eZ3
  clear eZ3
  refine V_aload_n X dX0_reset_15 rfl 0 rfl ?_
  refine V_iconst X (0 : Int32) dX0_reset_16 (by decide) ?_
  refine V_put X dX0_reset_17 f_X0_21 (gm0 ht hi) rfl (Nat.le_of_ble_eq_true rfl) rfl rfl rfl (fun Z4 eZ4 => ?_)
  replace hs := sv_some hs Z4 eZ4
  clear eZ4
  refine V_aload_n X dX0_reset_20 rfl 0 rfl ?_
  refine V_iconst X (-1 : Int32) dX0_reset_21 (by decide) ?_
  refine V_put X dX0_reset_22 f_X0_25 (gm0 ht hi) rfl (Nat.le_of_ble_eq_true rfl) rfl rfl rfl (fun Z5 eZ5 => ?_)
  replace hs := sv_some hs Z5 eZ5
  clear eZ5
  refine V_aload_n X dX0_reset_25 rfl 0 rfl ?_
  refine V_iconst X (0 : Int32) dX0_reset_26 (by decide) ?_
  refine V_put X dX0_reset_27 f_X0_28 (gm0 ht hi) rfl (Nat.le_of_ble_eq_true rfl) rfl rfl rfl (fun Z6 eZ6 => ?_)
  replace hs := sv_some hs Z6 eZ6
  clear eZ6
  refine V_aload_n X dX0_reset_30 rfl 0 rfl ?_
  refine V_iconst X (0 : Int32) dX0_reset_31 (by decide) ?_
  refine V_put X dX0_reset_32 f_X0_31 (gm0 ht hi) rfl (Nat.le_of_ble_eq_true rfl) rfl rfl rfl (fun Z7 eZ7 => ?_)
  replace hs := sv_some hs Z7 eZ7
  clear eZ7
  refine V_aload_n X dX0_reset_35 rfl 0 rfl ?_
  refine V_iconst X (0 : Int32) dX0_reset_36 (by decide) ?_
  refine V_put X dX0_reset_37 f_X0_34 (gm0 ht hi) rfl (Nat.le_of_ble_eq_true rfl) rfl rfl rfl (fun Z8 eZ8 => ?_)
  replace hs := sv_some hs Z8 eZ8
  clear eZ8
  refine V_aload_n X dX0_reset_40 rfl 0 rfl ?_
  refine V_iconst X (0 : Int32) dX0_reset_41 (by decide) ?_
  refine V_put X dX0_reset_42 f_X0_37 (gm0 ht hi) rfl (Nat.le_of_ble_eq_true rfl) rfl rfl rfl (fun Z9 eZ9 => ?_)
  replace hs := sv_some hs Z9 eZ9
  clear eZ9
  obtain rfl := Option.some.inj hs; exact V_vret X hr dX0_reset_45

def s_X4_putChute (t : Nat) (S : S4) : Option (Nat × S4) := gd (inb (S 4 t 0 4) 8) ((s_X0_reset t ((S 4 t 0 4).toNatClampNeg) S).bind fun Z3 => sv (u4 Z3 4 t 0 4 ((Z3 4 t 0 4) + (1 : Int32))) fun Z4 => some (((S 4 t 0 4).toNatClampNeg), Z4))
set_option maxRecDepth 100000 in
set_option maxHeartbeats 4000000 in
theorem c_X4_putChute {l : Launch} {D : va_G} {cA : Nat → ClassId} {dm : Dm} {ad : Ad} {S : S4} {t : Nat} (ht : DS dm t) {out : (Nat × S4)} (hs : s_X4_putChute t S = some out) : Ct D cA dm ad l yX4_putChute cX4_putChute 2 (some (.object "ParcelSorter$Chute")) 1 20 S [.ref (ad 4 t 0)] (some (.ref (ad 0 t out.1))) out.2 := by
  refine Ct.of (by decide +kernel) (Nat.le_of_ble_eq_true rfl) [(0, .ref (ad 4 t 0))] rfl (fun p e s m args below meth c A X hr => ?_)
  unfold s_X4_putChute at hs
  refine V_aload_n X dX4_putChute_0 rfl 0 rfl ?_
  refine V_get X dX4_putChute_1 r_X4_19 (gm4 ht) rfl rfl ?_
  refine V_aload_n X dX4_putChute_4 rfl 0 rfl ?_
  refine V_get X dX4_putChute_5 r_X4_65 (gm4 ht) rfl rfl ?_
  obtain ⟨h1, hs⟩ := gd_some hs
  refine V_aald X 4 rfl dX4_putChute_8 (gm16 ht) rfl h1 (v := .ref (ad 0 t ((S 4 t 0 4).toNatClampNeg))) rfl ?_
  refine V_astore_n X dX4_putChute_9 rfl [(1, .ref (ad 0 t ((S 4 t 0 4).toNatClampNeg))), (0, .ref (ad 4 t 0))] (by decide) rfl ?_
  refine V_aload_n X dX4_putChute_10 rfl 0 rfl ?_
  obtain ⟨Z3, eZ3, hs⟩ := bd_some hs
  refine V_callVv X [] dX4_putChute_11 m_X4_115 v_X0_reset ⟨Nat.le_of_ble_eq_true rfl, Nat.le_of_ble_eq_true rfl⟩ ⟨Nat.zero_le _, Nat.zero_le _⟩ rfl (Nat.le_of_ble_eq_true rfl) (gm0 ht (inb_lt h1)) rfl cl0 (c_X0_reset ht (inb_lt h1) eZ3) ?_
  refine V_aload_n X dX4_putChute_14 rfl 1 rfl ?_
  refine V_dup X dX4_putChute_15 rfl ?_
  refine V_get X dX4_putChute_16 r_X4_65 (gm4 ht) rfl rfl ?_
  refine V_iconst X (1 : Int32) dX4_putChute_19 (by decide) ?_
  refine V_iadd X dX4_putChute_20 ?_
  refine V_put X dX4_putChute_21 f_X4_65 (gm4 ht) rfl (Nat.le_of_ble_eq_true rfl) rfl rfl rfl (fun Z4 eZ4 => ?_)
  replace hs := sv_some hs Z4 eZ4
  clear eZ4
  refine V_aload_n X dX4_putChute_24 rfl 0 rfl ?_
  obtain rfl := Option.some.inj hs
  exact V_aret X hr (Or.inr ⟨_, rfl⟩) dX4_putChute_25

def s_X2_addRule (i : Nat) (p1 : Int32) (p2 : Int32) (S : S4) : Option S4 := (if (8 : Int32) ≤ (S 2 0 i 1) then some S else gd (inb (S 2 0 i 1) 8) (sv (u4 S 10 0 i ((S 2 0 i 1).toNatClampNeg) p1) fun Z3 => gd (inb (Z3 2 0 i 1) 8) (sv (u4 Z3 11 0 i ((Z3 2 0 i 1).toNatClampNeg) p2) fun Z5 => sv (u4 Z5 2 0 i 1 ((Z5 2 0 i 1) + (1 : Int32))) fun Z6 => some Z6)))
set_option maxRecDepth 100000 in
set_option maxHeartbeats 4000000 in
theorem c_X2_addRule {l : Launch} {D : va_G} {cA : Nat → ClassId} {dm : Dm} {ad : Ad} {S : S4} {i : Nat} {p1 : Int32} {p2 : Int32} (hi : DP dm i) {out : S4} (hs : s_X2_addRule i p1 p2 S = some out) : Ct D cA dm ad l yX2_addRule cX2_addRule 3 none 0 0 S [.ref (ad 2 0 i), .int p1, .int p2] none out := by
  refine Ct.of (by decide +kernel) (Nat.le_of_ble_eq_true rfl) [(0, .ref (ad 2 0 i)), (1, .int p1), (2, .int p2)] rfl (fun p e s m args below meth c A X hr => ?_)
  unfold s_X2_addRule at hs
  refine V_aload_n X dX2_addRule_0 rfl 0 rfl ?_
  refine V_get X dX2_addRule_1 r_X2_28 (gm2 hi) rfl rfl ?_
  refine V_bipush X (8 : Int32) dX2_addRule_4 (by decide) ?_
  refine V_icmp_ge X 39 dX2_addRule_6 (by decide) (fun c1 => ?_) (fun c1 => ?_)
  · replace hs := if_t hs c1
    obtain rfl := Option.some.inj hs; exact V_vret X hr dX2_addRule_39
  · replace hs := if_f hs c1
    refine V_aload_n X dX2_addRule_9 rfl 0 rfl ?_
    refine V_get X dX2_addRule_10 r_X2_15 (gm2 hi) rfl rfl ?_
    refine V_aload_n X dX2_addRule_13 rfl 0 rfl ?_
    refine V_get X dX2_addRule_14 r_X2_28 (gm2 hi) rfl rfl ?_
    refine V_iload_n X dX2_addRule_17 rfl 1 rfl ?_
    obtain ⟨h2, hs⟩ := gd_some hs
    refine V_iast X dX2_addRule_18 (gm10 hi) (fun _ => rfl) h2 (fun Z3 eZ3 => ?_)
    replace hs := sv_some hs Z3 eZ3
    clear eZ3
    refine V_aload_n X dX2_addRule_19 rfl 0 rfl ?_
    refine V_get X dX2_addRule_20 r_X2_19 (gm2 hi) rfl rfl ?_
    refine V_aload_n X dX2_addRule_23 rfl 0 rfl ?_
    refine V_get X dX2_addRule_24 r_X2_28 (gm2 hi) rfl rfl ?_
    refine V_iload_n X dX2_addRule_27 rfl 2 rfl ?_
    obtain ⟨h4, hs⟩ := gd_some hs
    refine V_iast X dX2_addRule_28 (gm11 hi) (fun _ => rfl) h4 (fun Z5 eZ5 => ?_)
    replace hs := sv_some hs Z5 eZ5
    clear eZ5
    refine V_aload_n X dX2_addRule_29 rfl 0 rfl ?_
    refine V_dup X dX2_addRule_30 rfl ?_
    refine V_get X dX2_addRule_31 r_X2_28 (gm2 hi) rfl rfl ?_
    refine V_iconst X (1 : Int32) dX2_addRule_34 (by decide) ?_
    refine V_iadd X dX2_addRule_35 ?_
    refine V_put X dX2_addRule_36 f_X2_28 (gm2 hi) rfl (Nat.le_of_ble_eq_true rfl) rfl rfl rfl (fun Z6 eZ6 => ?_)
    replace hs := sv_some hs Z6 eZ6
    clear eZ6
    obtain rfl := Option.some.inj hs; exact V_vret X hr dX2_addRule_39

def s_X2_chuteIn (i : Nat) (p1 : Int32) (p2 : Int32) (S : S4) : Option Int32 := gd (inb ((p1 * (3 : Int32)) + p2) 24) (some (S 13 0 i ((p1 * (3 : Int32)) + p2).toNatClampNeg))
set_option maxRecDepth 100000 in
set_option maxHeartbeats 4000000 in
theorem c_X2_chuteIn {l : Launch} {D : va_G} {cA : Nat → ClassId} {dm : Dm} {ad : Ad} {S : S4} {i : Nat} {p1 : Int32} {p2 : Int32} (hi : DP dm i) {out : Int32} (hs : s_X2_chuteIn i p1 p2 S = some out) : Ct D cA dm ad l yX2_chuteIn cX2_chuteIn 3 (some .int) 0 0 S [.ref (ad 2 0 i), .int p1, .int p2] (some (.int out)) S := by
  refine Ct.of (by decide +kernel) (Nat.le_of_ble_eq_true rfl) [(0, .ref (ad 2 0 i)), (1, .int p1), (2, .int p2)] rfl (fun p e s m args below meth c A X hr => ?_)
  unfold s_X2_chuteIn at hs
  refine V_aload_n X dX2_chuteIn_0 rfl 0 rfl ?_
  refine V_get X dX2_chuteIn_1 r_X2_25 (gm2 hi) rfl rfl ?_
  refine V_iload_n X dX2_chuteIn_4 rfl 1 rfl ?_
  refine V_iconst X (3 : Int32) dX2_chuteIn_5 (by decide) ?_
  refine V_imul X dX2_chuteIn_6 ?_
  refine V_iload_n X dX2_chuteIn_7 rfl 2 rfl ?_
  refine V_iadd X dX2_chuteIn_8 ?_
  obtain ⟨h1, hs⟩ := gd_some hs
  refine V_iald X dX2_chuteIn_9 (gm13 hi) rfl h1 ?_
  obtain rfl := Option.some.inj hs; exact V_iret X hr dX2_chuteIn_10

def s_X2_hasChute_L2 (fu : Nat) (i : Nat) (p1 : Int32) (p2 : Int32) (S : S4) : Nat → Int32 → Option Int32
  | 0, _ => none
  | f2+1, v3 => gd (inb p1 8) ((if (S 12 0 i p1.toNatClampNeg) ≤ v3 then some (0 : Int32) else (s_X2_chuteIn i p1 v3 S).bind fun q3 => (if q3 = p2 then some (1 : Int32) else s_X2_hasChute_L2 fu i p1 p2 S f2 (v3 + (1 : Int32)))))
def s_X2_hasChute (fu : Nat) (i : Nat) (p1 : Int32) (p2 : Int32) (S : S4) : Option Int32 := s_X2_hasChute_L2 fu i p1 p2 S fu (0 : Int32)
set_option maxRecDepth 100000 in
set_option maxHeartbeats 4000000 in
theorem c_X2_hasChute {l : Launch} {D : va_G} {cA : Nat → ClassId} {dm : Dm} {ad : Ad} {fu : Nat} {S : S4} {i : Nat} {p1 : Int32} {p2 : Int32} (hi : DP dm i) {out : Int32} (hs : s_X2_hasChute fu i p1 p2 S = some out) : Ct D cA dm ad l yX2_hasChute cX2_hasChute 4 (some .boolean) 1 22 S [.ref (ad 2 0 i), .int p1, .int p2] (some (.int out)) S := by
  refine Ct.of (by decide +kernel) (Nat.le_of_ble_eq_true rfl) [(0, .ref (ad 2 0 i)), (1, .int p1), (2, .int p2)] rfl (fun p e s m args below meth c A X hr => ?_)
  unfold s_X2_hasChute at hs
  refine V_iconst X (0 : Int32) dX2_hasChute_0 (by decide) ?_
  refine V_istore_n X dX2_hasChute_1 rfl [(3, .int (0 : Int32)), (0, .ref (ad 2 0 i)), (1, .int p1), (2, .int p2)] (by decide) rfl ?_
  have L2 : ∀ (n : Nat) (v3 : Int32) , s_X2_hasChute_L2 fu i p1 p2 S n v3 = some out → V D cA dm ad A 4 p l e ({ frames := 1, cells := 0, slots := 0, locals := 22 }) s m args below meth c 0 0 (MQ below (gQ D cA dm ad S (some (.int out)) A) args s 0 0 A) S 2 [(0, .ref (ad 2 0 i)), (1, .int p1), (2, .int p2), (3, .int v3)] [] := by
    intro n
    induction n with
    | zero => intro v3 hs; rw [s_X2_hasChute_L2] at hs; cases hs
    | succ f2 ih2 =>
      intro v3 hs
      rw [s_X2_hasChute_L2] at hs
      refine V_iload_n X dX2_hasChute_2 rfl 3 rfl ?_
      refine V_aload_n X dX2_hasChute_3 rfl 0 rfl ?_
      refine V_get X dX2_hasChute_4 r_X2_22 (gm2 hi) rfl rfl ?_
      refine V_iload_n X dX2_hasChute_7 rfl 1 rfl ?_
      obtain ⟨h1, hs⟩ := gd_some hs
      refine V_iald X dX2_hasChute_8 (gm12 hi) rfl h1 ?_
      refine V_icmp_ge X 30 dX2_hasChute_9 (by decide) (fun c2 => ?_) (fun c2 => ?_)
      · replace hs := if_t hs c2
        refine V_iconst X (0 : Int32) dX2_hasChute_30 (by decide) ?_
        obtain rfl := Option.some.inj hs; exact V_zret X hr nb0 dX2_hasChute_31
      · replace hs := if_f hs c2
        refine V_aload_n X dX2_hasChute_12 rfl 0 rfl ?_
        refine V_iload_n X dX2_hasChute_13 rfl 1 rfl ?_
        refine V_iload_n X dX2_hasChute_14 rfl 3 rfl ?_
        obtain ⟨q3, eq3, hs⟩ := bd_some hs
        refine V_callVs X [.int p1, .int v3] dX2_hasChute_15 m_X2_35 v_X2_chuteIn ⟨Nat.le_of_ble_eq_true rfl, Nat.le_of_ble_eq_true rfl⟩ ⟨Nat.zero_le _, Nat.zero_le _⟩ rfl (Nat.le_of_ble_eq_true rfl) (gm2 hi) rfl cl2 (c_X2_chuteIn hi eq3) ?_
        refine V_iload_n X dX2_hasChute_18 rfl 2 rfl ?_
        refine V_icmp_ne X 24 dX2_hasChute_19 (by decide) (fun c4 => ?_) (fun c4 => ?_)
        · replace hs := if_f hs c4
          refine V_iinc X (v3 + (1 : Int32)) dX2_hasChute_24 3 rfl rfl [(3, .int (v3 + (1 : Int32))), (0, .ref (ad 2 0 i)), (1, .int p1), (2, .int p2)] (by decide) rfl ?_
          refine V_goto X 2 dX2_hasChute_27 (by decide) ?_
          refine V_sub [1, 2, 3, 0] rfl ?_
          exact ih2 _ hs
        · replace hs := if_t hs c4
          refine V_iconst X (1 : Int32) dX2_hasChute_22 (by decide) ?_
          obtain rfl := Option.some.inj hs; exact V_zret X hr nb1 dX2_hasChute_23
  refine V_sub [1, 2, 3, 0] rfl ?_
  exact L2 _ _ hs

def s_X2_addChuteToLatestRule (i : Nat) (p1 : Int32) (S : S4) : Option S4 := (if ((S 2 0 i 1) - (1 : Int32)) < 0 then some S else gd (inb ((S 2 0 i 1) - (1 : Int32)) 8) ((if (3 : Int32) ≤ (S 12 0 i ((S 2 0 i 1) - (1 : Int32)).toNatClampNeg) then some S else gd (inb ((S 2 0 i 1) - (1 : Int32)) 8) (gd (inb ((((S 2 0 i 1) - (1 : Int32)) * (3 : Int32)) + (S 12 0 i ((S 2 0 i 1) - (1 : Int32)).toNatClampNeg)) 24) (sv (u4 S 13 0 i (((((S 2 0 i 1) - (1 : Int32)) * (3 : Int32)) + (S 12 0 i ((S 2 0 i 1) - (1 : Int32)).toNatClampNeg)).toNatClampNeg) p1) fun Z6 => gd (inb ((S 2 0 i 1) - (1 : Int32)) 8) (gd (inb ((S 2 0 i 1) - (1 : Int32)) 8) (sv (u4 Z6 12 0 i (((S 2 0 i 1) - (1 : Int32)).toNatClampNeg) ((Z6 12 0 i ((S 2 0 i 1) - (1 : Int32)).toNatClampNeg) + (1 : Int32))) fun Z9 => some Z9)))))))
set_option maxRecDepth 100000 in
set_option maxHeartbeats 4000000 in
theorem c_X2_addChuteToLatestRule {l : Launch} {D : va_G} {cA : Nat → ClassId} {dm : Dm} {ad : Ad} {S : S4} {i : Nat} {p1 : Int32} (hi : DP dm i) {out : S4} (hs : s_X2_addChuteToLatestRule i p1 S = some out) : Ct D cA dm ad l yX2_addChuteToLatestRule cX2_addChuteToLatestRule 3 none 0 0 S [.ref (ad 2 0 i), .int p1] none out := by
  refine Ct.of (by decide +kernel) (Nat.le_of_ble_eq_true rfl) [(0, .ref (ad 2 0 i)), (1, .int p1)] rfl (fun p e s m args below meth c A X hr => ?_)
  unfold s_X2_addChuteToLatestRule at hs
  refine V_aload_n X dX2_addChuteToLatestRule_0 rfl 0 rfl ?_
  refine V_get X dX2_addChuteToLatestRule_1 r_X2_28 (gm2 hi) rfl rfl ?_
  refine V_iconst X (1 : Int32) dX2_addChuteToLatestRule_4 (by decide) ?_
  refine V_isub X dX2_addChuteToLatestRule_5 ?_
  refine V_istore_n X dX2_addChuteToLatestRule_6 rfl [(2, .int ((S 2 0 i 1) - (1 : Int32))), (0, .ref (ad 2 0 i)), (1, .int p1)] (by decide) rfl ?_
  refine V_iload_n X dX2_addChuteToLatestRule_7 rfl 0 rfl ?_
  refine V_if_lt X 47 dX2_addChuteToLatestRule_8 (by decide) (fun c1 => ?_) (fun c1 => ?_)
  · replace hs := if_t hs c1
    obtain rfl := Option.some.inj hs; exact V_vret X hr dX2_addChuteToLatestRule_47
  · replace hs := if_f hs c1
    refine V_aload_n X dX2_addChuteToLatestRule_11 rfl 1 rfl ?_
    refine V_get X dX2_addChuteToLatestRule_12 r_X2_22 (gm2 hi) rfl rfl ?_
    refine V_iload_n X dX2_addChuteToLatestRule_15 rfl 0 rfl ?_
    obtain ⟨h2, hs⟩ := gd_some hs
    refine V_iald X dX2_addChuteToLatestRule_16 (gm12 hi) rfl h2 ?_
    refine V_iconst X (3 : Int32) dX2_addChuteToLatestRule_17 (by decide) ?_
    refine V_icmp_ge X 47 dX2_addChuteToLatestRule_18 (by decide) (fun c3 => ?_) (fun c3 => ?_)
    · replace hs := if_t hs c3
      obtain rfl := Option.some.inj hs; exact V_vret X hr dX2_addChuteToLatestRule_47
    · replace hs := if_f hs c3
      refine V_aload_n X dX2_addChuteToLatestRule_21 rfl 1 rfl ?_
      refine V_get X dX2_addChuteToLatestRule_22 r_X2_25 (gm2 hi) rfl rfl ?_
      refine V_iload_n X dX2_addChuteToLatestRule_25 rfl 0 rfl ?_
      refine V_iconst X (3 : Int32) dX2_addChuteToLatestRule_26 (by decide) ?_
      refine V_imul X dX2_addChuteToLatestRule_27 ?_
      refine V_aload_n X dX2_addChuteToLatestRule_28 rfl 1 rfl ?_
      refine V_get X dX2_addChuteToLatestRule_29 r_X2_22 (gm2 hi) rfl rfl ?_
      refine V_iload_n X dX2_addChuteToLatestRule_32 rfl 0 rfl ?_
      obtain ⟨h4, hs⟩ := gd_some hs
      refine V_iald X dX2_addChuteToLatestRule_33 (gm12 hi) rfl h4 ?_
      refine V_iadd X dX2_addChuteToLatestRule_34 ?_
      refine V_iload_n X dX2_addChuteToLatestRule_35 rfl 2 rfl ?_
      obtain ⟨h5, hs⟩ := gd_some hs
      refine V_iast X dX2_addChuteToLatestRule_36 (gm13 hi) (fun _ => rfl) h5 (fun Z6 eZ6 => ?_)
      replace hs := sv_some hs Z6 eZ6
      clear eZ6
      refine V_aload_n X dX2_addChuteToLatestRule_37 rfl 1 rfl ?_
      refine V_get X dX2_addChuteToLatestRule_38 r_X2_22 (gm2 hi) rfl rfl ?_
      refine V_iload_n X dX2_addChuteToLatestRule_41 rfl 0 rfl ?_
      refine V_dup2 X dX2_addChuteToLatestRule_42 rfl rfl ?_
      obtain ⟨h7, hs⟩ := gd_some hs
      refine V_iald X dX2_addChuteToLatestRule_43 (gm12 hi) rfl h7 ?_
      refine V_iconst X (1 : Int32) dX2_addChuteToLatestRule_44 (by decide) ?_
      refine V_iadd X dX2_addChuteToLatestRule_45 ?_
      obtain ⟨h8, hs⟩ := gd_some hs
      refine V_iast X dX2_addChuteToLatestRule_46 (gm12 hi) (fun _ => rfl) h8 (fun Z9 eZ9 => ?_)
      replace hs := sv_some hs Z9 eZ9
      clear eZ9
      obtain rfl := Option.some.inj hs; exact V_vret X hr dX2_addChuteToLatestRule_47

def s_X2_isPossible_L40 (fu : Nat) (i : Nat) (p1 : Int32) (k2 : Int32 → Option Int32) (S : S4) : Nat → Int32 → Int32 → Option Int32
  | 0, _, _ => none
  | f40+1, v2, v3 => gd (inb v2 8) ((if (S 12 0 i v2.toNatClampNeg) ≤ v3 then k2 (v2 + (1 : Int32)) else (s_X2_chuteIn i v2 v3 S).bind fun q10 => (if q10 < p1 then s_X2_isPossible_L40 fu i p1 k2 S f40 v2 (v3 + (1 : Int32)) else some (0 : Int32))))
def s_X2_isPossible_L2 (fu : Nat) (i : Nat) (p1 : Int32) (S : S4) : Nat → Int32 → Option Int32
  | 0, _ => none
  | f2+1, v2 => (if (S 2 0 i 1) ≤ v2 then (if p1 ≤ (S 2 0 i 2) then some (0 : Int32) else some (1 : Int32)) else gd (inb v2 8) ((if (100 : Int32) ≤ (S 11 0 i v2.toNatClampNeg) then some (0 : Int32) else gd (inb v2 8) (gd (inb v2 8) ((if (S 10 0 i v2.toNatClampNeg) ≤ (S 11 0 i v2.toNatClampNeg) then s_X2_isPossible_L40 fu i p1 (fun a2 => s_X2_isPossible_L2 fu i p1 S f2 a2) S fu v2 (0 : Int32) else some (0 : Int32)))))))
def s_X2_isPossible (fu : Nat) (i : Nat) (p1 : Int32) (S : S4) : Option Int32 := s_X2_isPossible_L2 fu i p1 S fu (0 : Int32)
set_option maxRecDepth 100000 in
set_option maxHeartbeats 4000000 in
theorem c_X2_isPossible {l : Launch} {D : va_G} {cA : Nat → ClassId} {dm : Dm} {ad : Ad} {fu : Nat} {S : S4} {i : Nat} {p1 : Int32} (hi : DP dm i) {out : Int32} (hs : s_X2_isPossible fu i p1 S = some out) : Ct D cA dm ad l yX2_isPossible cX2_isPossible 4 (some .boolean) 1 22 S [.ref (ad 2 0 i), .int p1] (some (.int out)) S := by
  refine Ct.of (by decide +kernel) (Nat.le_of_ble_eq_true rfl) [(0, .ref (ad 2 0 i)), (1, .int p1)] rfl (fun p e s m args below meth c A X hr => ?_)
  unfold s_X2_isPossible at hs
  refine V_iconst X (0 : Int32) dX2_isPossible_0 (by decide) ?_
  refine V_istore_n X dX2_isPossible_1 rfl [(2, .int (0 : Int32)), (0, .ref (ad 2 0 i)), (1, .int p1)] (by decide) rfl ?_
  have L2 : ∀ (n : Nat) (v2 : Int32) , s_X2_isPossible_L2 fu i p1 S n v2 = some out → V D cA dm ad A 4 p l e ({ frames := 1, cells := 0, slots := 0, locals := 22 }) s m args below meth c 0 0 (MQ below (gQ D cA dm ad S (some (.int out)) A) args s 0 0 A) S 2 [(0, .ref (ad 2 0 i)), (1, .int p1), (2, .int v2)] [] := by
    intro n
    induction n with
    | zero => intro v2 hs; rw [s_X2_isPossible_L2] at hs; cases hs
    | succ f2 ih2 =>
      intro v2 hs
      rw [s_X2_isPossible_L2] at hs
      refine V_iload_n X dX2_isPossible_2 rfl 2 rfl ?_
      refine V_aload_n X dX2_isPossible_3 rfl 0 rfl ?_
      refine V_get X dX2_isPossible_4 r_X2_28 (gm2 hi) rfl rfl ?_
      refine V_icmp_ge X 74 dX2_isPossible_7 (by decide) (fun c1 => ?_) (fun c1 => ?_)
      · replace hs := if_t hs c1
        refine V_aload_n X dX2_isPossible_74 rfl 0 rfl ?_
        refine V_get X dX2_isPossible_75 r_X2_43 (gm2 hi) rfl rfl ?_
        refine V_iload_n X dX2_isPossible_78 rfl 1 rfl ?_
        refine V_icmp_ge X 86 dX2_isPossible_79 (by decide) (fun c2 => ?_) (fun c2 => ?_)
        · replace hs := if_t hs c2
          refine V_iconst X (0 : Int32) dX2_isPossible_86 (by decide) ?_
          obtain rfl := Option.some.inj hs; exact V_zret X hr nb0 dX2_isPossible_87
        · replace hs := if_f hs c2
          refine V_iconst X (1 : Int32) dX2_isPossible_82 (by decide) ?_
          refine V_goto X 87 dX2_isPossible_83 (by decide) ?_
          obtain rfl := Option.some.inj hs; exact V_zret X hr nb1 dX2_isPossible_87
      · replace hs := if_f hs c1
        refine V_aload_n X dX2_isPossible_10 rfl 0 rfl ?_
        refine V_get X dX2_isPossible_11 r_X2_19 (gm2 hi) rfl rfl ?_
        refine V_iload_n X dX2_isPossible_14 rfl 2 rfl ?_
        obtain ⟨h3, hs⟩ := gd_some hs
        refine V_iald X dX2_isPossible_15 (gm11 hi) rfl h3 ?_
        refine V_bipush X (100 : Int32) dX2_isPossible_16 (by decide) ?_
        refine V_icmp_ge X 36 dX2_isPossible_18 (by decide) (fun c4 => ?_) (fun c4 => ?_)
        · replace hs := if_t hs c4
          refine V_iconst X (0 : Int32) dX2_isPossible_36 (by decide) ?_
          obtain rfl := Option.some.inj hs; exact V_zret X hr nb0 dX2_isPossible_37
        · replace hs := if_f hs c4
          refine V_aload_n X dX2_isPossible_21 rfl 0 rfl ?_
          refine V_get X dX2_isPossible_22 r_X2_15 (gm2 hi) rfl rfl ?_
          refine V_iload_n X dX2_isPossible_25 rfl 2 rfl ?_
          obtain ⟨h5, hs⟩ := gd_some hs
          refine V_iald X dX2_isPossible_26 (gm10 hi) rfl h5 ?_
          refine V_aload_n X dX2_isPossible_27 rfl 0 rfl ?_
          refine V_get X dX2_isPossible_28 r_X2_19 (gm2 hi) rfl rfl ?_
          refine V_iload_n X dX2_isPossible_31 rfl 2 rfl ?_
          obtain ⟨h6, hs⟩ := gd_some hs
          refine V_iald X dX2_isPossible_32 (gm11 hi) rfl h6 ?_
          refine V_icmp_le X 38 dX2_isPossible_33 (by decide) (fun c7 => ?_) (fun c7 => ?_)
          · replace hs := if_t hs c7
            refine V_iconst X (0 : Int32) dX2_isPossible_38 (by decide) ?_
            refine V_istore_n X dX2_isPossible_39 rfl [(3, .int (0 : Int32)), (0, .ref (ad 2 0 i)), (1, .int p1), (2, .int v2)] (by decide) rfl ?_
            have L40 : ∀ (n : Nat) (v2 v3 : Int32) , s_X2_isPossible_L40 fu i p1 (fun a2 => s_X2_isPossible_L2 fu i p1 S f2 a2) S n v2 v3 = some out → V D cA dm ad A 4 p l e ({ frames := 1, cells := 0, slots := 0, locals := 22 }) s m args below meth c 0 0 (MQ below (gQ D cA dm ad S (some (.int out)) A) args s 0 0 A) S 40 [(0, .ref (ad 2 0 i)), (1, .int p1), (2, .int v2), (3, .int v3)] [] := by
              intro n
              induction n with
              | zero => intro v2 v3 hs; rw [s_X2_isPossible_L40] at hs; cases hs
              | succ f40 ih40 =>
                intro v2 v3 hs
                rw [s_X2_isPossible_L40] at hs
                refine V_iload_n X dX2_isPossible_40 rfl 3 rfl ?_
                refine V_aload_n X dX2_isPossible_41 rfl 0 rfl ?_
                refine V_get X dX2_isPossible_42 r_X2_22 (gm2 hi) rfl rfl ?_
                refine V_iload_n X dX2_isPossible_45 rfl 2 rfl ?_
                obtain ⟨h8, hs⟩ := gd_some hs
                refine V_iald X dX2_isPossible_46 (gm12 hi) rfl h8 ?_
                refine V_icmp_ge X 68 dX2_isPossible_47 (by decide) (fun c9 => ?_) (fun c9 => ?_)
                · replace hs := if_t hs c9
                  refine V_iinc X (v2 + (1 : Int32)) dX2_isPossible_68 2 rfl rfl [(2, .int (v2 + (1 : Int32))), (0, .ref (ad 2 0 i)), (1, .int p1), (3, .int v3)] (by decide) rfl ?_
                  refine V_goto X 2 dX2_isPossible_71 (by decide) ?_
                  refine V_sub [1, 2, 0] rfl ?_
                  exact ih2 _ hs
                · replace hs := if_f hs c9
                  refine V_aload_n X dX2_isPossible_50 rfl 0 rfl ?_
                  refine V_iload_n X dX2_isPossible_51 rfl 2 rfl ?_
                  refine V_iload_n X dX2_isPossible_52 rfl 3 rfl ?_
                  obtain ⟨q10, eq10, hs⟩ := bd_some hs
                  refine V_callVs X [.int v2, .int v3] dX2_isPossible_53 m_X2_35 v_X2_chuteIn ⟨Nat.le_of_ble_eq_true rfl, Nat.le_of_ble_eq_true rfl⟩ ⟨Nat.zero_le _, Nat.zero_le _⟩ rfl (Nat.le_of_ble_eq_true rfl) (gm2 hi) rfl cl2 (c_X2_chuteIn hi eq10) ?_
                  refine V_iload_n X dX2_isPossible_56 rfl 1 rfl ?_
                  refine V_icmp_lt X 62 dX2_isPossible_57 (by decide) (fun c11 => ?_) (fun c11 => ?_)
                  · replace hs := if_t hs c11
                    refine V_iinc X (v3 + (1 : Int32)) dX2_isPossible_62 3 rfl rfl [(3, .int (v3 + (1 : Int32))), (0, .ref (ad 2 0 i)), (1, .int p1), (2, .int v2)] (by decide) rfl ?_
                    refine V_goto X 40 dX2_isPossible_65 (by decide) ?_
                    refine V_sub [1, 2, 3, 0] rfl ?_
                    exact ih40 _ _ hs
                  · replace hs := if_f hs c11
                    refine V_iconst X (0 : Int32) dX2_isPossible_60 (by decide) ?_
                    obtain rfl := Option.some.inj hs; exact V_zret X hr nb0 dX2_isPossible_61
            refine V_sub [1, 2, 3, 0] rfl ?_
            exact L40 _ _ _ hs
          · replace hs := if_f hs c7
            refine V_iconst X (0 : Int32) dX2_isPossible_36 (by decide) ?_
            obtain rfl := Option.some.inj hs; exact V_zret X hr nb0 dX2_isPossible_37
  refine V_sub [1, 2, 0] rfl ?_
  exact L2 _ _ hs

def s_X4_plansUntil_L4 (np : Nat) (fu : Nat) (t : Nat) (p1 : Int32) (S : S4) : Nat → Int32 → Int32 → Option Int32
  | 0, _, _ => none
  | f4+1, v2, v3 => (if (S 4 t 0 5) ≤ v3 then some v2 else gd (inb v3 5) ((pcd (S 17 t 0 v3.toNatClampNeg)).bind fun i3 => gd (i3 < np) ((if p1 < (S 2 0 i3 0) then s_X4_plansUntil_L4 np fu t p1 S f4 v2 (v3 + (1 : Int32)) else s_X4_plansUntil_L4 np fu t p1 S f4 (v2 + (1 : Int32)) (v3 + (1 : Int32))))))
def s_X4_plansUntil (np : Nat) (fu : Nat) (t : Nat) (p1 : Int32) (S : S4) : Option Int32 := s_X4_plansUntil_L4 np fu t p1 S fu (0 : Int32) (0 : Int32)
set_option maxRecDepth 100000 in
set_option maxHeartbeats 4000000 in
theorem c_X4_plansUntil {l : Launch} {D : va_G} {cA : Nat → ClassId} {dm : Dm} {ad : Ad} {np : Nat} {fu : Nat} {S : S4} {t : Nat} {p1 : Int32} (ht : DS dm t) (hnp : ∀ i, i < np → DP dm i) {out : Int32} (hs : s_X4_plansUntil np fu t p1 S = some out) : Ct D cA dm ad l yX4_plansUntil cX4_plansUntil 4 (some .int) 0 0 S [.ref (ad 4 t 0), .int p1] (some (.int out)) S := by
  refine Ct.of (by decide +kernel) (Nat.le_of_ble_eq_true rfl) [(0, .ref (ad 4 t 0)), (1, .int p1)] rfl (fun p e s m args below meth c A X hr => ?_)
  unfold s_X4_plansUntil at hs
  refine V_iconst X (0 : Int32) dX4_plansUntil_0 (by decide) ?_
  refine V_istore_n X dX4_plansUntil_1 rfl [(2, .int (0 : Int32)), (0, .ref (ad 4 t 0)), (1, .int p1)] (by decide) rfl ?_
  refine V_iconst X (0 : Int32) dX4_plansUntil_2 (by decide) ?_
  refine V_istore_n X dX4_plansUntil_3 rfl [(3, .int (0 : Int32)), (2, .int (0 : Int32)), (0, .ref (ad 4 t 0)), (1, .int p1)] (by decide) rfl ?_
  have L4 : ∀ (n : Nat) (v2 v3 : Int32) , s_X4_plansUntil_L4 np fu t p1 S n v2 v3 = some out → V D cA dm ad A 4 p l e ({ frames := 0, cells := 0, slots := 0, locals := 0 }) s m args below meth c 0 0 (MQ below (gQ D cA dm ad S (some (.int out)) A) args s 0 0 A) S 4 [(0, .ref (ad 4 t 0)), (1, .int p1), (2, .int v2), (3, .int v3)] [] := by
    intro n
    induction n with
    | zero => intro v2 v3 hs; rw [s_X4_plansUntil_L4] at hs; cases hs
    | succ f4 ih4 =>
      intro v2 v3 hs
      rw [s_X4_plansUntil_L4] at hs
      refine V_iload_n X dX4_plansUntil_4 rfl 3 rfl ?_
      refine V_aload_n X dX4_plansUntil_5 rfl 0 rfl ?_
      refine V_get X dX4_plansUntil_6 r_X4_68 (gm4 ht) rfl rfl ?_
      refine V_icmp_ge X 34 dX4_plansUntil_9 (by decide) (fun c1 => ?_) (fun c1 => ?_)
      · replace hs := if_t hs c1
        refine V_iload_n X dX4_plansUntil_34 rfl 2 rfl ?_
        obtain rfl := Option.some.inj hs; exact V_iret X hr dX4_plansUntil_35
      · replace hs := if_f hs c1
        refine V_aload_n X dX4_plansUntil_12 rfl 0 rfl ?_
        refine V_get X dX4_plansUntil_13 r_X4_25 (gm4 ht) rfl rfl ?_
        refine V_iload_n X dX4_plansUntil_16 rfl 3 rfl ?_
        obtain ⟨h2, hs⟩ := gd_some hs
        refine V_aald X 5 rfl dX4_plansUntil_17 (gm17 ht) rfl h2 (v := va_rf ((pcd (S 17 t 0 v3.toNatClampNeg)).map (ad 2 0))) rfl ?_
        obtain ⟨i3, qi3, hs⟩ := bd_some hs
        obtain ⟨h4, hs⟩ := gd_some hs
        rw [qi3, rfs]
        refine V_get X dX4_plansUntil_18 r_X4_126 (gm2 (hnp _ h4)) rfl rfl ?_
        refine V_iload_n X dX4_plansUntil_21 rfl 1 rfl ?_
        refine V_icmp_gt X 28 dX4_plansUntil_22 (by decide) (fun c5 => ?_) (fun c5 => ?_)
        · replace hs := if_t hs c5
          refine V_iinc X (v3 + (1 : Int32)) dX4_plansUntil_28 3 rfl rfl [(3, .int (v3 + (1 : Int32))), (0, .ref (ad 4 t 0)), (1, .int p1), (2, .int v2)] (by decide) rfl ?_
          refine V_goto X 4 dX4_plansUntil_31 (by decide) ?_
          refine V_sub [1, 2, 3, 0] rfl ?_
          exact ih4 _ _ hs
        · replace hs := if_f hs c5
          refine V_iinc X (v2 + (1 : Int32)) dX4_plansUntil_25 2 rfl rfl [(2, .int (v2 + (1 : Int32))), (0, .ref (ad 4 t 0)), (1, .int p1), (3, .int v3)] (by decide) rfl ?_
          refine V_iinc X (v3 + (1 : Int32)) dX4_plansUntil_28 3 rfl rfl [(3, .int (v3 + (1 : Int32))), (2, .int (v2 + (1 : Int32))), (0, .ref (ad 4 t 0)), (1, .int p1)] (by decide) rfl ?_
          refine V_goto X 4 dX4_plansUntil_31 (by decide) ?_
          refine V_sub [2, 3, 1, 0] rfl ?_
          exact ih4 _ _ hs
  refine V_sub [2, 3, 1, 0] rfl ?_
  exact L4 _ _ _ hs

def s_X4_planOf (np : Nat) (fu : Nat) (t : Nat) (p1 : Int32) (S : S4) : Option (Option Nat) := (s_X4_plansUntil np fu t p1 S).bind fun q1 => (if q1 ≤ 0 then some none else gd (inb (q1 - (1 : Int32)) 5) (some (pcd (S 17 t 0 (q1 - (1 : Int32)).toNatClampNeg))))
set_option maxRecDepth 100000 in
set_option maxHeartbeats 4000000 in
theorem c_X4_planOf {l : Launch} {D : va_G} {cA : Nat → ClassId} {dm : Dm} {ad : Ad} {np : Nat} {fu : Nat} {S : S4} {t : Nat} {p1 : Int32} (ht : DS dm t) (hnp : ∀ i, i < np → DP dm i) {out : (Option Nat)} (hs : s_X4_planOf np fu t p1 S = some out) : Ct D cA dm ad l yX4_planOf cX4_planOf 3 (some (.object "ParcelSorter$Plan")) 1 23 S [.ref (ad 4 t 0), .int p1] (some (va_rf (out.map (ad 2 0)))) S := by
  refine Ct.of (by decide +kernel) (Nat.le_of_ble_eq_true rfl) [(0, .ref (ad 4 t 0)), (1, .int p1)] rfl (fun p e s m args below meth c A X hr => ?_)
  unfold s_X4_planOf at hs
  refine V_aload_n X dX4_planOf_0 rfl 0 rfl ?_
  refine V_iload_n X dX4_planOf_1 rfl 1 rfl ?_
  obtain ⟨q1, eq1, hs⟩ := bd_some hs
  refine V_callVs X [.int p1] dX4_planOf_2 m_X4_129 v_X4_plansUntil ⟨Nat.le_of_ble_eq_true rfl, Nat.le_of_ble_eq_true rfl⟩ ⟨Nat.zero_le _, Nat.zero_le _⟩ rfl (Nat.le_of_ble_eq_true rfl) (gm4 ht) rfl cl4 (c_X4_plansUntil ht hnp eq1) ?_
  refine V_istore_n X dX4_planOf_5 rfl [(2, .int q1), (0, .ref (ad 4 t 0)), (1, .int p1)] (by decide) rfl ?_
  refine V_iload_n X dX4_planOf_6 rfl 0 rfl ?_
  refine V_if_le X 21 dX4_planOf_7 (by decide) (fun c2 => ?_) (fun c2 => ?_)
  · replace hs := if_t hs c2
    refine V_null X dX4_planOf_21 ?_
    obtain rfl := Option.some.inj hs
    exact V_aret X hr (Or.inl rfl) dX4_planOf_22
  · replace hs := if_f hs c2
    refine V_aload_n X dX4_planOf_10 rfl 1 rfl ?_
    refine V_get X dX4_planOf_11 r_X4_25 (gm4 ht) rfl rfl ?_
    refine V_iload_n X dX4_planOf_14 rfl 0 rfl ?_
    refine V_iconst X (1 : Int32) dX4_planOf_15 (by decide) ?_
    refine V_isub X dX4_planOf_16 ?_
    obtain ⟨h3, hs⟩ := gd_some hs
    refine V_aald X 5 rfl dX4_planOf_17 (gm17 ht) rfl h3 (v := va_rf ((pcd (S 17 t 0 (q1 - (1 : Int32)).toNatClampNeg)).map (ad 2 0))) rfl ?_
    refine V_goto X 22 dX4_planOf_18 (by decide) ?_
    obtain rfl := Option.some.inj hs
    exact V_aret X hr (rf_or _) dX4_planOf_22

def s_X4_hasPlanFrom (np : Nat) (fu : Nat) (t : Nat) (p1 : Int32) (S : S4) : Option Int32 := (s_X4_planOf np fu t p1 S).bind fun q1 => (if q1 = none then some (0 : Int32) else q1.bind fun i4 => gd (i4 < np) ((if (S 2 0 i4 0) = p1 then some (1 : Int32) else some (0 : Int32))))
set_option maxRecDepth 100000 in
set_option maxHeartbeats 4000000 in
theorem c_X4_hasPlanFrom {l : Launch} {D : va_G} {cA : Nat → ClassId} {dm : Dm} {ad : Ad} {np : Nat} {fu : Nat} {S : S4} {t : Nat} {p1 : Int32} (ht : DS dm t) (hnp : ∀ i, i < np → DP dm i) {out : Int32} (hs : s_X4_hasPlanFrom np fu t p1 S = some out) : Ct D cA dm ad l yX4_hasPlanFrom cX4_hasPlanFrom 3 (some .boolean) 2 45 S [.ref (ad 4 t 0), .int p1] (some (.int out)) S := by
  refine Ct.of (by decide +kernel) (Nat.le_of_ble_eq_true rfl) [(0, .ref (ad 4 t 0)), (1, .int p1)] rfl (fun p e s m args below meth c A X hr => ?_)
  unfold s_X4_hasPlanFrom at hs
  refine V_aload_n X dX4_hasPlanFrom_0 rfl 0 rfl ?_
  refine V_iload_n X dX4_hasPlanFrom_1 rfl 1 rfl ?_
  obtain ⟨q1, eq1, hs⟩ := bd_some hs
  refine V_callVs X [.int p1] dX4_hasPlanFrom_2 m_X4_133 v_X4_planOf ⟨Nat.le_of_ble_eq_true rfl, Nat.le_of_ble_eq_true rfl⟩ ⟨Nat.zero_le _, Nat.zero_le _⟩ rfl (Nat.le_of_ble_eq_true rfl) (gm4 ht) rfl cl4 (c_X4_planOf ht hnp eq1) ?_
  by_cases c2 : q1 = none
  · replace hs := if_t hs c2
    rw [c2, rfn]
    refine V_astore_nN X dX4_hasPlanFrom_5 rfl [(2, .null), (0, .ref (ad 4 t 0)), (1, .int p1)] (by decide) rfl ?_
    refine V_aload_nN X dX4_hasPlanFrom_6 rfl 0 rfl ?_
    refine V_ifnullN X 22 dX4_hasPlanFrom_7 (by decide) ?_
    refine V_iconst X (0 : Int32) dX4_hasPlanFrom_22 (by decide) ?_
    obtain rfl := Option.some.inj hs; exact V_zret X hr nb0 dX4_hasPlanFrom_23
  · replace hs := if_f hs c2
    obtain ⟨i4, qi4, hs⟩ := bd_some hs
    obtain ⟨h5, hs⟩ := gd_some hs
    rw [qi4, rfs]
    refine V_astore_n X dX4_hasPlanFrom_5 rfl [(2, .ref (ad 2 0 i4)), (0, .ref (ad 4 t 0)), (1, .int p1)] (by decide) rfl ?_
    refine V_aload_n X dX4_hasPlanFrom_6 rfl 0 rfl ?_
    refine V_ifnull X dX4_hasPlanFrom_7 ?_
    refine V_aload_n X dX4_hasPlanFrom_10 rfl 0 rfl ?_
    refine V_get X dX4_hasPlanFrom_11 r_X4_126 (gm2 (hnp _ h5)) rfl rfl ?_
    refine V_iload_n X dX4_hasPlanFrom_14 rfl 2 rfl ?_
    refine V_icmp_ne X 22 dX4_hasPlanFrom_15 (by decide) (fun c7 => ?_) (fun c7 => ?_)
    · replace hs := if_f hs c7
      refine V_iconst X (0 : Int32) dX4_hasPlanFrom_22 (by decide) ?_
      obtain rfl := Option.some.inj hs; exact V_zret X hr nb0 dX4_hasPlanFrom_23
    · replace hs := if_t hs c7
      refine V_iconst X (1 : Int32) dX4_hasPlanFrom_18 (by decide) ?_
      refine V_goto X 23 dX4_hasPlanFrom_19 (by decide) ?_
      obtain rfl := Option.some.inj hs; exact V_zret X hr nb1 dX4_hasPlanFrom_23

def s_X4_putPlan_L45 (np : Nat) (fu : Nat) (t : Nat) (i1 : Nat) : Nat → Int32 → Int32 → S4 → Option S4
  | 0, _, _, _ => none
  | f45+1, v2, v3, Z5 => (if v3 ≤ v2 then gd (inb v2 5) (gd (pcd (nI i1) = some i1) (sv (u4 Z5 17 t 0 (v2.toNatClampNeg) (nI i1)) fun Z9 => sv (u4 Z9 4 t 0 5 ((Z9 4 t 0 5) + (1 : Int32))) fun Z10 => some Z10)) else gd (inb (v3 - (1 : Int32)) 5) (gd (inb v3 5) (gd ((Z5 17 t 0 (v3 - (1 : Int32)).toNatClampNeg) < 0 ∨ (Z5 17 t 0 (v3 - (1 : Int32)).toNatClampNeg).toNatClampNeg < np) (sv (u4 Z5 17 t 0 (v3.toNatClampNeg) (Z5 17 t 0 (v3 - (1 : Int32)).toNatClampNeg)) fun Z14 => s_X4_putPlan_L45 np fu t i1 f45 v2 (v3 + (-1 : Int32)) Z14))))
def s_X4_putPlan (np : Nat) (fu : Nat) (t : Nat) (i1 : Nat) (S : S4) : Option S4 := (s_X4_plansUntil np fu t (S 2 0 i1 0) S).bind fun q1 => (s_X4_hasPlanFrom np fu t (S 2 0 i1 0) S).bind fun q2 => (if q2 = 0 then (if (5 : Int32) ≤ (S 4 t 0 5) then some S else s_X4_putPlan_L45 np fu t i1 fu q1 (S 4 t 0 5) S) else gd (inb (q1 - (1 : Int32)) 5) (gd (pcd (nI i1) = some i1) (sv (u4 S 17 t 0 ((q1 - (1 : Int32)).toNatClampNeg) (nI i1)) fun Z17 => some Z17)))
set_option maxRecDepth 100000 in
set_option maxHeartbeats 4000000 in
theorem c_X4_putPlan {l : Launch} {D : va_G} {cA : Nat → ClassId} {dm : Dm} {ad : Ad} {np : Nat} {fu : Nat} {S : S4} {t : Nat} {i1 : Nat} (ht : DS dm t) (hi1 : DP dm i1) (hnp : ∀ i, i < np → DP dm i) {out : S4} (hs : s_X4_putPlan np fu t i1 S = some out) : Ct D cA dm ad l yX4_putPlan cX4_putPlan 4 none 3 67 S [.ref (ad 4 t 0), .ref (ad 2 0 i1)] none out := by
  refine Ct.of (by decide +kernel) (Nat.le_of_ble_eq_true rfl) [(0, .ref (ad 4 t 0)), (1, .ref (ad 2 0 i1))] rfl (fun p e s m args below meth c A X hr => ?_)
  unfold s_X4_putPlan at hs
  refine V_aload_n X dX4_putPlan_0 rfl 0 rfl ?_
  refine V_aload_n X dX4_putPlan_1 rfl 1 rfl ?_
  refine V_get X dX4_putPlan_2 r_X4_126 (gm2 hi1) rfl rfl ?_
  obtain ⟨q1, eq1, hs⟩ := bd_some hs
  refine V_callVs X [.int (S 2 0 i1 0)] dX4_putPlan_5 m_X4_129 v_X4_plansUntil ⟨Nat.le_of_ble_eq_true rfl, Nat.le_of_ble_eq_true rfl⟩ ⟨Nat.zero_le _, Nat.zero_le _⟩ rfl (Nat.le_of_ble_eq_true rfl) (gm4 ht) rfl cl4 (c_X4_plansUntil ht hnp eq1) ?_
  refine V_istore_n X dX4_putPlan_8 rfl [(2, .int q1), (0, .ref (ad 4 t 0)), (1, .ref (ad 2 0 i1))] (by decide) rfl ?_
  refine V_aload_n X dX4_putPlan_9 rfl 1 rfl ?_
  refine V_aload_n X dX4_putPlan_10 rfl 2 rfl ?_
  refine V_get X dX4_putPlan_11 r_X4_126 (gm2 hi1) rfl rfl ?_
  obtain ⟨q2, eq2, hs⟩ := bd_some hs
  refine V_callVs X [.int (S 2 0 i1 0)] dX4_putPlan_14 m_X4_137 v_X4_hasPlanFrom ⟨Nat.le_of_ble_eq_true rfl, Nat.le_of_ble_eq_true rfl⟩ ⟨Nat.zero_le _, Nat.zero_le _⟩ rfl (Nat.le_of_ble_eq_true rfl) (gm4 ht) rfl cl4 (c_X4_hasPlanFrom ht hnp eq2) ?_
  refine V_if_eq X 32 dX4_putPlan_17 (by decide) (fun c3 => ?_) (fun c3 => ?_)
  · replace hs := if_t hs c3
    refine V_aload_n X dX4_putPlan_32 rfl 1 rfl ?_
    refine V_get X dX4_putPlan_33 r_X4_68 (gm4 ht) rfl rfl ?_
    refine V_iconst X (5 : Int32) dX4_putPlan_36 (by decide) ?_
    refine V_icmp_ge X 87 dX4_putPlan_37 (by decide) (fun c4 => ?_) (fun c4 => ?_)
    · replace hs := if_t hs c4
      obtain rfl := Option.some.inj hs; exact V_vret X hr dX4_putPlan_87
    · replace hs := if_f hs c4
      refine V_aload_n X dX4_putPlan_40 rfl 1 rfl ?_
      refine V_get X dX4_putPlan_41 r_X4_68 (gm4 ht) rfl rfl ?_
      refine V_istore_n X dX4_putPlan_44 rfl [(3, .int (S 4 t 0 5)), (2, .int q1), (0, .ref (ad 4 t 0)), (1, .ref (ad 2 0 i1))] (by decide) rfl ?_
      have L45 : ∀ (n : Nat) (v2 v3 : Int32) (S1 : S4), s_X4_putPlan_L45 np fu t i1 n v2 v3 S1 = some out → V D cA dm ad A 4 p l e ({ frames := 3, cells := 0, slots := 0, locals := 67 }) s m args below meth c 0 0 (MQ below (gQ D cA dm ad out none A) args s 0 0 A) S1 45 [(0, .ref (ad 4 t 0)), (1, .ref (ad 2 0 i1)), (2, .int v2), (3, .int v3)] [] := by
        intro n
        induction n with
        | zero => intro v2 v3 S1 hs; rw [s_X4_putPlan_L45] at hs; cases hs
        | succ f45 ih45 =>
          intro v2 v3 Z5 hs
          rw [s_X4_putPlan_L45] at hs
          refine V_iload_n X dX4_putPlan_45 rfl 3 rfl ?_
          refine V_iload_n X dX4_putPlan_46 rfl 2 rfl ?_
          refine V_icmp_le X 70 dX4_putPlan_47 (by decide) (fun c6 => ?_) (fun c6 => ?_)
          · replace hs := if_t hs c6
            refine V_aload_n X dX4_putPlan_70 rfl 0 rfl ?_
            refine V_get X dX4_putPlan_71 r_X4_25 (gm4 ht) rfl rfl ?_
            refine V_iload_n X dX4_putPlan_74 rfl 2 rfl ?_
            refine V_aload_n X dX4_putPlan_75 rfl 1 rfl ?_
            obtain ⟨h7, hs⟩ := gd_some hs
            obtain ⟨h8, hs⟩ := gd_some hs
            refine V_aast X dX4_putPlan_76 ht h7 (z := (nI i1)) (pcd_lt h8 hi1) (by rw [h8, rfs]) (fun Z9 eZ9 => ?_)
            replace hs := sv_some hs Z9 eZ9
            clear eZ9
            refine V_aload_n X dX4_putPlan_77 rfl 0 rfl ?_
            refine V_dup X dX4_putPlan_78 rfl ?_
            refine V_get X dX4_putPlan_79 r_X4_68 (gm4 ht) rfl rfl ?_
            refine V_iconst X (1 : Int32) dX4_putPlan_82 (by decide) ?_
            refine V_iadd X dX4_putPlan_83 ?_
            refine V_put X dX4_putPlan_84 f_X4_68 (gm4 ht) rfl (Nat.le_of_ble_eq_true rfl) rfl rfl rfl (fun Z10 eZ10 => ?_)
            replace hs := sv_some hs Z10 eZ10
            clear eZ10
            obtain rfl := Option.some.inj hs; exact V_vret X hr dX4_putPlan_87
          · replace hs := if_f hs c6
            refine V_aload_n X dX4_putPlan_50 rfl 0 rfl ?_
            refine V_get X dX4_putPlan_51 r_X4_25 (gm4 ht) rfl rfl ?_
            refine V_iload_n X dX4_putPlan_54 rfl 3 rfl ?_
            refine V_aload_n X dX4_putPlan_55 rfl 0 rfl ?_
            refine V_get X dX4_putPlan_56 r_X4_25 (gm4 ht) rfl rfl ?_
            refine V_iload_n X dX4_putPlan_59 rfl 3 rfl ?_
            refine V_iconst X (1 : Int32) dX4_putPlan_60 (by decide) ?_
            refine V_isub X dX4_putPlan_61 ?_
            obtain ⟨h11, hs⟩ := gd_some hs
            refine V_aald X 5 rfl dX4_putPlan_62 (gm17 ht) rfl h11 (v := va_rf ((pcd (Z5 17 t 0 (v3 - (1 : Int32)).toNatClampNeg)).map (ad 2 0))) rfl ?_
            obtain ⟨h12, hs⟩ := gd_some hs
            obtain ⟨h13, hs⟩ := gd_some hs
            refine V_aast X dX4_putPlan_63 ht h12 (z := (Z5 17 t 0 (v3 - (1 : Int32)).toNatClampNeg)) (or_np h13 hnp) rfl (fun Z14 eZ14 => ?_)
            replace hs := sv_some hs Z14 eZ14
            clear eZ14
            refine V_iinc X (v3 + (-1 : Int32)) dX4_putPlan_64 3 rfl rfl [(3, .int (v3 + (-1 : Int32))), (0, .ref (ad 4 t 0)), (1, .ref (ad 2 0 i1)), (2, .int v2)] (by decide) rfl ?_
            refine V_goto X 45 dX4_putPlan_67 (by decide) ?_
            refine V_sub [1, 2, 3, 0] rfl ?_
            exact ih45 _ _ _ hs
      refine V_sub [2, 3, 1, 0] rfl ?_
      exact L45 _ _ _ _ hs
  · replace hs := if_f hs c3
    refine V_aload_n X dX4_putPlan_20 rfl 1 rfl ?_
    refine V_get X dX4_putPlan_21 r_X4_25 (gm4 ht) rfl rfl ?_
    refine V_iload_n X dX4_putPlan_24 rfl 0 rfl ?_
    refine V_iconst X (1 : Int32) dX4_putPlan_25 (by decide) ?_
    refine V_isub X dX4_putPlan_26 ?_
    refine V_aload_n X dX4_putPlan_27 rfl 2 rfl ?_
    obtain ⟨h15, hs⟩ := gd_some hs
    obtain ⟨h16, hs⟩ := gd_some hs
    refine V_aast X dX4_putPlan_28 ht h15 (z := (nI i1)) (pcd_lt h16 hi1) (by rw [h16, rfs]) (fun Z17 eZ17 => ?_)
    replace hs := sv_some hs Z17 eZ17
    clear eZ17
    refine V_goto X 87 dX4_putPlan_29 (by decide) ?_
    obtain rfl := Option.some.inj hs; exact V_vret X hr dX4_putPlan_87

def s_X2_ruleOf_L2 (fu : Nat) (i : Nat) (p1 : Int32) (S : S4) : Nat → Int32 → Option Int32
  | 0, _ => none
  | f2+1, v2 => (if (S 2 0 i 1) ≤ v2 then some (-1 : Int32) else gd (inb v2 8) (gd (inb v2 8) ((s_X6_isIn p1 (S 10 0 i v2.toNatClampNeg) (S 11 0 i v2.toNatClampNeg) S).bind fun q4 => (if q4 = 0 then s_X2_ruleOf_L2 fu i p1 S f2 (v2 + (1 : Int32)) else some v2))))
def s_X2_ruleOf (fu : Nat) (i : Nat) (p1 : Int32) (S : S4) : Option Int32 := s_X2_ruleOf_L2 fu i p1 S fu (0 : Int32)
set_option maxRecDepth 100000 in
set_option maxHeartbeats 4000000 in
theorem c_X2_ruleOf {l : Launch} {D : va_G} {cA : Nat → ClassId} {dm : Dm} {ad : Ad} {fu : Nat} {S : S4} {i : Nat} {p1 : Int32} (hi : DP dm i) {out : Int32} (hs : s_X2_ruleOf fu i p1 S = some out) : Ct D cA dm ad l yX2_ruleOf cX2_ruleOf 3 (some .int) 1 22 S [.ref (ad 2 0 i), .int p1] (some (.int out)) S := by
  refine Ct.of (by decide +kernel) (Nat.le_of_ble_eq_true rfl) [(0, .ref (ad 2 0 i)), (1, .int p1)] rfl (fun p e s m args below meth c A X hr => ?_)
  unfold s_X2_ruleOf at hs
  refine V_iconst X (0 : Int32) dX2_ruleOf_0 (by decide) ?_
  refine V_istore_n X dX2_ruleOf_1 rfl [(2, .int (0 : Int32)), (0, .ref (ad 2 0 i)), (1, .int p1)] (by decide) rfl ?_
  have L2 : ∀ (n : Nat) (v2 : Int32) , s_X2_ruleOf_L2 fu i p1 S n v2 = some out → V D cA dm ad A 3 p l e ({ frames := 1, cells := 0, slots := 0, locals := 22 }) s m args below meth c 0 0 (MQ below (gQ D cA dm ad S (some (.int out)) A) args s 0 0 A) S 2 [(0, .ref (ad 2 0 i)), (1, .int p1), (2, .int v2)] [] := by
    intro n
    induction n with
    | zero => intro v2 hs; rw [s_X2_ruleOf_L2] at hs; cases hs
    | succ f2 ih2 =>
      intro v2 hs
      rw [s_X2_ruleOf_L2] at hs
      refine V_iload_n X dX2_ruleOf_2 rfl 2 rfl ?_
      refine V_aload_n X dX2_ruleOf_3 rfl 0 rfl ?_
      refine V_get X dX2_ruleOf_4 r_X2_28 (gm2 hi) rfl rfl ?_
      refine V_icmp_ge X 37 dX2_ruleOf_7 (by decide) (fun c1 => ?_) (fun c1 => ?_)
      · replace hs := if_t hs c1
        refine V_iconst X (-1 : Int32) dX2_ruleOf_37 (by decide) ?_
        obtain rfl := Option.some.inj hs; exact V_iret X hr dX2_ruleOf_38
      · replace hs := if_f hs c1
        refine V_iload_n X dX2_ruleOf_10 rfl 1 rfl ?_
        refine V_aload_n X dX2_ruleOf_11 rfl 0 rfl ?_
        refine V_get X dX2_ruleOf_12 r_X2_15 (gm2 hi) rfl rfl ?_
        refine V_iload_n X dX2_ruleOf_15 rfl 2 rfl ?_
        obtain ⟨h2, hs⟩ := gd_some hs
        refine V_iald X dX2_ruleOf_16 (gm10 hi) rfl h2 ?_
        refine V_aload_n X dX2_ruleOf_17 rfl 0 rfl ?_
        refine V_get X dX2_ruleOf_18 r_X2_19 (gm2 hi) rfl rfl ?_
        refine V_iload_n X dX2_ruleOf_21 rfl 2 rfl ?_
        obtain ⟨h3, hs⟩ := gd_some hs
        refine V_iald X dX2_ruleOf_22 (gm11 hi) rfl h3 ?_
        obtain ⟨q4, eq4, hs⟩ := bd_some hs
        refine V_callSNs X [.int p1, .int (S 10 0 i v2.toNatClampNeg), .int (S 11 0 i v2.toNatClampNeg)] dX2_ruleOf_23 ne_X2_31 ⟨Nat.le_of_ble_eq_true rfl, Nat.le_of_ble_eq_true rfl⟩ ⟨Nat.zero_le _, Nat.zero_le _⟩ rfl (Nat.le_of_ble_eq_true rfl) (c_X6_isIn  eq4) ?_
        refine V_if_eq X 31 dX2_ruleOf_26 (by decide) (fun c5 => ?_) (fun c5 => ?_)
        · replace hs := if_t hs c5
          refine V_iinc X (v2 + (1 : Int32)) dX2_ruleOf_31 2 rfl rfl [(2, .int (v2 + (1 : Int32))), (0, .ref (ad 2 0 i)), (1, .int p1)] (by decide) rfl ?_
          refine V_goto X 2 dX2_ruleOf_34 (by decide) ?_
          refine V_sub [1, 2, 0] rfl ?_
          exact ih2 _ hs
        · replace hs := if_f hs c5
          refine V_iload_n X dX2_ruleOf_29 rfl 2 rfl ?_
          obtain rfl := Option.some.inj hs; exact V_iret X hr dX2_ruleOf_30
  refine V_sub [1, 2, 0] rfl ?_
  exact L2 _ _ hs

def s_X2_destinationsWithoutRule_L4 (fu : Nat) (i : Nat) (S : S4) : Nat → Int32 → Int32 → Option Int32
  | 0, _, _ => none
  | f4+1, v1, v2 => (if (100 : Int32) ≤ v2 then some v1 else (s_X2_ruleOf fu i v2 S).bind fun q2 => (if q2 = (-1 : Int32) then s_X2_destinationsWithoutRule_L4 fu i S f4 (v1 + (1 : Int32)) (v2 + (1 : Int32)) else s_X2_destinationsWithoutRule_L4 fu i S f4 v1 (v2 + (1 : Int32))))
def s_X2_destinationsWithoutRule (fu : Nat) (i : Nat) (S : S4) : Option Int32 := s_X2_destinationsWithoutRule_L4 fu i S fu (0 : Int32) (0 : Int32)
set_option maxRecDepth 100000 in
set_option maxHeartbeats 4000000 in
theorem c_X2_destinationsWithoutRule {l : Launch} {D : va_G} {cA : Nat → ClassId} {dm : Dm} {ad : Ad} {fu : Nat} {S : S4} {i : Nat} (hi : DP dm i) {out : Int32} (hs : s_X2_destinationsWithoutRule fu i S = some out) : Ct D cA dm ad l yX2_destinationsWithoutRule cX2_destinationsWithoutRule 3 (some .int) 2 44 S [.ref (ad 2 0 i)] (some (.int out)) S := by
  refine Ct.of (by decide +kernel) (Nat.le_of_ble_eq_true rfl) [(0, .ref (ad 2 0 i))] rfl (fun p e s m args below meth c A X hr => ?_)
  unfold s_X2_destinationsWithoutRule at hs
  refine V_iconst X (0 : Int32) dX2_destinationsWithoutRule_0 (by decide) ?_
  refine V_istore_n X dX2_destinationsWithoutRule_1 rfl [(1, .int (0 : Int32)), (0, .ref (ad 2 0 i))] (by decide) rfl ?_
  refine V_iconst X (0 : Int32) dX2_destinationsWithoutRule_2 (by decide) ?_
  refine V_istore_n X dX2_destinationsWithoutRule_3 rfl [(2, .int (0 : Int32)), (1, .int (0 : Int32)), (0, .ref (ad 2 0 i))] (by decide) rfl ?_
  have L4 : ∀ (n : Nat) (v1 v2 : Int32) , s_X2_destinationsWithoutRule_L4 fu i S n v1 v2 = some out → V D cA dm ad A 3 p l e ({ frames := 2, cells := 0, slots := 0, locals := 44 }) s m args below meth c 0 0 (MQ below (gQ D cA dm ad S (some (.int out)) A) args s 0 0 A) S 4 [(0, .ref (ad 2 0 i)), (1, .int v1), (2, .int v2)] [] := by
    intro n
    induction n with
    | zero => intro v1 v2 hs; rw [s_X2_destinationsWithoutRule_L4] at hs; cases hs
    | succ f4 ih4 =>
      intro v1 v2 hs
      rw [s_X2_destinationsWithoutRule_L4] at hs
      refine V_iload_n X dX2_destinationsWithoutRule_4 rfl 2 rfl ?_
      refine V_bipush X (100 : Int32) dX2_destinationsWithoutRule_5 (by decide) ?_
      refine V_icmp_ge X 28 dX2_destinationsWithoutRule_7 (by decide) (fun c1 => ?_) (fun c1 => ?_)
      · replace hs := if_t hs c1
        refine V_iload_n X dX2_destinationsWithoutRule_28 rfl 1 rfl ?_
        obtain rfl := Option.some.inj hs; exact V_iret X hr dX2_destinationsWithoutRule_29
      · replace hs := if_f hs c1
        refine V_aload_n X dX2_destinationsWithoutRule_10 rfl 0 rfl ?_
        refine V_iload_n X dX2_destinationsWithoutRule_11 rfl 2 rfl ?_
        obtain ⟨q2, eq2, hs⟩ := bd_some hs
        refine V_callVs X [.int v2] dX2_destinationsWithoutRule_12 m_X2_39 v_X2_ruleOf ⟨Nat.le_of_ble_eq_true rfl, Nat.le_of_ble_eq_true rfl⟩ ⟨Nat.zero_le _, Nat.zero_le _⟩ rfl (Nat.le_of_ble_eq_true rfl) (gm2 hi) rfl cl2 (c_X2_ruleOf hi eq2) ?_
        refine V_iconst X (-1 : Int32) dX2_destinationsWithoutRule_15 (by decide) ?_
        refine V_icmp_ne X 22 dX2_destinationsWithoutRule_16 (by decide) (fun c3 => ?_) (fun c3 => ?_)
        · replace hs := if_f hs c3
          refine V_iinc X (v2 + (1 : Int32)) dX2_destinationsWithoutRule_22 2 rfl rfl [(2, .int (v2 + (1 : Int32))), (0, .ref (ad 2 0 i)), (1, .int v1)] (by decide) rfl ?_
          refine V_goto X 4 dX2_destinationsWithoutRule_25 (by decide) ?_
          refine V_sub [1, 2, 0] rfl ?_
          exact ih4 _ _ hs
        · replace hs := if_t hs c3
          refine V_iinc X (v1 + (1 : Int32)) dX2_destinationsWithoutRule_19 1 rfl rfl [(1, .int (v1 + (1 : Int32))), (0, .ref (ad 2 0 i)), (2, .int v2)] (by decide) rfl ?_
          refine V_iinc X (v2 + (1 : Int32)) dX2_destinationsWithoutRule_22 2 rfl rfl [(2, .int (v2 + (1 : Int32))), (1, .int (v1 + (1 : Int32))), (0, .ref (ad 2 0 i))] (by decide) rfl ?_
          refine V_goto X 4 dX2_destinationsWithoutRule_25 (by decide) ?_
          refine V_sub [2, 1, 0] rfl ?_
          exact ih4 _ _ hs
  refine V_sub [2, 1, 0] rfl ?_
  exact L4 _ _ _ hs

def s_X5_isFull (t : Nat) (i : Nat) (S : S4) : Option Int32 := (if (S 5 t i 1) < (10 : Int32) then some (0 : Int32) else some (1 : Int32))
set_option maxRecDepth 100000 in
set_option maxHeartbeats 4000000 in
theorem c_X5_isFull {l : Launch} {D : va_G} {cA : Nat → ClassId} {dm : Dm} {ad : Ad} {S : S4} {t : Nat} {i : Nat} (ht : DS dm t) (hi : i < 3) {out : Int32} (hs : s_X5_isFull t i S = some out) : Ct D cA dm ad l yX5_isFull cX5_isFull 1 (some .boolean) 0 0 S [.ref (ad 5 t i)] (some (.int out)) S := by
  refine Ct.of (by decide +kernel) (Nat.le_of_ble_eq_true rfl) [(0, .ref (ad 5 t i))] rfl (fun p e s m args below meth c A X hr => ?_)
  unfold s_X5_isFull at hs
  refine V_aload_n X dX5_isFull_0 rfl 0 rfl ?_
  refine V_get X dX5_isFull_1 r_X5_19 (gm5 ht hi) rfl rfl ?_
  refine V_bipush X (10 : Int32) dX5_isFull_4 (by decide) ?_
  refine V_icmp_lt X 13 dX5_isFull_6 (by decide) (fun c1 => ?_) (fun c1 => ?_)
  · replace hs := if_t hs c1
    refine V_iconst X (0 : Int32) dX5_isFull_13 (by decide) ?_
    obtain rfl := Option.some.inj hs; exact V_zret X hr nb0 dX5_isFull_14
  · replace hs := if_f hs c1
    refine V_iconst X (1 : Int32) dX5_isFull_9 (by decide) ?_
    refine V_goto X 14 dX5_isFull_10 (by decide) ?_
    obtain rfl := Option.some.inj hs; exact V_zret X hr nb1 dX5_isFull_14

def s_X1_reset (t : Nat) (i : Nat) (p1 : Int32) (p2 : Int32) (p3 : Int32) (S : S4) : Option S4 := sv (u4 S 1 t i 0 p2) fun Z1 => sv (u4 Z1 1 t i 1 p3) fun Z2 => sv (u4 Z2 1 t i 4 (0 : Int32)) fun Z3 => sv (u4 Z3 1 t i 5 p1) fun Z4 => sv (u4 Z4 1 t i 6 (0 : Int32)) fun Z5 => sv (u4 Z5 1 t i 7 (-1 : Int32)) fun Z6 => sv (u4 Z6 1 t i 8 (-1 : Int32)) fun Z7 => sv (u4 Z7 1 t i 9 (-1 : Int32)) fun Z8 => sv (u4 Z8 1 t i 10 (-1 : Int32)) fun Z9 => sv (u4 Z9 1 t i 11 (0 : Int32)) fun Z10 => some Z10
set_option maxRecDepth 100000 in
set_option maxHeartbeats 4000000 in
theorem c_X1_reset {l : Launch} {D : va_G} {cA : Nat → ClassId} {dm : Dm} {ad : Ad} {S : S4} {t : Nat} {i : Nat} {p1 : Int32} {p2 : Int32} {p3 : Int32} (ht : DS dm t) (hi : i < 60) {out : S4} (hs : s_X1_reset t i p1 p2 p3 S = some out) : Ct D cA dm ad l yX1_reset cX1_reset 4 none 0 0 S [.ref (ad 1 t i), .int p1, .int p2, .int p3] none out := by
  refine Ct.of (by decide +kernel) (Nat.le_of_ble_eq_true rfl) [(0, .ref (ad 1 t i)), (1, .int p1), (2, .int p2), (3, .int p3)] rfl (fun p e s m args below meth c A X hr => ?_)
  unfold s_X1_reset at hs
  refine V_aload_n X dX1_reset_0 rfl 0 rfl ?_
  refine V_iload_n X dX1_reset_1 rfl 2 rfl ?_
  refine V_put X dX1_reset_2 f_X1_9 (gm1 ht hi) rfl (Nat.le_of_ble_eq_true rfl) rfl rfl rfl (fun Z1 eZ1 => ?_)
  replace hs := sv_some hs Z1 eZ1
  clear eZ1
  refine V_aload_n X dX1_reset_5 rfl 0 rfl ?_
  refine V_iload_n X dX1_reset_6 rfl 3 rfl ?_
  refine V_put X dX1_reset_7 f_X1_15 (gm1 ht hi) rfl (Nat.le_of_ble_eq_true rfl) rfl rfl rfl (fun Z2 eZ2 => ?_)
  replace hs := sv_some hs Z2 eZ2
  clear eZ2
  refine V_aload_n X dX1_reset_10 rfl 0 rfl ?_
  refine V_iconst X (0 : Int32) dX1_reset_11 (by decide) ?_
  refine V_put X dX1_reset_12 f_X1_18 (gm1 ht hi) rfl (Nat.le_of_ble_eq_true rfl) rfl rfl rfl (fun Z3 eZ3 => ?_)
  replace hs := sv_some hs Z3 eZ3
  clear eZ3
  refine V_aload_n X dX1_reset_15 rfl 0 rfl ?_
  refine V_iload_n X dX1_reset_16 rfl 1 rfl ?_
  refine V_put X dX1_reset_17 f_X1_21 (gm1 ht hi) rfl (Nat.le_of_ble_eq_true rfl) rfl rfl rfl (fun Z4 eZ4 => ?_)
  replace hs := sv_some hs Z4 eZ4
  clear eZ4
  refine V_aload_n X dX1_reset_20 rfl 0 rfl ?_
  refine V_iconst X (0 : Int32) dX1_reset_21 (by decide) ?_
  refine V_put X dX1_reset_22 f_X1_24 (gm1 ht hi) rfl (Nat.le_of_ble_eq_true rfl) rfl rfl rfl (fun Z5 eZ5 => ?_)
  replace hs := sv_some hs Z5 eZ5
  clear eZ5
  refine V_aload_n X dX1_reset_25 rfl 0 rfl ?_
  refine V_iconst X (-1 : Int32) dX1_reset_26 (by decide) ?_
  refine V_put X dX1_reset_27 f_X1_27 (gm1 ht hi) rfl (Nat.le_of_ble_eq_true rfl) rfl rfl rfl (fun Z6 eZ6 => ?_)
  replace hs := sv_some hs Z6 eZ6
  clear eZ6
  refine V_aload_n X dX1_reset_30 rfl 0 rfl ?_
  refine V_iconst X (-1 : Int32) dX1_reset_31 (by decide) ?_
  refine V_put X dX1_reset_32 f_X1_30 (gm1 ht hi) rfl (Nat.le_of_ble_eq_true rfl) rfl rfl rfl (fun Z7 eZ7 => ?_)
  replace hs := sv_some hs Z7 eZ7
  clear eZ7
  refine V_aload_n X dX1_reset_35 rfl 0 rfl ?_
  refine V_iconst X (-1 : Int32) dX1_reset_36 (by decide) ?_
  refine V_put X dX1_reset_37 f_X1_33 (gm1 ht hi) rfl (Nat.le_of_ble_eq_true rfl) rfl rfl rfl (fun Z8 eZ8 => ?_)
  replace hs := sv_some hs Z8 eZ8
  clear eZ8
  refine V_aload_n X dX1_reset_40 rfl 0 rfl ?_
  refine V_iconst X (-1 : Int32) dX1_reset_41 (by decide) ?_
  refine V_put X dX1_reset_42 f_X1_36 (gm1 ht hi) rfl (Nat.le_of_ble_eq_true rfl) rfl rfl rfl (fun Z9 eZ9 => ?_)
  replace hs := sv_some hs Z9 eZ9
  clear eZ9
  refine V_aload_n X dX1_reset_45 rfl 0 rfl ?_
  refine V_iconst X (0 : Int32) dX1_reset_46 (by decide) ?_
  refine V_put X dX1_reset_47 f_X1_39 (gm1 ht hi) rfl (Nat.le_of_ble_eq_true rfl) rfl rfl rfl (fun Z10 eZ10 => ?_)
  replace hs := sv_some hs Z10 eZ10
  clear eZ10
  obtain rfl := Option.some.inj hs; exact V_vret X hr dX1_reset_50

def s_X5_append (t : Nat) (i : Nat) (p1 : Int32) (S : S4) : Option S4 := (s_X5_isFull t i S).bind fun q1 => (if q1 = 0 then gd (inb (S 5 t i 1) 10) (sv (u4 S 14 t i ((S 5 t i 1).toNatClampNeg) p1) fun Z4 => sv (u4 Z4 5 t i 1 ((Z4 5 t i 1) + (1 : Int32))) fun Z5 => some Z5) else some S)
set_option maxRecDepth 100000 in
set_option maxHeartbeats 4000000 in
theorem c_X5_append {l : Launch} {D : va_G} {cA : Nat → ClassId} {dm : Dm} {ad : Ad} {S : S4} {t : Nat} {i : Nat} {p1 : Int32} (ht : DS dm t) (hi : i < 3) {out : S4} (hs : s_X5_append t i p1 S = some out) : Ct D cA dm ad l yX5_append cX5_append 2 none 1 20 S [.ref (ad 5 t i), .int p1] none out := by
  refine Ct.of (by decide +kernel) (Nat.le_of_ble_eq_true rfl) [(0, .ref (ad 5 t i)), (1, .int p1)] rfl (fun p e s m args below meth c A X hr => ?_)
  unfold s_X5_append at hs
  refine V_aload_n X dX5_append_0 rfl 0 rfl ?_
  obtain ⟨q1, eq1, hs⟩ := bd_some hs
  refine V_callVs X [] dX5_append_1 m_X5_31 v_X5_isFull ⟨Nat.le_of_ble_eq_true rfl, Nat.le_of_ble_eq_true rfl⟩ ⟨Nat.zero_le _, Nat.zero_le _⟩ rfl (Nat.le_of_ble_eq_true rfl) (gm5 ht hi) rfl cl5 (c_X5_isFull ht hi eq1) ?_
  refine V_if_ne X 27 dX5_append_4 (by decide) (fun c2 => ?_) (fun c2 => ?_)
  · replace hs := if_f hs c2
    obtain rfl := Option.some.inj hs; exact V_vret X hr dX5_append_27
  · replace hs := if_t hs c2
    refine V_aload_n X dX5_append_7 rfl 0 rfl ?_
    refine V_get X dX5_append_8 r_X5_9 (gm5 ht hi) rfl rfl ?_
    refine V_aload_n X dX5_append_11 rfl 0 rfl ?_
    refine V_get X dX5_append_12 r_X5_19 (gm5 ht hi) rfl rfl ?_
    refine V_iload_n X dX5_append_15 rfl 1 rfl ?_
    obtain ⟨h3, hs⟩ := gd_some hs
    refine V_iast X dX5_append_16 (gm14 ht hi) (fun _ => rfl) h3 (fun Z4 eZ4 => ?_)
    replace hs := sv_some hs Z4 eZ4
    clear eZ4
    refine V_aload_n X dX5_append_17 rfl 0 rfl ?_
    refine V_dup X dX5_append_18 rfl ?_
    refine V_get X dX5_append_19 r_X5_19 (gm5 ht hi) rfl rfl ?_
    refine V_iconst X (1 : Int32) dX5_append_22 (by decide) ?_
    refine V_iadd X dX5_append_23 ?_
    refine V_put X dX5_append_24 f_X5_19 (gm5 ht hi) rfl (Nat.le_of_ble_eq_true rfl) rfl rfl rfl (fun Z5 eZ5 => ?_)
    replace hs := sv_some hs Z5 eZ5
    clear eZ5
    obtain rfl := Option.some.inj hs; exact V_vret X hr dX5_append_27

def s_X4_putParcel_L5 (fu : Nat) (t : Nat) (p1 : Int32) (p2 : Int32) : Nat → Int32 → Int32 → S4 → Option (Int32 × S4)
  | 0, _, _, _ => none
  | f5+1, v3, v4, Z1 => (if (Z1 4 t 0 6) ≤ v4 then gd (inb (Z1 4 t 0 6) 60) ((s_X1_reset t ((Z1 4 t 0 6).toNatClampNeg) p1 p2 v3 Z1).bind fun Z5 => gd (inb p1 3) ((s_X5_append t p1.toNatClampNeg (Z5 4 t 0 6) Z5).bind fun Z8 => sv (u4 Z8 4 t 0 6 ((Z8 4 t 0 6) + (1 : Int32))) fun Z9 => some (((Z9 4 t 0 6) - (1 : Int32)), Z9))) else gd (inb v4 60) ((if (Z1 1 t v4.toNatClampNeg 0) = p2 then s_X4_putParcel_L5 fu t p1 p2 f5 (v3 + (1 : Int32)) (v4 + (1 : Int32)) Z1 else s_X4_putParcel_L5 fu t p1 p2 f5 v3 (v4 + (1 : Int32)) Z1)))
def s_X4_putParcel (fu : Nat) (t : Nat) (p1 : Int32) (p2 : Int32) (S : S4) : Option (Int32 × S4) := s_X4_putParcel_L5 fu t p1 p2 fu (0 : Int32) (0 : Int32) S
set_option maxRecDepth 100000 in
set_option maxHeartbeats 4000000 in
theorem c_X4_putParcel {l : Launch} {D : va_G} {cA : Nat → ClassId} {dm : Dm} {ad : Ad} {fu : Nat} {S : S4} {t : Nat} {p1 : Int32} {p2 : Int32} (ht : DS dm t) {out : (Int32 × S4)} (hs : s_X4_putParcel fu t p1 p2 S = some out) : Ct D cA dm ad l yX4_putParcel cX4_putParcel 5 (some .int) 2 41 S [.ref (ad 4 t 0), .int p1, .int p2] (some (.int out.1)) out.2 := by
  refine Ct.of (by decide +kernel) (Nat.le_of_ble_eq_true rfl) [(0, .ref (ad 4 t 0)), (1, .int p1), (2, .int p2)] rfl (fun p e s m args below meth c A X hr => ?_)
  unfold s_X4_putParcel at hs
  refine V_iconst X (0 : Int32) dX4_putParcel_0 (by decide) ?_
  refine V_istore_n X dX4_putParcel_1 rfl [(3, .int (0 : Int32)), (0, .ref (ad 4 t 0)), (1, .int p1), (2, .int p2)] (by decide) rfl ?_
  refine V_iconst X (0 : Int32) dX4_putParcel_2 (by decide) ?_
  refine V_istore X dX4_putParcel_3 [(4, .int (0 : Int32)), (3, .int (0 : Int32)), (0, .ref (ad 4 t 0)), (1, .int p1), (2, .int p2)] (by decide) rfl ?_
  have L5 : ∀ (n : Nat) (v3 v4 : Int32) (S1 : S4), s_X4_putParcel_L5 fu t p1 p2 n v3 v4 S1 = some out → V D cA dm ad A 5 p l e ({ frames := 2, cells := 0, slots := 0, locals := 41 }) s m args below meth c 0 0 (MQ below (gQ D cA dm ad out.2 (some (.int out.1)) A) args s 0 0 A) S1 5 [(0, .ref (ad 4 t 0)), (1, .int p1), (2, .int p2), (3, .int v3), (4, .int v4)] [] := by
    intro n
    induction n with
    | zero => intro v3 v4 S1 hs; rw [s_X4_putParcel_L5] at hs; cases hs
    | succ f5 ih5 =>
      intro v3 v4 Z1 hs
      rw [s_X4_putParcel_L5] at hs
      refine V_iload X dX4_putParcel_5 4 rfl ?_
      refine V_aload_n X dX4_putParcel_7 rfl 0 rfl ?_
      refine V_get X dX4_putParcel_8 r_X4_71 (gm4 ht) rfl rfl ?_
      refine V_icmp_ge X 37 dX4_putParcel_11 (by decide) (fun c2 => ?_) (fun c2 => ?_)
      · replace hs := if_t hs c2
        refine V_aload_n X dX4_putParcel_37 rfl 0 rfl ?_
        refine V_get X dX4_putParcel_38 r_X4_31 (gm4 ht) rfl rfl ?_
        refine V_aload_n X dX4_putParcel_41 rfl 0 rfl ?_
        refine V_get X dX4_putParcel_42 r_X4_71 (gm4 ht) rfl rfl ?_
        obtain ⟨h3, hs⟩ := gd_some hs
        refine V_aald X 6 rfl dX4_putParcel_45 (gm18 ht) rfl h3 (v := .ref (ad 1 t ((Z1 4 t 0 6).toNatClampNeg))) rfl ?_
        refine V_iload_n X dX4_putParcel_46 rfl 1 rfl ?_
        refine V_iload_n X dX4_putParcel_47 rfl 2 rfl ?_
        refine V_iload_n X dX4_putParcel_48 rfl 3 rfl ?_
        obtain ⟨Z5, eZ5, hs⟩ := bd_some hs
        refine V_callVv X [.int p1, .int p2, .int v3] dX4_putParcel_49 m_X4_120 v_X1_reset ⟨Nat.le_of_ble_eq_true rfl, Nat.le_of_ble_eq_true rfl⟩ ⟨Nat.zero_le _, Nat.zero_le _⟩ rfl (Nat.le_of_ble_eq_true rfl) (gm1 ht (inb_lt h3)) rfl cl1 (c_X1_reset ht (inb_lt h3) eZ5) ?_
        refine V_aload_n X dX4_putParcel_52 rfl 0 rfl ?_
        refine V_get X dX4_putParcel_53 r_X4_11 (gm4 ht) rfl rfl ?_
        refine V_iload_n X dX4_putParcel_56 rfl 1 rfl ?_
        obtain ⟨h6, hs⟩ := gd_some hs
        refine V_aald X 3 rfl dX4_putParcel_57 (gm15 ht) rfl h6 (v := .ref (ad 5 t p1.toNatClampNeg)) rfl ?_
        refine V_aload_n X dX4_putParcel_58 rfl 0 rfl ?_
        refine V_get X dX4_putParcel_59 r_X4_71 (gm4 ht) rfl rfl ?_
        obtain ⟨Z8, eZ8, hs⟩ := bd_some hs
        refine V_callVv X [.int (Z5 4 t 0 6)] dX4_putParcel_62 m_X4_123 v_X5_append ⟨Nat.le_of_ble_eq_true rfl, Nat.le_of_ble_eq_true rfl⟩ ⟨Nat.zero_le _, Nat.zero_le _⟩ rfl (Nat.le_of_ble_eq_true rfl) (gm5 ht (inb_lt h6)) rfl cl5 (c_X5_append ht (inb_lt h6) eZ8) ?_
        refine V_aload_n X dX4_putParcel_65 rfl 0 rfl ?_
        refine V_dup X dX4_putParcel_66 rfl ?_
        refine V_get X dX4_putParcel_67 r_X4_71 (gm4 ht) rfl rfl ?_
        refine V_iconst X (1 : Int32) dX4_putParcel_70 (by decide) ?_
        refine V_iadd X dX4_putParcel_71 ?_
        refine V_put X dX4_putParcel_72 f_X4_71 (gm4 ht) rfl (Nat.le_of_ble_eq_true rfl) rfl rfl rfl (fun Z9 eZ9 => ?_)
        replace hs := sv_some hs Z9 eZ9
        clear eZ9
        refine V_aload_n X dX4_putParcel_75 rfl 0 rfl ?_
        refine V_get X dX4_putParcel_76 r_X4_71 (gm4 ht) rfl rfl ?_
        refine V_iconst X (1 : Int32) dX4_putParcel_79 (by decide) ?_
        refine V_isub X dX4_putParcel_80 ?_
        obtain rfl := Option.some.inj hs; exact V_iret X hr dX4_putParcel_81
      · replace hs := if_f hs c2
        refine V_aload_n X dX4_putParcel_14 rfl 0 rfl ?_
        refine V_get X dX4_putParcel_15 r_X4_31 (gm4 ht) rfl rfl ?_
        refine V_iload X dX4_putParcel_18 4 rfl ?_
        obtain ⟨h10, hs⟩ := gd_some hs
        refine V_aald X 6 rfl dX4_putParcel_20 (gm18 ht) rfl h10 (v := .ref (ad 1 t v4.toNatClampNeg)) rfl ?_
        refine V_get X dX4_putParcel_21 r_X4_117 (gm1 ht (inb_lt h10)) rfl rfl ?_
        refine V_iload_n X dX4_putParcel_24 rfl 2 rfl ?_
        refine V_icmp_ne X 31 dX4_putParcel_25 (by decide) (fun c11 => ?_) (fun c11 => ?_)
        · replace hs := if_f hs c11
          refine V_iinc X (v4 + (1 : Int32)) dX4_putParcel_31 4 rfl rfl [(4, .int (v4 + (1 : Int32))), (0, .ref (ad 4 t 0)), (1, .int p1), (2, .int p2), (3, .int v3)] (by decide) rfl ?_
          refine V_goto X 5 dX4_putParcel_34 (by decide) ?_
          refine V_sub [1, 2, 3, 4, 0] rfl ?_
          exact ih5 _ _ _ hs
        · replace hs := if_t hs c11
          refine V_iinc X (v3 + (1 : Int32)) dX4_putParcel_28 3 rfl rfl [(3, .int (v3 + (1 : Int32))), (0, .ref (ad 4 t 0)), (1, .int p1), (2, .int p2), (4, .int v4)] (by decide) rfl ?_
          refine V_iinc X (v4 + (1 : Int32)) dX4_putParcel_31 4 rfl rfl [(4, .int (v4 + (1 : Int32))), (3, .int (v3 + (1 : Int32))), (0, .ref (ad 4 t 0)), (1, .int p1), (2, .int p2)] (by decide) rfl ?_
          refine V_goto X 5 dX4_putParcel_34 (by decide) ?_
          refine V_sub [2, 3, 4, 1, 0] rfl ?_
          exact ih5 _ _ _ hs
  refine V_sub [2, 3, 4, 1, 0] rfl ?_
  exact L5 _ _ _ _ hs

def s_X4_placeOf (t : Nat) (p1 : Int32) (S : S4) : Option Int32 := (if (p1 - (S 4 t 0 2)) < 0 then some ((p1 - (S 4 t 0 2)) + (S 4 t 0 1)) else some (p1 - (S 4 t 0 2)))
set_option maxRecDepth 100000 in
set_option maxHeartbeats 4000000 in
theorem c_X4_placeOf {l : Launch} {D : va_G} {cA : Nat → ClassId} {dm : Dm} {ad : Ad} {S : S4} {t : Nat} {p1 : Int32} (ht : DS dm t) {out : Int32} (hs : s_X4_placeOf t p1 S = some out) : Ct D cA dm ad l yX4_placeOf cX4_placeOf 3 (some .int) 0 0 S [.ref (ad 4 t 0), .int p1] (some (.int out)) S := by
  refine Ct.of (by decide +kernel) (Nat.le_of_ble_eq_true rfl) [(0, .ref (ad 4 t 0)), (1, .int p1)] rfl (fun p e s m args below meth c A X hr => ?_)
  unfold s_X4_placeOf at hs
  refine V_iload_n X dX4_placeOf_0 rfl 1 rfl ?_
  refine V_aload_n X dX4_placeOf_1 rfl 0 rfl ?_
  refine V_get X dX4_placeOf_2 r_X4_59 (gm4 ht) rfl rfl ?_
  refine V_isub X dX4_placeOf_5 ?_
  refine V_istore_n X dX4_placeOf_6 rfl [(2, .int (p1 - (S 4 t 0 2))), (0, .ref (ad 4 t 0)), (1, .int p1)] (by decide) rfl ?_
  refine V_iload_n X dX4_placeOf_7 rfl 0 rfl ?_
  refine V_if_lt X 15 dX4_placeOf_8 (by decide) (fun c1 => ?_) (fun c1 => ?_)
  · replace hs := if_t hs c1
    refine V_iload_n X dX4_placeOf_15 rfl 0 rfl ?_
    refine V_aload_n X dX4_placeOf_16 rfl 1 rfl ?_
    refine V_get X dX4_placeOf_17 r_X4_52 (gm4 ht) rfl rfl ?_
    refine V_iadd X dX4_placeOf_20 ?_
    obtain rfl := Option.some.inj hs; exact V_iret X hr dX4_placeOf_21
  · replace hs := if_f hs c1
    refine V_iload_n X dX4_placeOf_11 rfl 0 rfl ?_
    refine V_goto X 21 dX4_placeOf_12 (by decide) ?_
    obtain rfl := Option.some.inj hs; exact V_iret X hr dX4_placeOf_21

def s_X4_carrierAt (t : Nat) (p1 : Int32) (S : S4) : Option Int32 := (if (S 4 t 0 1) ≤ ((S 4 t 0 2) + p1) then some (((S 4 t 0 2) + p1) - (S 4 t 0 1)) else some ((S 4 t 0 2) + p1))
set_option maxRecDepth 100000 in
set_option maxHeartbeats 4000000 in
theorem c_X4_carrierAt {l : Launch} {D : va_G} {cA : Nat → ClassId} {dm : Dm} {ad : Ad} {S : S4} {t : Nat} {p1 : Int32} (ht : DS dm t) {out : Int32} (hs : s_X4_carrierAt t p1 S = some out) : Ct D cA dm ad l yX4_carrierAt cX4_carrierAt 3 (some .int) 0 0 S [.ref (ad 4 t 0), .int p1] (some (.int out)) S := by
  refine Ct.of (by decide +kernel) (Nat.le_of_ble_eq_true rfl) [(0, .ref (ad 4 t 0)), (1, .int p1)] rfl (fun p e s m args below meth c A X hr => ?_)
  unfold s_X4_carrierAt at hs
  refine V_aload_n X dX4_carrierAt_0 rfl 0 rfl ?_
  refine V_get X dX4_carrierAt_1 r_X4_59 (gm4 ht) rfl rfl ?_
  refine V_iload_n X dX4_carrierAt_4 rfl 1 rfl ?_
  refine V_iadd X dX4_carrierAt_5 ?_
  refine V_istore_n X dX4_carrierAt_6 rfl [(2, .int ((S 4 t 0 2) + p1)), (0, .ref (ad 4 t 0)), (1, .int p1)] (by decide) rfl ?_
  refine V_iload_n X dX4_carrierAt_7 rfl 0 rfl ?_
  refine V_aload_n X dX4_carrierAt_8 rfl 1 rfl ?_
  refine V_get X dX4_carrierAt_9 r_X4_52 (gm4 ht) rfl rfl ?_
  refine V_icmp_ge X 19 dX4_carrierAt_12 (by decide) (fun c1 => ?_) (fun c1 => ?_)
  · replace hs := if_t hs c1
    refine V_iload_n X dX4_carrierAt_19 rfl 0 rfl ?_
    refine V_aload_n X dX4_carrierAt_20 rfl 1 rfl ?_
    refine V_get X dX4_carrierAt_21 r_X4_52 (gm4 ht) rfl rfl ?_
    refine V_isub X dX4_carrierAt_24 ?_
    obtain rfl := Option.some.inj hs; exact V_iret X hr dX4_carrierAt_25
  · replace hs := if_f hs c1
    refine V_iload_n X dX4_carrierAt_15 rfl 0 rfl ?_
    refine V_goto X 25 dX4_carrierAt_16 (by decide) ?_
    obtain rfl := Option.some.inj hs; exact V_iret X hr dX4_carrierAt_25

def s_X4_parcelAt (t : Nat) (p1 : Int32) (S : S4) : Option Int32 := (s_X4_carrierAt t p1 S).bind fun q1 => gd (inb q1 30) (some (S 19 t 0 q1.toNatClampNeg))
set_option maxRecDepth 100000 in
set_option maxHeartbeats 4000000 in
theorem c_X4_parcelAt {l : Launch} {D : va_G} {cA : Nat → ClassId} {dm : Dm} {ad : Ad} {S : S4} {t : Nat} {p1 : Int32} (ht : DS dm t) {out : Int32} (hs : s_X4_parcelAt t p1 S = some out) : Ct D cA dm ad l yX4_parcelAt cX4_parcelAt 2 (some .int) 1 22 S [.ref (ad 4 t 0), .int p1] (some (.int out)) S := by
  refine Ct.of (by decide +kernel) (Nat.le_of_ble_eq_true rfl) [(0, .ref (ad 4 t 0)), (1, .int p1)] rfl (fun p e s m args below meth c A X hr => ?_)
  unfold s_X4_parcelAt at hs
  refine V_aload_n X dX4_parcelAt_0 rfl 0 rfl ?_
  refine V_get X dX4_parcelAt_1 r_X4_35 (gm4 ht) rfl rfl ?_
  refine V_aload_n X dX4_parcelAt_4 rfl 0 rfl ?_
  refine V_iload_n X dX4_parcelAt_5 rfl 1 rfl ?_
  obtain ⟨q1, eq1, hs⟩ := bd_some hs
  refine V_callVs X [.int p1] dX4_parcelAt_6 m_X4_141 v_X4_carrierAt ⟨Nat.le_of_ble_eq_true rfl, Nat.le_of_ble_eq_true rfl⟩ ⟨Nat.zero_le _, Nat.zero_le _⟩ rfl (Nat.le_of_ble_eq_true rfl) (gm4 ht) rfl cl4 (c_X4_carrierAt ht eq1) ?_
  obtain ⟨h2, hs⟩ := gd_some hs
  refine V_iald X dX4_parcelAt_9 (gm19 ht) rfl h2 ?_
  obtain rfl := Option.some.inj hs; exact V_iret X hr dX4_parcelAt_10

def s_X0_passTick (t : Nat) (i : Nat) (S : S4) : Option S4 := (if (S 0 t i 7) ≤ 0 then (if (S 0 t i 8) ≤ 0 then some S else sv (u4 S 0 t i 8 ((S 0 t i 8) - (1 : Int32))) fun Z3 => (if (Z3 0 t i 8) = 0 then sv (u4 Z3 0 t i 6 (0 : Int32)) fun Z5 => some Z5 else some Z3)) else sv (u4 S 0 t i 7 ((S 0 t i 7) - (1 : Int32))) fun Z6 => (if (Z6 0 t i 8) ≤ 0 then some Z6 else sv (u4 Z6 0 t i 8 ((Z6 0 t i 8) - (1 : Int32))) fun Z8 => (if (Z8 0 t i 8) = 0 then sv (u4 Z8 0 t i 6 (0 : Int32)) fun Z10 => some Z10 else some Z8)))
set_option maxRecDepth 100000 in
set_option maxHeartbeats 4000000 in
theorem c_X0_passTick {l : Launch} {D : va_G} {cA : Nat → ClassId} {dm : Dm} {ad : Ad} {S : S4} {t : Nat} {i : Nat} (ht : DS dm t) (hi : i < 8) {out : S4} (hs : s_X0_passTick t i S = some out) : Ct D cA dm ad l yX0_passTick cX0_passTick 1 none 0 0 S [.ref (ad 0 t i)] none out := by
  refine Ct.of (by decide +kernel) (Nat.le_of_ble_eq_true rfl) [(0, .ref (ad 0 t i))] rfl (fun p e s m args below meth c A X hr => ?_)
  unfold s_X0_passTick at hs
  refine V_aload_n X dX0_passTick_0 rfl 0 rfl ?_
  refine V_get X dX0_passTick_1 r_X0_15 (gm0 ht hi) rfl rfl ?_
  refine V_if_le X 17 dX0_passTick_4 (by decide) (fun c1 => ?_) (fun c1 => ?_)
  · replace hs := if_t hs c1
    refine V_aload_n X dX0_passTick_17 rfl 0 rfl ?_
    refine V_get X dX0_passTick_18 r_X0_18 (gm0 ht hi) rfl rfl ?_
    refine V_if_le X 46 dX0_passTick_21 (by decide) (fun c2 => ?_) (fun c2 => ?_)
    · replace hs := if_t hs c2
      obtain rfl := Option.some.inj hs; exact V_vret X hr dX0_passTick_46
    · replace hs := if_f hs c2
      refine V_aload_n X dX0_passTick_24 rfl 0 rfl ?_
      refine V_dup X dX0_passTick_25 rfl ?_
      refine V_get X dX0_passTick_26 r_X0_18 (gm0 ht hi) rfl rfl ?_
      refine V_iconst X (1 : Int32) dX0_passTick_29 (by decide) ?_
      refine V_isub X dX0_passTick_30 ?_
      refine V_put X dX0_passTick_31 f_X0_18 (gm0 ht hi) rfl (Nat.le_of_ble_eq_true rfl) rfl rfl rfl (fun Z3 eZ3 => ?_)
      replace hs := sv_some hs Z3 eZ3
      clear eZ3
      refine V_aload_n X dX0_passTick_34 rfl 0 rfl ?_
      refine V_get X dX0_passTick_35 r_X0_18 (gm0 ht hi) rfl rfl ?_
      refine V_if_ne X 46 dX0_passTick_38 (by decide) (fun c4 => ?_) (fun c4 => ?_)
      · replace hs := if_f hs c4
        obtain rfl := Option.some.inj hs; exact V_vret X hr dX0_passTick_46
      · replace hs := if_t hs c4
        refine V_aload_n X dX0_passTick_41 rfl 0 rfl ?_
        refine V_iconst X (0 : Int32) dX0_passTick_42 (by decide) ?_
        refine V_put X dX0_passTick_43 f_X0_9 (gm0 ht hi) rfl (Nat.le_of_ble_eq_true rfl) rfl rfl rfl (fun Z5 eZ5 => ?_)
        replace hs := sv_some hs Z5 eZ5
        clear eZ5
        obtain rfl := Option.some.inj hs; exact V_vret X hr dX0_passTick_46
  · replace hs := if_f hs c1
    refine V_aload_n X dX0_passTick_7 rfl 0 rfl ?_
    refine V_dup X dX0_passTick_8 rfl ?_
    refine V_get X dX0_passTick_9 r_X0_15 (gm0 ht hi) rfl rfl ?_
    refine V_iconst X (1 : Int32) dX0_passTick_12 (by decide) ?_
    refine V_isub X dX0_passTick_13 ?_
    refine V_put X dX0_passTick_14 f_X0_15 (gm0 ht hi) rfl (Nat.le_of_ble_eq_true rfl) rfl rfl rfl (fun Z6 eZ6 => ?_)
    replace hs := sv_some hs Z6 eZ6
    clear eZ6
    refine V_aload_n X dX0_passTick_17 rfl 0 rfl ?_
    refine V_get X dX0_passTick_18 r_X0_18 (gm0 ht hi) rfl rfl ?_
    refine V_if_le X 46 dX0_passTick_21 (by decide) (fun c7 => ?_) (fun c7 => ?_)
    · replace hs := if_t hs c7
      obtain rfl := Option.some.inj hs; exact V_vret X hr dX0_passTick_46
    · replace hs := if_f hs c7
      refine V_aload_n X dX0_passTick_24 rfl 0 rfl ?_
      refine V_dup X dX0_passTick_25 rfl ?_
      refine V_get X dX0_passTick_26 r_X0_18 (gm0 ht hi) rfl rfl ?_
      refine V_iconst X (1 : Int32) dX0_passTick_29 (by decide) ?_
      refine V_isub X dX0_passTick_30 ?_
      refine V_put X dX0_passTick_31 f_X0_18 (gm0 ht hi) rfl (Nat.le_of_ble_eq_true rfl) rfl rfl rfl (fun Z8 eZ8 => ?_)
      replace hs := sv_some hs Z8 eZ8
      clear eZ8
      refine V_aload_n X dX0_passTick_34 rfl 0 rfl ?_
      refine V_get X dX0_passTick_35 r_X0_18 (gm0 ht hi) rfl rfl ?_
      refine V_if_ne X 46 dX0_passTick_38 (by decide) (fun c9 => ?_) (fun c9 => ?_)
      · replace hs := if_f hs c9
        obtain rfl := Option.some.inj hs; exact V_vret X hr dX0_passTick_46
      · replace hs := if_t hs c9
        refine V_aload_n X dX0_passTick_41 rfl 0 rfl ?_
        refine V_iconst X (0 : Int32) dX0_passTick_42 (by decide) ?_
        refine V_put X dX0_passTick_43 f_X0_9 (gm0 ht hi) rfl (Nat.le_of_ble_eq_true rfl) rfl rfl rfl (fun Z10 eZ10 => ?_)
        replace hs := sv_some hs Z10 eZ10
        clear eZ10
        obtain rfl := Option.some.inj hs; exact V_vret X hr dX0_passTick_46

def s_X4_isParcel (t : Nat) (p1 : Int32) (S : S4) : Option Int32 := (s_X6_isIn p1 (0 : Int32) ((S 4 t 0 6) - (1 : Int32)) S).bind fun q1 => gd (isB q1) (some q1)
set_option maxRecDepth 100000 in
set_option maxHeartbeats 4000000 in
theorem c_X4_isParcel {l : Launch} {D : va_G} {cA : Nat → ClassId} {dm : Dm} {ad : Ad} {S : S4} {t : Nat} {p1 : Int32} (ht : DS dm t) {out : Int32} (hs : s_X4_isParcel t p1 S = some out) : Ct D cA dm ad l yX4_isParcel cX4_isParcel 2 (some .boolean) 1 22 S [.ref (ad 4 t 0), .int p1] (some (.int out)) S := by
  refine Ct.of (by decide +kernel) (Nat.le_of_ble_eq_true rfl) [(0, .ref (ad 4 t 0)), (1, .int p1)] rfl (fun p e s m args below meth c A X hr => ?_)
  unfold s_X4_isParcel at hs
  refine V_iload_n X dX4_isParcel_0 rfl 1 rfl ?_
  refine V_iconst X (0 : Int32) dX4_isParcel_1 (by decide) ?_
  refine V_aload_n X dX4_isParcel_2 rfl 0 rfl ?_
  refine V_get X dX4_isParcel_3 r_X4_71 (gm4 ht) rfl rfl ?_
  refine V_iconst X (1 : Int32) dX4_isParcel_6 (by decide) ?_
  refine V_isub X dX4_isParcel_7 ?_
  obtain ⟨q1, eq1, hs⟩ := bd_some hs
  refine V_callSNs X [.int p1, .int (0 : Int32), .int ((S 4 t 0 6) - (1 : Int32))] dX4_isParcel_8 ne_X4_106 ⟨Nat.le_of_ble_eq_true rfl, Nat.le_of_ble_eq_true rfl⟩ ⟨Nat.zero_le _, Nat.zero_le _⟩ rfl (Nat.le_of_ble_eq_true rfl) (c_X6_isIn  eq1) ?_
  obtain ⟨h2, hs⟩ := gd_some hs
  obtain rfl := Option.some.inj hs; exact V_zret X hr (bnar h2) dX4_isParcel_11

def s_X0_isUsable (t : Nat) (i : Nat) (S : S4) : Option Int32 := (if (S 0 t i 9) = 0 then (if (S 0 t i 7) = 0 then (if (S 0 t i 8) = 0 then (if (S 0 t i 1) ≤ (S 0 t i 6) then some (0 : Int32) else some (1 : Int32)) else some (0 : Int32)) else some (0 : Int32)) else some (0 : Int32))
set_option maxRecDepth 100000 in
set_option maxHeartbeats 4000000 in
theorem c_X0_isUsable {l : Launch} {D : va_G} {cA : Nat → ClassId} {dm : Dm} {ad : Ad} {S : S4} {t : Nat} {i : Nat} (ht : DS dm t) (hi : i < 8) {out : Int32} (hs : s_X0_isUsable t i S = some out) : Ct D cA dm ad l yX0_isUsable cX0_isUsable 1 (some .boolean) 0 0 S [.ref (ad 0 t i)] (some (.int out)) S := by
  refine Ct.of (by decide +kernel) (Nat.le_of_ble_eq_true rfl) [(0, .ref (ad 0 t i))] rfl (fun p e s m args below meth c A X hr => ?_)
  unfold s_X0_isUsable at hs
  refine V_aload_n X dX0_isUsable_0 rfl 0 rfl ?_
  refine V_get X dX0_isUsable_1 r_X0_21 (gm0 ht hi) rfl rfl ?_
  refine V_if_ne X 36 dX0_isUsable_4 (by decide) (fun c1 => ?_) (fun c1 => ?_)
  · replace hs := if_f hs c1
    refine V_iconst X (0 : Int32) dX0_isUsable_36 (by decide) ?_
    obtain rfl := Option.some.inj hs; exact V_zret X hr nb0 dX0_isUsable_37
  · replace hs := if_t hs c1
    refine V_aload_n X dX0_isUsable_7 rfl 0 rfl ?_
    refine V_get X dX0_isUsable_8 r_X0_15 (gm0 ht hi) rfl rfl ?_
    refine V_if_ne X 36 dX0_isUsable_11 (by decide) (fun c2 => ?_) (fun c2 => ?_)
    · replace hs := if_f hs c2
      refine V_iconst X (0 : Int32) dX0_isUsable_36 (by decide) ?_
      obtain rfl := Option.some.inj hs; exact V_zret X hr nb0 dX0_isUsable_37
    · replace hs := if_t hs c2
      refine V_aload_n X dX0_isUsable_14 rfl 0 rfl ?_
      refine V_get X dX0_isUsable_15 r_X0_18 (gm0 ht hi) rfl rfl ?_
      refine V_if_ne X 36 dX0_isUsable_18 (by decide) (fun c3 => ?_) (fun c3 => ?_)
      · replace hs := if_f hs c3
        refine V_iconst X (0 : Int32) dX0_isUsable_36 (by decide) ?_
        obtain rfl := Option.some.inj hs; exact V_zret X hr nb0 dX0_isUsable_37
      · replace hs := if_t hs c3
        refine V_aload_n X dX0_isUsable_21 rfl 0 rfl ?_
        refine V_get X dX0_isUsable_22 r_X0_9 (gm0 ht hi) rfl rfl ?_
        refine V_aload_n X dX0_isUsable_25 rfl 0 rfl ?_
        refine V_get X dX0_isUsable_26 r_X0_43 (gm0 ht hi) rfl rfl ?_
        refine V_icmp_ge X 36 dX0_isUsable_29 (by decide) (fun c4 => ?_) (fun c4 => ?_)
        · replace hs := if_t hs c4
          refine V_iconst X (0 : Int32) dX0_isUsable_36 (by decide) ?_
          obtain rfl := Option.some.inj hs; exact V_zret X hr nb0 dX0_isUsable_37
        · replace hs := if_f hs c4
          refine V_iconst X (1 : Int32) dX0_isUsable_32 (by decide) ?_
          refine V_goto X 37 dX0_isUsable_33 (by decide) ?_
          obtain rfl := Option.some.inj hs; exact V_zret X hr nb1 dX0_isUsable_37

def s_X1_isSpoiltFor (t : Nat) (i : Nat) (p1 : Int32) (S : S4) : Option Int32 := (if (((S 1 t i 11) >>> (p1 &&& 31)) &&& (1 : Int32)) = (1 : Int32) then some (1 : Int32) else some (0 : Int32))
set_option maxRecDepth 100000 in
set_option maxHeartbeats 4000000 in
theorem c_X1_isSpoiltFor {l : Launch} {D : va_G} {cA : Nat → ClassId} {dm : Dm} {ad : Ad} {S : S4} {t : Nat} {i : Nat} {p1 : Int32} (ht : DS dm t) (hi : i < 60) {out : Int32} (hs : s_X1_isSpoiltFor t i p1 S = some out) : Ct D cA dm ad l yX1_isSpoiltFor cX1_isSpoiltFor 2 (some .boolean) 0 0 S [.ref (ad 1 t i), .int p1] (some (.int out)) S := by
  refine Ct.of (by decide +kernel) (Nat.le_of_ble_eq_true rfl) [(0, .ref (ad 1 t i)), (1, .int p1)] rfl (fun p e s m args below meth c A X hr => ?_)
  unfold s_X1_isSpoiltFor at hs
  refine V_aload_n X dX1_isSpoiltFor_0 rfl 0 rfl ?_
  refine V_get X dX1_isSpoiltFor_1 r_X1_39 (gm1 ht hi) rfl rfl ?_
  refine V_iload_n X dX1_isSpoiltFor_4 rfl 1 rfl ?_
  refine V_ishr X dX1_isSpoiltFor_5 ?_
  refine V_iconst X (1 : Int32) dX1_isSpoiltFor_6 (by decide) ?_
  refine V_iand X dX1_isSpoiltFor_7 ?_
  refine V_iconst X (1 : Int32) dX1_isSpoiltFor_8 (by decide) ?_
  refine V_icmp_ne X 16 dX1_isSpoiltFor_9 (by decide) (fun c1 => ?_) (fun c1 => ?_)
  · replace hs := if_f hs c1
    refine V_iconst X (0 : Int32) dX1_isSpoiltFor_16 (by decide) ?_
    obtain rfl := Option.some.inj hs; exact V_zret X hr nb0 dX1_isSpoiltFor_17
  · replace hs := if_t hs c1
    refine V_iconst X (1 : Int32) dX1_isSpoiltFor_12 (by decide) ?_
    refine V_goto X 17 dX1_isSpoiltFor_13 (by decide) ?_
    obtain rfl := Option.some.inj hs; exact V_zret X hr nb1 dX1_isSpoiltFor_17

def s_X4_isOpenFor (t : Nat) (p1 : Int32) (t2 : Nat) (i2 : Nat) (S : S4) : Option Int32 := (s_X6_isIn p1 (0 : Int32) ((S 4 t 0 4) - (1 : Int32)) S).bind fun q1 => (if q1 = 0 then some (0 : Int32) else gd (inb p1 8) ((s_X0_isUsable t p1.toNatClampNeg S).bind fun q4 => (if q4 = 0 then some (0 : Int32) else (s_X1_isSpoiltFor t2 i2 p1 S).bind fun q6 => (if q6 = 0 then some (1 : Int32) else some (0 : Int32)))))
set_option maxRecDepth 100000 in
set_option maxHeartbeats 4000000 in
theorem c_X4_isOpenFor {l : Launch} {D : va_G} {cA : Nat → ClassId} {dm : Dm} {ad : Ad} {S : S4} {t : Nat} {p1 : Int32} {t2 : Nat} {i2 : Nat} (ht : DS dm t) (ht2 : DS dm t2) (hi2 : i2 < 60) {out : Int32} (hs : s_X4_isOpenFor t p1 t2 i2 S = some out) : Ct D cA dm ad l yX4_isOpenFor cX4_isOpenFor 3 (some .boolean) 1 22 S [.ref (ad 4 t 0), .int p1, .ref (ad 1 t2 i2)] (some (.int out)) S := by
  refine Ct.of (by decide +kernel) (Nat.le_of_ble_eq_true rfl) [(0, .ref (ad 4 t 0)), (1, .int p1), (2, .ref (ad 1 t2 i2))] rfl (fun p e s m args below meth c A X hr => ?_)
  unfold s_X4_isOpenFor at hs
  refine V_iload_n X dX4_isOpenFor_0 rfl 1 rfl ?_
  refine V_iconst X (0 : Int32) dX4_isOpenFor_1 (by decide) ?_
  refine V_aload_n X dX4_isOpenFor_2 rfl 0 rfl ?_
  refine V_get X dX4_isOpenFor_3 r_X4_65 (gm4 ht) rfl rfl ?_
  refine V_iconst X (1 : Int32) dX4_isOpenFor_6 (by decide) ?_
  refine V_isub X dX4_isOpenFor_7 ?_
  obtain ⟨q1, eq1, hs⟩ := bd_some hs
  refine V_callSNs X [.int p1, .int (0 : Int32), .int ((S 4 t 0 4) - (1 : Int32))] dX4_isOpenFor_8 ne_X4_106 ⟨Nat.le_of_ble_eq_true rfl, Nat.le_of_ble_eq_true rfl⟩ ⟨Nat.zero_le _, Nat.zero_le _⟩ rfl (Nat.le_of_ble_eq_true rfl) (c_X6_isIn  eq1) ?_
  refine V_if_eq X 38 dX4_isOpenFor_11 (by decide) (fun c2 => ?_) (fun c2 => ?_)
  · replace hs := if_t hs c2
    refine V_iconst X (0 : Int32) dX4_isOpenFor_38 (by decide) ?_
    obtain rfl := Option.some.inj hs; exact V_zret X hr nb0 dX4_isOpenFor_39
  · replace hs := if_f hs c2
    refine V_aload_n X dX4_isOpenFor_14 rfl 0 rfl ?_
    refine V_get X dX4_isOpenFor_15 r_X4_19 (gm4 ht) rfl rfl ?_
    refine V_iload_n X dX4_isOpenFor_18 rfl 1 rfl ?_
    obtain ⟨h3, hs⟩ := gd_some hs
    refine V_aald X 4 rfl dX4_isOpenFor_19 (gm16 ht) rfl h3 (v := .ref (ad 0 t p1.toNatClampNeg)) rfl ?_
    obtain ⟨q4, eq4, hs⟩ := bd_some hs
    refine V_callVs X [] dX4_isOpenFor_20 m_X4_210 v_X0_isUsable ⟨Nat.le_of_ble_eq_true rfl, Nat.le_of_ble_eq_true rfl⟩ ⟨Nat.zero_le _, Nat.zero_le _⟩ rfl (Nat.le_of_ble_eq_true rfl) (gm0 ht (inb_lt h3)) rfl cl0 (c_X0_isUsable ht (inb_lt h3) eq4) ?_
    refine V_if_eq X 38 dX4_isOpenFor_23 (by decide) (fun c5 => ?_) (fun c5 => ?_)
    · replace hs := if_t hs c5
      refine V_iconst X (0 : Int32) dX4_isOpenFor_38 (by decide) ?_
      obtain rfl := Option.some.inj hs; exact V_zret X hr nb0 dX4_isOpenFor_39
    · replace hs := if_f hs c5
      refine V_aload_n X dX4_isOpenFor_26 rfl 2 rfl ?_
      refine V_iload_n X dX4_isOpenFor_27 rfl 1 rfl ?_
      obtain ⟨q6, eq6, hs⟩ := bd_some hs
      refine V_callVs X [.int p1] dX4_isOpenFor_28 m_X4_214 v_X1_isSpoiltFor ⟨Nat.le_of_ble_eq_true rfl, Nat.le_of_ble_eq_true rfl⟩ ⟨Nat.zero_le _, Nat.zero_le _⟩ rfl (Nat.le_of_ble_eq_true rfl) (gm1 ht2 hi2) rfl cl1 (c_X1_isSpoiltFor ht2 hi2 eq6) ?_
      refine V_if_ne X 38 dX4_isOpenFor_31 (by decide) (fun c7 => ?_) (fun c7 => ?_)
      · replace hs := if_f hs c7
        refine V_iconst X (0 : Int32) dX4_isOpenFor_38 (by decide) ?_
        obtain rfl := Option.some.inj hs; exact V_zret X hr nb0 dX4_isOpenFor_39
      · replace hs := if_t hs c7
        refine V_iconst X (1 : Int32) dX4_isOpenFor_34 (by decide) ?_
        refine V_goto X 39 dX4_isOpenFor_35 (by decide) ?_
        obtain rfl := Option.some.inj hs; exact V_zret X hr nb1 dX4_isOpenFor_39

def s_X4_aimAtException (t : Nat) (t1 : Nat) (i1 : Nat) (p2 : Int32) (p3 : Int32) (S : S4) : Option S4 := (s_X4_isOpenFor t p2 t1 i1 S).bind fun q1 => (if q1 = 0 then sv (u4 S 1 t1 i1 8 (p3 + (10 : Int32))) fun Z3 => some Z3 else sv (u4 S 1 t1 i1 7 p2) fun Z4 => sv (u4 Z4 1 t1 i1 8 p3) fun Z5 => some Z5)
set_option maxRecDepth 100000 in
set_option maxHeartbeats 4000000 in
theorem c_X4_aimAtException {l : Launch} {D : va_G} {cA : Nat → ClassId} {dm : Dm} {ad : Ad} {S : S4} {t : Nat} {t1 : Nat} {i1 : Nat} {p2 : Int32} {p3 : Int32} (ht : DS dm t) (ht1 : DS dm t1) (hi1 : i1 < 60) {out : S4} (hs : s_X4_aimAtException t t1 i1 p2 p3 S = some out) : Ct D cA dm ad l yX4_aimAtException cX4_aimAtException 4 none 2 44 S [.ref (ad 4 t 0), .ref (ad 1 t1 i1), .int p2, .int p3] none out := by
  refine Ct.of (by decide +kernel) (Nat.le_of_ble_eq_true rfl) [(0, .ref (ad 4 t 0)), (1, .ref (ad 1 t1 i1)), (2, .int p2), (3, .int p3)] rfl (fun p e s m args below meth c A X hr => ?_)
  unfold s_X4_aimAtException at hs
  refine V_aload_n X dX4_aimAtException_0 rfl 0 rfl ?_
  refine V_iload_n X dX4_aimAtException_1 rfl 2 rfl ?_
  refine V_aload_n X dX4_aimAtException_2 rfl 1 rfl ?_
  obtain ⟨q1, eq1, hs⟩ := bd_some hs
  refine V_callVs X [.int p2, .ref (ad 1 t1 i1)] dX4_aimAtException_3 m_X4_206 v_X4_isOpenFor ⟨Nat.le_of_ble_eq_true rfl, Nat.le_of_ble_eq_true rfl⟩ ⟨Nat.zero_le _, Nat.zero_le _⟩ rfl (Nat.le_of_ble_eq_true rfl) (gm4 ht) rfl cl4 (c_X4_isOpenFor ht ht1 hi1 eq1) ?_
  refine V_if_eq X 22 dX4_aimAtException_6 (by decide) (fun c2 => ?_) (fun c2 => ?_)
  · replace hs := if_t hs c2
    refine V_aload_n X dX4_aimAtException_22 rfl 1 rfl ?_
    refine V_iload_n X dX4_aimAtException_23 rfl 3 rfl ?_
    refine V_bipush X (10 : Int32) dX4_aimAtException_24 (by decide) ?_
    refine V_iadd X dX4_aimAtException_26 ?_
    refine V_put X dX4_aimAtException_27 f_X4_169 (gm1 ht1 hi1) rfl (Nat.le_of_ble_eq_true rfl) rfl rfl rfl (fun Z3 eZ3 => ?_)
    replace hs := sv_some hs Z3 eZ3
    clear eZ3
    obtain rfl := Option.some.inj hs; exact V_vret X hr dX4_aimAtException_30
  · replace hs := if_f hs c2
    refine V_aload_n X dX4_aimAtException_9 rfl 1 rfl ?_
    refine V_iload_n X dX4_aimAtException_10 rfl 2 rfl ?_
    refine V_put X dX4_aimAtException_11 f_X4_156 (gm1 ht1 hi1) rfl (Nat.le_of_ble_eq_true rfl) rfl rfl rfl (fun Z4 eZ4 => ?_)
    replace hs := sv_some hs Z4 eZ4
    clear eZ4
    refine V_aload_n X dX4_aimAtException_14 rfl 1 rfl ?_
    refine V_iload_n X dX4_aimAtException_15 rfl 3 rfl ?_
    refine V_put X dX4_aimAtException_16 f_X4_169 (gm1 ht1 hi1) rfl (Nat.le_of_ble_eq_true rfl) rfl rfl rfl (fun Z5 eZ5 => ?_)
    replace hs := sv_some hs Z5 eZ5
    clear eZ5
    refine V_goto X 30 dX4_aimAtException_19 (by decide) ?_
    obtain rfl := Option.some.inj hs; exact V_vret X hr dX4_aimAtException_30

def s_X1_destinationAsRead (t : Nat) (i : Nat) (S : S4) : Option Int32 := (if (S 1 t i 3) = (1 : Int32) then some ((((S 1 t i 0) - (S 1 t i 0) / (10 : Int32) * (10 : Int32)) * (10 : Int32)) + ((S 1 t i 0) / (10 : Int32))) else some (S 1 t i 0))
set_option maxRecDepth 100000 in
set_option maxHeartbeats 4000000 in
theorem c_X1_destinationAsRead {l : Launch} {D : va_G} {cA : Nat → ClassId} {dm : Dm} {ad : Ad} {S : S4} {t : Nat} {i : Nat} (ht : DS dm t) (hi : i < 60) {out : Int32} (hs : s_X1_destinationAsRead t i S = some out) : Ct D cA dm ad l yX1_destinationAsRead cX1_destinationAsRead 1 (some .int) 0 0 S [.ref (ad 1 t i)] (some (.int out)) S := by
  refine Ct.of (by decide +kernel) (Nat.le_of_ble_eq_true rfl) [(0, .ref (ad 1 t i))] rfl (fun p e s m args below meth c A X hr => ?_)
  unfold s_X1_destinationAsRead at hs
  refine V_aload_n X dX1_destinationAsRead_0 rfl 0 rfl ?_
  refine V_get X dX1_destinationAsRead_1 r_X1_45 (gm1 ht hi) rfl rfl ?_
  refine V_iconst X (1 : Int32) dX1_destinationAsRead_4 (by decide) ?_
  refine V_icmp_ne X 29 dX1_destinationAsRead_5 (by decide) (fun c1 => ?_) (fun c1 => ?_)
  · replace hs := if_f hs c1
    refine V_aload_n X dX1_destinationAsRead_29 rfl 0 rfl ?_
    refine V_get X dX1_destinationAsRead_30 r_X1_9 (gm1 ht hi) rfl rfl ?_
    obtain rfl := Option.some.inj hs; exact V_iret X hr dX1_destinationAsRead_33
  · replace hs := if_t hs c1
    refine V_aload_n X dX1_destinationAsRead_8 rfl 0 rfl ?_
    refine V_get X dX1_destinationAsRead_9 r_X1_9 (gm1 ht hi) rfl rfl ?_
    refine V_bipush X (10 : Int32) dX1_destinationAsRead_12 (by decide) ?_
    refine V_irem X dX1_destinationAsRead_14 (by decide) ?_
    refine V_bipush X (10 : Int32) dX1_destinationAsRead_15 (by decide) ?_
    refine V_imul X dX1_destinationAsRead_17 ?_
    refine V_aload_n X dX1_destinationAsRead_18 rfl 0 rfl ?_
    refine V_get X dX1_destinationAsRead_19 r_X1_9 (gm1 ht hi) rfl rfl ?_
    refine V_bipush X (10 : Int32) dX1_destinationAsRead_22 (by decide) ?_
    refine V_idiv X dX1_destinationAsRead_24 (by decide) ?_
    refine V_iadd X dX1_destinationAsRead_25 ?_
    refine V_goto X 33 dX1_destinationAsRead_26 (by decide) ?_
    obtain rfl := Option.some.inj hs; exact V_iret X hr dX1_destinationAsRead_33

def s_X4_aimByRule_L28 (fu : Nat) (t : Nat) (t1 : Nat) (i1 : Nat) (i2 : Nat) : Nat → Int32 → Int32 → S4 → Option S4
  | 0, _, _, _ => none
  | f28+1, v3, v4, Z4 => gd (inb v3 8) ((if (Z4 12 0 i2 v3.toNatClampNeg) ≤ v4 then sv (u4 Z4 1 t1 i1 8 (6 : Int32)) fun Z7 => some Z7 else (s_X2_chuteIn i2 v3 v4 Z4).bind fun q8 => (s_X4_isOpenFor t q8 t1 i1 Z4).bind fun q9 => (if q9 = 0 then s_X4_aimByRule_L28 fu t t1 i1 i2 f28 v3 (v4 + (1 : Int32)) Z4 else sv (u4 Z4 1 t1 i1 7 q8) fun Z11 => ((if v4 = 0 then some (0 : Int32) else some (1 : Int32))).bind fun q12 => sv (u4 Z11 1 t1 i1 8 q12) fun Z13 => some Z13)))
def s_X4_aimByRule (fu : Nat) (t : Nat) (t1 : Nat) (i1 : Nat) (i2 : Nat) (S : S4) : Option S4 := (s_X1_destinationAsRead t1 i1 S).bind fun q1 => (s_X2_ruleOf fu i2 q1 S).bind fun q2 => (if q2 = (-1 : Int32) then (s_X4_aimAtException t t1 i1 (S 2 0 i2 2) (4 : Int32) S).bind fun Z16 => some Z16 else s_X4_aimByRule_L28 fu t t1 i1 i2 fu q2 (0 : Int32) S)
set_option maxRecDepth 100000 in
set_option maxHeartbeats 4000000 in
theorem c_X4_aimByRule {l : Launch} {D : va_G} {cA : Nat → ClassId} {dm : Dm} {ad : Ad} {fu : Nat} {S : S4} {t : Nat} {t1 : Nat} {i1 : Nat} {i2 : Nat} (ht : DS dm t) (ht1 : DS dm t1) (hi1 : i1 < 60) (hi2 : DP dm i2) {out : S4} (hs : s_X4_aimByRule fu t t1 i1 i2 S = some out) : Ct D cA dm ad l yX4_aimByRule cX4_aimByRule 6 none 3 67 S [.ref (ad 4 t 0), .ref (ad 1 t1 i1), .ref (ad 2 0 i2)] none out := by
  refine Ct.of (by decide +kernel) (Nat.le_of_ble_eq_true rfl) [(0, .ref (ad 4 t 0)), (1, .ref (ad 1 t1 i1)), (2, .ref (ad 2 0 i2))] rfl (fun p e s m args below meth c A X hr => ?_)
  unfold s_X4_aimByRule at hs
  refine V_aload_n X dX4_aimByRule_0 rfl 2 rfl ?_
  refine V_aload_n X dX4_aimByRule_1 rfl 1 rfl ?_
  obtain ⟨q1, eq1, hs⟩ := bd_some hs
  refine V_callVs X [] dX4_aimByRule_2 m_X4_193 v_X1_destinationAsRead ⟨Nat.le_of_ble_eq_true rfl, Nat.le_of_ble_eq_true rfl⟩ ⟨Nat.zero_le _, Nat.zero_le _⟩ rfl (Nat.le_of_ble_eq_true rfl) (gm1 ht1 hi1) rfl cl1 (c_X1_destinationAsRead ht1 hi1 eq1) ?_
  obtain ⟨q2, eq2, hs⟩ := bd_some hs
  refine V_callVs X [.int q1] dX4_aimByRule_5 m_X4_196 v_X2_ruleOf ⟨Nat.le_of_ble_eq_true rfl, Nat.le_of_ble_eq_true rfl⟩ ⟨Nat.zero_le _, Nat.zero_le _⟩ rfl (Nat.le_of_ble_eq_true rfl) (gm2 hi2) rfl cl2 (c_X2_ruleOf hi2 eq2) ?_
  refine V_istore_n X dX4_aimByRule_8 rfl [(3, .int q2), (0, .ref (ad 4 t 0)), (1, .ref (ad 1 t1 i1)), (2, .ref (ad 2 0 i2))] (by decide) rfl ?_
  refine V_iload_n X dX4_aimByRule_9 rfl 0 rfl ?_
  refine V_iconst X (-1 : Int32) dX4_aimByRule_10 (by decide) ?_
  refine V_icmp_ne X 25 dX4_aimByRule_11 (by decide) (fun c3 => ?_) (fun c3 => ?_)
  · replace hs := if_f hs c3
    refine V_iconst X (0 : Int32) dX4_aimByRule_25 (by decide) ?_
    refine V_istore X dX4_aimByRule_26 [(4, .int (0 : Int32)), (3, .int q2), (0, .ref (ad 4 t 0)), (1, .ref (ad 1 t1 i1)), (2, .ref (ad 2 0 i2))] (by decide) rfl ?_
    have L28 : ∀ (n : Nat) (v3 v4 : Int32) (S1 : S4), s_X4_aimByRule_L28 fu t t1 i1 i2 n v3 v4 S1 = some out → V D cA dm ad A 6 p l e ({ frames := 3, cells := 0, slots := 0, locals := 67 }) s m args below meth c 0 0 (MQ below (gQ D cA dm ad out none A) args s 0 0 A) S1 28 [(0, .ref (ad 4 t 0)), (1, .ref (ad 1 t1 i1)), (2, .ref (ad 2 0 i2)), (3, .int v3), (4, .int v4)] [] := by
      intro n
      induction n with
      | zero => intro v3 v4 S1 hs; rw [s_X4_aimByRule_L28] at hs; cases hs
      | succ f28 ih28 =>
        intro v3 v4 Z4 hs
        rw [s_X4_aimByRule_L28] at hs
        refine V_iload X dX4_aimByRule_28 4 rfl ?_
        refine V_aload_n X dX4_aimByRule_30 rfl 2 rfl ?_
        refine V_get X dX4_aimByRule_31 r_X4_199 (gm2 hi2) rfl rfl ?_
        refine V_iload_n X dX4_aimByRule_34 rfl 3 rfl ?_
        obtain ⟨h5, hs⟩ := gd_some hs
        refine V_iald X dX4_aimByRule_35 (gm12 hi2) rfl h5 ?_
        refine V_icmp_ge X 85 dX4_aimByRule_36 (by decide) (fun c6 => ?_) (fun c6 => ?_)
        · replace hs := if_t hs c6
          refine V_aload_n X dX4_aimByRule_85 rfl 1 rfl ?_
          refine V_bipush X (6 : Int32) dX4_aimByRule_86 (by decide) ?_
          refine V_put X dX4_aimByRule_88 f_X4_169 (gm1 ht1 hi1) rfl (Nat.le_of_ble_eq_true rfl) rfl rfl rfl (fun Z7 eZ7 => ?_)
          replace hs := sv_some hs Z7 eZ7
          clear eZ7
          obtain rfl := Option.some.inj hs; exact V_vret X hr dX4_aimByRule_91
        · replace hs := if_f hs c6
          refine V_aload_n X dX4_aimByRule_39 rfl 2 rfl ?_
          refine V_iload_n X dX4_aimByRule_40 rfl 3 rfl ?_
          refine V_iload X dX4_aimByRule_41 4 rfl ?_
          obtain ⟨q8, eq8, hs⟩ := bd_some hs
          refine V_callVs X [.int v3, .int v4] dX4_aimByRule_43 m_X4_202 v_X2_chuteIn ⟨Nat.le_of_ble_eq_true rfl, Nat.le_of_ble_eq_true rfl⟩ ⟨Nat.zero_le _, Nat.zero_le _⟩ rfl (Nat.le_of_ble_eq_true rfl) (gm2 hi2) rfl cl2 (c_X2_chuteIn hi2 eq8) ?_
          refine V_istore X dX4_aimByRule_46 [(5, .int q8), (0, .ref (ad 4 t 0)), (1, .ref (ad 1 t1 i1)), (2, .ref (ad 2 0 i2)), (3, .int v3), (4, .int v4)] (by decide) rfl ?_
          refine V_aload_n X dX4_aimByRule_48 rfl 1 rfl ?_
          refine V_iload X dX4_aimByRule_49 0 rfl ?_
          refine V_aload_n X dX4_aimByRule_51 rfl 2 rfl ?_
          obtain ⟨q9, eq9, hs⟩ := bd_some hs
          refine V_callVs X [.int q8, .ref (ad 1 t1 i1)] dX4_aimByRule_52 m_X4_206 v_X4_isOpenFor ⟨Nat.le_of_ble_eq_true rfl, Nat.le_of_ble_eq_true rfl⟩ ⟨Nat.zero_le _, Nat.zero_le _⟩ rfl (Nat.le_of_ble_eq_true rfl) (gm4 ht) rfl cl4 (c_X4_isOpenFor ht ht1 hi1 eq9) ?_
          refine V_if_eq X 79 dX4_aimByRule_55 (by decide) (fun c10 => ?_) (fun c10 => ?_)
          · replace hs := if_t hs c10
            refine V_iinc X (v4 + (1 : Int32)) dX4_aimByRule_79 5 rfl rfl [(4, .int (v4 + (1 : Int32))), (5, .int q8), (0, .ref (ad 4 t 0)), (1, .ref (ad 1 t1 i1)), (2, .ref (ad 2 0 i2)), (3, .int v3)] (by decide) rfl ?_
            refine V_goto X 28 dX4_aimByRule_82 (by decide) ?_
            refine V_sub [2, 3, 4, 5, 0] rfl ?_
            exact ih28 _ _ _ hs
          · replace hs := if_f hs c10
            refine V_aload_n X dX4_aimByRule_58 rfl 2 rfl ?_
            refine V_iload X dX4_aimByRule_59 0 rfl ?_
            refine V_put X dX4_aimByRule_61 f_X4_156 (gm1 ht1 hi1) rfl (Nat.le_of_ble_eq_true rfl) rfl rfl rfl (fun Z11 eZ11 => ?_)
            replace hs := sv_some hs Z11 eZ11
            clear eZ11
            refine V_aload_n X dX4_aimByRule_64 rfl 2 rfl ?_
            refine V_iload X dX4_aimByRule_65 5 rfl ?_
            refine jn (P := fun q => V D cA dm ad A 6 p l e ({ frames := 3, cells := 0, slots := 0, locals := 67 }) s m args below meth c 0 0 (MQ below (gQ D cA dm ad out none A) args s 0 0 A) Z11 75 [(5, .int q8), (0, .ref (ad 4 t 0)), (1, .ref (ad 1 t1 i1)), (2, .ref (ad 2 0 i2)), (3, .int v3), (4, .int v4)] [.int q, .ref (ad 1 t1 i1)]) hs (fun q12 hs => ?_) (fun J75 hs => ?_)
            · refine V_put X dX4_aimByRule_75 f_X4_169 (gm1 ht1 hi1) rfl (Nat.le_of_ble_eq_true rfl) rfl rfl rfl (fun Z13 eZ13 => ?_)
              replace hs := sv_some hs Z13 eZ13
              clear eZ13
              obtain rfl := Option.some.inj hs; exact V_vret X hr dX4_aimByRule_78
            · refine V_if_ne X 74 dX4_aimByRule_67 (by decide) (fun c14 => ?_) (fun c14 => ?_)
              · replace hs := if_fB hs c14
                refine V_iconst X (1 : Int32) dX4_aimByRule_74 (by decide) ?_
                exact J75 _ (bs_some hs)
              · replace hs := if_tB hs c14
                refine V_iconst X (0 : Int32) dX4_aimByRule_70 (by decide) ?_
                refine V_goto X 75 dX4_aimByRule_71 (by decide) ?_
                exact J75 _ (bs_some hs)
    refine V_sub [2, 3, 4, 1, 0] rfl ?_
    exact L28 _ _ _ _ hs
  · replace hs := if_t hs c3
    refine V_aload_n X dX4_aimByRule_14 rfl 1 rfl ?_
    refine V_aload_n X dX4_aimByRule_15 rfl 2 rfl ?_
    refine V_aload_n X dX4_aimByRule_16 rfl 3 rfl ?_
    refine V_get X dX4_aimByRule_17 r_X4_175 (gm2 hi2) rfl rfl ?_
    refine V_iconst X (4 : Int32) dX4_aimByRule_20 (by decide) ?_
    obtain ⟨Z16, eZ16, hs⟩ := bd_some hs
    refine V_callVv X [.ref (ad 1 t1 i1), .int (S 2 0 i2 2), .int (4 : Int32)] dX4_aimByRule_21 m_X4_178 v_X4_aimAtException ⟨Nat.le_of_ble_eq_true rfl, Nat.le_of_ble_eq_true rfl⟩ ⟨Nat.zero_le _, Nat.zero_le _⟩ rfl (Nat.le_of_ble_eq_true rfl) (gm4 ht) rfl cl4 (c_X4_aimAtException ht ht1 hi1 eZ16) ?_
    obtain rfl := Option.some.inj hs; exact V_vret X hr dX4_aimByRule_24

def s_X4_scan (np : Nat) (fu : Nat) (t : Nat) (t1 : Nat) (i1 : Nat) (S : S4) : Option S4 := sv (u4 S 1 t1 i1 6 ((S 1 t1 i1 6) + (1 : Int32))) fun Z1 => (if (Z1 1 t1 i1 6) ≤ (1 : Int32) then sv (u4 Z1 1 t1 i1 7 (-1 : Int32)) fun Z3 => (s_X4_planOf np fu t (Z3 4 t 0 0) Z3).bind fun q4 => (if q4 = none then sv (u4 Z3 1 t1 i1 8 (5 : Int32)) fun Z7 => some Z7 else q4.bind fun i8 => gd (i8 < np) ((if (Z3 1 t1 i1 3) = (2 : Int32) then (s_X4_aimAtException t t1 i1 (Z3 2 0 i8 2) (2 : Int32) Z3).bind fun Z19 => some Z19 else (s_X1_rounds t1 i1 Z3).bind fun q12 => (if q12 ≤ (Z3 2 0 i8 3) then (s_X4_aimByRule fu t t1 i1 i8 Z3).bind fun Z15 => some Z15 else (s_X4_aimAtException t t1 i1 (Z3 2 0 i8 2) (3 : Int32) Z3).bind fun Z17 => some Z17)))) else sv (u4 Z1 4 t 0 8 ((Z1 4 t 0 8) + (1 : Int32))) fun Z20 => sv (u4 Z20 1 t1 i1 7 (-1 : Int32)) fun Z21 => (s_X4_planOf np fu t (Z21 4 t 0 0) Z21).bind fun q22 => (if q22 = none then sv (u4 Z21 1 t1 i1 8 (5 : Int32)) fun Z25 => some Z25 else q22.bind fun i26 => gd (i26 < np) ((if (Z21 1 t1 i1 3) = (2 : Int32) then (s_X4_aimAtException t t1 i1 (Z21 2 0 i26 2) (2 : Int32) Z21).bind fun Z37 => some Z37 else (s_X1_rounds t1 i1 Z21).bind fun q30 => (if q30 ≤ (Z21 2 0 i26 3) then (s_X4_aimByRule fu t t1 i1 i26 Z21).bind fun Z33 => some Z33 else (s_X4_aimAtException t t1 i1 (Z21 2 0 i26 2) (3 : Int32) Z21).bind fun Z35 => some Z35)))))
set_option maxRecDepth 100000 in
set_option maxHeartbeats 4000000 in
theorem c_X4_scan {l : Launch} {D : va_G} {cA : Nat → ClassId} {dm : Dm} {ad : Ad} {np : Nat} {fu : Nat} {S : S4} {t : Nat} {t1 : Nat} {i1 : Nat} (ht : DS dm t) (ht1 : DS dm t1) (hi1 : i1 < 60) (hnp : ∀ i, i < np → DP dm i) {out : S4} (hs : s_X4_scan np fu t t1 i1 S = some out) : Ct D cA dm ad l yX4_scan cX4_scan 3 none 4 92 S [.ref (ad 4 t 0), .ref (ad 1 t1 i1)] none out := by
  refine Ct.of (by decide +kernel) (Nat.le_of_ble_eq_true rfl) [(0, .ref (ad 4 t 0)), (1, .ref (ad 1 t1 i1))] rfl (fun p e s m args below meth c A X hr => ?_)
  unfold s_X4_scan at hs
  refine V_aload_n X dX4_scan_0 rfl 1 rfl ?_
  refine V_dup X dX4_scan_1 rfl ?_
  refine V_get X dX4_scan_2 r_X4_166 (gm1 ht1 hi1) rfl rfl ?_
  refine V_iconst X (1 : Int32) dX4_scan_5 (by decide) ?_
  refine V_iadd X dX4_scan_6 ?_
  refine V_put X dX4_scan_7 f_X4_166 (gm1 ht1 hi1) rfl (Nat.le_of_ble_eq_true rfl) rfl rfl rfl (fun Z1 eZ1 => ?_)
  replace hs := sv_some hs Z1 eZ1
  clear eZ1
  refine V_aload_n X dX4_scan_10 rfl 1 rfl ?_
  refine V_get X dX4_scan_11 r_X4_166 (gm1 ht1 hi1) rfl rfl ?_
  refine V_iconst X (1 : Int32) dX4_scan_14 (by decide) ?_
  refine V_icmp_le X 28 dX4_scan_15 (by decide) (fun c2 => ?_) (fun c2 => ?_)
  · replace hs := if_t hs c2
    refine V_aload_n X dX4_scan_28 rfl 1 rfl ?_
    refine V_iconst X (-1 : Int32) dX4_scan_29 (by decide) ?_
    refine V_put X dX4_scan_30 f_X4_156 (gm1 ht1 hi1) rfl (Nat.le_of_ble_eq_true rfl) rfl rfl rfl (fun Z3 eZ3 => ?_)
    replace hs := sv_some hs Z3 eZ3
    clear eZ3
    refine V_aload_n X dX4_scan_33 rfl 0 rfl ?_
    refine V_aload_n X dX4_scan_34 rfl 0 rfl ?_
    refine V_get X dX4_scan_35 r_X4_56 (gm4 ht) rfl rfl ?_
    obtain ⟨q4, eq4, hs⟩ := bd_some hs
    refine V_callVs X [.int (Z3 4 t 0 0)] dX4_scan_38 m_X4_133 v_X4_planOf ⟨Nat.le_of_ble_eq_true rfl, Nat.le_of_ble_eq_true rfl⟩ ⟨Nat.zero_le _, Nat.zero_le _⟩ rfl (Nat.le_of_ble_eq_true rfl) (gm4 ht) rfl cl4 (c_X4_planOf ht hnp eq4) ?_
    by_cases c5 : q4 = none
    · replace hs := if_t hs c5
      rw [c5, rfn]
      refine V_astore_nN X dX4_scan_41 rfl [(2, .null), (0, .ref (ad 4 t 0)), (1, .ref (ad 1 t1 i1))] (by decide) rfl ?_
      refine V_aload_nN X dX4_scan_42 rfl 0 rfl ?_
      refine V_ifnonnullN X dX4_scan_43 ?_
      refine V_aload_n X dX4_scan_46 rfl 2 rfl ?_
      refine V_iconst X (5 : Int32) dX4_scan_47 (by decide) ?_
      refine V_put X dX4_scan_48 f_X4_169 (gm1 ht1 hi1) rfl (Nat.le_of_ble_eq_true rfl) rfl rfl rfl (fun Z7 eZ7 => ?_)
      replace hs := sv_some hs Z7 eZ7
      clear eZ7
      refine V_goto X 105 dX4_scan_51 (by decide) ?_
      obtain rfl := Option.some.inj hs; exact V_vret X hr dX4_scan_105
    · replace hs := if_f hs c5
      obtain ⟨i8, qi8, hs⟩ := bd_some hs
      obtain ⟨h9, hs⟩ := gd_some hs
      rw [qi8, rfs]
      refine V_astore_n X dX4_scan_41 rfl [(2, .ref (ad 2 0 i8)), (0, .ref (ad 4 t 0)), (1, .ref (ad 1 t1 i1))] (by decide) rfl ?_
      refine V_aload_n X dX4_scan_42 rfl 0 rfl ?_
      refine V_ifnonnull X 54 dX4_scan_43 (by decide) ?_
      refine V_aload_n X dX4_scan_54 rfl 2 rfl ?_
      refine V_get X dX4_scan_55 r_X4_172 (gm1 ht1 hi1) rfl rfl ?_
      refine V_iconst X (2 : Int32) dX4_scan_58 (by decide) ?_
      refine V_icmp_ne X 75 dX4_scan_59 (by decide) (fun c11 => ?_) (fun c11 => ?_)
      · replace hs := if_f hs c11
        refine V_aload_n X dX4_scan_75 rfl 2 rfl ?_
        obtain ⟨q12, eq12, hs⟩ := bd_some hs
        refine V_callVs X [] dX4_scan_76 m_X4_182 v_X1_rounds ⟨Nat.le_of_ble_eq_true rfl, Nat.le_of_ble_eq_true rfl⟩ ⟨Nat.zero_le _, Nat.zero_le _⟩ rfl (Nat.le_of_ble_eq_true rfl) (gm1 ht1 hi1) rfl cl1 (c_X1_rounds ht1 hi1 eq12) ?_
        refine V_aload_n X dX4_scan_79 rfl 0 rfl ?_
        refine V_get X dX4_scan_80 r_X4_186 (gm2 (hnp _ h9)) rfl rfl ?_
        refine V_icmp_le X 99 dX4_scan_83 (by decide) (fun c13 => ?_) (fun c13 => ?_)
        · replace hs := if_t hs c13
          refine V_aload_n X dX4_scan_99 rfl 1 rfl ?_
          refine V_aload_n X dX4_scan_100 rfl 2 rfl ?_
          refine V_aload_n X dX4_scan_101 rfl 0 rfl ?_
          obtain ⟨Z15, eZ15, hs⟩ := bd_some hs
          refine V_callVv X [.ref (ad 1 t1 i1), .ref (ad 2 0 i8)] dX4_scan_102 m_X4_189 v_X4_aimByRule ⟨Nat.le_of_ble_eq_true rfl, Nat.le_of_ble_eq_true rfl⟩ ⟨Nat.zero_le _, Nat.zero_le _⟩ rfl (Nat.le_of_ble_eq_true rfl) (gm4 ht) rfl cl4 (c_X4_aimByRule ht ht1 hi1 (hnp _ h9) eZ15) ?_
          obtain rfl := Option.some.inj hs; exact V_vret X hr dX4_scan_105
        · replace hs := if_f hs c13
          refine V_aload_n X dX4_scan_86 rfl 1 rfl ?_
          refine V_aload_n X dX4_scan_87 rfl 2 rfl ?_
          refine V_aload_n X dX4_scan_88 rfl 0 rfl ?_
          refine V_get X dX4_scan_89 r_X4_175 (gm2 (hnp _ h9)) rfl rfl ?_
          refine V_iconst X (3 : Int32) dX4_scan_92 (by decide) ?_
          obtain ⟨Z17, eZ17, hs⟩ := bd_some hs
          refine V_callVv X [.ref (ad 1 t1 i1), .int (Z3 2 0 i8 2), .int (3 : Int32)] dX4_scan_93 m_X4_178 v_X4_aimAtException ⟨Nat.le_of_ble_eq_true rfl, Nat.le_of_ble_eq_true rfl⟩ ⟨Nat.zero_le _, Nat.zero_le _⟩ rfl (Nat.le_of_ble_eq_true rfl) (gm4 ht) rfl cl4 (c_X4_aimAtException ht ht1 hi1 eZ17) ?_
          refine V_goto X 105 dX4_scan_96 (by decide) ?_
          obtain rfl := Option.some.inj hs; exact V_vret X hr dX4_scan_105
      · replace hs := if_t hs c11
        refine V_aload_n X dX4_scan_62 rfl 1 rfl ?_
        refine V_aload_n X dX4_scan_63 rfl 2 rfl ?_
        refine V_aload_n X dX4_scan_64 rfl 0 rfl ?_
        refine V_get X dX4_scan_65 r_X4_175 (gm2 (hnp _ h9)) rfl rfl ?_
        refine V_iconst X (2 : Int32) dX4_scan_68 (by decide) ?_
        obtain ⟨Z19, eZ19, hs⟩ := bd_some hs
        refine V_callVv X [.ref (ad 1 t1 i1), .int (Z3 2 0 i8 2), .int (2 : Int32)] dX4_scan_69 m_X4_178 v_X4_aimAtException ⟨Nat.le_of_ble_eq_true rfl, Nat.le_of_ble_eq_true rfl⟩ ⟨Nat.zero_le _, Nat.zero_le _⟩ rfl (Nat.le_of_ble_eq_true rfl) (gm4 ht) rfl cl4 (c_X4_aimAtException ht ht1 hi1 eZ19) ?_
        refine V_goto X 105 dX4_scan_72 (by decide) ?_
        obtain rfl := Option.some.inj hs; exact V_vret X hr dX4_scan_105
  · replace hs := if_f hs c2
    refine V_aload_n X dX4_scan_18 rfl 0 rfl ?_
    refine V_dup X dX4_scan_19 rfl ?_
    refine V_get X dX4_scan_20 r_X4_77 (gm4 ht) rfl rfl ?_
    refine V_iconst X (1 : Int32) dX4_scan_23 (by decide) ?_
    refine V_iadd X dX4_scan_24 ?_
    refine V_put X dX4_scan_25 f_X4_77 (gm4 ht) rfl (Nat.le_of_ble_eq_true rfl) rfl rfl rfl (fun Z20 eZ20 => ?_)
    replace hs := sv_some hs Z20 eZ20
    clear eZ20
    refine V_aload_n X dX4_scan_28 rfl 1 rfl ?_
    refine V_iconst X (-1 : Int32) dX4_scan_29 (by decide) ?_
    refine V_put X dX4_scan_30 f_X4_156 (gm1 ht1 hi1) rfl (Nat.le_of_ble_eq_true rfl) rfl rfl rfl (fun Z21 eZ21 => ?_)
    replace hs := sv_some hs Z21 eZ21
    clear eZ21
    refine V_aload_n X dX4_scan_33 rfl 0 rfl ?_
    refine V_aload_n X dX4_scan_34 rfl 0 rfl ?_
    refine V_get X dX4_scan_35 r_X4_56 (gm4 ht) rfl rfl ?_
    obtain ⟨q22, eq22, hs⟩ := bd_some hs
    refine V_callVs X [.int (Z21 4 t 0 0)] dX4_scan_38 m_X4_133 v_X4_planOf ⟨Nat.le_of_ble_eq_true rfl, Nat.le_of_ble_eq_true rfl⟩ ⟨Nat.zero_le _, Nat.zero_le _⟩ rfl (Nat.le_of_ble_eq_true rfl) (gm4 ht) rfl cl4 (c_X4_planOf ht hnp eq22) ?_
    by_cases c23 : q22 = none
    · replace hs := if_t hs c23
      rw [c23, rfn]
      refine V_astore_nN X dX4_scan_41 rfl [(2, .null), (0, .ref (ad 4 t 0)), (1, .ref (ad 1 t1 i1))] (by decide) rfl ?_
      refine V_aload_nN X dX4_scan_42 rfl 0 rfl ?_
      refine V_ifnonnullN X dX4_scan_43 ?_
      refine V_aload_n X dX4_scan_46 rfl 2 rfl ?_
      refine V_iconst X (5 : Int32) dX4_scan_47 (by decide) ?_
      refine V_put X dX4_scan_48 f_X4_169 (gm1 ht1 hi1) rfl (Nat.le_of_ble_eq_true rfl) rfl rfl rfl (fun Z25 eZ25 => ?_)
      replace hs := sv_some hs Z25 eZ25
      clear eZ25
      refine V_goto X 105 dX4_scan_51 (by decide) ?_
      obtain rfl := Option.some.inj hs; exact V_vret X hr dX4_scan_105
    · replace hs := if_f hs c23
      obtain ⟨i26, qi26, hs⟩ := bd_some hs
      obtain ⟨h27, hs⟩ := gd_some hs
      rw [qi26, rfs]
      refine V_astore_n X dX4_scan_41 rfl [(2, .ref (ad 2 0 i26)), (0, .ref (ad 4 t 0)), (1, .ref (ad 1 t1 i1))] (by decide) rfl ?_
      refine V_aload_n X dX4_scan_42 rfl 0 rfl ?_
      refine V_ifnonnull X 54 dX4_scan_43 (by decide) ?_
      refine V_aload_n X dX4_scan_54 rfl 2 rfl ?_
      refine V_get X dX4_scan_55 r_X4_172 (gm1 ht1 hi1) rfl rfl ?_
      refine V_iconst X (2 : Int32) dX4_scan_58 (by decide) ?_
      refine V_icmp_ne X 75 dX4_scan_59 (by decide) (fun c29 => ?_) (fun c29 => ?_)
      · replace hs := if_f hs c29
        refine V_aload_n X dX4_scan_75 rfl 2 rfl ?_
        obtain ⟨q30, eq30, hs⟩ := bd_some hs
        refine V_callVs X [] dX4_scan_76 m_X4_182 v_X1_rounds ⟨Nat.le_of_ble_eq_true rfl, Nat.le_of_ble_eq_true rfl⟩ ⟨Nat.zero_le _, Nat.zero_le _⟩ rfl (Nat.le_of_ble_eq_true rfl) (gm1 ht1 hi1) rfl cl1 (c_X1_rounds ht1 hi1 eq30) ?_
        refine V_aload_n X dX4_scan_79 rfl 0 rfl ?_
        refine V_get X dX4_scan_80 r_X4_186 (gm2 (hnp _ h27)) rfl rfl ?_
        refine V_icmp_le X 99 dX4_scan_83 (by decide) (fun c31 => ?_) (fun c31 => ?_)
        · replace hs := if_t hs c31
          refine V_aload_n X dX4_scan_99 rfl 1 rfl ?_
          refine V_aload_n X dX4_scan_100 rfl 2 rfl ?_
          refine V_aload_n X dX4_scan_101 rfl 0 rfl ?_
          obtain ⟨Z33, eZ33, hs⟩ := bd_some hs
          refine V_callVv X [.ref (ad 1 t1 i1), .ref (ad 2 0 i26)] dX4_scan_102 m_X4_189 v_X4_aimByRule ⟨Nat.le_of_ble_eq_true rfl, Nat.le_of_ble_eq_true rfl⟩ ⟨Nat.zero_le _, Nat.zero_le _⟩ rfl (Nat.le_of_ble_eq_true rfl) (gm4 ht) rfl cl4 (c_X4_aimByRule ht ht1 hi1 (hnp _ h27) eZ33) ?_
          obtain rfl := Option.some.inj hs; exact V_vret X hr dX4_scan_105
        · replace hs := if_f hs c31
          refine V_aload_n X dX4_scan_86 rfl 1 rfl ?_
          refine V_aload_n X dX4_scan_87 rfl 2 rfl ?_
          refine V_aload_n X dX4_scan_88 rfl 0 rfl ?_
          refine V_get X dX4_scan_89 r_X4_175 (gm2 (hnp _ h27)) rfl rfl ?_
          refine V_iconst X (3 : Int32) dX4_scan_92 (by decide) ?_
          obtain ⟨Z35, eZ35, hs⟩ := bd_some hs
          refine V_callVv X [.ref (ad 1 t1 i1), .int (Z21 2 0 i26 2), .int (3 : Int32)] dX4_scan_93 m_X4_178 v_X4_aimAtException ⟨Nat.le_of_ble_eq_true rfl, Nat.le_of_ble_eq_true rfl⟩ ⟨Nat.zero_le _, Nat.zero_le _⟩ rfl (Nat.le_of_ble_eq_true rfl) (gm4 ht) rfl cl4 (c_X4_aimAtException ht ht1 hi1 eZ35) ?_
          refine V_goto X 105 dX4_scan_96 (by decide) ?_
          obtain rfl := Option.some.inj hs; exact V_vret X hr dX4_scan_105
      · replace hs := if_t hs c29
        refine V_aload_n X dX4_scan_62 rfl 1 rfl ?_
        refine V_aload_n X dX4_scan_63 rfl 2 rfl ?_
        refine V_aload_n X dX4_scan_64 rfl 0 rfl ?_
        refine V_get X dX4_scan_65 r_X4_175 (gm2 (hnp _ h27)) rfl rfl ?_
        refine V_iconst X (2 : Int32) dX4_scan_68 (by decide) ?_
        obtain ⟨Z37, eZ37, hs⟩ := bd_some hs
        refine V_callVv X [.ref (ad 1 t1 i1), .int (Z21 2 0 i26 2), .int (2 : Int32)] dX4_scan_69 m_X4_178 v_X4_aimAtException ⟨Nat.le_of_ble_eq_true rfl, Nat.le_of_ble_eq_true rfl⟩ ⟨Nat.zero_le _, Nat.zero_le _⟩ rfl (Nat.le_of_ble_eq_true rfl) (gm4 ht) rfl cl4 (c_X4_aimAtException ht ht1 hi1 eZ37) ?_
        refine V_goto X 105 dX4_scan_72 (by decide) ?_
        obtain rfl := Option.some.inj hs; exact V_vret X hr dX4_scan_105

def s_X1_spoil (t : Nat) (i : Nat) (p1 : Int32) (S : S4) : Option S4 := sv (u4 S 1 t i 11 ((S 1 t i 11) ||| ((1 : Int32) <<< (p1 &&& 31)))) fun Z1 => some Z1
set_option maxRecDepth 100000 in
set_option maxHeartbeats 4000000 in
theorem c_X1_spoil {l : Launch} {D : va_G} {cA : Nat → ClassId} {dm : Dm} {ad : Ad} {S : S4} {t : Nat} {i : Nat} {p1 : Int32} (ht : DS dm t) (hi : i < 60) {out : S4} (hs : s_X1_spoil t i p1 S = some out) : Ct D cA dm ad l yX1_spoil cX1_spoil 2 none 0 0 S [.ref (ad 1 t i), .int p1] none out := by
  refine Ct.of (by decide +kernel) (Nat.le_of_ble_eq_true rfl) [(0, .ref (ad 1 t i)), (1, .int p1)] rfl (fun p e s m args below meth c A X hr => ?_)
  unfold s_X1_spoil at hs
  refine V_aload_n X dX1_spoil_0 rfl 0 rfl ?_
  refine V_dup X dX1_spoil_1 rfl ?_
  refine V_get X dX1_spoil_2 r_X1_39 (gm1 ht hi) rfl rfl ?_
  refine V_iconst X (1 : Int32) dX1_spoil_5 (by decide) ?_
  refine V_iload_n X dX1_spoil_6 rfl 1 rfl ?_
  refine V_ishl X dX1_spoil_7 ?_
  refine V_ior X dX1_spoil_8 ?_
  refine V_put X dX1_spoil_9 f_X1_39 (gm1 ht hi) rfl (Nat.le_of_ble_eq_true rfl) rfl rfl rfl (fun Z1 eZ1 => ?_)
  replace hs := sv_some hs Z1 eZ1
  clear eZ1
  obtain rfl := Option.some.inj hs; exact V_vret X hr dX1_spoil_12

def s_X0_jam (t : Nat) (i : Nat) (S : S4) : Option S4 := sv (u4 S 0 t i 7 (S 0 t i 4)) fun Z1 => sv (u4 Z1 0 t i 12 ((Z1 0 t i 12) + (1 : Int32))) fun Z2 => some Z2
set_option maxRecDepth 100000 in
set_option maxHeartbeats 4000000 in
theorem c_X0_jam {l : Launch} {D : va_G} {cA : Nat → ClassId} {dm : Dm} {ad : Ad} {S : S4} {t : Nat} {i : Nat} (ht : DS dm t) (hi : i < 8) {out : S4} (hs : s_X0_jam t i S = some out) : Ct D cA dm ad l yX0_jam cX0_jam 1 none 0 0 S [.ref (ad 0 t i)] none out := by
  refine Ct.of (by decide +kernel) (Nat.le_of_ble_eq_true rfl) [(0, .ref (ad 0 t i))] rfl (fun p e s m args below meth c A X hr => ?_)
  unfold s_X0_jam at hs
  refine V_aload_n X dX0_jam_0 rfl 0 rfl ?_
  refine V_aload_n X dX0_jam_1 rfl 0 rfl ?_
  refine V_get X dX0_jam_2 r_X0_52 (gm0 ht hi) rfl rfl ?_
  refine V_put X dX0_jam_5 f_X0_15 (gm0 ht hi) rfl (Nat.le_of_ble_eq_true rfl) rfl rfl rfl (fun Z1 eZ1 => ?_)
  replace hs := sv_some hs Z1 eZ1
  clear eZ1
  refine V_aload_n X dX0_jam_8 rfl 0 rfl ?_
  refine V_dup X dX0_jam_9 rfl ?_
  refine V_get X dX0_jam_10 r_X0_31 (gm0 ht hi) rfl rfl ?_
  refine V_iconst X (1 : Int32) dX0_jam_13 (by decide) ?_
  refine V_iadd X dX0_jam_14 ?_
  refine V_put X dX0_jam_15 f_X0_31 (gm0 ht hi) rfl (Nat.le_of_ble_eq_true rfl) rfl rfl rfl (fun Z2 eZ2 => ?_)
  replace hs := sv_some hs Z2 eZ2
  clear eZ2
  obtain rfl := Option.some.inj hs; exact V_vret X hr dX0_jam_18

def s_X0_isWithinGap (t : Nat) (i : Nat) (p1 : Int32) (S : S4) : Option Int32 := (if (S 0 t i 10) = (-1 : Int32) then some (0 : Int32) else (if (S 0 t i 2) ≤ (p1 - (S 0 t i 10)) then some (0 : Int32) else some (1 : Int32)))
set_option maxRecDepth 100000 in
set_option maxHeartbeats 4000000 in
theorem c_X0_isWithinGap {l : Launch} {D : va_G} {cA : Nat → ClassId} {dm : Dm} {ad : Ad} {S : S4} {t : Nat} {i : Nat} {p1 : Int32} (ht : DS dm t) (hi : i < 8) {out : Int32} (hs : s_X0_isWithinGap t i p1 S = some out) : Ct D cA dm ad l yX0_isWithinGap cX0_isWithinGap 2 (some .boolean) 0 0 S [.ref (ad 0 t i), .int p1] (some (.int out)) S := by
  refine Ct.of (by decide +kernel) (Nat.le_of_ble_eq_true rfl) [(0, .ref (ad 0 t i)), (1, .int p1)] rfl (fun p e s m args below meth c A X hr => ?_)
  unfold s_X0_isWithinGap at hs
  refine V_aload_n X dX0_isWithinGap_0 rfl 0 rfl ?_
  refine V_get X dX0_isWithinGap_1 r_X0_25 (gm0 ht hi) rfl rfl ?_
  refine V_iconst X (-1 : Int32) dX0_isWithinGap_4 (by decide) ?_
  refine V_icmp_eq X 25 dX0_isWithinGap_5 (by decide) (fun c1 => ?_) (fun c1 => ?_)
  · replace hs := if_t hs c1
    refine V_iconst X (0 : Int32) dX0_isWithinGap_25 (by decide) ?_
    obtain rfl := Option.some.inj hs; exact V_zret X hr nb0 dX0_isWithinGap_26
  · replace hs := if_f hs c1
    refine V_iload_n X dX0_isWithinGap_8 rfl 1 rfl ?_
    refine V_aload_n X dX0_isWithinGap_9 rfl 0 rfl ?_
    refine V_get X dX0_isWithinGap_10 r_X0_25 (gm0 ht hi) rfl rfl ?_
    refine V_isub X dX0_isWithinGap_13 ?_
    refine V_aload_n X dX0_isWithinGap_14 rfl 0 rfl ?_
    refine V_get X dX0_isWithinGap_15 r_X0_46 (gm0 ht hi) rfl rfl ?_
    refine V_icmp_ge X 25 dX0_isWithinGap_18 (by decide) (fun c2 => ?_) (fun c2 => ?_)
    · replace hs := if_t hs c2
      refine V_iconst X (0 : Int32) dX0_isWithinGap_25 (by decide) ?_
      obtain rfl := Option.some.inj hs; exact V_zret X hr nb0 dX0_isWithinGap_26
    · replace hs := if_f hs c2
      refine V_iconst X (1 : Int32) dX0_isWithinGap_21 (by decide) ?_
      refine V_goto X 26 dX0_isWithinGap_22 (by decide) ?_
      obtain rfl := Option.some.inj hs; exact V_zret X hr nb1 dX0_isWithinGap_26

def s_X4_verdictOf (np : Nat) (fu : Nat) (t : Nat) (t1 : Nat) (i1 : Nat) (p2 : Int32) (S : S4) : Option Int32 := (s_X4_planOf np fu t (S 4 t 0 0) S).bind fun q1 => (if q1 = none then (if (S 1 t1 i1 3) = (1 : Int32) then some (2 : Int32) else some (3 : Int32)) else q1.bind fun i7 => gd (i7 < np) ((if (S 2 0 i7 2) = p2 then some (1 : Int32) else (s_X2_ruleOf fu i7 (S 1 t1 i1 0) S).bind fun q12 => (if q12 = (-1 : Int32) then (if (S 1 t1 i1 3) = (1 : Int32) then some (2 : Int32) else some (3 : Int32)) else (s_X2_hasChute fu i7 q12 p2 S).bind fun q15 => (if q15 = 0 then (if (S 1 t1 i1 3) = (1 : Int32) then some (2 : Int32) else some (3 : Int32)) else some (0 : Int32))))))
set_option maxRecDepth 100000 in
set_option maxHeartbeats 4000000 in
theorem c_X4_verdictOf {l : Launch} {D : va_G} {cA : Nat → ClassId} {dm : Dm} {ad : Ad} {np : Nat} {fu : Nat} {S : S4} {t : Nat} {t1 : Nat} {i1 : Nat} {p2 : Int32} (ht : DS dm t) (ht1 : DS dm t1) (hi1 : i1 < 60) (hnp : ∀ i, i < np → DP dm i) {out : Int32} (hs : s_X4_verdictOf np fu t t1 i1 p2 S = some out) : Ct D cA dm ad l yX4_verdictOf cX4_verdictOf 5 (some .int) 2 45 S [.ref (ad 4 t 0), .ref (ad 1 t1 i1), .int p2] (some (.int out)) S := by
  refine Ct.of (by decide +kernel) (Nat.le_of_ble_eq_true rfl) [(0, .ref (ad 4 t 0)), (1, .ref (ad 1 t1 i1)), (2, .int p2)] rfl (fun p e s m args below meth c A X hr => ?_)
  unfold s_X4_verdictOf at hs
  refine V_aload_n X dX4_verdictOf_0 rfl 0 rfl ?_
  refine V_aload_n X dX4_verdictOf_1 rfl 0 rfl ?_
  refine V_get X dX4_verdictOf_2 r_X4_56 (gm4 ht) rfl rfl ?_
  obtain ⟨q1, eq1, hs⟩ := bd_some hs
  refine V_callVs X [.int (S 4 t 0 0)] dX4_verdictOf_5 m_X4_133 v_X4_planOf ⟨Nat.le_of_ble_eq_true rfl, Nat.le_of_ble_eq_true rfl⟩ ⟨Nat.zero_le _, Nat.zero_le _⟩ rfl (Nat.le_of_ble_eq_true rfl) (gm4 ht) rfl cl4 (c_X4_planOf ht hnp eq1) ?_
  by_cases c2 : q1 = none
  · replace hs := if_t hs c2
    rw [c2, rfn]
    refine V_astore_nN X dX4_verdictOf_8 rfl [(3, .null), (0, .ref (ad 4 t 0)), (1, .ref (ad 1 t1 i1)), (2, .int p2)] (by decide) rfl ?_
    refine V_aload_nN X dX4_verdictOf_9 rfl 0 rfl ?_
    refine V_ifnullN X 23 dX4_verdictOf_10 (by decide) ?_
    refine V_aload_nN X dX4_verdictOf_23 rfl 0 rfl ?_
    refine V_ifnullN X 38 dX4_verdictOf_24 (by decide) ?_
    refine V_iconst X (-1 : Int32) dX4_verdictOf_38 (by decide) ?_
    refine V_istore X dX4_verdictOf_39 [(4, .int (-1 : Int32)), (3, .null), (0, .ref (ad 4 t 0)), (1, .ref (ad 1 t1 i1)), (2, .int p2)] (by decide) rfl ?_
    refine V_iload X dX4_verdictOf_41 0 rfl ?_
    refine V_iconst X (-1 : Int32) dX4_verdictOf_43 (by decide) ?_
    refine V_icmp_eq X 59 dX4_verdictOf_44 (by decide) (fun c5 => ?_) (fun c5 => ?_)
    · clear c5
      refine V_aload_n X dX4_verdictOf_59 rfl 3 rfl ?_
      refine V_get X dX4_verdictOf_60 r_X4_172 (gm1 ht1 hi1) rfl rfl ?_
      refine V_iconst X (1 : Int32) dX4_verdictOf_63 (by decide) ?_
      refine V_icmp_ne X 71 dX4_verdictOf_64 (by decide) (fun c6 => ?_) (fun c6 => ?_)
      · replace hs := if_f hs c6
        refine V_iconst X (3 : Int32) dX4_verdictOf_71 (by decide) ?_
        obtain rfl := Option.some.inj hs; exact V_iret X hr dX4_verdictOf_72
      · replace hs := if_t hs c6
        refine V_iconst X (2 : Int32) dX4_verdictOf_67 (by decide) ?_
        refine V_goto X 72 dX4_verdictOf_68 (by decide) ?_
        obtain rfl := Option.some.inj hs; exact V_iret X hr dX4_verdictOf_72
    · exact absurd (by decide) c5
  · replace hs := if_f hs c2
    obtain ⟨i7, qi7, hs⟩ := bd_some hs
    obtain ⟨h8, hs⟩ := gd_some hs
    rw [qi7, rfs]
    refine V_astore_n X dX4_verdictOf_8 rfl [(3, .ref (ad 2 0 i7)), (0, .ref (ad 4 t 0)), (1, .ref (ad 1 t1 i1)), (2, .int p2)] (by decide) rfl ?_
    refine V_aload_n X dX4_verdictOf_9 rfl 0 rfl ?_
    refine V_ifnull X dX4_verdictOf_10 ?_
    refine V_aload_n X dX4_verdictOf_13 rfl 0 rfl ?_
    refine V_get X dX4_verdictOf_14 r_X4_175 (gm2 (hnp _ h8)) rfl rfl ?_
    refine V_iload_n X dX4_verdictOf_17 rfl 3 rfl ?_
    refine V_icmp_ne X 23 dX4_verdictOf_18 (by decide) (fun c10 => ?_) (fun c10 => ?_)
    · replace hs := if_f hs c10
      refine V_aload_n X dX4_verdictOf_23 rfl 0 rfl ?_
      refine V_ifnull X dX4_verdictOf_24 ?_
      refine V_aload_n X dX4_verdictOf_27 rfl 0 rfl ?_
      refine V_aload_n X dX4_verdictOf_28 rfl 2 rfl ?_
      refine V_get X dX4_verdictOf_29 r_X4_117 (gm1 ht1 hi1) rfl rfl ?_
      obtain ⟨q12, eq12, hs⟩ := bd_some hs
      refine V_callVs X [.int (S 1 t1 i1 0)] dX4_verdictOf_32 m_X4_196 v_X2_ruleOf ⟨Nat.le_of_ble_eq_true rfl, Nat.le_of_ble_eq_true rfl⟩ ⟨Nat.zero_le _, Nat.zero_le _⟩ rfl (Nat.le_of_ble_eq_true rfl) (gm2 (hnp _ h8)) rfl cl2 (c_X2_ruleOf (hnp _ h8) eq12) ?_
      refine V_goto X 39 dX4_verdictOf_35 (by decide) ?_
      refine V_istore X dX4_verdictOf_39 [(4, .int q12), (3, .ref (ad 2 0 i7)), (0, .ref (ad 4 t 0)), (1, .ref (ad 1 t1 i1)), (2, .int p2)] (by decide) rfl ?_
      refine V_iload X dX4_verdictOf_41 0 rfl ?_
      refine V_iconst X (-1 : Int32) dX4_verdictOf_43 (by decide) ?_
      refine V_icmp_eq X 59 dX4_verdictOf_44 (by decide) (fun c13 => ?_) (fun c13 => ?_)
      · replace hs := if_t hs c13
        refine V_aload_n X dX4_verdictOf_59 rfl 3 rfl ?_
        refine V_get X dX4_verdictOf_60 r_X4_172 (gm1 ht1 hi1) rfl rfl ?_
        refine V_iconst X (1 : Int32) dX4_verdictOf_63 (by decide) ?_
        refine V_icmp_ne X 71 dX4_verdictOf_64 (by decide) (fun c14 => ?_) (fun c14 => ?_)
        · replace hs := if_f hs c14
          refine V_iconst X (3 : Int32) dX4_verdictOf_71 (by decide) ?_
          obtain rfl := Option.some.inj hs; exact V_iret X hr dX4_verdictOf_72
        · replace hs := if_t hs c14
          refine V_iconst X (2 : Int32) dX4_verdictOf_67 (by decide) ?_
          refine V_goto X 72 dX4_verdictOf_68 (by decide) ?_
          obtain rfl := Option.some.inj hs; exact V_iret X hr dX4_verdictOf_72
      · replace hs := if_f hs c13
        refine V_aload_n X dX4_verdictOf_47 rfl 1 rfl ?_
        refine V_iload X dX4_verdictOf_48 0 rfl ?_
        refine V_iload_n X dX4_verdictOf_50 rfl 4 rfl ?_
        obtain ⟨q15, eq15, hs⟩ := bd_some hs
        refine V_callVs X [.int q12, .int p2] dX4_verdictOf_51 m_X4_260 v_X2_hasChute ⟨Nat.le_of_ble_eq_true rfl, Nat.le_of_ble_eq_true rfl⟩ ⟨Nat.zero_le _, Nat.zero_le _⟩ rfl (Nat.le_of_ble_eq_true rfl) (gm2 (hnp _ h8)) rfl cl2 (c_X2_hasChute (hnp _ h8) eq15) ?_
        refine V_if_eq X 59 dX4_verdictOf_54 (by decide) (fun c16 => ?_) (fun c16 => ?_)
        · replace hs := if_t hs c16
          refine V_aload_n X dX4_verdictOf_59 rfl 3 rfl ?_
          refine V_get X dX4_verdictOf_60 r_X4_172 (gm1 ht1 hi1) rfl rfl ?_
          refine V_iconst X (1 : Int32) dX4_verdictOf_63 (by decide) ?_
          refine V_icmp_ne X 71 dX4_verdictOf_64 (by decide) (fun c17 => ?_) (fun c17 => ?_)
          · replace hs := if_f hs c17
            refine V_iconst X (3 : Int32) dX4_verdictOf_71 (by decide) ?_
            obtain rfl := Option.some.inj hs; exact V_iret X hr dX4_verdictOf_72
          · replace hs := if_t hs c17
            refine V_iconst X (2 : Int32) dX4_verdictOf_67 (by decide) ?_
            refine V_goto X 72 dX4_verdictOf_68 (by decide) ?_
            obtain rfl := Option.some.inj hs; exact V_iret X hr dX4_verdictOf_72
        · replace hs := if_f hs c16
          refine V_iconst X (0 : Int32) dX4_verdictOf_57 (by decide) ?_
          obtain rfl := Option.some.inj hs; exact V_iret X hr dX4_verdictOf_58
    · replace hs := if_t hs c10
      refine V_iconst X (1 : Int32) dX4_verdictOf_21 (by decide) ?_
      obtain rfl := Option.some.inj hs; exact V_iret X hr dX4_verdictOf_22

def s_X0_finishBag (t : Nat) (i : Nat) (S : S4) : Option S4 := sv (u4 S 0 t i 14 ((S 0 t i 14) + (1 : Int32))) fun Z1 => sv (u4 Z1 0 t i 8 (Z1 0 t i 5)) fun Z2 => (if (Z2 0 t i 5) = 0 then sv (u4 Z2 0 t i 6 (0 : Int32)) fun Z4 => some Z4 else some Z2)
set_option maxRecDepth 100000 in
set_option maxHeartbeats 4000000 in
theorem c_X0_finishBag {l : Launch} {D : va_G} {cA : Nat → ClassId} {dm : Dm} {ad : Ad} {S : S4} {t : Nat} {i : Nat} (ht : DS dm t) (hi : i < 8) {out : S4} (hs : s_X0_finishBag t i S = some out) : Ct D cA dm ad l yX0_finishBag cX0_finishBag 1 none 0 0 S [.ref (ad 0 t i)] none out := by
  refine Ct.of (by decide +kernel) (Nat.le_of_ble_eq_true rfl) [(0, .ref (ad 0 t i))] rfl (fun p e s m args below meth c A X hr => ?_)
  unfold s_X0_finishBag at hs
  refine V_aload_n X dX0_finishBag_0 rfl 0 rfl ?_
  refine V_dup X dX0_finishBag_1 rfl ?_
  refine V_get X dX0_finishBag_2 r_X0_37 (gm0 ht hi) rfl rfl ?_
  refine V_iconst X (1 : Int32) dX0_finishBag_5 (by decide) ?_
  refine V_iadd X dX0_finishBag_6 ?_
  refine V_put X dX0_finishBag_7 f_X0_37 (gm0 ht hi) rfl (Nat.le_of_ble_eq_true rfl) rfl rfl rfl (fun Z1 eZ1 => ?_)
  replace hs := sv_some hs Z1 eZ1
  clear eZ1
  refine V_aload_n X dX0_finishBag_10 rfl 0 rfl ?_
  refine V_aload_n X dX0_finishBag_11 rfl 0 rfl ?_
  refine V_get X dX0_finishBag_12 r_X0_55 (gm0 ht hi) rfl rfl ?_
  refine V_put X dX0_finishBag_15 f_X0_18 (gm0 ht hi) rfl (Nat.le_of_ble_eq_true rfl) rfl rfl rfl (fun Z2 eZ2 => ?_)
  replace hs := sv_some hs Z2 eZ2
  clear eZ2
  refine V_aload_n X dX0_finishBag_18 rfl 0 rfl ?_
  refine V_get X dX0_finishBag_19 r_X0_55 (gm0 ht hi) rfl rfl ?_
  refine V_if_ne X 30 dX0_finishBag_22 (by decide) (fun c3 => ?_) (fun c3 => ?_)
  · replace hs := if_f hs c3
    obtain rfl := Option.some.inj hs; exact V_vret X hr dX0_finishBag_30
  · replace hs := if_t hs c3
    refine V_aload_n X dX0_finishBag_25 rfl 0 rfl ?_
    refine V_iconst X (0 : Int32) dX0_finishBag_26 (by decide) ?_
    refine V_put X dX0_finishBag_27 f_X0_9 (gm0 ht hi) rfl (Nat.le_of_ble_eq_true rfl) rfl rfl rfl (fun Z4 eZ4 => ?_)
    replace hs := sv_some hs Z4 eZ4
    clear eZ4
    obtain rfl := Option.some.inj hs; exact V_vret X hr dX0_finishBag_30

def s_X0_receive (t : Nat) (i : Nat) (p1 : Int32) (S : S4) : Option S4 := sv (u4 S 0 t i 6 ((S 0 t i 6) + (1 : Int32))) fun Z1 => sv (u4 Z1 0 t i 11 ((Z1 0 t i 11) + (1 : Int32))) fun Z2 => sv (u4 Z2 0 t i 10 p1) fun Z3 => (if (Z3 0 t i 6) = (Z3 0 t i 1) then (s_X0_finishBag t i Z3).bind fun Z6 => some Z6 else some Z3)
set_option maxRecDepth 100000 in
set_option maxHeartbeats 4000000 in
theorem c_X0_receive {l : Launch} {D : va_G} {cA : Nat → ClassId} {dm : Dm} {ad : Ad} {S : S4} {t : Nat} {i : Nat} {p1 : Int32} (ht : DS dm t) (hi : i < 8) {out : S4} (hs : s_X0_receive t i p1 S = some out) : Ct D cA dm ad l yX0_receive cX0_receive 2 none 1 20 S [.ref (ad 0 t i), .int p1] none out := by
  refine Ct.of (by decide +kernel) (Nat.le_of_ble_eq_true rfl) [(0, .ref (ad 0 t i)), (1, .int p1)] rfl (fun p e s m args below meth c A X hr => ?_)
  unfold s_X0_receive at hs
  refine V_aload_n X dX0_receive_0 rfl 0 rfl ?_
  refine V_dup X dX0_receive_1 rfl ?_
  refine V_get X dX0_receive_2 r_X0_9 (gm0 ht hi) rfl rfl ?_
  refine V_iconst X (1 : Int32) dX0_receive_5 (by decide) ?_
  refine V_iadd X dX0_receive_6 ?_
  refine V_put X dX0_receive_7 f_X0_9 (gm0 ht hi) rfl (Nat.le_of_ble_eq_true rfl) rfl rfl rfl (fun Z1 eZ1 => ?_)
  replace hs := sv_some hs Z1 eZ1
  clear eZ1
  refine V_aload_n X dX0_receive_10 rfl 0 rfl ?_
  refine V_dup X dX0_receive_11 rfl ?_
  refine V_get X dX0_receive_12 r_X0_28 (gm0 ht hi) rfl rfl ?_
  refine V_iconst X (1 : Int32) dX0_receive_15 (by decide) ?_
  refine V_iadd X dX0_receive_16 ?_
  refine V_put X dX0_receive_17 f_X0_28 (gm0 ht hi) rfl (Nat.le_of_ble_eq_true rfl) rfl rfl rfl (fun Z2 eZ2 => ?_)
  replace hs := sv_some hs Z2 eZ2
  clear eZ2
  refine V_aload_n X dX0_receive_20 rfl 0 rfl ?_
  refine V_iload_n X dX0_receive_21 rfl 1 rfl ?_
  refine V_put X dX0_receive_22 f_X0_25 (gm0 ht hi) rfl (Nat.le_of_ble_eq_true rfl) rfl rfl rfl (fun Z3 eZ3 => ?_)
  replace hs := sv_some hs Z3 eZ3
  clear eZ3
  refine V_aload_n X dX0_receive_25 rfl 0 rfl ?_
  refine V_get X dX0_receive_26 r_X0_9 (gm0 ht hi) rfl rfl ?_
  refine V_aload_n X dX0_receive_29 rfl 0 rfl ?_
  refine V_get X dX0_receive_30 r_X0_43 (gm0 ht hi) rfl rfl ?_
  refine V_icmp_ne X 40 dX0_receive_33 (by decide) (fun c4 => ?_) (fun c4 => ?_)
  · replace hs := if_f hs c4
    obtain rfl := Option.some.inj hs; exact V_vret X hr dX0_receive_40
  · replace hs := if_t hs c4
    refine V_aload_n X dX0_receive_36 rfl 0 rfl ?_
    obtain ⟨Z6, eZ6, hs⟩ := bd_some hs
    refine V_callVv X [] dX0_receive_37 m_X0_58 v_X0_finishBag ⟨Nat.le_of_ble_eq_true rfl, Nat.le_of_ble_eq_true rfl⟩ ⟨Nat.zero_le _, Nat.zero_le _⟩ rfl (Nat.le_of_ble_eq_true rfl) (gm0 ht hi) rfl cl0 (c_X0_finishBag ht hi eZ6) ?_
    obtain rfl := Option.some.inj hs; exact V_vret X hr dX0_receive_40

def s_X4_enter (t : Nat) (p1 : Int32) (S : S4) : Option S4 := (if (60 : Int32) ≤ (S 4 t 0 7) then some S else gd (inb (S 4 t 0 7) 60) (sv (u4 S 20 t 0 ((S 4 t 0 7).toNatClampNeg) p1) fun Z3 => sv (u4 Z3 4 t 0 7 ((Z3 4 t 0 7) + (1 : Int32))) fun Z4 => some Z4))
set_option maxRecDepth 100000 in
set_option maxHeartbeats 4000000 in
theorem c_X4_enter {l : Launch} {D : va_G} {cA : Nat → ClassId} {dm : Dm} {ad : Ad} {S : S4} {t : Nat} {p1 : Int32} (ht : DS dm t) {out : S4} (hs : s_X4_enter t p1 S = some out) : Ct D cA dm ad l yX4_enter cX4_enter 2 none 0 0 S [.ref (ad 4 t 0), .int p1] none out := by
  refine Ct.of (by decide +kernel) (Nat.le_of_ble_eq_true rfl) [(0, .ref (ad 4 t 0)), (1, .int p1)] rfl (fun p e s m args below meth c A X hr => ?_)
  unfold s_X4_enter at hs
  refine V_aload_n X dX4_enter_0 rfl 0 rfl ?_
  refine V_get X dX4_enter_1 r_X4_74 (gm4 ht) rfl rfl ?_
  refine V_bipush X (60 : Int32) dX4_enter_4 (by decide) ?_
  refine V_icmp_ge X 29 dX4_enter_6 (by decide) (fun c1 => ?_) (fun c1 => ?_)
  · replace hs := if_t hs c1
    obtain rfl := Option.some.inj hs; exact V_vret X hr dX4_enter_29
  · replace hs := if_f hs c1
    refine V_aload_n X dX4_enter_9 rfl 0 rfl ?_
    refine V_get X dX4_enter_10 r_X4_39 (gm4 ht) rfl rfl ?_
    refine V_aload_n X dX4_enter_13 rfl 0 rfl ?_
    refine V_get X dX4_enter_14 r_X4_74 (gm4 ht) rfl rfl ?_
    refine V_iload_n X dX4_enter_17 rfl 1 rfl ?_
    obtain ⟨h2, hs⟩ := gd_some hs
    refine V_iast X dX4_enter_18 (gm20 ht) (fun _ => rfl) h2 (fun Z3 eZ3 => ?_)
    replace hs := sv_some hs Z3 eZ3
    clear eZ3
    refine V_aload_n X dX4_enter_19 rfl 0 rfl ?_
    refine V_dup X dX4_enter_20 rfl ?_
    refine V_get X dX4_enter_21 r_X4_74 (gm4 ht) rfl rfl ?_
    refine V_iconst X (1 : Int32) dX4_enter_24 (by decide) ?_
    refine V_iadd X dX4_enter_25 ?_
    refine V_put X dX4_enter_26 f_X4_74 (gm4 ht) rfl (Nat.le_of_ble_eq_true rfl) rfl rfl rfl (fun Z4 eZ4 => ?_)
    replace hs := sv_some hs Z4 eZ4
    clear eZ4
    obtain rfl := Option.some.inj hs; exact V_vret X hr dX4_enter_29

def s_X4_drop (np : Nat) (fu : Nat) (t : Nat) (p1 : Int32) (p2 : Int32) (S : S4) : Option S4 := gd (inb p2 60) (gd (inb p1 8) ((s_X4_carrierAt t (S 0 t p1.toNatClampNeg 0) S).bind fun q3 => gd (inb q3 30) (sv (u4 S 19 t 0 (q3.toNatClampNeg) (-1 : Int32)) fun Z5 => sv (u4 Z5 1 t p2.toNatClampNeg 4 (2 : Int32)) fun Z6 => sv (u4 Z6 1 t p2.toNatClampNeg 5 p1) fun Z7 => sv (u4 Z7 1 t p2.toNatClampNeg 9 (Z7 4 t 0 0)) fun Z8 => (s_X4_verdictOf np fu t t p2.toNatClampNeg p1 Z8).bind fun q9 => sv (u4 Z8 1 t p2.toNatClampNeg 10 q9) fun Z10 => gd (inb p1 8) ((s_X0_receive t p1.toNatClampNeg (Z10 4 t 0 0) Z10).bind fun Z13 => gd (inb (Z13 1 t p2.toNatClampNeg 10) 4) (gd (inb (Z13 1 t p2.toNatClampNeg 10) 4) (sv (u4 Z13 21 t 0 ((Z13 1 t p2.toNatClampNeg 10).toNatClampNeg) ((Z13 21 t 0 (Z13 1 t p2.toNatClampNeg 10).toNatClampNeg) + (1 : Int32))) fun Z16 => (s_X4_enter t p2 Z16).bind fun Z18 => some Z18))))))
set_option maxRecDepth 100000 in
set_option maxHeartbeats 4000000 in
theorem c_X4_drop {l : Launch} {D : va_G} {cA : Nat → ClassId} {dm : Dm} {ad : Ad} {np : Nat} {fu : Nat} {S : S4} {t : Nat} {p1 : Int32} {p2 : Int32} (ht : DS dm t) (hnp : ∀ i, i < np → DP dm i) {out : S4} (hs : s_X4_drop np fu t p1 p2 S = some out) : Ct D cA dm ad l yX4_drop cX4_drop 4 none 3 69 S [.ref (ad 4 t 0), .int p1, .int p2] none out := by
  refine Ct.of (by decide +kernel) (Nat.le_of_ble_eq_true rfl) [(0, .ref (ad 4 t 0)), (1, .int p1), (2, .int p2)] rfl (fun p e s m args below meth c A X hr => ?_)
  unfold s_X4_drop at hs
  refine V_aload_n X dX4_drop_0 rfl 0 rfl ?_
  refine V_get X dX4_drop_1 r_X4_31 (gm4 ht) rfl rfl ?_
  refine V_iload_n X dX4_drop_4 rfl 2 rfl ?_
  obtain ⟨h1, hs⟩ := gd_some hs
  refine V_aald X 6 rfl dX4_drop_5 (gm18 ht) rfl h1 (v := .ref (ad 1 t p2.toNatClampNeg)) rfl ?_
  refine V_astore_n X dX4_drop_6 rfl [(3, .ref (ad 1 t p2.toNatClampNeg)), (0, .ref (ad 4 t 0)), (1, .int p1), (2, .int p2)] (by decide) rfl ?_
  refine V_aload_n X dX4_drop_7 rfl 1 rfl ?_
  refine V_get X dX4_drop_8 r_X4_35 (gm4 ht) rfl rfl ?_
  refine V_aload_n X dX4_drop_11 rfl 1 rfl ?_
  refine V_aload_n X dX4_drop_12 rfl 1 rfl ?_
  refine V_get X dX4_drop_13 r_X4_19 (gm4 ht) rfl rfl ?_
  refine V_iload_n X dX4_drop_16 rfl 2 rfl ?_
  obtain ⟨h2, hs⟩ := gd_some hs
  refine V_aald X 4 rfl dX4_drop_17 (gm16 ht) rfl h2 (v := .ref (ad 0 t p1.toNatClampNeg)) rfl ?_
  refine V_get X dX4_drop_18 r_X4_113 (gm0 ht (inb_lt h2)) rfl rfl ?_
  obtain ⟨q3, eq3, hs⟩ := bd_some hs
  refine V_callVs X [.int (S 0 t p1.toNatClampNeg 0)] dX4_drop_21 m_X4_141 v_X4_carrierAt ⟨Nat.le_of_ble_eq_true rfl, Nat.le_of_ble_eq_true rfl⟩ ⟨Nat.zero_le _, Nat.zero_le _⟩ rfl (Nat.le_of_ble_eq_true rfl) (gm4 ht) rfl cl4 (c_X4_carrierAt ht eq3) ?_
  refine V_iconst X (-1 : Int32) dX4_drop_24 (by decide) ?_
  obtain ⟨h4, hs⟩ := gd_some hs
  refine V_iast X dX4_drop_25 (gm19 ht) (fun _ => rfl) h4 (fun Z5 eZ5 => ?_)
  replace hs := sv_some hs Z5 eZ5
  clear eZ5
  refine V_aload_n X dX4_drop_26 rfl 0 rfl ?_
  refine V_iconst X (2 : Int32) dX4_drop_27 (by decide) ?_
  refine V_put X dX4_drop_28 f_X4_238 (gm1 ht (inb_lt h1)) rfl (Nat.le_of_ble_eq_true rfl) rfl rfl rfl (fun Z6 eZ6 => ?_)
  replace hs := sv_some hs Z6 eZ6
  clear eZ6
  refine V_aload_n X dX4_drop_31 rfl 0 rfl ?_
  refine V_iload_n X dX4_drop_32 rfl 2 rfl ?_
  refine V_put X dX4_drop_33 f_X4_241 (gm1 ht (inb_lt h1)) rfl (Nat.le_of_ble_eq_true rfl) rfl rfl rfl (fun Z7 eZ7 => ?_)
  replace hs := sv_some hs Z7 eZ7
  clear eZ7
  refine V_aload_n X dX4_drop_36 rfl 0 rfl ?_
  refine V_aload_n X dX4_drop_37 rfl 1 rfl ?_
  refine V_get X dX4_drop_38 r_X4_56 (gm4 ht) rfl rfl ?_
  refine V_put X dX4_drop_41 f_X4_244 (gm1 ht (inb_lt h1)) rfl (Nat.le_of_ble_eq_true rfl) rfl rfl rfl (fun Z8 eZ8 => ?_)
  replace hs := sv_some hs Z8 eZ8
  clear eZ8
  refine V_aload_n X dX4_drop_44 rfl 0 rfl ?_
  refine V_aload_n X dX4_drop_45 rfl 1 rfl ?_
  refine V_aload_n X dX4_drop_46 rfl 0 rfl ?_
  refine V_iload_n X dX4_drop_47 rfl 2 rfl ?_
  obtain ⟨q9, eq9, hs⟩ := bd_some hs
  refine V_callVs X [.ref (ad 1 t p2.toNatClampNeg), .int p1] dX4_drop_48 m_X4_247 v_X4_verdictOf ⟨Nat.le_of_ble_eq_true rfl, Nat.le_of_ble_eq_true rfl⟩ ⟨Nat.zero_le _, Nat.zero_le _⟩ rfl (Nat.le_of_ble_eq_true rfl) (gm4 ht) rfl cl4 (c_X4_verdictOf ht ht (inb_lt h1) hnp eq9) ?_
  refine V_put X dX4_drop_51 f_X4_251 (gm1 ht (inb_lt h1)) rfl (Nat.le_of_ble_eq_true rfl) rfl rfl rfl (fun Z10 eZ10 => ?_)
  replace hs := sv_some hs Z10 eZ10
  clear eZ10
  refine V_aload_n X dX4_drop_54 rfl 1 rfl ?_
  refine V_get X dX4_drop_55 r_X4_19 (gm4 ht) rfl rfl ?_
  refine V_iload_n X dX4_drop_58 rfl 2 rfl ?_
  obtain ⟨h11, hs⟩ := gd_some hs
  refine V_aald X 4 rfl dX4_drop_59 (gm16 ht) rfl h11 (v := .ref (ad 0 t p1.toNatClampNeg)) rfl ?_
  refine V_aload_n X dX4_drop_60 rfl 1 rfl ?_
  refine V_get X dX4_drop_61 r_X4_56 (gm4 ht) rfl rfl ?_
  obtain ⟨Z13, eZ13, hs⟩ := bd_some hs
  refine V_callVv X [.int (Z10 4 t 0 0)] dX4_drop_64 m_X4_254 v_X0_receive ⟨Nat.le_of_ble_eq_true rfl, Nat.le_of_ble_eq_true rfl⟩ ⟨Nat.zero_le _, Nat.zero_le _⟩ rfl (Nat.le_of_ble_eq_true rfl) (gm0 ht (inb_lt h11)) rfl cl0 (c_X0_receive ht (inb_lt h11) eZ13) ?_
  refine V_aload_n X dX4_drop_67 rfl 1 rfl ?_
  refine V_get X dX4_drop_68 r_X4_42 (gm4 ht) rfl rfl ?_
  refine V_aload_n X dX4_drop_71 rfl 0 rfl ?_
  refine V_get X dX4_drop_72 r_X4_251 (gm1 ht (inb_lt h1)) rfl rfl ?_
  refine V_dup2 X dX4_drop_75 rfl rfl ?_
  obtain ⟨h14, hs⟩ := gd_some hs
  refine V_iald X dX4_drop_76 (gm21 ht) rfl h14 ?_
  refine V_iconst X (1 : Int32) dX4_drop_77 (by decide) ?_
  refine V_iadd X dX4_drop_78 ?_
  obtain ⟨h15, hs⟩ := gd_some hs
  refine V_iast X dX4_drop_79 (gm21 ht) (fun _ => rfl) h15 (fun Z16 eZ16 => ?_)
  replace hs := sv_some hs Z16 eZ16
  clear eZ16
  refine V_aload_n X dX4_drop_80 rfl 1 rfl ?_
  refine V_iload_n X dX4_drop_81 rfl 3 rfl ?_
  obtain ⟨Z18, eZ18, hs⟩ := bd_some hs
  refine V_callVv X [.int p2] dX4_drop_82 m_X4_257 v_X4_enter ⟨Nat.le_of_ble_eq_true rfl, Nat.le_of_ble_eq_true rfl⟩ ⟨Nat.zero_le _, Nat.zero_le _⟩ rfl (Nat.le_of_ble_eq_true rfl) (gm4 ht) rfl cl4 (c_X4_enter ht eZ18) ?_
  obtain rfl := Option.some.inj hs; exact V_vret X hr dX4_drop_85

def s_X4_tryParcel (np : Nat) (fu : Nat) (t : Nat) (p1 : Int32) (p2 : Int32) (S : S4) : Option S4 := gd (inb p1 8) (gd (inb p2 60) (sv (u4 S 1 t p2.toNatClampNeg 7 (-1 : Int32)) fun Z3 => (s_X0_isUsable t p1.toNatClampNeg Z3).bind fun q4 => (if q4 = 0 then sv (u4 Z3 0 t p1.toNatClampNeg 13 ((Z3 0 t p1.toNatClampNeg 13) + (1 : Int32))) fun Z17 => some Z17 else (if (Z3 1 t p2.toNatClampNeg 2) ≤ (Z3 0 t p1.toNatClampNeg 3) then (s_X0_isWithinGap t p1.toNatClampNeg (Z3 4 t 0 0) Z3).bind fun q7 => (if q7 = 0 then (s_X4_drop np fu t p1 p2 Z3).bind fun Z10 => some Z10 else (s_X0_jam t p1.toNatClampNeg Z3).bind fun Z12 => some Z12) else (s_X1_spoil t p2.toNatClampNeg p1 Z3).bind fun Z14 => (s_X0_jam t p1.toNatClampNeg Z14).bind fun Z16 => some Z16))))
set_option maxRecDepth 100000 in
set_option maxHeartbeats 4000000 in
theorem c_X4_tryParcel {l : Launch} {D : va_G} {cA : Nat → ClassId} {dm : Dm} {ad : Ad} {np : Nat} {fu : Nat} {S : S4} {t : Nat} {p1 : Int32} {p2 : Int32} (ht : DS dm t) (hnp : ∀ i, i < np → DP dm i) {out : S4} (hs : s_X4_tryParcel np fu t p1 p2 S = some out) : Ct D cA dm ad l yX4_tryParcel cX4_tryParcel 5 none 4 92 S [.ref (ad 4 t 0), .int p1, .int p2] none out := by
  refine Ct.of (by decide +kernel) (Nat.le_of_ble_eq_true rfl) [(0, .ref (ad 4 t 0)), (1, .int p1), (2, .int p2)] rfl (fun p e s m args below meth c A X hr => ?_)
  unfold s_X4_tryParcel at hs
  refine V_aload_n X dX4_tryParcel_0 rfl 0 rfl ?_
  refine V_get X dX4_tryParcel_1 r_X4_19 (gm4 ht) rfl rfl ?_
  refine V_iload_n X dX4_tryParcel_4 rfl 1 rfl ?_
  obtain ⟨h1, hs⟩ := gd_some hs
  refine V_aald X 4 rfl dX4_tryParcel_5 (gm16 ht) rfl h1 (v := .ref (ad 0 t p1.toNatClampNeg)) rfl ?_
  refine V_astore_n X dX4_tryParcel_6 rfl [(3, .ref (ad 0 t p1.toNatClampNeg)), (0, .ref (ad 4 t 0)), (1, .int p1), (2, .int p2)] (by decide) rfl ?_
  refine V_aload_n X dX4_tryParcel_7 rfl 1 rfl ?_
  refine V_get X dX4_tryParcel_8 r_X4_31 (gm4 ht) rfl rfl ?_
  refine V_iload_n X dX4_tryParcel_11 rfl 3 rfl ?_
  obtain ⟨h2, hs⟩ := gd_some hs
  refine V_aald X 6 rfl dX4_tryParcel_12 (gm18 ht) rfl h2 (v := .ref (ad 1 t p2.toNatClampNeg)) rfl ?_
  refine V_astore X dX4_tryParcel_13 [(4, .ref (ad 1 t p2.toNatClampNeg)), (3, .ref (ad 0 t p1.toNatClampNeg)), (0, .ref (ad 4 t 0)), (1, .int p1), (2, .int p2)] (by decide) rfl ?_
  refine V_aload X dX4_tryParcel_15 0 rfl ?_
  refine V_iconst X (-1 : Int32) dX4_tryParcel_17 (by decide) ?_
  refine V_put X dX4_tryParcel_18 f_X4_156 (gm1 ht (inb_lt h2)) rfl (Nat.le_of_ble_eq_true rfl) rfl rfl rfl (fun Z3 eZ3 => ?_)
  replace hs := sv_some hs Z3 eZ3
  clear eZ3
  refine V_aload_n X dX4_tryParcel_21 rfl 1 rfl ?_
  obtain ⟨q4, eq4, hs⟩ := bd_some hs
  refine V_callVs X [] dX4_tryParcel_22 m_X4_210 v_X0_isUsable ⟨Nat.le_of_ble_eq_true rfl, Nat.le_of_ble_eq_true rfl⟩ ⟨Nat.zero_le _, Nat.zero_le _⟩ rfl (Nat.le_of_ble_eq_true rfl) (gm0 ht (inb_lt h1)) rfl cl0 (c_X0_isUsable ht (inb_lt h1) eq4) ?_
  refine V_if_ne X 41 dX4_tryParcel_25 (by decide) (fun c5 => ?_) (fun c5 => ?_)
  · replace hs := if_f hs c5
    refine V_aload X dX4_tryParcel_41 0 rfl ?_
    refine V_get X dX4_tryParcel_43 r_X4_220 (gm1 ht (inb_lt h2)) rfl rfl ?_
    refine V_aload_n X dX4_tryParcel_46 rfl 1 rfl ?_
    refine V_get X dX4_tryParcel_47 r_X4_223 (gm0 ht (inb_lt h1)) rfl rfl ?_
    refine V_icmp_le X 66 dX4_tryParcel_50 (by decide) (fun c6 => ?_) (fun c6 => ?_)
    · replace hs := if_t hs c6
      refine V_aload_n X dX4_tryParcel_66 rfl 1 rfl ?_
      refine V_aload_n X dX4_tryParcel_67 rfl 2 rfl ?_
      refine V_get X dX4_tryParcel_68 r_X4_56 (gm4 ht) rfl rfl ?_
      obtain ⟨q7, eq7, hs⟩ := bd_some hs
      refine V_callVs X [.int (Z3 4 t 0 0)] dX4_tryParcel_71 m_X4_232 v_X0_isWithinGap ⟨Nat.le_of_ble_eq_true rfl, Nat.le_of_ble_eq_true rfl⟩ ⟨Nat.zero_le _, Nat.zero_le _⟩ rfl (Nat.le_of_ble_eq_true rfl) (gm0 ht (inb_lt h1)) rfl cl0 (c_X0_isWithinGap ht (inb_lt h1) eq7) ?_
      refine V_if_eq X 84 dX4_tryParcel_74 (by decide) (fun c8 => ?_) (fun c8 => ?_)
      · replace hs := if_t hs c8
        refine V_aload_n X dX4_tryParcel_84 rfl 2 rfl ?_
        refine V_iload_n X dX4_tryParcel_85 rfl 3 rfl ?_
        refine V_iload_n X dX4_tryParcel_86 rfl 4 rfl ?_
        obtain ⟨Z10, eZ10, hs⟩ := bd_some hs
        refine V_callVv X [.int p1, .int p2] dX4_tryParcel_87 m_X4_235 v_X4_drop ⟨Nat.le_of_ble_eq_true rfl, Nat.le_of_ble_eq_true rfl⟩ ⟨Nat.zero_le _, Nat.zero_le _⟩ rfl (Nat.le_of_ble_eq_true rfl) (gm4 ht) rfl cl4 (c_X4_drop ht hnp eZ10) ?_
        obtain rfl := Option.some.inj hs; exact V_vret X hr dX4_tryParcel_90
      · replace hs := if_f hs c8
        refine V_aload_n X dX4_tryParcel_77 rfl 1 rfl ?_
        obtain ⟨Z12, eZ12, hs⟩ := bd_some hs
        refine V_callVv X [] dX4_tryParcel_78 m_X4_229 v_X0_jam ⟨Nat.le_of_ble_eq_true rfl, Nat.le_of_ble_eq_true rfl⟩ ⟨Nat.zero_le _, Nat.zero_le _⟩ rfl (Nat.le_of_ble_eq_true rfl) (gm0 ht (inb_lt h1)) rfl cl0 (c_X0_jam ht (inb_lt h1) eZ12) ?_
        refine V_goto X 90 dX4_tryParcel_81 (by decide) ?_
        obtain rfl := Option.some.inj hs; exact V_vret X hr dX4_tryParcel_90
    · replace hs := if_f hs c6
      refine V_aload X dX4_tryParcel_53 0 rfl ?_
      refine V_iload_n X dX4_tryParcel_55 rfl 3 rfl ?_
      obtain ⟨Z14, eZ14, hs⟩ := bd_some hs
      refine V_callVv X [.int p1] dX4_tryParcel_56 m_X4_226 v_X1_spoil ⟨Nat.le_of_ble_eq_true rfl, Nat.le_of_ble_eq_true rfl⟩ ⟨Nat.zero_le _, Nat.zero_le _⟩ rfl (Nat.le_of_ble_eq_true rfl) (gm1 ht (inb_lt h2)) rfl cl1 (c_X1_spoil ht (inb_lt h2) eZ14) ?_
      refine V_aload_n X dX4_tryParcel_59 rfl 1 rfl ?_
      obtain ⟨Z16, eZ16, hs⟩ := bd_some hs
      refine V_callVv X [] dX4_tryParcel_60 m_X4_229 v_X0_jam ⟨Nat.le_of_ble_eq_true rfl, Nat.le_of_ble_eq_true rfl⟩ ⟨Nat.zero_le _, Nat.zero_le _⟩ rfl (Nat.le_of_ble_eq_true rfl) (gm0 ht (inb_lt h1)) rfl cl0 (c_X0_jam ht (inb_lt h1) eZ16) ?_
      refine V_goto X 90 dX4_tryParcel_63 (by decide) ?_
      obtain rfl := Option.some.inj hs; exact V_vret X hr dX4_tryParcel_90
  · replace hs := if_t hs c5
    refine V_aload_n X dX4_tryParcel_28 rfl 1 rfl ?_
    refine V_dup X dX4_tryParcel_29 rfl ?_
    refine V_get X dX4_tryParcel_30 r_X4_217 (gm0 ht (inb_lt h1)) rfl rfl ?_
    refine V_iconst X (1 : Int32) dX4_tryParcel_33 (by decide) ?_
    refine V_iadd X dX4_tryParcel_34 ?_
    refine V_put X dX4_tryParcel_35 f_X4_217 (gm0 ht (inb_lt h1)) rfl (Nat.le_of_ble_eq_true rfl) rfl rfl rfl (fun Z17 eZ17 => ?_)
    replace hs := sv_some hs Z17 eZ17
    clear eZ17
    refine V_goto X 90 dX4_tryParcel_38 (by decide) ?_
    obtain rfl := Option.some.inj hs; exact V_vret X hr dX4_tryParcel_90

def s_X5_firstWaiting (t : Nat) (i : Nat) (S : S4) : Option Int32 := (if (S 5 t i 1) ≤ 0 then some (-1 : Int32) else gd (inb (0 : Int32) 10) (some (S 14 t i (0 : Int32).toNatClampNeg)))
set_option maxRecDepth 100000 in
set_option maxHeartbeats 4000000 in
theorem c_X5_firstWaiting {l : Launch} {D : va_G} {cA : Nat → ClassId} {dm : Dm} {ad : Ad} {S : S4} {t : Nat} {i : Nat} (ht : DS dm t) (hi : i < 3) {out : Int32} (hs : s_X5_firstWaiting t i S = some out) : Ct D cA dm ad l yX5_firstWaiting cX5_firstWaiting 1 (some .int) 0 0 S [.ref (ad 5 t i)] (some (.int out)) S := by
  refine Ct.of (by decide +kernel) (Nat.le_of_ble_eq_true rfl) [(0, .ref (ad 5 t i))] rfl (fun p e s m args below meth c A X hr => ?_)
  unfold s_X5_firstWaiting at hs
  refine V_aload_n X dX5_firstWaiting_0 rfl 0 rfl ?_
  refine V_get X dX5_firstWaiting_1 r_X5_19 (gm5 ht hi) rfl rfl ?_
  refine V_if_le X 16 dX5_firstWaiting_4 (by decide) (fun c1 => ?_) (fun c1 => ?_)
  · replace hs := if_t hs c1
    refine V_iconst X (-1 : Int32) dX5_firstWaiting_16 (by decide) ?_
    obtain rfl := Option.some.inj hs; exact V_iret X hr dX5_firstWaiting_17
  · replace hs := if_f hs c1
    refine V_aload_n X dX5_firstWaiting_7 rfl 0 rfl ?_
    refine V_get X dX5_firstWaiting_8 r_X5_9 (gm5 ht hi) rfl rfl ?_
    refine V_iconst X (0 : Int32) dX5_firstWaiting_11 (by decide) ?_
    obtain ⟨h2, hs⟩ := gd_some hs
    refine V_iald X dX5_firstWaiting_12 (gm14 ht hi) rfl h2 ?_
    refine V_goto X 17 dX5_firstWaiting_13 (by decide) ?_
    obtain rfl := Option.some.inj hs; exact V_iret X hr dX5_firstWaiting_17

def s_X5_releaseFirst (t : Nat) (i : Nat) (S : S4) : Option S4 := (if (S 5 t i 1) ≤ 0 then some S else sv (w4 S 14 t i (va_cpy (S 14 t i) (S 14 t i) (1 : Int32).toNatClampNeg (0 : Int32).toNatClampNeg (9 : Int32).toNatClampNeg)) fun Z2 => sv (u4 Z2 5 t i 1 ((Z2 5 t i 1) - (1 : Int32))) fun Z3 => sv (u4 Z3 5 t i 2 ((Z3 5 t i 2) + (1 : Int32))) fun Z4 => some Z4)
set_option maxRecDepth 100000 in
set_option maxHeartbeats 4000000 in
theorem c_X5_releaseFirst {l : Launch} {D : va_G} {cA : Nat → ClassId} {dm : Dm} {ad : Ad} {S : S4} {t : Nat} {i : Nat} (ht : DS dm t) (hi : i < 3) {out : S4} (hs : s_X5_releaseFirst t i S = some out) : Ct D cA dm ad l yX5_releaseFirst cX5_releaseFirst 1 none 1 60 S [.ref (ad 5 t i)] none out := by
  refine Ct.of (by decide +kernel) (Nat.le_of_ble_eq_true rfl) [(0, .ref (ad 5 t i))] rfl (fun p e s m args below meth c A X hr => ?_)
  unfold s_X5_releaseFirst at hs
  refine V_aload_n X dX5_releaseFirst_0 rfl 0 rfl ?_
  refine V_get X dX5_releaseFirst_1 r_X5_19 (gm5 ht hi) rfl rfl ?_
  refine V_if_le X 42 dX5_releaseFirst_4 (by decide) (fun c1 => ?_) (fun c1 => ?_)
  · replace hs := if_t hs c1
    obtain rfl := Option.some.inj hs; exact V_vret X hr dX5_releaseFirst_42
  · replace hs := if_f hs c1
    refine V_aload_n X dX5_releaseFirst_7 rfl 0 rfl ?_
    refine V_get X dX5_releaseFirst_8 r_X5_9 (gm5 ht hi) rfl rfl ?_
    refine V_iconst X (1 : Int32) dX5_releaseFirst_11 (by decide) ?_
    refine V_aload_n X dX5_releaseFirst_12 rfl 0 rfl ?_
    refine V_get X dX5_releaseFirst_13 r_X5_9 (gm5 ht hi) rfl rfl ?_
    refine V_iconst X (0 : Int32) dX5_releaseFirst_16 (by decide) ?_
    refine V_bipush X (9 : Int32) dX5_releaseFirst_17 (by decide) ?_
    refine V_copy X dX5_releaseFirst_19 cp_X5_25 (gm14 ht hi) (fun _ => rfl) (gm14 ht hi) (fun _ => rfl) (by decide) (by decide) (by decide) (by decide) (by decide) (Nat.le_of_ble_eq_true rfl) ⟨by decide, by decide⟩ (fun Z2 eZ2 => ?_)
    replace hs := sv_some hs Z2 eZ2
    clear eZ2
    refine V_aload_n X dX5_releaseFirst_22 rfl 0 rfl ?_
    refine V_dup X dX5_releaseFirst_23 rfl ?_
    refine V_get X dX5_releaseFirst_24 r_X5_19 (gm5 ht hi) rfl rfl ?_
    refine V_iconst X (1 : Int32) dX5_releaseFirst_27 (by decide) ?_
    refine V_isub X dX5_releaseFirst_28 ?_
    refine V_put X dX5_releaseFirst_29 f_X5_19 (gm5 ht hi) rfl (Nat.le_of_ble_eq_true rfl) rfl rfl rfl (fun Z3 eZ3 => ?_)
    replace hs := sv_some hs Z3 eZ3
    clear eZ3
    refine V_aload_n X dX5_releaseFirst_32 rfl 0 rfl ?_
    refine V_dup X dX5_releaseFirst_33 rfl ?_
    refine V_get X dX5_releaseFirst_34 r_X5_22 (gm5 ht hi) rfl rfl ?_
    refine V_iconst X (1 : Int32) dX5_releaseFirst_37 (by decide) ?_
    refine V_iadd X dX5_releaseFirst_38 ?_
    refine V_put X dX5_releaseFirst_39 f_X5_22 (gm5 ht hi) rfl (Nat.le_of_ble_eq_true rfl) rfl rfl rfl (fun Z4 eZ4 => ?_)
    replace hs := sv_some hs Z4 eZ4
    clear eZ4
    obtain rfl := Option.some.inj hs; exact V_vret X hr dX5_releaseFirst_42

def s_X4_load (t : Nat) (t1 : Nat) (i1 : Nat) (S : S4) : Option S4 := (s_X4_carrierAt t (S 5 t1 i1 0) S).bind fun q1 => (s_X5_firstWaiting t1 i1 S).bind fun q2 => gd (inb q1 30) ((if (S 19 t 0 q1.toNatClampNeg) = (-1 : Int32) then (s_X4_isParcel t q2 S).bind fun q5 => (if q5 = 0 then some S else (s_X5_releaseFirst t1 i1 S).bind fun Z8 => gd (inb q1 30) (sv (u4 Z8 19 t 0 (q1.toNatClampNeg) q2) fun Z10 => gd (inb q2 60) (sv (u4 Z10 1 t q2.toNatClampNeg 4 (1 : Int32)) fun Z12 => gd (inb q2 60) (sv (u4 Z12 1 t q2.toNatClampNeg 5 q1) fun Z14 => some Z14)))) else some S))
set_option maxRecDepth 100000 in
set_option maxHeartbeats 4000000 in
theorem c_X4_load {l : Launch} {D : va_G} {cA : Nat → ClassId} {dm : Dm} {ad : Ad} {S : S4} {t : Nat} {t1 : Nat} {i1 : Nat} (ht : DS dm t) (ht1 : DS dm t1) (hi1 : i1 < 3) {out : S4} (hs : s_X4_load t t1 i1 S = some out) : Ct D cA dm ad l yX4_load cX4_load 4 none 2 80 S [.ref (ad 4 t 0), .ref (ad 5 t1 i1)] none out := by
  refine Ct.of (by decide +kernel) (Nat.le_of_ble_eq_true rfl) [(0, .ref (ad 4 t 0)), (1, .ref (ad 5 t1 i1))] rfl (fun p e s m args below meth c A X hr => ?_)
  unfold s_X4_load at hs
  refine V_aload_n X dX4_load_0 rfl 0 rfl ?_
  refine V_aload_n X dX4_load_1 rfl 1 rfl ?_
  refine V_get X dX4_load_2 r_X4_110 (gm5 ht1 hi1) rfl rfl ?_
  obtain ⟨q1, eq1, hs⟩ := bd_some hs
  refine V_callVs X [.int (S 5 t1 i1 0)] dX4_load_5 m_X4_141 v_X4_carrierAt ⟨Nat.le_of_ble_eq_true rfl, Nat.le_of_ble_eq_true rfl⟩ ⟨Nat.zero_le _, Nat.zero_le _⟩ rfl (Nat.le_of_ble_eq_true rfl) (gm4 ht) rfl cl4 (c_X4_carrierAt ht eq1) ?_
  refine V_istore_n X dX4_load_8 rfl [(2, .int q1), (0, .ref (ad 4 t 0)), (1, .ref (ad 5 t1 i1))] (by decide) rfl ?_
  refine V_aload_n X dX4_load_9 rfl 2 rfl ?_
  obtain ⟨q2, eq2, hs⟩ := bd_some hs
  refine V_callVs X [] dX4_load_10 m_X4_264 v_X5_firstWaiting ⟨Nat.le_of_ble_eq_true rfl, Nat.le_of_ble_eq_true rfl⟩ ⟨Nat.zero_le _, Nat.zero_le _⟩ rfl (Nat.le_of_ble_eq_true rfl) (gm5 ht1 hi1) rfl cl5 (c_X5_firstWaiting ht1 hi1 eq2) ?_
  refine V_istore_n X dX4_load_13 rfl [(3, .int q2), (2, .int q1), (0, .ref (ad 4 t 0)), (1, .ref (ad 5 t1 i1))] (by decide) rfl ?_
  refine V_aload_n X dX4_load_14 rfl 2 rfl ?_
  refine V_get X dX4_load_15 r_X4_35 (gm4 ht) rfl rfl ?_
  refine V_iload_n X dX4_load_18 rfl 1 rfl ?_
  obtain ⟨h3, hs⟩ := gd_some hs
  refine V_iald X dX4_load_19 (gm19 ht) rfl h3 ?_
  refine V_iconst X (-1 : Int32) dX4_load_20 (by decide) ?_
  refine V_icmp_ne X 63 dX4_load_21 (by decide) (fun c4 => ?_) (fun c4 => ?_)
  · replace hs := if_f hs c4
    obtain rfl := Option.some.inj hs; exact V_vret X hr dX4_load_63
  · replace hs := if_t hs c4
    refine V_aload_n X dX4_load_24 rfl 2 rfl ?_
    refine V_iload_n X dX4_load_25 rfl 0 rfl ?_
    obtain ⟨q5, eq5, hs⟩ := bd_some hs
    refine V_callVs X [.int q2] dX4_load_26 m_X4_150 v_X4_isParcel ⟨Nat.le_of_ble_eq_true rfl, Nat.le_of_ble_eq_true rfl⟩ ⟨Nat.zero_le _, Nat.zero_le _⟩ rfl (Nat.le_of_ble_eq_true rfl) (gm4 ht) rfl cl4 (c_X4_isParcel ht eq5) ?_
    refine V_if_eq X 63 dX4_load_29 (by decide) (fun c6 => ?_) (fun c6 => ?_)
    · replace hs := if_t hs c6
      obtain rfl := Option.some.inj hs; exact V_vret X hr dX4_load_63
    · replace hs := if_f hs c6
      refine V_aload_n X dX4_load_32 rfl 3 rfl ?_
      obtain ⟨Z8, eZ8, hs⟩ := bd_some hs
      refine V_callVv X [] dX4_load_33 m_X4_267 v_X5_releaseFirst ⟨Nat.le_of_ble_eq_true rfl, Nat.le_of_ble_eq_true rfl⟩ ⟨Nat.zero_le _, Nat.zero_le _⟩ rfl (Nat.le_of_ble_eq_true rfl) (gm5 ht1 hi1) rfl cl5 (c_X5_releaseFirst ht1 hi1 eZ8) ?_
      refine V_aload_n X dX4_load_36 rfl 2 rfl ?_
      refine V_get X dX4_load_37 r_X4_35 (gm4 ht) rfl rfl ?_
      refine V_iload_n X dX4_load_40 rfl 1 rfl ?_
      refine V_iload_n X dX4_load_41 rfl 0 rfl ?_
      obtain ⟨h9, hs⟩ := gd_some hs
      refine V_iast X dX4_load_42 (gm19 ht) (fun _ => rfl) h9 (fun Z10 eZ10 => ?_)
      replace hs := sv_some hs Z10 eZ10
      clear eZ10
      refine V_aload_n X dX4_load_43 rfl 2 rfl ?_
      refine V_get X dX4_load_44 r_X4_31 (gm4 ht) rfl rfl ?_
      refine V_iload_n X dX4_load_47 rfl 0 rfl ?_
      obtain ⟨h11, hs⟩ := gd_some hs
      refine V_aald X 6 rfl dX4_load_48 (gm18 ht) rfl h11 (v := .ref (ad 1 t q2.toNatClampNeg)) rfl ?_
      refine V_iconst X (1 : Int32) dX4_load_49 (by decide) ?_
      refine V_put X dX4_load_50 f_X4_238 (gm1 ht (inb_lt h11)) rfl (Nat.le_of_ble_eq_true rfl) rfl rfl rfl (fun Z12 eZ12 => ?_)
      replace hs := sv_some hs Z12 eZ12
      clear eZ12
      refine V_aload_n X dX4_load_53 rfl 2 rfl ?_
      refine V_get X dX4_load_54 r_X4_31 (gm4 ht) rfl rfl ?_
      refine V_iload_n X dX4_load_57 rfl 0 rfl ?_
      obtain ⟨h13, hs⟩ := gd_some hs
      refine V_aald X 6 rfl dX4_load_58 (gm18 ht) rfl h13 (v := .ref (ad 1 t q2.toNatClampNeg)) rfl ?_
      refine V_iload_n X dX4_load_59 rfl 1 rfl ?_
      refine V_put X dX4_load_60 f_X4_241 (gm1 ht (inb_lt h13)) rfl (Nat.le_of_ble_eq_true rfl) rfl rfl rfl (fun Z14 eZ14 => ?_)
      replace hs := sv_some hs Z14 eZ14
      clear eZ14
      obtain rfl := Option.some.inj hs; exact V_vret X hr dX4_load_63

def s_X4_passTick_L144 (np : Nat) (fu : Nat) (t : Nat) : Nat → Int32 → S4 → Option S4
  | 0, _, _ => none
  | f144+1, v2, Z11 => (if (Z11 4 t 0 3) ≤ v2 then some Z11 else gd (inb v2 3) ((s_X4_load t t v2.toNatClampNeg Z11).bind fun Z15 => s_X4_passTick_L144 np fu t f144 (v2 + (1 : Int32)) Z15))
def s_X4_passTick_L87 (np : Nat) (fu : Nat) (t : Nat) : Nat → Int32 → S4 → Option S4
  | 0, _, _ => none
  | f87+1, v2, Z9 => (if (Z9 4 t 0 4) ≤ v2 then s_X4_passTick_L144 np fu t fu (0 : Int32) Z9 else gd (inb v2 8) ((s_X4_parcelAt t (Z9 0 t v2.toNatClampNeg 0) Z9).bind fun q17 => (s_X4_isParcel t q17 Z9).bind fun q18 => (if q18 = 0 then s_X4_passTick_L87 np fu t f87 (v2 + (1 : Int32)) Z9 else gd (inb q17 60) ((if (Z9 1 t q17.toNatClampNeg 7) = v2 then (s_X4_tryParcel np fu t v2 q17 Z9).bind fun Z23 => s_X4_passTick_L87 np fu t f87 (v2 + (1 : Int32)) Z23 else s_X4_passTick_L87 np fu t f87 (v2 + (1 : Int32)) Z9)))))
def s_X4_passTick_L12 (np : Nat) (fu : Nat) (t : Nat) : Nat → Int32 → S4 → Option S4
  | 0, _, _ => none
  | f12+1, v1, Z2 => (if (Z2 4 t 0 4) ≤ v1 then ((if (Z2 4 t 0 2) ≤ 0 then some ((Z2 4 t 0 1) - (1 : Int32)) else some ((Z2 4 t 0 2) - (1 : Int32)))).bind fun q4 => sv (u4 Z2 4 t 0 2 q4) fun Z5 => (s_X4_parcelAt t (0 : Int32) Z5).bind fun q6 => (s_X4_isParcel t q6 Z5).bind fun q7 => (if q7 = 0 then s_X4_passTick_L87 np fu t fu (0 : Int32) Z5 else gd (inb q6 60) ((s_X4_scan np fu t t q6.toNatClampNeg Z5).bind fun Z26 => s_X4_passTick_L87 np fu t fu (0 : Int32) Z26)) else gd (inb v1 8) ((s_X0_passTick t v1.toNatClampNeg Z2).bind fun Z45 => s_X4_passTick_L12 np fu t f12 (v1 + (1 : Int32)) Z45))
def s_X4_passTick (np : Nat) (fu : Nat) (t : Nat) (S : S4) : Option S4 := sv (u4 S 4 t 0 0 ((S 4 t 0 0) + (1 : Int32))) fun Z1 => s_X4_passTick_L12 np fu t fu (0 : Int32) Z1
set_option maxRecDepth 100000 in
set_option maxHeartbeats 4000000 in
theorem c_X4_passTick {l : Launch} {D : va_G} {cA : Nat → ClassId} {dm : Dm} {ad : Ad} {np : Nat} {fu : Nat} {S : S4} {t : Nat} (ht : DS dm t) (hnp : ∀ i, i < np → DP dm i) {out : S4} (hs : s_X4_passTick np fu t S = some out) : Ct D cA dm ad l yX4_passTick cX4_passTick 4 none 5 116 S [.ref (ad 4 t 0)] none out := by
  refine Ct.of (by decide +kernel) (Nat.le_of_ble_eq_true rfl) [(0, .ref (ad 4 t 0))] rfl (fun p e s m args below meth c A X hr => ?_)
  unfold s_X4_passTick at hs
  refine V_aload_n X dX4_passTick_0 rfl 0 rfl ?_
  refine V_dup X dX4_passTick_1 rfl ?_
  refine V_get X dX4_passTick_2 r_X4_56 (gm4 ht) rfl rfl ?_
  refine V_iconst X (1 : Int32) dX4_passTick_5 (by decide) ?_
  refine V_iadd X dX4_passTick_6 ?_
  refine V_put X dX4_passTick_7 f_X4_56 (gm4 ht) rfl (Nat.le_of_ble_eq_true rfl) rfl rfl rfl (fun Z1 eZ1 => ?_)
  replace hs := sv_some hs Z1 eZ1
  clear eZ1
  refine V_iconst X (0 : Int32) dX4_passTick_10 (by decide) ?_
  refine V_istore_n X dX4_passTick_11 rfl [(1, .int (0 : Int32)), (0, .ref (ad 4 t 0))] (by decide) rfl ?_
  have L12 : ∀ (n : Nat) (v1 : Int32) (S1 : S4), s_X4_passTick_L12 np fu t n v1 S1 = some out → V D cA dm ad A 4 p l e ({ frames := 5, cells := 0, slots := 0, locals := 116 }) s m args below meth c 0 0 (MQ below (gQ D cA dm ad out none A) args s 0 0 A) S1 12 [(0, .ref (ad 4 t 0)), (1, .int v1)] [] := by
    intro n
    induction n with
    | zero => intro v1 S1 hs; rw [s_X4_passTick_L12] at hs; cases hs
    | succ f12 ih12 =>
      intro v1 Z2 hs
      rw [s_X4_passTick_L12] at hs
      refine V_iload_n X dX4_passTick_12 rfl 1 rfl ?_
      refine V_aload_n X dX4_passTick_13 rfl 0 rfl ?_
      refine V_get X dX4_passTick_14 r_X4_65 (gm4 ht) rfl rfl ?_
      refine V_icmp_ge X 35 dX4_passTick_17 (by decide) (fun c3 => ?_) (fun c3 => ?_)
      · replace hs := if_t hs c3
        refine V_aload_n X dX4_passTick_35 rfl 0 rfl ?_
        refine V_aload_n X dX4_passTick_36 rfl 0 rfl ?_
        refine V_get X dX4_passTick_37 r_X4_59 (gm4 ht) rfl rfl ?_
        refine jn (P := fun q => V D cA dm ad A 4 p l e ({ frames := 5, cells := 0, slots := 0, locals := 116 }) s m args below meth c 0 0 (MQ below (gQ D cA dm ad out none A) args s 0 0 A) Z2 58 [(0, .ref (ad 4 t 0)), (1, .int v1)] [.int q, .ref (ad 4 t 0)]) hs (fun q4 hs => ?_) (fun J58 hs => ?_)
        · refine V_put X dX4_passTick_58 f_X4_59 (gm4 ht) rfl (Nat.le_of_ble_eq_true rfl) rfl rfl rfl (fun Z5 eZ5 => ?_)
          replace hs := sv_some hs Z5 eZ5
          clear eZ5
          refine V_aload_n X dX4_passTick_61 rfl 0 rfl ?_
          refine V_iconst X (0 : Int32) dX4_passTick_62 (by decide) ?_
          obtain ⟨q6, eq6, hs⟩ := bd_some hs
          refine V_callVs X [.int (0 : Int32)] dX4_passTick_63 m_X4_147 v_X4_parcelAt ⟨Nat.le_of_ble_eq_true rfl, Nat.le_of_ble_eq_true rfl⟩ ⟨Nat.zero_le _, Nat.zero_le _⟩ rfl (Nat.le_of_ble_eq_true rfl) (gm4 ht) rfl cl4 (c_X4_parcelAt ht eq6) ?_
          refine V_istore_n X dX4_passTick_66 rfl [(1, .int q6), (0, .ref (ad 4 t 0))] (by decide) rfl ?_
          refine V_aload_n X dX4_passTick_67 rfl 1 rfl ?_
          refine V_iload_n X dX4_passTick_68 rfl 0 rfl ?_
          obtain ⟨q7, eq7, hs⟩ := bd_some hs
          refine V_callVs X [.int q6] dX4_passTick_69 m_X4_150 v_X4_isParcel ⟨Nat.le_of_ble_eq_true rfl, Nat.le_of_ble_eq_true rfl⟩ ⟨Nat.zero_le _, Nat.zero_le _⟩ rfl (Nat.le_of_ble_eq_true rfl) (gm4 ht) rfl cl4 (c_X4_isParcel ht eq7) ?_
          refine V_if_eq X 85 dX4_passTick_72 (by decide) (fun c8 => ?_) (fun c8 => ?_)
          · replace hs := if_t hs c8
            refine V_iconst X (0 : Int32) dX4_passTick_85 (by decide) ?_
            refine V_istore_n X dX4_passTick_86 rfl [(2, .int (0 : Int32)), (1, .int q6), (0, .ref (ad 4 t 0))] (by decide) rfl ?_
            have L87 : ∀ (n : Nat) (v2 : Int32) (S1 : S4), s_X4_passTick_L87 np fu t n v2 S1 = some out → V D cA dm ad A 4 p l e ({ frames := 5, cells := 0, slots := 0, locals := 116 }) s m args below meth c 0 0 (MQ below (gQ D cA dm ad out none A) args s 0 0 A) S1 87 [(0, .ref (ad 4 t 0)), (2, .int v2)] [] := by
              intro n
              induction n with
              | zero => intro v2 S1 hs; rw [s_X4_passTick_L87] at hs; cases hs
              | succ f87 ih87 =>
                intro v2 Z9 hs
                rw [s_X4_passTick_L87] at hs
                refine V_iload_n X dX4_passTick_87 rfl 1 rfl ?_
                refine V_aload_n X dX4_passTick_88 rfl 0 rfl ?_
                refine V_get X dX4_passTick_89 r_X4_65 (gm4 ht) rfl rfl ?_
                refine V_icmp_ge X 142 dX4_passTick_92 (by decide) (fun c10 => ?_) (fun c10 => ?_)
                · replace hs := if_t hs c10
                  refine V_iconst X (0 : Int32) dX4_passTick_142 (by decide) ?_
                  refine V_istore_n X dX4_passTick_143 rfl [(2, .int (0 : Int32)), (0, .ref (ad 4 t 0))] (by decide) rfl ?_
                  have L144 : ∀ (n : Nat) (v2 : Int32) (S1 : S4), s_X4_passTick_L144 np fu t n v2 S1 = some out → V D cA dm ad A 4 p l e ({ frames := 5, cells := 0, slots := 0, locals := 116 }) s m args below meth c 0 0 (MQ below (gQ D cA dm ad out none A) args s 0 0 A) S1 144 [(0, .ref (ad 4 t 0)), (2, .int v2)] [] := by
                    intro n
                    induction n with
                    | zero => intro v2 S1 hs; rw [s_X4_passTick_L144] at hs; cases hs
                    | succ f144 ih144 =>
                      intro v2 Z11 hs
                      rw [s_X4_passTick_L144] at hs
                      refine V_iload_n X dX4_passTick_144 rfl 1 rfl ?_
                      refine V_aload_n X dX4_passTick_145 rfl 0 rfl ?_
                      refine V_get X dX4_passTick_146 r_X4_62 (gm4 ht) rfl rfl ?_
                      refine V_icmp_ge X 168 dX4_passTick_149 (by decide) (fun c12 => ?_) (fun c12 => ?_)
                      · replace hs := if_t hs c12
                        obtain rfl := Option.some.inj hs; exact V_vret X hr dX4_passTick_168
                      · replace hs := if_f hs c12
                        refine V_aload_n X dX4_passTick_152 rfl 0 rfl ?_
                        refine V_aload_n X dX4_passTick_153 rfl 0 rfl ?_
                        refine V_get X dX4_passTick_154 r_X4_11 (gm4 ht) rfl rfl ?_
                        refine V_iload_n X dX4_passTick_157 rfl 1 rfl ?_
                        obtain ⟨h13, hs⟩ := gd_some hs
                        refine V_aald X 3 rfl dX4_passTick_158 (gm15 ht) rfl h13 (v := .ref (ad 5 t v2.toNatClampNeg)) rfl ?_
                        obtain ⟨Z15, eZ15, hs⟩ := bd_some hs
                        refine V_callVv X [.ref (ad 5 t v2.toNatClampNeg)] dX4_passTick_159 m_X4_163 v_X4_load ⟨Nat.le_of_ble_eq_true rfl, Nat.le_of_ble_eq_true rfl⟩ ⟨Nat.zero_le _, Nat.zero_le _⟩ rfl (Nat.le_of_ble_eq_true rfl) (gm4 ht) rfl cl4 (c_X4_load ht ht (inb_lt h13) eZ15) ?_
                        refine V_iinc X (v2 + (1 : Int32)) dX4_passTick_162 1 rfl rfl [(2, .int (v2 + (1 : Int32))), (0, .ref (ad 4 t 0))] (by decide) rfl ?_
                        refine V_goto X 144 dX4_passTick_165 (by decide) ?_
                        refine V_sub [1, 0] rfl ?_
                        exact ih144 _ _ hs
                  refine V_sub [1, 0] rfl ?_
                  exact L144 _ _ _ hs
                · replace hs := if_f hs c10
                  refine V_aload_n X dX4_passTick_95 rfl 0 rfl ?_
                  refine V_aload_n X dX4_passTick_96 rfl 0 rfl ?_
                  refine V_get X dX4_passTick_97 r_X4_19 (gm4 ht) rfl rfl ?_
                  refine V_iload_n X dX4_passTick_100 rfl 1 rfl ?_
                  obtain ⟨h16, hs⟩ := gd_some hs
                  refine V_aald X 4 rfl dX4_passTick_101 (gm16 ht) rfl h16 (v := .ref (ad 0 t v2.toNatClampNeg)) rfl ?_
                  refine V_get X dX4_passTick_102 r_X4_113 (gm0 ht (inb_lt h16)) rfl rfl ?_
                  obtain ⟨q17, eq17, hs⟩ := bd_some hs
                  refine V_callVs X [.int (Z9 0 t v2.toNatClampNeg 0)] dX4_passTick_105 m_X4_147 v_X4_parcelAt ⟨Nat.le_of_ble_eq_true rfl, Nat.le_of_ble_eq_true rfl⟩ ⟨Nat.zero_le _, Nat.zero_le _⟩ rfl (Nat.le_of_ble_eq_true rfl) (gm4 ht) rfl cl4 (c_X4_parcelAt ht eq17) ?_
                  refine V_istore_n X dX4_passTick_108 rfl [(3, .int q17), (0, .ref (ad 4 t 0)), (2, .int v2)] (by decide) rfl ?_
                  refine V_aload_n X dX4_passTick_109 rfl 1 rfl ?_
                  refine V_iload_n X dX4_passTick_110 rfl 0 rfl ?_
                  obtain ⟨q18, eq18, hs⟩ := bd_some hs
                  refine V_callVs X [.int q17] dX4_passTick_111 m_X4_150 v_X4_isParcel ⟨Nat.le_of_ble_eq_true rfl, Nat.le_of_ble_eq_true rfl⟩ ⟨Nat.zero_le _, Nat.zero_le _⟩ rfl (Nat.le_of_ble_eq_true rfl) (gm4 ht) rfl cl4 (c_X4_isParcel ht eq18) ?_
                  refine V_if_eq X 136 dX4_passTick_114 (by decide) (fun c19 => ?_) (fun c19 => ?_)
                  · replace hs := if_t hs c19
                    refine V_iinc X (v2 + (1 : Int32)) dX4_passTick_136 2 rfl rfl [(2, .int (v2 + (1 : Int32))), (3, .int q17), (0, .ref (ad 4 t 0))] (by decide) rfl ?_
                    refine V_goto X 87 dX4_passTick_139 (by decide) ?_
                    refine V_sub [2, 0] rfl ?_
                    exact ih87 _ _ hs
                  · replace hs := if_f hs c19
                    refine V_aload_n X dX4_passTick_117 rfl 1 rfl ?_
                    refine V_get X dX4_passTick_118 r_X4_31 (gm4 ht) rfl rfl ?_
                    refine V_iload_n X dX4_passTick_121 rfl 0 rfl ?_
                    obtain ⟨h20, hs⟩ := gd_some hs
                    refine V_aald X 6 rfl dX4_passTick_122 (gm18 ht) rfl h20 (v := .ref (ad 1 t q17.toNatClampNeg)) rfl ?_
                    refine V_get X dX4_passTick_123 r_X4_156 (gm1 ht (inb_lt h20)) rfl rfl ?_
                    refine V_iload_n X dX4_passTick_126 rfl 2 rfl ?_
                    refine V_icmp_ne X 136 dX4_passTick_127 (by decide) (fun c21 => ?_) (fun c21 => ?_)
                    · replace hs := if_f hs c21
                      refine V_iinc X (v2 + (1 : Int32)) dX4_passTick_136 2 rfl rfl [(2, .int (v2 + (1 : Int32))), (3, .int q17), (0, .ref (ad 4 t 0))] (by decide) rfl ?_
                      refine V_goto X 87 dX4_passTick_139 (by decide) ?_
                      refine V_sub [2, 0] rfl ?_
                      exact ih87 _ _ hs
                    · replace hs := if_t hs c21
                      refine V_aload_n X dX4_passTick_130 rfl 1 rfl ?_
                      refine V_iload_n X dX4_passTick_131 rfl 2 rfl ?_
                      refine V_iload_n X dX4_passTick_132 rfl 0 rfl ?_
                      obtain ⟨Z23, eZ23, hs⟩ := bd_some hs
                      refine V_callVv X [.int v2, .int q17] dX4_passTick_133 m_X4_159 v_X4_tryParcel ⟨Nat.le_of_ble_eq_true rfl, Nat.le_of_ble_eq_true rfl⟩ ⟨Nat.zero_le _, Nat.zero_le _⟩ rfl (Nat.le_of_ble_eq_true rfl) (gm4 ht) rfl cl4 (c_X4_tryParcel ht hnp eZ23) ?_
                      refine V_iinc X (v2 + (1 : Int32)) dX4_passTick_136 2 rfl rfl [(2, .int (v2 + (1 : Int32))), (3, .int q17), (0, .ref (ad 4 t 0))] (by decide) rfl ?_
                      refine V_goto X 87 dX4_passTick_139 (by decide) ?_
                      refine V_sub [2, 0] rfl ?_
                      exact ih87 _ _ hs
            refine V_sub [2, 0] rfl ?_
            exact L87 _ _ _ hs
          · replace hs := if_f hs c8
            refine V_aload_n X dX4_passTick_75 rfl 1 rfl ?_
            refine V_aload_n X dX4_passTick_76 rfl 1 rfl ?_
            refine V_get X dX4_passTick_77 r_X4_31 (gm4 ht) rfl rfl ?_
            refine V_iload_n X dX4_passTick_80 rfl 0 rfl ?_
            obtain ⟨h24, hs⟩ := gd_some hs
            refine V_aald X 6 rfl dX4_passTick_81 (gm18 ht) rfl h24 (v := .ref (ad 1 t q6.toNatClampNeg)) rfl ?_
            obtain ⟨Z26, eZ26, hs⟩ := bd_some hs
            refine V_callVv X [.ref (ad 1 t q6.toNatClampNeg)] dX4_passTick_82 m_X4_153 v_X4_scan ⟨Nat.le_of_ble_eq_true rfl, Nat.le_of_ble_eq_true rfl⟩ ⟨Nat.zero_le _, Nat.zero_le _⟩ rfl (Nat.le_of_ble_eq_true rfl) (gm4 ht) rfl cl4 (c_X4_scan ht ht (inb_lt h24) hnp eZ26) ?_
            refine V_iconst X (0 : Int32) dX4_passTick_85 (by decide) ?_
            refine V_istore_n X dX4_passTick_86 rfl [(2, .int (0 : Int32)), (1, .int q6), (0, .ref (ad 4 t 0))] (by decide) rfl ?_
            have L87 : ∀ (n : Nat) (v2 : Int32) (S1 : S4), s_X4_passTick_L87 np fu t n v2 S1 = some out → V D cA dm ad A 4 p l e ({ frames := 5, cells := 0, slots := 0, locals := 116 }) s m args below meth c 0 0 (MQ below (gQ D cA dm ad out none A) args s 0 0 A) S1 87 [(0, .ref (ad 4 t 0)), (2, .int v2)] [] := by
              intro n
              induction n with
              | zero => intro v2 S1 hs; rw [s_X4_passTick_L87] at hs; cases hs
              | succ f87 ih87 =>
                intro v2 Z27 hs
                rw [s_X4_passTick_L87] at hs
                refine V_iload_n X dX4_passTick_87 rfl 1 rfl ?_
                refine V_aload_n X dX4_passTick_88 rfl 0 rfl ?_
                refine V_get X dX4_passTick_89 r_X4_65 (gm4 ht) rfl rfl ?_
                refine V_icmp_ge X 142 dX4_passTick_92 (by decide) (fun c28 => ?_) (fun c28 => ?_)
                · replace hs := if_t hs c28
                  refine V_iconst X (0 : Int32) dX4_passTick_142 (by decide) ?_
                  refine V_istore_n X dX4_passTick_143 rfl [(2, .int (0 : Int32)), (0, .ref (ad 4 t 0))] (by decide) rfl ?_
                  have L144 : ∀ (n : Nat) (v2 : Int32) (S1 : S4), s_X4_passTick_L144 np fu t n v2 S1 = some out → V D cA dm ad A 4 p l e ({ frames := 5, cells := 0, slots := 0, locals := 116 }) s m args below meth c 0 0 (MQ below (gQ D cA dm ad out none A) args s 0 0 A) S1 144 [(0, .ref (ad 4 t 0)), (2, .int v2)] [] := by
                    intro n
                    induction n with
                    | zero => intro v2 S1 hs; rw [s_X4_passTick_L144] at hs; cases hs
                    | succ f144 ih144 =>
                      intro v2 Z29 hs
                      rw [s_X4_passTick_L144] at hs
                      refine V_iload_n X dX4_passTick_144 rfl 1 rfl ?_
                      refine V_aload_n X dX4_passTick_145 rfl 0 rfl ?_
                      refine V_get X dX4_passTick_146 r_X4_62 (gm4 ht) rfl rfl ?_
                      refine V_icmp_ge X 168 dX4_passTick_149 (by decide) (fun c30 => ?_) (fun c30 => ?_)
                      · replace hs := if_t hs c30
                        obtain rfl := Option.some.inj hs; exact V_vret X hr dX4_passTick_168
                      · replace hs := if_f hs c30
                        refine V_aload_n X dX4_passTick_152 rfl 0 rfl ?_
                        refine V_aload_n X dX4_passTick_153 rfl 0 rfl ?_
                        refine V_get X dX4_passTick_154 r_X4_11 (gm4 ht) rfl rfl ?_
                        refine V_iload_n X dX4_passTick_157 rfl 1 rfl ?_
                        obtain ⟨h31, hs⟩ := gd_some hs
                        refine V_aald X 3 rfl dX4_passTick_158 (gm15 ht) rfl h31 (v := .ref (ad 5 t v2.toNatClampNeg)) rfl ?_
                        obtain ⟨Z33, eZ33, hs⟩ := bd_some hs
                        refine V_callVv X [.ref (ad 5 t v2.toNatClampNeg)] dX4_passTick_159 m_X4_163 v_X4_load ⟨Nat.le_of_ble_eq_true rfl, Nat.le_of_ble_eq_true rfl⟩ ⟨Nat.zero_le _, Nat.zero_le _⟩ rfl (Nat.le_of_ble_eq_true rfl) (gm4 ht) rfl cl4 (c_X4_load ht ht (inb_lt h31) eZ33) ?_
                        refine V_iinc X (v2 + (1 : Int32)) dX4_passTick_162 1 rfl rfl [(2, .int (v2 + (1 : Int32))), (0, .ref (ad 4 t 0))] (by decide) rfl ?_
                        refine V_goto X 144 dX4_passTick_165 (by decide) ?_
                        refine V_sub [1, 0] rfl ?_
                        exact ih144 _ _ hs
                  refine V_sub [1, 0] rfl ?_
                  exact L144 _ _ _ hs
                · replace hs := if_f hs c28
                  refine V_aload_n X dX4_passTick_95 rfl 0 rfl ?_
                  refine V_aload_n X dX4_passTick_96 rfl 0 rfl ?_
                  refine V_get X dX4_passTick_97 r_X4_19 (gm4 ht) rfl rfl ?_
                  refine V_iload_n X dX4_passTick_100 rfl 1 rfl ?_
                  obtain ⟨h34, hs⟩ := gd_some hs
                  refine V_aald X 4 rfl dX4_passTick_101 (gm16 ht) rfl h34 (v := .ref (ad 0 t v2.toNatClampNeg)) rfl ?_
                  refine V_get X dX4_passTick_102 r_X4_113 (gm0 ht (inb_lt h34)) rfl rfl ?_
                  obtain ⟨q35, eq35, hs⟩ := bd_some hs
                  refine V_callVs X [.int (Z27 0 t v2.toNatClampNeg 0)] dX4_passTick_105 m_X4_147 v_X4_parcelAt ⟨Nat.le_of_ble_eq_true rfl, Nat.le_of_ble_eq_true rfl⟩ ⟨Nat.zero_le _, Nat.zero_le _⟩ rfl (Nat.le_of_ble_eq_true rfl) (gm4 ht) rfl cl4 (c_X4_parcelAt ht eq35) ?_
                  refine V_istore_n X dX4_passTick_108 rfl [(3, .int q35), (0, .ref (ad 4 t 0)), (2, .int v2)] (by decide) rfl ?_
                  refine V_aload_n X dX4_passTick_109 rfl 1 rfl ?_
                  refine V_iload_n X dX4_passTick_110 rfl 0 rfl ?_
                  obtain ⟨q36, eq36, hs⟩ := bd_some hs
                  refine V_callVs X [.int q35] dX4_passTick_111 m_X4_150 v_X4_isParcel ⟨Nat.le_of_ble_eq_true rfl, Nat.le_of_ble_eq_true rfl⟩ ⟨Nat.zero_le _, Nat.zero_le _⟩ rfl (Nat.le_of_ble_eq_true rfl) (gm4 ht) rfl cl4 (c_X4_isParcel ht eq36) ?_
                  refine V_if_eq X 136 dX4_passTick_114 (by decide) (fun c37 => ?_) (fun c37 => ?_)
                  · replace hs := if_t hs c37
                    refine V_iinc X (v2 + (1 : Int32)) dX4_passTick_136 2 rfl rfl [(2, .int (v2 + (1 : Int32))), (3, .int q35), (0, .ref (ad 4 t 0))] (by decide) rfl ?_
                    refine V_goto X 87 dX4_passTick_139 (by decide) ?_
                    refine V_sub [2, 0] rfl ?_
                    exact ih87 _ _ hs
                  · replace hs := if_f hs c37
                    refine V_aload_n X dX4_passTick_117 rfl 1 rfl ?_
                    refine V_get X dX4_passTick_118 r_X4_31 (gm4 ht) rfl rfl ?_
                    refine V_iload_n X dX4_passTick_121 rfl 0 rfl ?_
                    obtain ⟨h38, hs⟩ := gd_some hs
                    refine V_aald X 6 rfl dX4_passTick_122 (gm18 ht) rfl h38 (v := .ref (ad 1 t q35.toNatClampNeg)) rfl ?_
                    refine V_get X dX4_passTick_123 r_X4_156 (gm1 ht (inb_lt h38)) rfl rfl ?_
                    refine V_iload_n X dX4_passTick_126 rfl 2 rfl ?_
                    refine V_icmp_ne X 136 dX4_passTick_127 (by decide) (fun c39 => ?_) (fun c39 => ?_)
                    · replace hs := if_f hs c39
                      refine V_iinc X (v2 + (1 : Int32)) dX4_passTick_136 2 rfl rfl [(2, .int (v2 + (1 : Int32))), (3, .int q35), (0, .ref (ad 4 t 0))] (by decide) rfl ?_
                      refine V_goto X 87 dX4_passTick_139 (by decide) ?_
                      refine V_sub [2, 0] rfl ?_
                      exact ih87 _ _ hs
                    · replace hs := if_t hs c39
                      refine V_aload_n X dX4_passTick_130 rfl 1 rfl ?_
                      refine V_iload_n X dX4_passTick_131 rfl 2 rfl ?_
                      refine V_iload_n X dX4_passTick_132 rfl 0 rfl ?_
                      obtain ⟨Z41, eZ41, hs⟩ := bd_some hs
                      refine V_callVv X [.int v2, .int q35] dX4_passTick_133 m_X4_159 v_X4_tryParcel ⟨Nat.le_of_ble_eq_true rfl, Nat.le_of_ble_eq_true rfl⟩ ⟨Nat.zero_le _, Nat.zero_le _⟩ rfl (Nat.le_of_ble_eq_true rfl) (gm4 ht) rfl cl4 (c_X4_tryParcel ht hnp eZ41) ?_
                      refine V_iinc X (v2 + (1 : Int32)) dX4_passTick_136 2 rfl rfl [(2, .int (v2 + (1 : Int32))), (3, .int q35), (0, .ref (ad 4 t 0))] (by decide) rfl ?_
                      refine V_goto X 87 dX4_passTick_139 (by decide) ?_
                      refine V_sub [2, 0] rfl ?_
                      exact ih87 _ _ hs
            refine V_sub [2, 0] rfl ?_
            exact L87 _ _ _ hs
        · refine V_if_le X 52 dX4_passTick_40 (by decide) (fun c42 => ?_) (fun c42 => ?_)
          · replace hs := if_tB hs c42
            refine V_aload_n X dX4_passTick_52 rfl 0 rfl ?_
            refine V_get X dX4_passTick_53 r_X4_52 (gm4 ht) rfl rfl ?_
            refine V_iconst X (1 : Int32) dX4_passTick_56 (by decide) ?_
            refine V_isub X dX4_passTick_57 ?_
            exact J58 _ (bs_some hs)
          · replace hs := if_fB hs c42
            refine V_aload_n X dX4_passTick_43 rfl 0 rfl ?_
            refine V_get X dX4_passTick_44 r_X4_59 (gm4 ht) rfl rfl ?_
            refine V_iconst X (1 : Int32) dX4_passTick_47 (by decide) ?_
            refine V_isub X dX4_passTick_48 ?_
            refine V_goto X 58 dX4_passTick_49 (by decide) ?_
            exact J58 _ (bs_some hs)
      · replace hs := if_f hs c3
        refine V_aload_n X dX4_passTick_20 rfl 0 rfl ?_
        refine V_get X dX4_passTick_21 r_X4_19 (gm4 ht) rfl rfl ?_
        refine V_iload_n X dX4_passTick_24 rfl 1 rfl ?_
        obtain ⟨h43, hs⟩ := gd_some hs
        refine V_aald X 4 rfl dX4_passTick_25 (gm16 ht) rfl h43 (v := .ref (ad 0 t v1.toNatClampNeg)) rfl ?_
        obtain ⟨Z45, eZ45, hs⟩ := bd_some hs
        refine V_callVv X [] dX4_passTick_26 m_X4_144 v_X0_passTick ⟨Nat.le_of_ble_eq_true rfl, Nat.le_of_ble_eq_true rfl⟩ ⟨Nat.zero_le _, Nat.zero_le _⟩ rfl (Nat.le_of_ble_eq_true rfl) (gm0 ht (inb_lt h43)) rfl cl0 (c_X0_passTick ht (inb_lt h43) eZ45) ?_
        refine V_iinc X (v1 + (1 : Int32)) dX4_passTick_29 1 rfl rfl [(1, .int (v1 + (1 : Int32))), (0, .ref (ad 4 t 0))] (by decide) rfl ?_
        refine V_goto X 12 dX4_passTick_32 (by decide) ?_
        refine V_sub [1, 0] rfl ?_
        exact ih12 _ _ hs
  refine V_sub [1, 0] rfl ?_
  exact L12 _ _ _ hs

def s_X4_parcelsAimedAt_L4 (fu : Nat) (t : Nat) (p1 : Int32) (S : S4) : Nat → Int32 → Int32 → Option Int32
  | 0, _, _ => none
  | f4+1, v2, v3 => (if (S 4 t 0 6) ≤ v3 then some v2 else gd (inb v3 60) ((if (S 1 t v3.toNatClampNeg 7) = p1 then s_X4_parcelsAimedAt_L4 fu t p1 S f4 (v2 + (1 : Int32)) (v3 + (1 : Int32)) else s_X4_parcelsAimedAt_L4 fu t p1 S f4 v2 (v3 + (1 : Int32)))))
def s_X4_parcelsAimedAt (fu : Nat) (t : Nat) (p1 : Int32) (S : S4) : Option Int32 := s_X4_parcelsAimedAt_L4 fu t p1 S fu (0 : Int32) (0 : Int32)
set_option maxRecDepth 100000 in
set_option maxHeartbeats 4000000 in
theorem c_X4_parcelsAimedAt {l : Launch} {D : va_G} {cA : Nat → ClassId} {dm : Dm} {ad : Ad} {fu : Nat} {S : S4} {t : Nat} {p1 : Int32} (ht : DS dm t) {out : Int32} (hs : s_X4_parcelsAimedAt fu t p1 S = some out) : Ct D cA dm ad l yX4_parcelsAimedAt cX4_parcelsAimedAt 4 (some .int) 0 0 S [.ref (ad 4 t 0), .int p1] (some (.int out)) S := by
  refine Ct.of (by decide +kernel) (Nat.le_of_ble_eq_true rfl) [(0, .ref (ad 4 t 0)), (1, .int p1)] rfl (fun p e s m args below meth c A X hr => ?_)
  unfold s_X4_parcelsAimedAt at hs
  refine V_iconst X (0 : Int32) dX4_parcelsAimedAt_0 (by decide) ?_
  refine V_istore_n X dX4_parcelsAimedAt_1 rfl [(2, .int (0 : Int32)), (0, .ref (ad 4 t 0)), (1, .int p1)] (by decide) rfl ?_
  refine V_iconst X (0 : Int32) dX4_parcelsAimedAt_2 (by decide) ?_
  refine V_istore_n X dX4_parcelsAimedAt_3 rfl [(3, .int (0 : Int32)), (2, .int (0 : Int32)), (0, .ref (ad 4 t 0)), (1, .int p1)] (by decide) rfl ?_
  have L4 : ∀ (n : Nat) (v2 v3 : Int32) , s_X4_parcelsAimedAt_L4 fu t p1 S n v2 v3 = some out → V D cA dm ad A 4 p l e ({ frames := 0, cells := 0, slots := 0, locals := 0 }) s m args below meth c 0 0 (MQ below (gQ D cA dm ad S (some (.int out)) A) args s 0 0 A) S 4 [(0, .ref (ad 4 t 0)), (1, .int p1), (2, .int v2), (3, .int v3)] [] := by
    intro n
    induction n with
    | zero => intro v2 v3 hs; rw [s_X4_parcelsAimedAt_L4] at hs; cases hs
    | succ f4 ih4 =>
      intro v2 v3 hs
      rw [s_X4_parcelsAimedAt_L4] at hs
      refine V_iload_n X dX4_parcelsAimedAt_4 rfl 3 rfl ?_
      refine V_aload_n X dX4_parcelsAimedAt_5 rfl 0 rfl ?_
      refine V_get X dX4_parcelsAimedAt_6 r_X4_71 (gm4 ht) rfl rfl ?_
      refine V_icmp_ge X 34 dX4_parcelsAimedAt_9 (by decide) (fun c1 => ?_) (fun c1 => ?_)
      · replace hs := if_t hs c1
        refine V_iload_n X dX4_parcelsAimedAt_34 rfl 2 rfl ?_
        obtain rfl := Option.some.inj hs; exact V_iret X hr dX4_parcelsAimedAt_35
      · replace hs := if_f hs c1
        refine V_aload_n X dX4_parcelsAimedAt_12 rfl 0 rfl ?_
        refine V_get X dX4_parcelsAimedAt_13 r_X4_31 (gm4 ht) rfl rfl ?_
        refine V_iload_n X dX4_parcelsAimedAt_16 rfl 3 rfl ?_
        obtain ⟨h2, hs⟩ := gd_some hs
        refine V_aald X 6 rfl dX4_parcelsAimedAt_17 (gm18 ht) rfl h2 (v := .ref (ad 1 t v3.toNatClampNeg)) rfl ?_
        refine V_get X dX4_parcelsAimedAt_18 r_X4_156 (gm1 ht (inb_lt h2)) rfl rfl ?_
        refine V_iload_n X dX4_parcelsAimedAt_21 rfl 1 rfl ?_
        refine V_icmp_ne X 28 dX4_parcelsAimedAt_22 (by decide) (fun c3 => ?_) (fun c3 => ?_)
        · replace hs := if_f hs c3
          refine V_iinc X (v3 + (1 : Int32)) dX4_parcelsAimedAt_28 3 rfl rfl [(3, .int (v3 + (1 : Int32))), (0, .ref (ad 4 t 0)), (1, .int p1), (2, .int v2)] (by decide) rfl ?_
          refine V_goto X 4 dX4_parcelsAimedAt_31 (by decide) ?_
          refine V_sub [1, 2, 3, 0] rfl ?_
          exact ih4 _ _ hs
        · replace hs := if_t hs c3
          refine V_iinc X (v2 + (1 : Int32)) dX4_parcelsAimedAt_25 2 rfl rfl [(2, .int (v2 + (1 : Int32))), (0, .ref (ad 4 t 0)), (1, .int p1), (3, .int v3)] (by decide) rfl ?_
          refine V_iinc X (v3 + (1 : Int32)) dX4_parcelsAimedAt_28 3 rfl rfl [(3, .int (v3 + (1 : Int32))), (2, .int (v2 + (1 : Int32))), (0, .ref (ad 4 t 0)), (1, .int p1)] (by decide) rfl ?_
          refine V_goto X 4 dX4_parcelsAimedAt_31 (by decide) ?_
          refine V_sub [2, 3, 1, 0] rfl ?_
          exact ih4 _ _ hs
  refine V_sub [2, 3, 1, 0] rfl ?_
  exact L4 _ _ _ hs

def s_X4_jamsOfChutes_L4 (fu : Nat) (t : Nat) (S : S4) : Nat → Int32 → Int32 → Option Int32
  | 0, _, _ => none
  | f4+1, v1, v2 => (if (S 4 t 0 4) ≤ v2 then some v1 else gd (inb v2 8) (s_X4_jamsOfChutes_L4 fu t S f4 (v1 + (S 0 t v2.toNatClampNeg 12)) (v2 + (1 : Int32))))
def s_X4_jamsOfChutes (fu : Nat) (t : Nat) (S : S4) : Option Int32 := s_X4_jamsOfChutes_L4 fu t S fu (0 : Int32) (0 : Int32)
set_option maxRecDepth 100000 in
set_option maxHeartbeats 4000000 in
theorem c_X4_jamsOfChutes {l : Launch} {D : va_G} {cA : Nat → ClassId} {dm : Dm} {ad : Ad} {fu : Nat} {S : S4} {t : Nat} (ht : DS dm t) {out : Int32} (hs : s_X4_jamsOfChutes fu t S = some out) : Ct D cA dm ad l yX4_jamsOfChutes cX4_jamsOfChutes 3 (some .int) 0 0 S [.ref (ad 4 t 0)] (some (.int out)) S := by
  refine Ct.of (by decide +kernel) (Nat.le_of_ble_eq_true rfl) [(0, .ref (ad 4 t 0))] rfl (fun p e s m args below meth c A X hr => ?_)
  unfold s_X4_jamsOfChutes at hs
  refine V_iconst X (0 : Int32) dX4_jamsOfChutes_0 (by decide) ?_
  refine V_istore_n X dX4_jamsOfChutes_1 rfl [(1, .int (0 : Int32)), (0, .ref (ad 4 t 0))] (by decide) rfl ?_
  refine V_iconst X (0 : Int32) dX4_jamsOfChutes_2 (by decide) ?_
  refine V_istore_n X dX4_jamsOfChutes_3 rfl [(2, .int (0 : Int32)), (1, .int (0 : Int32)), (0, .ref (ad 4 t 0))] (by decide) rfl ?_
  have L4 : ∀ (n : Nat) (v1 v2 : Int32) , s_X4_jamsOfChutes_L4 fu t S n v1 v2 = some out → V D cA dm ad A 3 p l e ({ frames := 0, cells := 0, slots := 0, locals := 0 }) s m args below meth c 0 0 (MQ below (gQ D cA dm ad S (some (.int out)) A) args s 0 0 A) S 4 [(0, .ref (ad 4 t 0)), (1, .int v1), (2, .int v2)] [] := by
    intro n
    induction n with
    | zero => intro v1 v2 hs; rw [s_X4_jamsOfChutes_L4] at hs; cases hs
    | succ f4 ih4 =>
      intro v1 v2 hs
      rw [s_X4_jamsOfChutes_L4] at hs
      refine V_iload_n X dX4_jamsOfChutes_4 rfl 2 rfl ?_
      refine V_aload_n X dX4_jamsOfChutes_5 rfl 0 rfl ?_
      refine V_get X dX4_jamsOfChutes_6 r_X4_65 (gm4 ht) rfl rfl ?_
      refine V_icmp_ge X 30 dX4_jamsOfChutes_9 (by decide) (fun c1 => ?_) (fun c1 => ?_)
      · replace hs := if_t hs c1
        refine V_iload_n X dX4_jamsOfChutes_30 rfl 1 rfl ?_
        obtain rfl := Option.some.inj hs; exact V_iret X hr dX4_jamsOfChutes_31
      · replace hs := if_f hs c1
        refine V_iload_n X dX4_jamsOfChutes_12 rfl 1 rfl ?_
        refine V_aload_n X dX4_jamsOfChutes_13 rfl 0 rfl ?_
        refine V_get X dX4_jamsOfChutes_14 r_X4_19 (gm4 ht) rfl rfl ?_
        refine V_iload_n X dX4_jamsOfChutes_17 rfl 2 rfl ?_
        obtain ⟨h2, hs⟩ := gd_some hs
        refine V_aald X 4 rfl dX4_jamsOfChutes_18 (gm16 ht) rfl h2 (v := .ref (ad 0 t v2.toNatClampNeg)) rfl ?_
        refine V_get X dX4_jamsOfChutes_19 r_X4_273 (gm0 ht (inb_lt h2)) rfl rfl ?_
        refine V_iadd X dX4_jamsOfChutes_22 ?_
        refine V_istore_n X dX4_jamsOfChutes_23 rfl [(1, .int (v1 + (S 0 t v2.toNatClampNeg 12))), (0, .ref (ad 4 t 0)), (2, .int v2)] (by decide) rfl ?_
        refine V_iinc X (v2 + (1 : Int32)) dX4_jamsOfChutes_24 2 rfl rfl [(2, .int (v2 + (1 : Int32))), (1, .int (v1 + (S 0 t v2.toNatClampNeg 12))), (0, .ref (ad 4 t 0))] (by decide) rfl ?_
        refine V_goto X 4 dX4_jamsOfChutes_27 (by decide) ?_
        refine V_sub [2, 1, 0] rfl ?_
        exact ih4 _ _ hs
  refine V_sub [2, 1, 0] rfl ?_
  exact L4 _ _ _ hs

def s_X4_bagsOfChutes_L4 (fu : Nat) (t : Nat) (S : S4) : Nat → Int32 → Int32 → Option Int32
  | 0, _, _ => none
  | f4+1, v1, v2 => (if (S 4 t 0 4) ≤ v2 then some v1 else gd (inb v2 8) (s_X4_bagsOfChutes_L4 fu t S f4 (v1 + (S 0 t v2.toNatClampNeg 14)) (v2 + (1 : Int32))))
def s_X4_bagsOfChutes (fu : Nat) (t : Nat) (S : S4) : Option Int32 := s_X4_bagsOfChutes_L4 fu t S fu (0 : Int32) (0 : Int32)
set_option maxRecDepth 100000 in
set_option maxHeartbeats 4000000 in
theorem c_X4_bagsOfChutes {l : Launch} {D : va_G} {cA : Nat → ClassId} {dm : Dm} {ad : Ad} {fu : Nat} {S : S4} {t : Nat} (ht : DS dm t) {out : Int32} (hs : s_X4_bagsOfChutes fu t S = some out) : Ct D cA dm ad l yX4_bagsOfChutes cX4_bagsOfChutes 3 (some .int) 0 0 S [.ref (ad 4 t 0)] (some (.int out)) S := by
  refine Ct.of (by decide +kernel) (Nat.le_of_ble_eq_true rfl) [(0, .ref (ad 4 t 0))] rfl (fun p e s m args below meth c A X hr => ?_)
  unfold s_X4_bagsOfChutes at hs
  refine V_iconst X (0 : Int32) dX4_bagsOfChutes_0 (by decide) ?_
  refine V_istore_n X dX4_bagsOfChutes_1 rfl [(1, .int (0 : Int32)), (0, .ref (ad 4 t 0))] (by decide) rfl ?_
  refine V_iconst X (0 : Int32) dX4_bagsOfChutes_2 (by decide) ?_
  refine V_istore_n X dX4_bagsOfChutes_3 rfl [(2, .int (0 : Int32)), (1, .int (0 : Int32)), (0, .ref (ad 4 t 0))] (by decide) rfl ?_
  have L4 : ∀ (n : Nat) (v1 v2 : Int32) , s_X4_bagsOfChutes_L4 fu t S n v1 v2 = some out → V D cA dm ad A 3 p l e ({ frames := 0, cells := 0, slots := 0, locals := 0 }) s m args below meth c 0 0 (MQ below (gQ D cA dm ad S (some (.int out)) A) args s 0 0 A) S 4 [(0, .ref (ad 4 t 0)), (1, .int v1), (2, .int v2)] [] := by
    intro n
    induction n with
    | zero => intro v1 v2 hs; rw [s_X4_bagsOfChutes_L4] at hs; cases hs
    | succ f4 ih4 =>
      intro v1 v2 hs
      rw [s_X4_bagsOfChutes_L4] at hs
      refine V_iload_n X dX4_bagsOfChutes_4 rfl 2 rfl ?_
      refine V_aload_n X dX4_bagsOfChutes_5 rfl 0 rfl ?_
      refine V_get X dX4_bagsOfChutes_6 r_X4_65 (gm4 ht) rfl rfl ?_
      refine V_icmp_ge X 30 dX4_bagsOfChutes_9 (by decide) (fun c1 => ?_) (fun c1 => ?_)
      · replace hs := if_t hs c1
        refine V_iload_n X dX4_bagsOfChutes_30 rfl 1 rfl ?_
        obtain rfl := Option.some.inj hs; exact V_iret X hr dX4_bagsOfChutes_31
      · replace hs := if_f hs c1
        refine V_iload_n X dX4_bagsOfChutes_12 rfl 1 rfl ?_
        refine V_aload_n X dX4_bagsOfChutes_13 rfl 0 rfl ?_
        refine V_get X dX4_bagsOfChutes_14 r_X4_19 (gm4 ht) rfl rfl ?_
        refine V_iload_n X dX4_bagsOfChutes_17 rfl 2 rfl ?_
        obtain ⟨h2, hs⟩ := gd_some hs
        refine V_aald X 4 rfl dX4_bagsOfChutes_18 (gm16 ht) rfl h2 (v := .ref (ad 0 t v2.toNatClampNeg)) rfl ?_
        refine V_get X dX4_bagsOfChutes_19 r_X4_276 (gm0 ht (inb_lt h2)) rfl rfl ?_
        refine V_iadd X dX4_bagsOfChutes_22 ?_
        refine V_istore_n X dX4_bagsOfChutes_23 rfl [(1, .int (v1 + (S 0 t v2.toNatClampNeg 14))), (0, .ref (ad 4 t 0)), (2, .int v2)] (by decide) rfl ?_
        refine V_iinc X (v2 + (1 : Int32)) dX4_bagsOfChutes_24 2 rfl rfl [(2, .int (v2 + (1 : Int32))), (1, .int (v1 + (S 0 t v2.toNatClampNeg 14))), (0, .ref (ad 4 t 0))] (by decide) rfl ?_
        refine V_goto X 4 dX4_bagsOfChutes_27 (by decide) ?_
        refine V_sub [2, 1, 0] rfl ?_
        exact ih4 _ _ hs
  refine V_sub [2, 1, 0] rfl ?_
  exact L4 _ _ _ hs

def s_X4_greatestRounds_L4 (fu : Nat) (t : Nat) (S : S4) : Nat → Int32 → Int32 → Option Int32
  | 0, _, _ => none
  | f4+1, v1, v2 => (if (S 4 t 0 6) ≤ v2 then some v1 else gd (inb v2 60) ((s_X1_rounds t v2.toNatClampNeg S).bind fun q3 => s_X4_greatestRounds_L4 fu t S f4 (if v1 < q3 then q3 else v1) (v2 + (1 : Int32))))
def s_X4_greatestRounds (fu : Nat) (t : Nat) (S : S4) : Option Int32 := s_X4_greatestRounds_L4 fu t S fu (0 : Int32) (0 : Int32)
set_option maxRecDepth 100000 in
set_option maxHeartbeats 4000000 in
theorem c_X4_greatestRounds {l : Launch} {D : va_G} {cA : Nat → ClassId} {dm : Dm} {ad : Ad} {fu : Nat} {S : S4} {t : Nat} (ht : DS dm t) {out : Int32} (hs : s_X4_greatestRounds fu t S = some out) : Ct D cA dm ad l yX4_greatestRounds cX4_greatestRounds 3 (some .int) 2 80 S [.ref (ad 4 t 0)] (some (.int out)) S := by
  refine Ct.of (by decide +kernel) (Nat.le_of_ble_eq_true rfl) [(0, .ref (ad 4 t 0))] rfl (fun p e s m args below meth c A X hr => ?_)
  unfold s_X4_greatestRounds at hs
  refine V_iconst X (0 : Int32) dX4_greatestRounds_0 (by decide) ?_
  refine V_istore_n X dX4_greatestRounds_1 rfl [(1, .int (0 : Int32)), (0, .ref (ad 4 t 0))] (by decide) rfl ?_
  refine V_iconst X (0 : Int32) dX4_greatestRounds_2 (by decide) ?_
  refine V_istore_n X dX4_greatestRounds_3 rfl [(2, .int (0 : Int32)), (1, .int (0 : Int32)), (0, .ref (ad 4 t 0))] (by decide) rfl ?_
  have L4 : ∀ (n : Nat) (v1 v2 : Int32) , s_X4_greatestRounds_L4 fu t S n v1 v2 = some out → V D cA dm ad A 3 p l e ({ frames := 2, cells := 0, slots := 0, locals := 80 }) s m args below meth c 0 0 (MQ below (gQ D cA dm ad S (some (.int out)) A) args s 0 0 A) S 4 [(0, .ref (ad 4 t 0)), (1, .int v1), (2, .int v2)] [] := by
    intro n
    induction n with
    | zero => intro v1 v2 hs; rw [s_X4_greatestRounds_L4] at hs; cases hs
    | succ f4 ih4 =>
      intro v1 v2 hs
      rw [s_X4_greatestRounds_L4] at hs
      refine V_iload_n X dX4_greatestRounds_4 rfl 2 rfl ?_
      refine V_aload_n X dX4_greatestRounds_5 rfl 0 rfl ?_
      refine V_get X dX4_greatestRounds_6 r_X4_71 (gm4 ht) rfl rfl ?_
      refine V_icmp_ge X 32 dX4_greatestRounds_9 (by decide) (fun c1 => ?_) (fun c1 => ?_)
      · replace hs := if_t hs c1
        refine V_iload_n X dX4_greatestRounds_32 rfl 1 rfl ?_
        obtain rfl := Option.some.inj hs; exact V_iret X hr dX4_greatestRounds_33
      · replace hs := if_f hs c1
        refine V_iload_n X dX4_greatestRounds_12 rfl 1 rfl ?_
        refine V_aload_n X dX4_greatestRounds_13 rfl 0 rfl ?_
        refine V_get X dX4_greatestRounds_14 r_X4_31 (gm4 ht) rfl rfl ?_
        refine V_iload_n X dX4_greatestRounds_17 rfl 2 rfl ?_
        obtain ⟨h2, hs⟩ := gd_some hs
        refine V_aald X 6 rfl dX4_greatestRounds_18 (gm18 ht) rfl h2 (v := .ref (ad 1 t v2.toNatClampNeg)) rfl ?_
        obtain ⟨q3, eq3, hs⟩ := bd_some hs
        refine V_callVs X [] dX4_greatestRounds_19 m_X4_182 v_X1_rounds ⟨Nat.le_of_ble_eq_true rfl, Nat.le_of_ble_eq_true rfl⟩ ⟨Nat.zero_le _, Nat.zero_le _⟩ rfl (Nat.le_of_ble_eq_true rfl) (gm1 ht (inb_lt h2)) rfl cl1 (c_X1_rounds ht (inb_lt h2) eq3) ?_
        refine V_mmax X dX4_greatestRounds_22 mm_X4_279 ⟨by decide, by decide⟩ ⟨Nat.zero_le _, Nat.zero_le _⟩ (Nat.le_of_ble_eq_true rfl) ?_
        refine V_istore_n X dX4_greatestRounds_25 rfl [(1, .int (if v1 < q3 then q3 else v1)), (0, .ref (ad 4 t 0)), (2, .int v2)] (by decide) rfl ?_
        refine V_iinc X (v2 + (1 : Int32)) dX4_greatestRounds_26 2 rfl rfl [(2, .int (v2 + (1 : Int32))), (1, .int (if v1 < q3 then q3 else v1)), (0, .ref (ad 4 t 0))] (by decide) rfl ?_
        refine V_goto X 4 dX4_greatestRounds_29 (by decide) ?_
        refine V_sub [2, 1, 0] rfl ?_
        exact ih4 _ _ hs
  refine V_sub [2, 1, 0] rfl ?_
  exact L4 _ _ _ hs

def s_X4_roundsOfDropped_L4 (fu : Nat) (t : Nat) (S : S4) : Nat → Int32 → Int32 → Option Int32
  | 0, _, _ => none
  | f4+1, v1, v2 => (if (S 4 t 0 6) ≤ v2 then some v1 else gd (inb v2 60) ((if (S 1 t v2.toNatClampNeg 4) = (2 : Int32) then gd (inb v2 60) ((s_X1_rounds t v2.toNatClampNeg S).bind fun q5 => s_X4_roundsOfDropped_L4 fu t S f4 (v1 + q5) (v2 + (1 : Int32))) else s_X4_roundsOfDropped_L4 fu t S f4 v1 (v2 + (1 : Int32)))))
def s_X4_roundsOfDropped (fu : Nat) (t : Nat) (S : S4) : Option Int32 := s_X4_roundsOfDropped_L4 fu t S fu (0 : Int32) (0 : Int32)
set_option maxRecDepth 100000 in
set_option maxHeartbeats 4000000 in
theorem c_X4_roundsOfDropped {l : Launch} {D : va_G} {cA : Nat → ClassId} {dm : Dm} {ad : Ad} {fu : Nat} {S : S4} {t : Nat} (ht : DS dm t) {out : Int32} (hs : s_X4_roundsOfDropped fu t S = some out) : Ct D cA dm ad l yX4_roundsOfDropped cX4_roundsOfDropped 3 (some .int) 2 80 S [.ref (ad 4 t 0)] (some (.int out)) S := by
  refine Ct.of (by decide +kernel) (Nat.le_of_ble_eq_true rfl) [(0, .ref (ad 4 t 0))] rfl (fun p e s m args below meth c A X hr => ?_)
  unfold s_X4_roundsOfDropped at hs
  refine V_iconst X (0 : Int32) dX4_roundsOfDropped_0 (by decide) ?_
  refine V_istore_n X dX4_roundsOfDropped_1 rfl [(1, .int (0 : Int32)), (0, .ref (ad 4 t 0))] (by decide) rfl ?_
  refine V_iconst X (0 : Int32) dX4_roundsOfDropped_2 (by decide) ?_
  refine V_istore_n X dX4_roundsOfDropped_3 rfl [(2, .int (0 : Int32)), (1, .int (0 : Int32)), (0, .ref (ad 4 t 0))] (by decide) rfl ?_
  have L4 : ∀ (n : Nat) (v1 v2 : Int32) , s_X4_roundsOfDropped_L4 fu t S n v1 v2 = some out → V D cA dm ad A 3 p l e ({ frames := 2, cells := 0, slots := 0, locals := 80 }) s m args below meth c 0 0 (MQ below (gQ D cA dm ad S (some (.int out)) A) args s 0 0 A) S 4 [(0, .ref (ad 4 t 0)), (1, .int v1), (2, .int v2)] [] := by
    intro n
    induction n with
    | zero => intro v1 v2 hs; rw [s_X4_roundsOfDropped_L4] at hs; cases hs
    | succ f4 ih4 =>
      intro v1 v2 hs
      rw [s_X4_roundsOfDropped_L4] at hs
      refine V_iload_n X dX4_roundsOfDropped_4 rfl 2 rfl ?_
      refine V_aload_n X dX4_roundsOfDropped_5 rfl 0 rfl ?_
      refine V_get X dX4_roundsOfDropped_6 r_X4_71 (gm4 ht) rfl rfl ?_
      refine V_icmp_ge X 43 dX4_roundsOfDropped_9 (by decide) (fun c1 => ?_) (fun c1 => ?_)
      · replace hs := if_t hs c1
        refine V_iload_n X dX4_roundsOfDropped_43 rfl 1 rfl ?_
        obtain rfl := Option.some.inj hs; exact V_iret X hr dX4_roundsOfDropped_44
      · replace hs := if_f hs c1
        refine V_aload_n X dX4_roundsOfDropped_12 rfl 0 rfl ?_
        refine V_get X dX4_roundsOfDropped_13 r_X4_31 (gm4 ht) rfl rfl ?_
        refine V_iload_n X dX4_roundsOfDropped_16 rfl 2 rfl ?_
        obtain ⟨h2, hs⟩ := gd_some hs
        refine V_aald X 6 rfl dX4_roundsOfDropped_17 (gm18 ht) rfl h2 (v := .ref (ad 1 t v2.toNatClampNeg)) rfl ?_
        refine V_get X dX4_roundsOfDropped_18 r_X4_238 (gm1 ht (inb_lt h2)) rfl rfl ?_
        refine V_iconst X (2 : Int32) dX4_roundsOfDropped_21 (by decide) ?_
        refine V_icmp_ne X 37 dX4_roundsOfDropped_22 (by decide) (fun c3 => ?_) (fun c3 => ?_)
        · replace hs := if_f hs c3
          refine V_iinc X (v2 + (1 : Int32)) dX4_roundsOfDropped_37 2 rfl rfl [(2, .int (v2 + (1 : Int32))), (0, .ref (ad 4 t 0)), (1, .int v1)] (by decide) rfl ?_
          refine V_goto X 4 dX4_roundsOfDropped_40 (by decide) ?_
          refine V_sub [1, 2, 0] rfl ?_
          exact ih4 _ _ hs
        · replace hs := if_t hs c3
          refine V_iload_n X dX4_roundsOfDropped_25 rfl 1 rfl ?_
          refine V_aload_n X dX4_roundsOfDropped_26 rfl 0 rfl ?_
          refine V_get X dX4_roundsOfDropped_27 r_X4_31 (gm4 ht) rfl rfl ?_
          refine V_iload_n X dX4_roundsOfDropped_30 rfl 2 rfl ?_
          obtain ⟨h4, hs⟩ := gd_some hs
          refine V_aald X 6 rfl dX4_roundsOfDropped_31 (gm18 ht) rfl h4 (v := .ref (ad 1 t v2.toNatClampNeg)) rfl ?_
          obtain ⟨q5, eq5, hs⟩ := bd_some hs
          refine V_callVs X [] dX4_roundsOfDropped_32 m_X4_182 v_X1_rounds ⟨Nat.le_of_ble_eq_true rfl, Nat.le_of_ble_eq_true rfl⟩ ⟨Nat.zero_le _, Nat.zero_le _⟩ rfl (Nat.le_of_ble_eq_true rfl) (gm1 ht (inb_lt h4)) rfl cl1 (c_X1_rounds ht (inb_lt h4) eq5) ?_
          refine V_iadd X dX4_roundsOfDropped_35 ?_
          refine V_istore_n X dX4_roundsOfDropped_36 rfl [(1, .int (v1 + q5)), (0, .ref (ad 4 t 0)), (2, .int v2)] (by decide) rfl ?_
          refine V_iinc X (v2 + (1 : Int32)) dX4_roundsOfDropped_37 2 rfl rfl [(2, .int (v2 + (1 : Int32))), (1, .int (v1 + q5)), (0, .ref (ad 4 t 0))] (by decide) rfl ?_
          refine V_goto X 4 dX4_roundsOfDropped_40 (by decide) ?_
          refine V_sub [2, 1, 0] rfl ?_
          exact ih4 _ _ hs
  refine V_sub [2, 1, 0] rfl ?_
  exact L4 _ _ _ hs

def s_X4_isEmpty (t : Nat) (S : S4) : Option Int32 := (if (S 4 t 0 7) = (S 4 t 0 6) then some (1 : Int32) else some (0 : Int32))
set_option maxRecDepth 100000 in
set_option maxHeartbeats 4000000 in
theorem c_X4_isEmpty {l : Launch} {D : va_G} {cA : Nat → ClassId} {dm : Dm} {ad : Ad} {S : S4} {t : Nat} (ht : DS dm t) {out : Int32} (hs : s_X4_isEmpty t S = some out) : Ct D cA dm ad l yX4_isEmpty cX4_isEmpty 1 (some .boolean) 0 0 S [.ref (ad 4 t 0)] (some (.int out)) S := by
  refine Ct.of (by decide +kernel) (Nat.le_of_ble_eq_true rfl) [(0, .ref (ad 4 t 0))] rfl (fun p e s m args below meth c A X hr => ?_)
  unfold s_X4_isEmpty at hs
  refine V_aload_n X dX4_isEmpty_0 rfl 0 rfl ?_
  refine V_get X dX4_isEmpty_1 r_X4_74 (gm4 ht) rfl rfl ?_
  refine V_aload_n X dX4_isEmpty_4 rfl 0 rfl ?_
  refine V_get X dX4_isEmpty_5 r_X4_71 (gm4 ht) rfl rfl ?_
  refine V_icmp_ne X 15 dX4_isEmpty_8 (by decide) (fun c1 => ?_) (fun c1 => ?_)
  · replace hs := if_f hs c1
    refine V_iconst X (0 : Int32) dX4_isEmpty_15 (by decide) ?_
    obtain rfl := Option.some.inj hs; exact V_zret X hr nb0 dX4_isEmpty_16
  · replace hs := if_t hs c1
    refine V_iconst X (1 : Int32) dX4_isEmpty_11 (by decide) ?_
    refine V_goto X 16 dX4_isEmpty_12 (by decide) ?_
    obtain rfl := Option.some.inj hs; exact V_zret X hr nb1 dX4_isEmpty_16
