def s_X7_empties_L2 (fu : Nat)  : Nat → Int32 → S4 → Option S4
  | 0, _, _ => none
  | f2+1, v1, Z1 => (if (30 : Int32) ≤ v1 then sv (u4 Z1 7 0 0 8 (0 : Int32)) fun Z3 => sv (u4 Z3 7 0 0 9 (0 : Int32)) fun Z4 => sv (u4 Z4 7 0 0 10 (0 : Int32)) fun Z5 => sv (u4 Z5 7 0 0 11 (0 : Int32)) fun Z6 => sv (u4 Z6 7 0 0 12 (0 : Int32)) fun Z7 => sv (u4 Z7 7 0 0 13 (0 : Int32)) fun Z8 => some Z8 else gd (inb v1 30) (sv (u4 Z1 24 0 0 (v1.toNatClampNeg) (-1 : Int32)) fun Z10 => s_X7_empties_L2 fu f2 (v1 + (1 : Int32)) Z10))
def s_X7_empties (fu : Nat)  (S : S4) : Option S4 := s_X7_empties_L2 fu fu (0 : Int32) S
set_option maxRecDepth 100000 in
set_option maxHeartbeats 4000000 in
theorem c_X7_empties {l : Launch} {D : va_G} {cA : Nat → ClassId} {dm : Dm} {ad : Ad} {fu : Nat} {S : S4} (hM : DM dm) {out : S4} (hs : s_X7_empties fu S = some out) : Ct D cA dm ad l yX7_empties cX7_empties 2 none 0 0 S [.ref (ad 7 0 0)] none out := by
  refine Ct.of (by decide +kernel) (Nat.le_of_ble_eq_true rfl) [(0, .ref (ad 7 0 0))] rfl (fun p e s m args below meth c A X hr => ?_)
  unfold s_X7_empties at hs
  refine V_iconst X (0 : Int32) dX7_empties_0 (by decide) ?_
  refine V_istore_n X dX7_empties_1 rfl [(1, .int (0 : Int32)), (0, .ref (ad 7 0 0))] (by decide) rfl ?_
  have L2 : ∀ (n : Nat) (v1 : Int32) (S1 : S4), s_X7_empties_L2 fu n v1 S1 = some out → V D cA dm ad A 2 p l e ({ frames := 0, cells := 0, slots := 0, locals := 0 }) s m args below meth c 0 0 (MQ below (gQ D cA dm ad out none A) args s 0 0 A) S1 2 [(0, .ref (ad 7 0 0)), (1, .int v1)] [] := by
    intro n
    induction n with
    | zero => intro v1 S1 hs; rw [s_X7_empties_L2] at hs; cases hs
    | succ f2 ih2 =>
      intro v1 Z1 hs
      rw [s_X7_empties_L2] at hs
      refine V_iload_n X dX7_empties_2 rfl 1 rfl ?_
      refine V_bipush X (30 : Int32) dX7_empties_3 (by decide) ?_
      refine V_icmp_ge X 21 dX7_empties_5 (by decide) (fun c2 => ?_) (fun c2 => ?_)
      · replace hs := if_t hs c2
        refine V_aload_n X dX7_empties_21 rfl 0 rfl ?_
        refine V_iconst X (0 : Int32) dX7_empties_22 (by decide) ?_
        refine V_put X dX7_empties_23 f_X7_57 (gm7 hM) rfl (Nat.le_of_ble_eq_true rfl) rfl rfl rfl (fun Z3 eZ3 => ?_)
        replace hs := sv_some hs Z3 eZ3
        clear eZ3
        refine V_aload_n X dX7_empties_26 rfl 0 rfl ?_
        refine V_iconst X (0 : Int32) dX7_empties_27 (by decide) ?_
        refine V_put X dX7_empties_28 f_X7_60 (gm7 hM) rfl (Nat.le_of_ble_eq_true rfl) rfl rfl rfl (fun Z4 eZ4 => ?_)
        replace hs := sv_some hs Z4 eZ4
        clear eZ4
        refine V_aload_n X dX7_empties_31 rfl 0 rfl ?_
        refine V_iconst X (0 : Int32) dX7_empties_32 (by decide) ?_
        refine V_put X dX7_empties_33 f_X7_66 (gm7 hM) rfl (Nat.le_of_ble_eq_true rfl) rfl rfl rfl (fun Z5 eZ5 => ?_)
        replace hs := sv_some hs Z5 eZ5
        clear eZ5
        refine V_aload_n X dX7_empties_36 rfl 0 rfl ?_
        refine V_iconst X (0 : Int32) dX7_empties_37 (by decide) ?_
        refine V_put X dX7_empties_38 f_X7_63 (gm7 hM) rfl (Nat.le_of_ble_eq_true rfl) rfl rfl rfl (fun Z6 eZ6 => ?_)
        replace hs := sv_some hs Z6 eZ6
        clear eZ6
        refine V_aload_n X dX7_empties_41 rfl 0 rfl ?_
        refine V_iconst X (0 : Int32) dX7_empties_42 (by decide) ?_
        refine V_put X dX7_empties_43 f_X7_69 (gm7 hM) rfl (Nat.le_of_ble_eq_true rfl) rfl rfl rfl (fun Z7 eZ7 => ?_)
        replace hs := sv_some hs Z7 eZ7
        clear eZ7
        refine V_aload_n X dX7_empties_46 rfl 0 rfl ?_
        refine V_iconst X (0 : Int32) dX7_empties_47 (by decide) ?_
        refine V_put X dX7_empties_48 f_X7_72 (gm7 hM) rfl (Nat.le_of_ble_eq_true rfl) rfl rfl rfl (fun Z8 eZ8 => ?_)
        replace hs := sv_some hs Z8 eZ8
        clear eZ8
        obtain rfl := Option.some.inj hs; exact V_vret X hr dX7_empties_51
      · replace hs := if_f hs c2
        refine V_aload_n X dX7_empties_8 rfl 0 rfl ?_
        refine V_get X dX7_empties_9 r_X7_7 (gm7 hM) rfl rfl ?_
        refine V_iload_n X dX7_empties_12 rfl 1 rfl ?_
        refine V_iconst X (-1 : Int32) dX7_empties_13 (by decide) ?_
        obtain ⟨h9, hs⟩ := gd_some hs
        refine V_iast X dX7_empties_14 (gm24 hM) (fun _ => rfl) h9 (fun Z10 eZ10 => ?_)
        replace hs := sv_some hs Z10 eZ10
        clear eZ10
        refine V_iinc X (v1 + (1 : Int32)) dX7_empties_15 1 rfl rfl [(1, .int (v1 + (1 : Int32))), (0, .ref (ad 7 0 0))] (by decide) rfl ?_
        refine V_goto X 2 dX7_empties_18 (by decide) ?_
        refine V_sub [1, 0] rfl ?_
        exact ih2 _ _ hs
  refine V_sub [1, 0] rfl ?_
  exact L2 _ _ _ hs

def s_X7_thrown  (S : S4) : Option Int32 := some (S 7 0 0 0)
set_option maxRecDepth 100000 in
set_option maxHeartbeats 4000000 in
theorem c_X7_thrown {l : Launch} {D : va_G} {cA : Nat → ClassId} {dm : Dm} {ad : Ad} {S : S4} (hM : DM dm) {out : Int32} (hs : s_X7_thrown S = some out) : Ct D cA dm ad l yX7_thrown cX7_thrown 1 (some .int) 0 0 S [.ref (ad 7 0 0)] (some (.int out)) S := by
  refine Ct.of (by decide +kernel) (Nat.le_of_ble_eq_true rfl) [(0, .ref (ad 7 0 0))] rfl (fun p e s m args below meth c A X hr => ?_)
  unfold s_X7_thrown at hs
  refine V_aload_n X dX7_thrown_0 rfl 0 rfl ?_
  refine V_get X dX7_thrown_1 r_X7_54 (gm7 hM) rfl rfl ?_
  obtain rfl := Option.some.inj hs; exact V_iret X hr dX7_thrown_4

def s_X7_isBetween (p1 : Int32) (p2 : Int32) (p3 : Int32) (S : S4) : Option Int32 := (if p1 < p2 then some (0 : Int32) else (if p3 < p1 then some (0 : Int32) else some (1 : Int32)))
set_option maxRecDepth 100000 in
set_option maxHeartbeats 4000000 in
theorem c_X7_isBetween {l : Launch} {D : va_G} {cA : Nat → ClassId} {dm : Dm} {ad : Ad} {S : S4} {p1 : Int32} {p2 : Int32} {p3 : Int32}  {out : Int32} (hs : s_X7_isBetween p1 p2 p3 S = some out) : Ct D cA dm ad l yX7_isBetween cX7_isBetween 3 (some .boolean) 0 0 S [.int p1, .int p2, .int p3] (some (.int out)) S := by
  refine Ct.of (by decide +kernel) (Nat.le_of_ble_eq_true rfl) [(0, .int p1), (1, .int p2), (2, .int p3)] rfl (fun p e s m args below meth c A X hr => ?_)
  unfold s_X7_isBetween at hs
  refine V_iload_n X dX7_isBetween_0 rfl 0 rfl ?_
  refine V_iload_n X dX7_isBetween_1 rfl 1 rfl ?_
  refine V_icmp_lt X 14 dX7_isBetween_2 (by decide) (fun c1 => ?_) (fun c1 => ?_)
  · replace hs := if_t hs c1
    refine V_iconst X (0 : Int32) dX7_isBetween_14 (by decide) ?_
    obtain rfl := Option.some.inj hs; exact V_zret X hr nb0 dX7_isBetween_15
  · replace hs := if_f hs c1
    refine V_iload_n X dX7_isBetween_5 rfl 0 rfl ?_
    refine V_iload_n X dX7_isBetween_6 rfl 2 rfl ?_
    refine V_icmp_gt X 14 dX7_isBetween_7 (by decide) (fun c2 => ?_) (fun c2 => ?_)
    · replace hs := if_t hs c2
      refine V_iconst X (0 : Int32) dX7_isBetween_14 (by decide) ?_
      obtain rfl := Option.some.inj hs; exact V_zret X hr nb0 dX7_isBetween_15
    · replace hs := if_f hs c2
      refine V_iconst X (1 : Int32) dX7_isBetween_10 (by decide) ?_
      refine V_goto X 15 dX7_isBetween_11 (by decide) ?_
      obtain rfl := Option.some.inj hs; exact V_zret X hr nb1 dX7_isBetween_15

def s_X7_fails (p1 : Int32) (S : S4) : Option (Int32 × S4) := sv (u4 S 7 0 0 0 p1) fun Z1 => some ((0 : Int32), Z1)
set_option maxRecDepth 100000 in
set_option maxHeartbeats 4000000 in
theorem c_X7_fails {l : Launch} {D : va_G} {cA : Nat → ClassId} {dm : Dm} {ad : Ad} {S : S4} {p1 : Int32} (hM : DM dm) {out : (Int32 × S4)} (hs : s_X7_fails p1 S = some out) : Ct D cA dm ad l yX7_fails cX7_fails 2 (some .int) 0 0 S [.ref (ad 7 0 0), .int p1] (some (.int out.1)) out.2 := by
  refine Ct.of (by decide +kernel) (Nat.le_of_ble_eq_true rfl) [(0, .ref (ad 7 0 0)), (1, .int p1)] rfl (fun p e s m args below meth c A X hr => ?_)
  unfold s_X7_fails at hs
  refine V_aload_n X dX7_fails_0 rfl 0 rfl ?_
  refine V_iload_n X dX7_fails_1 rfl 1 rfl ?_
  refine V_put X dX7_fails_2 f_X7_54 (gm7 hM) rfl (Nat.le_of_ble_eq_true rfl) rfl rfl rfl (fun Z1 eZ1 => ?_)
  replace hs := sv_some hs Z1 eZ1
  clear eZ1
  refine V_iconst X (0 : Int32) dX7_fails_5 (by decide) ?_
  obtain rfl := Option.some.inj hs; exact V_iret X hr dX7_fails_6

def s_X7_build (fu : Nat) (p1 : Int32) (S : S4) : Option (Int32 × S4) := (s_X7_isBetween p1 (12 : Int32) (30 : Int32) S).bind fun q1 => (if q1 = 0 then (s_X7_fails (1 : Int32) S).bind fun q8 => some (q8.1, q8.2) else sv (u4 S 7 0 0 0 (0 : Int32)) fun Z3 => (s_X7_empties fu Z3).bind fun Z5 => sv (u4 Z5 7 0 0 7 p1) fun Z6 => sv (u4 Z6 7 0 0 21 (0 : Int32)) fun Z7 => some ((Z3 7 0 0 11), Z7))
set_option maxRecDepth 100000 in
set_option maxHeartbeats 4000000 in
theorem c_X7_build {l : Launch} {D : va_G} {cA : Nat → ClassId} {dm : Dm} {ad : Ad} {fu : Nat} {S : S4} {p1 : Int32} (hM : DM dm) {out : (Int32 × S4)} (hs : s_X7_build fu p1 S = some out) : Ct D cA dm ad l yX7_build cX7_build 3 (some .int) 1 22 S [.ref (ad 7 0 0), .int p1] (some (.int out.1)) out.2 := by
  refine Ct.of (by decide +kernel) (Nat.le_of_ble_eq_true rfl) [(0, .ref (ad 7 0 0)), (1, .int p1)] rfl (fun p e s m args below meth c A X hr => ?_)
  unfold s_X7_build at hs
  refine V_iload_n X dX7_build_0 rfl 1 rfl ?_
  refine V_bipush X (12 : Int32) dX7_build_1 (by decide) ?_
  refine V_bipush X (30 : Int32) dX7_build_3 (by decide) ?_
  obtain ⟨q1, eq1, hs⟩ := bd_some hs
  refine V_callSs X [.int p1, .int (12 : Int32), .int (30 : Int32)] dX7_build_5 m_X7_75 t_X7_isBetween ⟨Nat.le_of_ble_eq_true rfl, Nat.le_of_ble_eq_true rfl⟩ ⟨Nat.zero_le _, Nat.zero_le _⟩ rfl (Nat.le_of_ble_eq_true rfl) (c_X7_isBetween  eq1) ?_
  refine V_if_ne X 17 dX7_build_8 (by decide) (fun c2 => ?_) (fun c2 => ?_)
  · replace hs := if_f hs c2
    refine V_aload_n X dX7_build_17 rfl 0 rfl ?_
    refine V_iconst X (0 : Int32) dX7_build_18 (by decide) ?_
    refine V_put X dX7_build_19 f_X7_54 (gm7 hM) rfl (Nat.le_of_ble_eq_true rfl) rfl rfl rfl (fun Z3 eZ3 => ?_)
    replace hs := sv_some hs Z3 eZ3
    clear eZ3
    refine V_aload_n X dX7_build_22 rfl 0 rfl ?_
    refine V_get X dX7_build_23 r_X7_63 (gm7 hM) rfl rfl ?_
    refine V_istore_n X dX7_build_26 rfl [(2, .int (Z3 7 0 0 11)), (0, .ref (ad 7 0 0)), (1, .int p1)] (by decide) rfl ?_
    refine V_aload_n X dX7_build_27 rfl 1 rfl ?_
    obtain ⟨Z5, eZ5, hs⟩ := bd_some hs
    refine V_callVv X [] dX7_build_28 m_X7_51 v_X7_empties ⟨Nat.le_of_ble_eq_true rfl, Nat.le_of_ble_eq_true rfl⟩ ⟨Nat.zero_le _, Nat.zero_le _⟩ rfl (Nat.le_of_ble_eq_true rfl) (gm7 hM) rfl cl7 (c_X7_empties hM eZ5) ?_
    refine V_aload_n X dX7_build_31 rfl 1 rfl ?_
    refine V_iload_n X dX7_build_32 rfl 2 rfl ?_
    refine V_put X dX7_build_33 f_X7_28 (gm7 hM) rfl (Nat.le_of_ble_eq_true rfl) rfl rfl rfl (fun Z6 eZ6 => ?_)
    replace hs := sv_some hs Z6 eZ6
    clear eZ6
    refine V_aload_n X dX7_build_36 rfl 1 rfl ?_
    refine V_iconst X (0 : Int32) dX7_build_37 (by decide) ?_
    refine V_put X dX7_build_38 f_X7_83 (gm7 hM) rfl (Nat.le_of_ble_eq_true rfl) rfl rfl rfl (fun Z7 eZ7 => ?_)
    replace hs := sv_some hs Z7 eZ7
    clear eZ7
    refine V_iload_n X dX7_build_41 rfl 0 rfl ?_
    obtain rfl := Option.some.inj hs; exact V_iret X hr dX7_build_42
  · replace hs := if_t hs c2
    refine V_aload_n X dX7_build_11 rfl 0 rfl ?_
    refine V_iconst X (1 : Int32) dX7_build_12 (by decide) ?_
    obtain ⟨q8, eq8, hs⟩ := bd_some hs
    refine V_callVs X [.int (1 : Int32)] dX7_build_13 m_X7_79 v_X7_fails ⟨Nat.le_of_ble_eq_true rfl, Nat.le_of_ble_eq_true rfl⟩ ⟨Nat.zero_le _, Nat.zero_le _⟩ rfl (Nat.le_of_ble_eq_true rfl) (gm7 hM) rfl cl7 (c_X7_fails hM eq8) ?_
    obtain rfl := Option.some.inj hs; exact V_iret X hr dX7_build_16

def s_X7_ofStation (p1 : Int32) (p2 : Int32) (S : S4) : Option Int32 := gd (inb (((13 : Int32) * p1) + p2) 39) (some (S 25 0 0 (((13 : Int32) * p1) + p2).toNatClampNeg))
set_option maxRecDepth 100000 in
set_option maxHeartbeats 4000000 in
theorem c_X7_ofStation {l : Launch} {D : va_G} {cA : Nat → ClassId} {dm : Dm} {ad : Ad} {S : S4} {p1 : Int32} {p2 : Int32} (hM : DM dm) {out : Int32} (hs : s_X7_ofStation p1 p2 S = some out) : Ct D cA dm ad l yX7_ofStation cX7_ofStation 3 (some .int) 0 0 S [.ref (ad 7 0 0), .int p1, .int p2] (some (.int out)) S := by
  refine Ct.of (by decide +kernel) (Nat.le_of_ble_eq_true rfl) [(0, .ref (ad 7 0 0)), (1, .int p1), (2, .int p2)] rfl (fun p e s m args below meth c A X hr => ?_)
  unfold s_X7_ofStation at hs
  refine V_aload_n X dX7_ofStation_0 rfl 0 rfl ?_
  refine V_get X dX7_ofStation_1 r_X7_13 (gm7 hM) rfl rfl ?_
  refine V_bipush X (13 : Int32) dX7_ofStation_4 (by decide) ?_
  refine V_iload_n X dX7_ofStation_6 rfl 1 rfl ?_
  refine V_imul X dX7_ofStation_7 ?_
  refine V_iload_n X dX7_ofStation_8 rfl 2 rfl ?_
  refine V_iadd X dX7_ofStation_9 ?_
  obtain ⟨h1, hs⟩ := gd_some hs
  refine V_iald X dX7_ofStation_10 (gm25 hM) rfl h1 ?_
  obtain rfl := Option.some.inj hs; exact V_iret X hr dX7_ofStation_11

def s_X7_ofChute (p1 : Int32) (p2 : Int32) (S : S4) : Option Int32 := gd (inb (((15 : Int32) * p1) + p2) 120) (some (S 26 0 0 (((15 : Int32) * p1) + p2).toNatClampNeg))
set_option maxRecDepth 100000 in
set_option maxHeartbeats 4000000 in
theorem c_X7_ofChute {l : Launch} {D : va_G} {cA : Nat → ClassId} {dm : Dm} {ad : Ad} {S : S4} {p1 : Int32} {p2 : Int32} (hM : DM dm) {out : Int32} (hs : s_X7_ofChute p1 p2 S = some out) : Ct D cA dm ad l yX7_ofChute cX7_ofChute 3 (some .int) 0 0 S [.ref (ad 7 0 0), .int p1, .int p2] (some (.int out)) S := by
  refine Ct.of (by decide +kernel) (Nat.le_of_ble_eq_true rfl) [(0, .ref (ad 7 0 0)), (1, .int p1), (2, .int p2)] rfl (fun p e s m args below meth c A X hr => ?_)
  unfold s_X7_ofChute at hs
  refine V_aload_n X dX7_ofChute_0 rfl 0 rfl ?_
  refine V_get X dX7_ofChute_1 r_X7_16 (gm7 hM) rfl rfl ?_
  refine V_bipush X (15 : Int32) dX7_ofChute_4 (by decide) ?_
  refine V_iload_n X dX7_ofChute_6 rfl 1 rfl ?_
  refine V_imul X dX7_ofChute_7 ?_
  refine V_iload_n X dX7_ofChute_8 rfl 2 rfl ?_
  refine V_iadd X dX7_ofChute_9 ?_
  obtain ⟨h1, hs⟩ := gd_some hs
  refine V_iald X dX7_ofChute_10 (gm26 hM) rfl h1 ?_
  obtain rfl := Option.some.inj hs; exact V_iret X hr dX7_ofChute_11

def s_X7_isFree_L46 (fu : Nat) (p1 : Int32) (S : S4) : Nat → Int32 → Option Int32
  | 0, _ => none
  | f46+1, v2 => (if (S 7 0 0 9) ≤ v2 then some (1 : Int32) else (s_X7_ofChute v2 (0 : Int32) S).bind fun q5 => (if q5 = p1 then some (0 : Int32) else s_X7_isFree_L46 fu p1 S f46 (v2 + (1 : Int32))))
def s_X7_isFree_L18 (fu : Nat) (p1 : Int32) (S : S4) : Nat → Int32 → Option Int32
  | 0, _ => none
  | f18+1, v2 => (if (S 7 0 0 8) ≤ v2 then s_X7_isFree_L46 fu p1 S fu (0 : Int32) else (s_X7_ofStation v2 (0 : Int32) S).bind fun q7 => (if q7 = p1 then some (0 : Int32) else s_X7_isFree_L18 fu p1 S f18 (v2 + (1 : Int32))))
def s_X7_isFree (fu : Nat) (p1 : Int32) (S : S4) : Option Int32 := (s_X7_isBetween p1 (1 : Int32) ((S 7 0 0 7) - (1 : Int32)) S).bind fun q1 => (if q1 = 0 then some (0 : Int32) else s_X7_isFree_L18 fu p1 S fu (0 : Int32))
set_option maxRecDepth 100000 in
set_option maxHeartbeats 4000000 in
theorem c_X7_isFree {l : Launch} {D : va_G} {cA : Nat → ClassId} {dm : Dm} {ad : Ad} {fu : Nat} {S : S4} {p1 : Int32} (hM : DM dm) {out : Int32} (hs : s_X7_isFree fu p1 S = some out) : Ct D cA dm ad l yX7_isFree cX7_isFree 3 (some .boolean) 1 22 S [.ref (ad 7 0 0), .int p1] (some (.int out)) S := by
  refine Ct.of (by decide +kernel) (Nat.le_of_ble_eq_true rfl) [(0, .ref (ad 7 0 0)), (1, .int p1)] rfl (fun p e s m args below meth c A X hr => ?_)
  unfold s_X7_isFree at hs
  refine V_iload_n X dX7_isFree_0 rfl 1 rfl ?_
  refine V_iconst X (1 : Int32) dX7_isFree_1 (by decide) ?_
  refine V_aload_n X dX7_isFree_2 rfl 0 rfl ?_
  refine V_get X dX7_isFree_3 r_X7_28 (gm7 hM) rfl rfl ?_
  refine V_iconst X (1 : Int32) dX7_isFree_6 (by decide) ?_
  refine V_isub X dX7_isFree_7 ?_
  obtain ⟨q1, eq1, hs⟩ := bd_some hs
  refine V_callSs X [.int p1, .int (1 : Int32), .int ((S 7 0 0 7) - (1 : Int32))] dX7_isFree_8 m_X7_75 t_X7_isBetween ⟨Nat.le_of_ble_eq_true rfl, Nat.le_of_ble_eq_true rfl⟩ ⟨Nat.zero_le _, Nat.zero_le _⟩ rfl (Nat.le_of_ble_eq_true rfl) (c_X7_isBetween  eq1) ?_
  refine V_if_ne X 16 dX7_isFree_11 (by decide) (fun c2 => ?_) (fun c2 => ?_)
  · replace hs := if_f hs c2
    refine V_iconst X (0 : Int32) dX7_isFree_16 (by decide) ?_
    refine V_istore_n X dX7_isFree_17 rfl [(2, .int (0 : Int32)), (0, .ref (ad 7 0 0)), (1, .int p1)] (by decide) rfl ?_
    have L18 : ∀ (n : Nat) (v2 : Int32) , s_X7_isFree_L18 fu p1 S n v2 = some out → V D cA dm ad A 3 p l e ({ frames := 1, cells := 0, slots := 0, locals := 22 }) s m args below meth c 0 0 (MQ below (gQ D cA dm ad S (some (.int out)) A) args s 0 0 A) S 18 [(0, .ref (ad 7 0 0)), (1, .int p1), (2, .int v2)] [] := by
      intro n
      induction n with
      | zero => intro v2 hs; rw [s_X7_isFree_L18] at hs; cases hs
      | succ f18 ih18 =>
        intro v2 hs
        rw [s_X7_isFree_L18] at hs
        refine V_iload_n X dX7_isFree_18 rfl 2 rfl ?_
        refine V_aload_n X dX7_isFree_19 rfl 0 rfl ?_
        refine V_get X dX7_isFree_20 r_X7_57 (gm7 hM) rfl rfl ?_
        refine V_icmp_ge X 44 dX7_isFree_23 (by decide) (fun c3 => ?_) (fun c3 => ?_)
        · replace hs := if_t hs c3
          refine V_iconst X (0 : Int32) dX7_isFree_44 (by decide) ?_
          refine V_istore_n X dX7_isFree_45 rfl [(2, .int (0 : Int32)), (0, .ref (ad 7 0 0)), (1, .int p1)] (by decide) rfl ?_
          have L46 : ∀ (n : Nat) (v2 : Int32) , s_X7_isFree_L46 fu p1 S n v2 = some out → V D cA dm ad A 3 p l e ({ frames := 1, cells := 0, slots := 0, locals := 22 }) s m args below meth c 0 0 (MQ below (gQ D cA dm ad S (some (.int out)) A) args s 0 0 A) S 46 [(0, .ref (ad 7 0 0)), (1, .int p1), (2, .int v2)] [] := by
            intro n
            induction n with
            | zero => intro v2 hs; rw [s_X7_isFree_L46] at hs; cases hs
            | succ f46 ih46 =>
              intro v2 hs
              rw [s_X7_isFree_L46] at hs
              refine V_iload_n X dX7_isFree_46 rfl 2 rfl ?_
              refine V_aload_n X dX7_isFree_47 rfl 0 rfl ?_
              refine V_get X dX7_isFree_48 r_X7_60 (gm7 hM) rfl rfl ?_
              refine V_icmp_ge X 72 dX7_isFree_51 (by decide) (fun c4 => ?_) (fun c4 => ?_)
              · replace hs := if_t hs c4
                refine V_iconst X (1 : Int32) dX7_isFree_72 (by decide) ?_
                obtain rfl := Option.some.inj hs; exact V_zret X hr nb1 dX7_isFree_73
              · replace hs := if_f hs c4
                refine V_aload_n X dX7_isFree_54 rfl 0 rfl ?_
                refine V_iload_n X dX7_isFree_55 rfl 2 rfl ?_
                refine V_iconst X (0 : Int32) dX7_isFree_56 (by decide) ?_
                obtain ⟨q5, eq5, hs⟩ := bd_some hs
                refine V_callVs X [.int v2, .int (0 : Int32)] dX7_isFree_57 m_X7_90 v_X7_ofChute ⟨Nat.le_of_ble_eq_true rfl, Nat.le_of_ble_eq_true rfl⟩ ⟨Nat.zero_le _, Nat.zero_le _⟩ rfl (Nat.le_of_ble_eq_true rfl) (gm7 hM) rfl cl7 (c_X7_ofChute hM eq5) ?_
                refine V_iload_n X dX7_isFree_60 rfl 1 rfl ?_
                refine V_icmp_ne X 66 dX7_isFree_61 (by decide) (fun c6 => ?_) (fun c6 => ?_)
                · replace hs := if_f hs c6
                  refine V_iinc X (v2 + (1 : Int32)) dX7_isFree_66 2 rfl rfl [(2, .int (v2 + (1 : Int32))), (0, .ref (ad 7 0 0)), (1, .int p1)] (by decide) rfl ?_
                  refine V_goto X 46 dX7_isFree_69 (by decide) ?_
                  refine V_sub [1, 2, 0] rfl ?_
                  exact ih46 _ hs
                · replace hs := if_t hs c6
                  refine V_iconst X (0 : Int32) dX7_isFree_64 (by decide) ?_
                  obtain rfl := Option.some.inj hs; exact V_zret X hr nb0 dX7_isFree_65
          refine V_sub [1, 2, 0] rfl ?_
          exact L46 _ _ hs
        · replace hs := if_f hs c3
          refine V_aload_n X dX7_isFree_26 rfl 0 rfl ?_
          refine V_iload_n X dX7_isFree_27 rfl 2 rfl ?_
          refine V_iconst X (0 : Int32) dX7_isFree_28 (by decide) ?_
          obtain ⟨q7, eq7, hs⟩ := bd_some hs
          refine V_callVs X [.int v2, .int (0 : Int32)] dX7_isFree_29 m_X7_86 v_X7_ofStation ⟨Nat.le_of_ble_eq_true rfl, Nat.le_of_ble_eq_true rfl⟩ ⟨Nat.zero_le _, Nat.zero_le _⟩ rfl (Nat.le_of_ble_eq_true rfl) (gm7 hM) rfl cl7 (c_X7_ofStation hM eq7) ?_
          refine V_iload_n X dX7_isFree_32 rfl 1 rfl ?_
          refine V_icmp_ne X 38 dX7_isFree_33 (by decide) (fun c8 => ?_) (fun c8 => ?_)
          · replace hs := if_f hs c8
            refine V_iinc X (v2 + (1 : Int32)) dX7_isFree_38 2 rfl rfl [(2, .int (v2 + (1 : Int32))), (0, .ref (ad 7 0 0)), (1, .int p1)] (by decide) rfl ?_
            refine V_goto X 18 dX7_isFree_41 (by decide) ?_
            refine V_sub [1, 2, 0] rfl ?_
            exact ih18 _ hs
          · replace hs := if_t hs c8
            refine V_iconst X (0 : Int32) dX7_isFree_36 (by decide) ?_
            obtain rfl := Option.some.inj hs; exact V_zret X hr nb0 dX7_isFree_37
    refine V_sub [1, 2, 0] rfl ?_
    exact L18 _ _ hs
  · replace hs := if_t hs c2
    refine V_iconst X (0 : Int32) dX7_isFree_14 (by decide) ?_
    obtain rfl := Option.some.inj hs; exact V_zret X hr nb0 dX7_isFree_15

def s_X7_hands_L2 (fu : Nat) (k1 : Nat) (t1 : Nat) (i1 : Nat) (ln1 : Nat) (k2 : Nat) (t2 : Nat) (i2 : Nat) (ln2 : Nat) : Nat → Int32 → S4 → Option S4
  | 0, _, _ => none
  | f2+1, v3, Z1 => (if (nI ln1) ≤ v3 then some Z1 else (if (Z1 7 0 0 23) = 0 then gd (inb (Z1 7 0 0 22) ln2) (gd (inb v3 ln1) (sv (u4 Z1 k1 t1 i1 (v3.toNatClampNeg) (Z1 k2 t2 i2 (Z1 7 0 0 22).toNatClampNeg)) fun Z6 => sv (u4 Z6 7 0 0 22 ((Z6 7 0 0 22) + (1 : Int32))) fun Z7 => s_X7_hands_L2 fu k1 t1 i1 ln1 k2 t2 i2 ln2 f2 (v3 + (1 : Int32)) Z7)) else gd (inb v3 ln1) (gd (inb (Z1 7 0 0 22) ln2) (sv (u4 Z1 k2 t2 i2 ((Z1 7 0 0 22).toNatClampNeg) (Z1 k1 t1 i1 v3.toNatClampNeg)) fun Z10 => sv (u4 Z10 7 0 0 22 ((Z10 7 0 0 22) + (1 : Int32))) fun Z11 => s_X7_hands_L2 fu k1 t1 i1 ln1 k2 t2 i2 ln2 f2 (v3 + (1 : Int32)) Z11))))
def s_X7_hands (fu : Nat) (k1 : Nat) (t1 : Nat) (i1 : Nat) (ln1 : Nat) (k2 : Nat) (t2 : Nat) (i2 : Nat) (ln2 : Nat) (S : S4) : Option S4 := s_X7_hands_L2 fu k1 t1 i1 ln1 k2 t2 i2 ln2 fu (0 : Int32) S
set_option maxRecDepth 100000 in
set_option maxHeartbeats 4000000 in
theorem c_X7_hands {l : Launch} {D : va_G} {cA : Nat → ClassId} {dm : Dm} {ad : Ad} {fu : Nat} {S : S4} {k1 : Nat} {t1 : Nat} {i1 : Nat} {ln1 : Nat} {k2 : Nat} {t2 : Nat} {i2 : Nat} {ln2 : Nat} (hM : DM dm) (hk1 : IA dm cA ad k1 t1 i1 ln1) (hk2 : IA dm cA ad k2 t2 i2 ln2) {out : S4} (hs : s_X7_hands fu k1 t1 i1 ln1 k2 t2 i2 ln2 S = some out) : Ct D cA dm ad l yX7_hands cX7_hands 4 none 0 0 S [.ref (ad 7 0 0), .ref (ad k1 t1 i1), .ref (ad k2 t2 i2)] none out := by
  refine Ct.of (by decide +kernel) (Nat.le_of_ble_eq_true rfl) [(0, .ref (ad 7 0 0)), (1, .ref (ad k1 t1 i1)), (2, .ref (ad k2 t2 i2))] rfl (fun p e s m args below meth c A X hr => ?_)
  unfold s_X7_hands at hs
  refine V_iconst X (0 : Int32) dX7_hands_0 (by decide) ?_
  refine V_istore_n X dX7_hands_1 rfl [(3, .int (0 : Int32)), (0, .ref (ad 7 0 0)), (1, .ref (ad k1 t1 i1)), (2, .ref (ad k2 t2 i2))] (by decide) rfl ?_
  have L2 : ∀ (n : Nat) (v3 : Int32) (S1 : S4), s_X7_hands_L2 fu k1 t1 i1 ln1 k2 t2 i2 ln2 n v3 S1 = some out → V D cA dm ad A 4 p l e ({ frames := 0, cells := 0, slots := 0, locals := 0 }) s m args below meth c 0 0 (MQ below (gQ D cA dm ad out none A) args s 0 0 A) S1 2 [(0, .ref (ad 7 0 0)), (1, .ref (ad k1 t1 i1)), (2, .ref (ad k2 t2 i2)), (3, .int v3)] [] := by
    intro n
    induction n with
    | zero => intro v3 S1 hs; rw [s_X7_hands_L2] at hs; cases hs
    | succ f2 ih2 =>
      intro v3 Z1 hs
      rw [s_X7_hands_L2] at hs
      refine V_iload_n X dX7_hands_2 rfl 3 rfl ?_
      refine V_aload_n X dX7_hands_3 rfl 1 rfl ?_
      refine V_alen X dX7_hands_4 hk1.1 (hk1.2 _) (v := nI ln1) rfl ?_
      refine V_icmp_ge X 52 dX7_hands_5 (by decide) (fun c2 => ?_) (fun c2 => ?_)
      · replace hs := if_t hs c2
        obtain rfl := Option.some.inj hs; exact V_vret X hr dX7_hands_52
      · replace hs := if_f hs c2
        refine V_aload_n X dX7_hands_8 rfl 0 rfl ?_
        refine V_get X dX7_hands_9 r_X7_233 (gm7 hM) rfl rfl ?_
        refine V_if_eq X 27 dX7_hands_12 (by decide) (fun c3 => ?_) (fun c3 => ?_)
        · replace hs := if_t hs c3
          refine V_aload_n X dX7_hands_27 rfl 1 rfl ?_
          refine V_iload_n X dX7_hands_28 rfl 3 rfl ?_
          refine V_aload_n X dX7_hands_29 rfl 2 rfl ?_
          refine V_aload_n X dX7_hands_30 rfl 0 rfl ?_
          refine V_get X dX7_hands_31 r_X7_237 (gm7 hM) rfl rfl ?_
          obtain ⟨h4, hs⟩ := gd_some hs
          refine V_iald X dX7_hands_34 hk2.1 (hk2.2 _) h4 ?_
          obtain ⟨h5, hs⟩ := gd_some hs
          refine V_iast X dX7_hands_35 hk1.1 (hk1.2) h5 (fun Z6 eZ6 => ?_)
          replace hs := sv_some hs Z6 eZ6
          clear eZ6
          refine V_aload_n X dX7_hands_36 rfl 0 rfl ?_
          refine V_dup X dX7_hands_37 rfl ?_
          refine V_get X dX7_hands_38 r_X7_237 (gm7 hM) rfl rfl ?_
          refine V_iconst X (1 : Int32) dX7_hands_41 (by decide) ?_
          refine V_iadd X dX7_hands_42 ?_
          refine V_put X dX7_hands_43 f_X7_237 (gm7 hM) rfl (Nat.le_of_ble_eq_true rfl) rfl rfl rfl (fun Z7 eZ7 => ?_)
          replace hs := sv_some hs Z7 eZ7
          clear eZ7
          refine V_iinc X (v3 + (1 : Int32)) dX7_hands_46 3 rfl rfl [(3, .int (v3 + (1 : Int32))), (0, .ref (ad 7 0 0)), (1, .ref (ad k1 t1 i1)), (2, .ref (ad k2 t2 i2))] (by decide) rfl ?_
          refine V_goto X 2 dX7_hands_49 (by decide) ?_
          refine V_sub [1, 2, 3, 0] rfl ?_
          exact ih2 _ _ hs
        · replace hs := if_f hs c3
          refine V_aload_n X dX7_hands_15 rfl 2 rfl ?_
          refine V_aload_n X dX7_hands_16 rfl 0 rfl ?_
          refine V_get X dX7_hands_17 r_X7_237 (gm7 hM) rfl rfl ?_
          refine V_aload_n X dX7_hands_20 rfl 1 rfl ?_
          refine V_iload_n X dX7_hands_21 rfl 3 rfl ?_
          obtain ⟨h8, hs⟩ := gd_some hs
          refine V_iald X dX7_hands_22 hk1.1 (hk1.2 _) h8 ?_
          obtain ⟨h9, hs⟩ := gd_some hs
          refine V_iast X dX7_hands_23 hk2.1 (hk2.2) h9 (fun Z10 eZ10 => ?_)
          replace hs := sv_some hs Z10 eZ10
          clear eZ10
          refine V_goto X 36 dX7_hands_24 (by decide) ?_
          refine V_aload_n X dX7_hands_36 rfl 0 rfl ?_
          refine V_dup X dX7_hands_37 rfl ?_
          refine V_get X dX7_hands_38 r_X7_237 (gm7 hM) rfl rfl ?_
          refine V_iconst X (1 : Int32) dX7_hands_41 (by decide) ?_
          refine V_iadd X dX7_hands_42 ?_
          refine V_put X dX7_hands_43 f_X7_237 (gm7 hM) rfl (Nat.le_of_ble_eq_true rfl) rfl rfl rfl (fun Z11 eZ11 => ?_)
          replace hs := sv_some hs Z11 eZ11
          clear eZ11
          refine V_iinc X (v3 + (1 : Int32)) dX7_hands_46 3 rfl rfl [(3, .int (v3 + (1 : Int32))), (0, .ref (ad 7 0 0)), (1, .ref (ad k1 t1 i1)), (2, .ref (ad k2 t2 i2))] (by decide) rfl ?_
          refine V_goto X 2 dX7_hands_49 (by decide) ?_
          refine V_sub [1, 2, 3, 0] rfl ?_
          exact ih2 _ _ hs
  refine V_sub [1, 2, 3, 0] rfl ?_
  exact L2 _ _ _ hs

def s_X7_hand (p1 : Int32) (k2 : Nat) (t2 : Nat) (i2 : Nat) (ln2 : Nat) (S : S4) : Option (Int32 × S4) := ((if (S 7 0 0 23) = 0 then gd (inb (S 7 0 0 22) ln2) (some (S k2 t2 i2 (S 7 0 0 22).toNatClampNeg)) else some p1)).bind fun q1 => gd (inb (S 7 0 0 22) ln2) (sv (u4 S k2 t2 i2 ((S 7 0 0 22).toNatClampNeg) q1) fun Z3 => sv (u4 Z3 7 0 0 22 ((Z3 7 0 0 22) + (1 : Int32))) fun Z4 => some (q1, Z4))
set_option maxRecDepth 100000 in
set_option maxHeartbeats 4000000 in
theorem c_X7_hand {l : Launch} {D : va_G} {cA : Nat → ClassId} {dm : Dm} {ad : Ad} {S : S4} {p1 : Int32} {k2 : Nat} {t2 : Nat} {i2 : Nat} {ln2 : Nat} (hM : DM dm) (hk2 : IA dm cA ad k2 t2 i2 ln2) {out : (Int32 × S4)} (hs : s_X7_hand p1 k2 t2 i2 ln2 S = some out) : Ct D cA dm ad l yX7_hand cX7_hand 4 (some .int) 0 0 S [.ref (ad 7 0 0), .int p1, .ref (ad k2 t2 i2)] (some (.int out.1)) out.2 := by
  refine Ct.of (by decide +kernel) (Nat.le_of_ble_eq_true rfl) [(0, .ref (ad 7 0 0)), (1, .int p1), (2, .ref (ad k2 t2 i2))] rfl (fun p e s m args below meth c A X hr => ?_)
  unfold s_X7_hand at hs
  refine V_aload_n X dX7_hand_0 rfl 0 rfl ?_
  refine V_get X dX7_hand_1 r_X7_233 (gm7 hM) rfl rfl ?_
  refine jn (P := fun q => V D cA dm ad A 4 p l e ({ frames := 0, cells := 0, slots := 0, locals := 0 }) s m args below meth c 0 0 (MQ below (gQ D cA dm ad out.2 (some (.int out.1)) A) args s 0 0 A) S 17 [(0, .ref (ad 7 0 0)), (1, .int p1), (2, .ref (ad k2 t2 i2))] [.int q]) hs (fun q1 hs => ?_) (fun J17 hs => ?_)
  · refine V_istore_n X dX7_hand_17 rfl [(3, .int q1), (0, .ref (ad 7 0 0)), (1, .int p1), (2, .ref (ad k2 t2 i2))] (by decide) rfl ?_
    refine V_aload_n X dX7_hand_18 rfl 3 rfl ?_
    refine V_aload_n X dX7_hand_19 rfl 1 rfl ?_
    refine V_get X dX7_hand_20 r_X7_237 (gm7 hM) rfl rfl ?_
    refine V_iload_n X dX7_hand_23 rfl 0 rfl ?_
    obtain ⟨h2, hs⟩ := gd_some hs
    refine V_iast X dX7_hand_24 hk2.1 (hk2.2) h2 (fun Z3 eZ3 => ?_)
    replace hs := sv_some hs Z3 eZ3
    clear eZ3
    refine V_aload_n X dX7_hand_25 rfl 1 rfl ?_
    refine V_dup X dX7_hand_26 rfl ?_
    refine V_get X dX7_hand_27 r_X7_237 (gm7 hM) rfl rfl ?_
    refine V_iconst X (1 : Int32) dX7_hand_30 (by decide) ?_
    refine V_iadd X dX7_hand_31 ?_
    refine V_put X dX7_hand_32 f_X7_237 (gm7 hM) rfl (Nat.le_of_ble_eq_true rfl) rfl rfl rfl (fun Z4 eZ4 => ?_)
    replace hs := sv_some hs Z4 eZ4
    clear eZ4
    refine V_iload_n X dX7_hand_35 rfl 0 rfl ?_
    obtain rfl := Option.some.inj hs; exact V_iret X hr dX7_hand_36
  · refine V_if_eq X 11 dX7_hand_4 (by decide) (fun c5 => ?_) (fun c5 => ?_)
    · replace hs := if_tB hs c5
      refine V_aload_n X dX7_hand_11 rfl 2 rfl ?_
      refine V_aload_n X dX7_hand_12 rfl 0 rfl ?_
      refine V_get X dX7_hand_13 r_X7_237 (gm7 hM) rfl rfl ?_
      obtain ⟨h6, hs⟩ := gd_someB hs
      refine V_iald X dX7_hand_16 hk2.1 (hk2.2 _) h6 ?_
      exact J17 _ (bs_some hs)
    · replace hs := if_fB hs c5
      refine V_iload_n X dX7_hand_7 rfl 1 rfl ?_
      refine V_goto X 17 dX7_hand_8 (by decide) ?_
      exact J17 _ (bs_some hs)

def s_X7_handsAll (fu : Nat) (k1 : Nat) (t1 : Nat) (i1 : Nat) (ln1 : Nat) (p2 : Int32) (p3 : Int32) (S : S4) : Option S4 := gd (isB p3) (sv (u4 S 7 0 0 23 p3) fun Z2 => sv (u4 Z2 7 0 0 22 p2) fun Z3 => (s_X7_hands fu 24 0 0 30 k1 t1 i1 ln1 Z3).bind fun Z5 => (s_X7_hands fu 25 0 0 39 k1 t1 i1 ln1 Z5).bind fun Z7 => (s_X7_hands fu 26 0 0 120 k1 t1 i1 ln1 Z7).bind fun Z9 => (s_X7_hands fu 27 0 0 260 k1 t1 i1 ln1 Z9).bind fun Z11 => (s_X7_hands fu 28 0 0 720 k1 t1 i1 ln1 Z11).bind fun Z13 => (s_X7_hands fu 29 0 0 60 k1 t1 i1 ln1 Z13).bind fun Z15 => (s_X7_hand (Z15 7 0 0 7) k1 t1 i1 ln1 Z15).bind fun q16 => sv (u4 q16.2 7 0 0 7 q16.1) fun Z17 => (s_X7_hand (Z17 7 0 0 8) k1 t1 i1 ln1 Z17).bind fun q18 => sv (u4 q18.2 7 0 0 8 q18.1) fun Z19 => (s_X7_hand (Z19 7 0 0 9) k1 t1 i1 ln1 Z19).bind fun q20 => sv (u4 q20.2 7 0 0 9 q20.1) fun Z21 => (s_X7_hand (Z21 7 0 0 10) k1 t1 i1 ln1 Z21).bind fun q22 => sv (u4 q22.2 7 0 0 10 q22.1) fun Z23 => (s_X7_hand (Z23 7 0 0 11) k1 t1 i1 ln1 Z23).bind fun q24 => sv (u4 q24.2 7 0 0 11 q24.1) fun Z25 => (s_X7_hand (Z25 7 0 0 12) k1 t1 i1 ln1 Z25).bind fun q26 => sv (u4 q26.2 7 0 0 12 q26.1) fun Z27 => (s_X7_hand (Z27 7 0 0 13) k1 t1 i1 ln1 Z27).bind fun q28 => sv (u4 q28.2 7 0 0 13 q28.1) fun Z29 => some Z29)
set_option maxRecDepth 100000 in
set_option maxHeartbeats 4000000 in
theorem c_X7_handsAll {l : Launch} {D : va_G} {cA : Nat → ClassId} {dm : Dm} {ad : Ad} {fu : Nat} {S : S4} {k1 : Nat} {t1 : Nat} {i1 : Nat} {ln1 : Nat} {p2 : Int32} {p3 : Int32} (hM : DM dm) (hk1 : IA dm cA ad k1 t1 i1 ln1) {out : S4} (hs : s_X7_handsAll fu k1 t1 i1 ln1 p2 p3 S = some out) : Ct D cA dm ad l yX7_handsAll cX7_handsAll 4 none 1 23 S [.ref (ad 7 0 0), .ref (ad k1 t1 i1), .int p2, .int p3] none out := by
  refine Ct.of (by decide +kernel) (Nat.le_of_ble_eq_true rfl) [(0, .ref (ad 7 0 0)), (1, .ref (ad k1 t1 i1)), (2, .int p2), (3, .int p3)] rfl (fun p e s m args below meth c A X hr => ?_)
  unfold s_X7_handsAll at hs
  refine V_aload_n X dX7_handsAll_0 rfl 0 rfl ?_
  refine V_iload_n X dX7_handsAll_1 rfl 3 rfl ?_
  obtain ⟨h1, hs⟩ := gd_some hs
  refine V_put X dX7_handsAll_2 f_X7_233 (gm7 hM) rfl (Nat.le_of_ble_eq_true rfl) rfl (bnar h1) (bfit h1) (fun Z2 eZ2 => ?_)
  replace hs := sv_some hs Z2 eZ2
  clear eZ2
  refine V_aload_n X dX7_handsAll_5 rfl 0 rfl ?_
  refine V_iload_n X dX7_handsAll_6 rfl 2 rfl ?_
  refine V_put X dX7_handsAll_7 f_X7_237 (gm7 hM) rfl (Nat.le_of_ble_eq_true rfl) rfl rfl rfl (fun Z3 eZ3 => ?_)
  replace hs := sv_some hs Z3 eZ3
  clear eZ3
  refine V_aload_n X dX7_handsAll_10 rfl 0 rfl ?_
  refine V_aload_n X dX7_handsAll_11 rfl 0 rfl ?_
  refine V_get X dX7_handsAll_12 r_X7_7 (gm7 hM) rfl rfl ?_
  refine V_aload_n X dX7_handsAll_15 rfl 1 rfl ?_
  obtain ⟨Z5, eZ5, hs⟩ := bd_some hs
  refine V_callVv X [.ref (ad 24 0 0), .ref (ad k1 t1 i1)] dX7_handsAll_16 m_X7_240 v_X7_hands ⟨Nat.le_of_ble_eq_true rfl, Nat.le_of_ble_eq_true rfl⟩ ⟨Nat.zero_le _, Nat.zero_le _⟩ rfl (Nat.le_of_ble_eq_true rfl) (gm7 hM) rfl cl7 (c_X7_hands hM (ia24 hM) hk1 eZ5) ?_
  refine V_aload_n X dX7_handsAll_19 rfl 0 rfl ?_
  refine V_aload_n X dX7_handsAll_20 rfl 0 rfl ?_
  refine V_get X dX7_handsAll_21 r_X7_13 (gm7 hM) rfl rfl ?_
  refine V_aload_n X dX7_handsAll_24 rfl 1 rfl ?_
  obtain ⟨Z7, eZ7, hs⟩ := bd_some hs
  refine V_callVv X [.ref (ad 25 0 0), .ref (ad k1 t1 i1)] dX7_handsAll_25 m_X7_240 v_X7_hands ⟨Nat.le_of_ble_eq_true rfl, Nat.le_of_ble_eq_true rfl⟩ ⟨Nat.zero_le _, Nat.zero_le _⟩ rfl (Nat.le_of_ble_eq_true rfl) (gm7 hM) rfl cl7 (c_X7_hands hM (ia25 hM) hk1 eZ7) ?_
  refine V_aload_n X dX7_handsAll_28 rfl 0 rfl ?_
  refine V_aload_n X dX7_handsAll_29 rfl 0 rfl ?_
  refine V_get X dX7_handsAll_30 r_X7_16 (gm7 hM) rfl rfl ?_
  refine V_aload_n X dX7_handsAll_33 rfl 1 rfl ?_
  obtain ⟨Z9, eZ9, hs⟩ := bd_some hs
  refine V_callVv X [.ref (ad 26 0 0), .ref (ad k1 t1 i1)] dX7_handsAll_34 m_X7_240 v_X7_hands ⟨Nat.le_of_ble_eq_true rfl, Nat.le_of_ble_eq_true rfl⟩ ⟨Nat.zero_le _, Nat.zero_le _⟩ rfl (Nat.le_of_ble_eq_true rfl) (gm7 hM) rfl cl7 (c_X7_hands hM (ia26 hM) hk1 eZ9) ?_
  refine V_aload_n X dX7_handsAll_37 rfl 0 rfl ?_
  refine V_aload_n X dX7_handsAll_38 rfl 0 rfl ?_
  refine V_get X dX7_handsAll_39 r_X7_19 (gm7 hM) rfl rfl ?_
  refine V_aload_n X dX7_handsAll_42 rfl 1 rfl ?_
  obtain ⟨Z11, eZ11, hs⟩ := bd_some hs
  refine V_callVv X [.ref (ad 27 0 0), .ref (ad k1 t1 i1)] dX7_handsAll_43 m_X7_240 v_X7_hands ⟨Nat.le_of_ble_eq_true rfl, Nat.le_of_ble_eq_true rfl⟩ ⟨Nat.zero_le _, Nat.zero_le _⟩ rfl (Nat.le_of_ble_eq_true rfl) (gm7 hM) rfl cl7 (c_X7_hands hM (ia27 hM) hk1 eZ11) ?_
  refine V_aload_n X dX7_handsAll_46 rfl 0 rfl ?_
  refine V_aload_n X dX7_handsAll_47 rfl 0 rfl ?_
  refine V_get X dX7_handsAll_48 r_X7_22 (gm7 hM) rfl rfl ?_
  refine V_aload_n X dX7_handsAll_51 rfl 1 rfl ?_
  obtain ⟨Z13, eZ13, hs⟩ := bd_some hs
  refine V_callVv X [.ref (ad 28 0 0), .ref (ad k1 t1 i1)] dX7_handsAll_52 m_X7_240 v_X7_hands ⟨Nat.le_of_ble_eq_true rfl, Nat.le_of_ble_eq_true rfl⟩ ⟨Nat.zero_le _, Nat.zero_le _⟩ rfl (Nat.le_of_ble_eq_true rfl) (gm7 hM) rfl cl7 (c_X7_hands hM (ia28 hM) hk1 eZ13) ?_
  refine V_aload_n X dX7_handsAll_55 rfl 0 rfl ?_
  refine V_aload_n X dX7_handsAll_56 rfl 0 rfl ?_
  refine V_get X dX7_handsAll_57 r_X7_25 (gm7 hM) rfl rfl ?_
  refine V_aload_n X dX7_handsAll_60 rfl 1 rfl ?_
  obtain ⟨Z15, eZ15, hs⟩ := bd_some hs
  refine V_callVv X [.ref (ad 29 0 0), .ref (ad k1 t1 i1)] dX7_handsAll_61 m_X7_240 v_X7_hands ⟨Nat.le_of_ble_eq_true rfl, Nat.le_of_ble_eq_true rfl⟩ ⟨Nat.zero_le _, Nat.zero_le _⟩ rfl (Nat.le_of_ble_eq_true rfl) (gm7 hM) rfl cl7 (c_X7_hands hM (ia29 hM) hk1 eZ15) ?_
  refine V_aload_n X dX7_handsAll_64 rfl 0 rfl ?_
  refine V_aload_n X dX7_handsAll_65 rfl 0 rfl ?_
  refine V_aload_n X dX7_handsAll_66 rfl 0 rfl ?_
  refine V_get X dX7_handsAll_67 r_X7_28 (gm7 hM) rfl rfl ?_
  refine V_aload_n X dX7_handsAll_70 rfl 1 rfl ?_
  obtain ⟨q16, eq16, hs⟩ := bd_some hs
  refine V_callVs X [.int (Z15 7 0 0 7), .ref (ad k1 t1 i1)] dX7_handsAll_71 m_X7_244 v_X7_hand ⟨Nat.le_of_ble_eq_true rfl, Nat.le_of_ble_eq_true rfl⟩ ⟨Nat.zero_le _, Nat.zero_le _⟩ rfl (Nat.le_of_ble_eq_true rfl) (gm7 hM) rfl cl7 (c_X7_hand hM hk1 eq16) ?_
  refine V_put X dX7_handsAll_74 f_X7_28 (gm7 hM) rfl (Nat.le_of_ble_eq_true rfl) rfl rfl rfl (fun Z17 eZ17 => ?_)
  replace hs := sv_some hs Z17 eZ17
  clear eZ17
  refine V_aload_n X dX7_handsAll_77 rfl 0 rfl ?_
  refine V_aload_n X dX7_handsAll_78 rfl 0 rfl ?_
  refine V_aload_n X dX7_handsAll_79 rfl 0 rfl ?_
  refine V_get X dX7_handsAll_80 r_X7_57 (gm7 hM) rfl rfl ?_
  refine V_aload_n X dX7_handsAll_83 rfl 1 rfl ?_
  obtain ⟨q18, eq18, hs⟩ := bd_some hs
  refine V_callVs X [.int (Z17 7 0 0 8), .ref (ad k1 t1 i1)] dX7_handsAll_84 m_X7_244 v_X7_hand ⟨Nat.le_of_ble_eq_true rfl, Nat.le_of_ble_eq_true rfl⟩ ⟨Nat.zero_le _, Nat.zero_le _⟩ rfl (Nat.le_of_ble_eq_true rfl) (gm7 hM) rfl cl7 (c_X7_hand hM hk1 eq18) ?_
  refine V_put X dX7_handsAll_87 f_X7_57 (gm7 hM) rfl (Nat.le_of_ble_eq_true rfl) rfl rfl rfl (fun Z19 eZ19 => ?_)
  replace hs := sv_some hs Z19 eZ19
  clear eZ19
  refine V_aload_n X dX7_handsAll_90 rfl 0 rfl ?_
  refine V_aload_n X dX7_handsAll_91 rfl 0 rfl ?_
  refine V_aload_n X dX7_handsAll_92 rfl 0 rfl ?_
  refine V_get X dX7_handsAll_93 r_X7_60 (gm7 hM) rfl rfl ?_
  refine V_aload_n X dX7_handsAll_96 rfl 1 rfl ?_
  obtain ⟨q20, eq20, hs⟩ := bd_some hs
  refine V_callVs X [.int (Z19 7 0 0 9), .ref (ad k1 t1 i1)] dX7_handsAll_97 m_X7_244 v_X7_hand ⟨Nat.le_of_ble_eq_true rfl, Nat.le_of_ble_eq_true rfl⟩ ⟨Nat.zero_le _, Nat.zero_le _⟩ rfl (Nat.le_of_ble_eq_true rfl) (gm7 hM) rfl cl7 (c_X7_hand hM hk1 eq20) ?_
  refine V_put X dX7_handsAll_100 f_X7_60 (gm7 hM) rfl (Nat.le_of_ble_eq_true rfl) rfl rfl rfl (fun Z21 eZ21 => ?_)
  replace hs := sv_some hs Z21 eZ21
  clear eZ21
  refine V_aload_n X dX7_handsAll_103 rfl 0 rfl ?_
  refine V_aload_n X dX7_handsAll_104 rfl 0 rfl ?_
  refine V_aload_n X dX7_handsAll_105 rfl 0 rfl ?_
  refine V_get X dX7_handsAll_106 r_X7_66 (gm7 hM) rfl rfl ?_
  refine V_aload_n X dX7_handsAll_109 rfl 1 rfl ?_
  obtain ⟨q22, eq22, hs⟩ := bd_some hs
  refine V_callVs X [.int (Z21 7 0 0 10), .ref (ad k1 t1 i1)] dX7_handsAll_110 m_X7_244 v_X7_hand ⟨Nat.le_of_ble_eq_true rfl, Nat.le_of_ble_eq_true rfl⟩ ⟨Nat.zero_le _, Nat.zero_le _⟩ rfl (Nat.le_of_ble_eq_true rfl) (gm7 hM) rfl cl7 (c_X7_hand hM hk1 eq22) ?_
  refine V_put X dX7_handsAll_113 f_X7_66 (gm7 hM) rfl (Nat.le_of_ble_eq_true rfl) rfl rfl rfl (fun Z23 eZ23 => ?_)
  replace hs := sv_some hs Z23 eZ23
  clear eZ23
  refine V_aload_n X dX7_handsAll_116 rfl 0 rfl ?_
  refine V_aload_n X dX7_handsAll_117 rfl 0 rfl ?_
  refine V_aload_n X dX7_handsAll_118 rfl 0 rfl ?_
  refine V_get X dX7_handsAll_119 r_X7_63 (gm7 hM) rfl rfl ?_
  refine V_aload_n X dX7_handsAll_122 rfl 1 rfl ?_
  obtain ⟨q24, eq24, hs⟩ := bd_some hs
  refine V_callVs X [.int (Z23 7 0 0 11), .ref (ad k1 t1 i1)] dX7_handsAll_123 m_X7_244 v_X7_hand ⟨Nat.le_of_ble_eq_true rfl, Nat.le_of_ble_eq_true rfl⟩ ⟨Nat.zero_le _, Nat.zero_le _⟩ rfl (Nat.le_of_ble_eq_true rfl) (gm7 hM) rfl cl7 (c_X7_hand hM hk1 eq24) ?_
  refine V_put X dX7_handsAll_126 f_X7_63 (gm7 hM) rfl (Nat.le_of_ble_eq_true rfl) rfl rfl rfl (fun Z25 eZ25 => ?_)
  replace hs := sv_some hs Z25 eZ25
  clear eZ25
  refine V_aload_n X dX7_handsAll_129 rfl 0 rfl ?_
  refine V_aload_n X dX7_handsAll_130 rfl 0 rfl ?_
  refine V_aload_n X dX7_handsAll_131 rfl 0 rfl ?_
  refine V_get X dX7_handsAll_132 r_X7_69 (gm7 hM) rfl rfl ?_
  refine V_aload_n X dX7_handsAll_135 rfl 1 rfl ?_
  obtain ⟨q26, eq26, hs⟩ := bd_some hs
  refine V_callVs X [.int (Z25 7 0 0 12), .ref (ad k1 t1 i1)] dX7_handsAll_136 m_X7_244 v_X7_hand ⟨Nat.le_of_ble_eq_true rfl, Nat.le_of_ble_eq_true rfl⟩ ⟨Nat.zero_le _, Nat.zero_le _⟩ rfl (Nat.le_of_ble_eq_true rfl) (gm7 hM) rfl cl7 (c_X7_hand hM hk1 eq26) ?_
  refine V_put X dX7_handsAll_139 f_X7_69 (gm7 hM) rfl (Nat.le_of_ble_eq_true rfl) rfl rfl rfl (fun Z27 eZ27 => ?_)
  replace hs := sv_some hs Z27 eZ27
  clear eZ27
  refine V_aload_n X dX7_handsAll_142 rfl 0 rfl ?_
  refine V_aload_n X dX7_handsAll_143 rfl 0 rfl ?_
  refine V_aload_n X dX7_handsAll_144 rfl 0 rfl ?_
  refine V_get X dX7_handsAll_145 r_X7_72 (gm7 hM) rfl rfl ?_
  refine V_aload_n X dX7_handsAll_148 rfl 1 rfl ?_
  obtain ⟨q28, eq28, hs⟩ := bd_some hs
  refine V_callVs X [.int (Z27 7 0 0 13), .ref (ad k1 t1 i1)] dX7_handsAll_149 m_X7_244 v_X7_hand ⟨Nat.le_of_ble_eq_true rfl, Nat.le_of_ble_eq_true rfl⟩ ⟨Nat.zero_le _, Nat.zero_le _⟩ rfl (Nat.le_of_ble_eq_true rfl) (gm7 hM) rfl cl7 (c_X7_hand hM hk1 eq28) ?_
  refine V_put X dX7_handsAll_152 f_X7_72 (gm7 hM) rfl (Nat.le_of_ble_eq_true rfl) rfl rfl rfl (fun Z29 eZ29 => ?_)
  replace hs := sv_some hs Z29 eZ29
  clear eZ29
  obtain rfl := Option.some.inj hs; exact V_vret X hr dX7_handsAll_155

def s_X7_remembers_L11 (fu : Nat)  : Nat → Int32 → S4 → Option S4
  | 0, _, _ => none
  | f11+1, v1, Z5 => (if (9520 : Int32) ≤ v1 then sv (u4 Z5 7 0 0 21 ((Z5 7 0 0 21) - (1 : Int32))) fun Z7 => (s_X7_handsAll fu 33 0 0 10880 ((1360 : Int32) * (Z7 7 0 0 21)) (1 : Int32) Z7).bind fun Z9 => sv (u4 Z9 7 0 0 21 ((Z9 7 0 0 21) + (1 : Int32))) fun Z10 => some Z10 else gd (inb (v1 + (1360 : Int32)) 10880) (gd (inb v1 10880) (sv (u4 Z5 33 0 0 (v1.toNatClampNeg) (Z5 33 0 0 (v1 + (1360 : Int32)).toNatClampNeg)) fun Z13 => s_X7_remembers_L11 fu f11 (v1 + (1 : Int32)) Z13)))
def s_X7_remembers (fu : Nat)  (S : S4) : Option S4 := (if (S 7 0 0 21) = (8 : Int32) then s_X7_remembers_L11 fu fu (0 : Int32) S else (s_X7_handsAll fu 33 0 0 10880 ((1360 : Int32) * (S 7 0 0 21)) (1 : Int32) S).bind fun Z3 => sv (u4 Z3 7 0 0 21 ((Z3 7 0 0 21) + (1 : Int32))) fun Z4 => some Z4)
set_option maxRecDepth 100000 in
set_option maxHeartbeats 4000000 in
theorem c_X7_remembers {l : Launch} {D : va_G} {cA : Nat → ClassId} {dm : Dm} {ad : Ad} {fu : Nat} {S : S4} (hM : DM dm) {out : S4} (hs : s_X7_remembers fu S = some out) : Ct D cA dm ad l yX7_remembers cX7_remembers 2 none 2 46 S [.ref (ad 7 0 0)] none out := by
  refine Ct.of (by decide +kernel) (Nat.le_of_ble_eq_true rfl) [(0, .ref (ad 7 0 0))] rfl (fun p e s m args below meth c A X hr => ?_)
  unfold s_X7_remembers at hs
  refine V_aload_n X dX7_remembers_0 rfl 0 rfl ?_
  refine V_get X dX7_remembers_1 r_X7_83 (gm7 hM) rfl rfl ?_
  refine V_bipush X (8 : Int32) dX7_remembers_4 (by decide) ?_
  refine V_icmp_ne X 50 dX7_remembers_6 (by decide) (fun c1 => ?_) (fun c1 => ?_)
  · replace hs := if_f hs c1
    refine V_aload_n X dX7_remembers_50 rfl 0 rfl ?_
    refine V_aload_n X dX7_remembers_51 rfl 0 rfl ?_
    refine V_get X dX7_remembers_52 r_X7_42 (gm7 hM) rfl rfl ?_
    refine V_sipush X (1360 : Int32) dX7_remembers_55 (by decide) ?_
    refine V_aload_n X dX7_remembers_58 rfl 0 rfl ?_
    refine V_get X dX7_remembers_59 r_X7_83 (gm7 hM) rfl rfl ?_
    refine V_imul X dX7_remembers_62 ?_
    refine V_iconst X (1 : Int32) dX7_remembers_63 (by decide) ?_
    obtain ⟨Z3, eZ3, hs⟩ := bd_some hs
    refine V_callVv X [.ref (ad 33 0 0), .int ((1360 : Int32) * (S 7 0 0 21)), .int (1 : Int32)] dX7_remembers_64 m_X7_248 v_X7_handsAll ⟨Nat.le_of_ble_eq_true rfl, Nat.le_of_ble_eq_true rfl⟩ ⟨Nat.zero_le _, Nat.zero_le _⟩ rfl (Nat.le_of_ble_eq_true rfl) (gm7 hM) rfl cl7 (c_X7_handsAll hM (ia33 hM) eZ3) ?_
    refine V_aload_n X dX7_remembers_67 rfl 0 rfl ?_
    refine V_dup X dX7_remembers_68 rfl ?_
    refine V_get X dX7_remembers_69 r_X7_83 (gm7 hM) rfl rfl ?_
    refine V_iconst X (1 : Int32) dX7_remembers_72 (by decide) ?_
    refine V_iadd X dX7_remembers_73 ?_
    refine V_put X dX7_remembers_74 f_X7_83 (gm7 hM) rfl (Nat.le_of_ble_eq_true rfl) rfl rfl rfl (fun Z4 eZ4 => ?_)
    replace hs := sv_some hs Z4 eZ4
    clear eZ4
    obtain rfl := Option.some.inj hs; exact V_vret X hr dX7_remembers_77
  · replace hs := if_t hs c1
    refine V_iconst X (0 : Int32) dX7_remembers_9 (by decide) ?_
    refine V_istore_n X dX7_remembers_10 rfl [(1, .int (0 : Int32)), (0, .ref (ad 7 0 0))] (by decide) rfl ?_
    have L11 : ∀ (n : Nat) (v1 : Int32) (S1 : S4), s_X7_remembers_L11 fu n v1 S1 = some out → V D cA dm ad A 2 p l e ({ frames := 2, cells := 0, slots := 0, locals := 46 }) s m args below meth c 0 0 (MQ below (gQ D cA dm ad out none A) args s 0 0 A) S1 11 [(0, .ref (ad 7 0 0)), (1, .int v1)] [] := by
      intro n
      induction n with
      | zero => intro v1 S1 hs; rw [s_X7_remembers_L11] at hs; cases hs
      | succ f11 ih11 =>
        intro v1 Z5 hs
        rw [s_X7_remembers_L11] at hs
        refine V_iload_n X dX7_remembers_11 rfl 1 rfl ?_
        refine V_sipush X (9520 : Int32) dX7_remembers_12 (by decide) ?_
        refine V_icmp_ge X 40 dX7_remembers_15 (by decide) (fun c6 => ?_) (fun c6 => ?_)
        · replace hs := if_t hs c6
          refine V_aload_n X dX7_remembers_40 rfl 0 rfl ?_
          refine V_dup X dX7_remembers_41 rfl ?_
          refine V_get X dX7_remembers_42 r_X7_83 (gm7 hM) rfl rfl ?_
          refine V_iconst X (1 : Int32) dX7_remembers_45 (by decide) ?_
          refine V_isub X dX7_remembers_46 ?_
          refine V_put X dX7_remembers_47 f_X7_83 (gm7 hM) rfl (Nat.le_of_ble_eq_true rfl) rfl rfl rfl (fun Z7 eZ7 => ?_)
          replace hs := sv_some hs Z7 eZ7
          clear eZ7
          refine V_aload_n X dX7_remembers_50 rfl 0 rfl ?_
          refine V_aload_n X dX7_remembers_51 rfl 0 rfl ?_
          refine V_get X dX7_remembers_52 r_X7_42 (gm7 hM) rfl rfl ?_
          refine V_sipush X (1360 : Int32) dX7_remembers_55 (by decide) ?_
          refine V_aload_n X dX7_remembers_58 rfl 0 rfl ?_
          refine V_get X dX7_remembers_59 r_X7_83 (gm7 hM) rfl rfl ?_
          refine V_imul X dX7_remembers_62 ?_
          refine V_iconst X (1 : Int32) dX7_remembers_63 (by decide) ?_
          obtain ⟨Z9, eZ9, hs⟩ := bd_some hs
          refine V_callVv X [.ref (ad 33 0 0), .int ((1360 : Int32) * (Z7 7 0 0 21)), .int (1 : Int32)] dX7_remembers_64 m_X7_248 v_X7_handsAll ⟨Nat.le_of_ble_eq_true rfl, Nat.le_of_ble_eq_true rfl⟩ ⟨Nat.zero_le _, Nat.zero_le _⟩ rfl (Nat.le_of_ble_eq_true rfl) (gm7 hM) rfl cl7 (c_X7_handsAll hM (ia33 hM) eZ9) ?_
          refine V_aload_n X dX7_remembers_67 rfl 0 rfl ?_
          refine V_dup X dX7_remembers_68 rfl ?_
          refine V_get X dX7_remembers_69 r_X7_83 (gm7 hM) rfl rfl ?_
          refine V_iconst X (1 : Int32) dX7_remembers_72 (by decide) ?_
          refine V_iadd X dX7_remembers_73 ?_
          refine V_put X dX7_remembers_74 f_X7_83 (gm7 hM) rfl (Nat.le_of_ble_eq_true rfl) rfl rfl rfl (fun Z10 eZ10 => ?_)
          replace hs := sv_some hs Z10 eZ10
          clear eZ10
          obtain rfl := Option.some.inj hs; exact V_vret X hr dX7_remembers_77
        · replace hs := if_f hs c6
          refine V_aload_n X dX7_remembers_18 rfl 0 rfl ?_
          refine V_get X dX7_remembers_19 r_X7_42 (gm7 hM) rfl rfl ?_
          refine V_iload_n X dX7_remembers_22 rfl 1 rfl ?_
          refine V_aload_n X dX7_remembers_23 rfl 0 rfl ?_
          refine V_get X dX7_remembers_24 r_X7_42 (gm7 hM) rfl rfl ?_
          refine V_iload_n X dX7_remembers_27 rfl 1 rfl ?_
          refine V_sipush X (1360 : Int32) dX7_remembers_28 (by decide) ?_
          refine V_iadd X dX7_remembers_31 ?_
          obtain ⟨h11, hs⟩ := gd_some hs
          refine V_iald X dX7_remembers_32 (gm33 hM) rfl h11 ?_
          obtain ⟨h12, hs⟩ := gd_some hs
          refine V_iast X dX7_remembers_33 (gm33 hM) (fun _ => rfl) h12 (fun Z13 eZ13 => ?_)
          replace hs := sv_some hs Z13 eZ13
          clear eZ13
          refine V_iinc X (v1 + (1 : Int32)) dX7_remembers_34 1 rfl rfl [(1, .int (v1 + (1 : Int32))), (0, .ref (ad 7 0 0))] (by decide) rfl ?_
          refine V_goto X 11 dX7_remembers_37 (by decide) ?_
          refine V_sub [1, 0] rfl ?_
          exact ih11 _ _ hs
    refine V_sub [1, 0] rfl ?_
    exact L11 _ _ _ hs

def s_X7_addStation_L39 (fu : Nat) (p1 : Int32) : Nat → Int32 → S4 → Option (Int32 × S4)
  | 0, _, _ => none
  | f39+1, v2, Z7 => (if (13 : Int32) ≤ v2 then sv (u4 Z7 7 0 0 8 ((Z7 7 0 0 8) + (1 : Int32))) fun Z9 => some (((Z9 7 0 0 8) - (1 : Int32)), Z9) else ((if v2 = 0 then some p1 else some (0 : Int32))).bind fun q10 => gd (inb (((13 : Int32) * (Z7 7 0 0 8)) + v2) 39) (sv (u4 Z7 25 0 0 ((((13 : Int32) * (Z7 7 0 0 8)) + v2).toNatClampNeg) q10) fun Z12 => s_X7_addStation_L39 fu p1 f39 (v2 + (1 : Int32)) Z12))
def s_X7_addStation (fu : Nat) (p1 : Int32) (S : S4) : Option (Int32 × S4) := (s_X7_isFree fu p1 S).bind fun q1 => (if q1 = 0 then (s_X7_fails (1 : Int32) S).bind fun q15 => some (q15.1, q15.2) else (if (S 7 0 0 8) = (3 : Int32) then (s_X7_fails (2 : Int32) S).bind fun q14 => some (q14.1, q14.2) else sv (u4 S 7 0 0 0 (0 : Int32)) fun Z4 => (s_X7_remembers fu Z4).bind fun Z6 => s_X7_addStation_L39 fu p1 fu (0 : Int32) Z6))
set_option maxRecDepth 100000 in
set_option maxHeartbeats 4000000 in
theorem c_X7_addStation {l : Launch} {D : va_G} {cA : Nat → ClassId} {dm : Dm} {ad : Ad} {fu : Nat} {S : S4} {p1 : Int32} (hM : DM dm) {out : (Int32 × S4)} (hs : s_X7_addStation fu p1 S = some out) : Ct D cA dm ad l yX7_addStation cX7_addStation 3 (some .int) 3 67 S [.ref (ad 7 0 0), .int p1] (some (.int out.1)) out.2 := by
  refine Ct.of (by decide +kernel) (Nat.le_of_ble_eq_true rfl) [(0, .ref (ad 7 0 0)), (1, .int p1)] rfl (fun p e s m args below meth c A X hr => ?_)
  unfold s_X7_addStation at hs
  refine V_aload_n X dX7_addStation_0 rfl 0 rfl ?_
  refine V_iload_n X dX7_addStation_1 rfl 1 rfl ?_
  obtain ⟨q1, eq1, hs⟩ := bd_some hs
  refine V_callVs X [.int p1] dX7_addStation_2 m_X7_93 v_X7_isFree ⟨Nat.le_of_ble_eq_true rfl, Nat.le_of_ble_eq_true rfl⟩ ⟨Nat.zero_le _, Nat.zero_le _⟩ rfl (Nat.le_of_ble_eq_true rfl) (gm7 hM) rfl cl7 (c_X7_isFree hM eq1) ?_
  refine V_if_ne X 14 dX7_addStation_5 (by decide) (fun c2 => ?_) (fun c2 => ?_)
  · replace hs := if_f hs c2
    refine V_aload_n X dX7_addStation_14 rfl 0 rfl ?_
    refine V_get X dX7_addStation_15 r_X7_57 (gm7 hM) rfl rfl ?_
    refine V_iconst X (3 : Int32) dX7_addStation_18 (by decide) ?_
    refine V_icmp_ne X 28 dX7_addStation_19 (by decide) (fun c3 => ?_) (fun c3 => ?_)
    · replace hs := if_f hs c3
      refine V_aload_n X dX7_addStation_28 rfl 0 rfl ?_
      refine V_iconst X (0 : Int32) dX7_addStation_29 (by decide) ?_
      refine V_put X dX7_addStation_30 f_X7_54 (gm7 hM) rfl (Nat.le_of_ble_eq_true rfl) rfl rfl rfl (fun Z4 eZ4 => ?_)
      replace hs := sv_some hs Z4 eZ4
      clear eZ4
      refine V_aload_n X dX7_addStation_33 rfl 0 rfl ?_
      obtain ⟨Z6, eZ6, hs⟩ := bd_some hs
      refine V_callVv X [] dX7_addStation_34 m_X7_97 v_X7_remembers ⟨Nat.le_of_ble_eq_true rfl, Nat.le_of_ble_eq_true rfl⟩ ⟨Nat.zero_le _, Nat.zero_le _⟩ rfl (Nat.le_of_ble_eq_true rfl) (gm7 hM) rfl cl7 (c_X7_remembers hM eZ6) ?_
      refine V_iconst X (0 : Int32) dX7_addStation_37 (by decide) ?_
      refine V_istore_n X dX7_addStation_38 rfl [(2, .int (0 : Int32)), (0, .ref (ad 7 0 0)), (1, .int p1)] (by decide) rfl ?_
      have L39 : ∀ (n : Nat) (v2 : Int32) (S1 : S4), s_X7_addStation_L39 fu p1 n v2 S1 = some out → V D cA dm ad A 3 p l e ({ frames := 3, cells := 0, slots := 0, locals := 67 }) s m args below meth c 0 0 (MQ below (gQ D cA dm ad out.2 (some (.int out.1)) A) args s 0 0 A) S1 39 [(0, .ref (ad 7 0 0)), (1, .int p1), (2, .int v2)] [] := by
        intro n
        induction n with
        | zero => intro v2 S1 hs; rw [s_X7_addStation_L39] at hs; cases hs
        | succ f39 ih39 =>
          intro v2 Z7 hs
          rw [s_X7_addStation_L39] at hs
          refine V_iload_n X dX7_addStation_39 rfl 2 rfl ?_
          refine V_bipush X (13 : Int32) dX7_addStation_40 (by decide) ?_
          refine V_icmp_ge X 74 dX7_addStation_42 (by decide) (fun c8 => ?_) (fun c8 => ?_)
          · replace hs := if_t hs c8
            refine V_aload_n X dX7_addStation_74 rfl 0 rfl ?_
            refine V_dup X dX7_addStation_75 rfl ?_
            refine V_get X dX7_addStation_76 r_X7_57 (gm7 hM) rfl rfl ?_
            refine V_iconst X (1 : Int32) dX7_addStation_79 (by decide) ?_
            refine V_iadd X dX7_addStation_80 ?_
            refine V_put X dX7_addStation_81 f_X7_57 (gm7 hM) rfl (Nat.le_of_ble_eq_true rfl) rfl rfl rfl (fun Z9 eZ9 => ?_)
            replace hs := sv_some hs Z9 eZ9
            clear eZ9
            refine V_aload_n X dX7_addStation_84 rfl 0 rfl ?_
            refine V_get X dX7_addStation_85 r_X7_57 (gm7 hM) rfl rfl ?_
            refine V_iconst X (1 : Int32) dX7_addStation_88 (by decide) ?_
            refine V_isub X dX7_addStation_89 ?_
            obtain rfl := Option.some.inj hs; exact V_iret X hr dX7_addStation_90
          · replace hs := if_f hs c8
            refine V_aload_n X dX7_addStation_45 rfl 0 rfl ?_
            refine V_get X dX7_addStation_46 r_X7_13 (gm7 hM) rfl rfl ?_
            refine V_bipush X (13 : Int32) dX7_addStation_49 (by decide) ?_
            refine V_aload_n X dX7_addStation_51 rfl 0 rfl ?_
            refine V_get X dX7_addStation_52 r_X7_57 (gm7 hM) rfl rfl ?_
            refine V_imul X dX7_addStation_55 ?_
            refine V_iload_n X dX7_addStation_56 rfl 2 rfl ?_
            refine V_iadd X dX7_addStation_57 ?_
            refine V_iload_n X dX7_addStation_58 rfl 2 rfl ?_
            refine jn (P := fun q => V D cA dm ad A 3 p l e ({ frames := 3, cells := 0, slots := 0, locals := 67 }) s m args below meth c 0 0 (MQ below (gQ D cA dm ad out.2 (some (.int out.1)) A) args s 0 0 A) Z7 67 [(0, .ref (ad 7 0 0)), (1, .int p1), (2, .int v2)] [.int q, .int (((13 : Int32) * (Z7 7 0 0 8)) + v2), .ref (ad 25 0 0)]) hs (fun q10 hs => ?_) (fun J67 hs => ?_)
            · obtain ⟨h11, hs⟩ := gd_some hs
              refine V_iast X dX7_addStation_67 (gm25 hM) (fun _ => rfl) h11 (fun Z12 eZ12 => ?_)
              replace hs := sv_some hs Z12 eZ12
              clear eZ12
              refine V_iinc X (v2 + (1 : Int32)) dX7_addStation_68 2 rfl rfl [(2, .int (v2 + (1 : Int32))), (0, .ref (ad 7 0 0)), (1, .int p1)] (by decide) rfl ?_
              refine V_goto X 39 dX7_addStation_71 (by decide) ?_
              refine V_sub [1, 2, 0] rfl ?_
              exact ih39 _ _ hs
            · refine V_if_ne X 66 dX7_addStation_59 (by decide) (fun c13 => ?_) (fun c13 => ?_)
              · replace hs := if_fB hs c13
                refine V_iconst X (0 : Int32) dX7_addStation_66 (by decide) ?_
                exact J67 _ (bs_some hs)
              · replace hs := if_tB hs c13
                refine V_iload_n X dX7_addStation_62 rfl 1 rfl ?_
                refine V_goto X 67 dX7_addStation_63 (by decide) ?_
                exact J67 _ (bs_some hs)
      refine V_sub [1, 2, 0] rfl ?_
      exact L39 _ _ _ hs
    · replace hs := if_t hs c3
      refine V_aload_n X dX7_addStation_22 rfl 0 rfl ?_
      refine V_iconst X (2 : Int32) dX7_addStation_23 (by decide) ?_
      obtain ⟨q14, eq14, hs⟩ := bd_some hs
      refine V_callVs X [.int (2 : Int32)] dX7_addStation_24 m_X7_79 v_X7_fails ⟨Nat.le_of_ble_eq_true rfl, Nat.le_of_ble_eq_true rfl⟩ ⟨Nat.zero_le _, Nat.zero_le _⟩ rfl (Nat.le_of_ble_eq_true rfl) (gm7 hM) rfl cl7 (c_X7_fails hM eq14) ?_
      obtain rfl := Option.some.inj hs; exact V_iret X hr dX7_addStation_27
  · replace hs := if_t hs c2
    refine V_aload_n X dX7_addStation_8 rfl 0 rfl ?_
    refine V_iconst X (1 : Int32) dX7_addStation_9 (by decide) ?_
    obtain ⟨q15, eq15, hs⟩ := bd_some hs
    refine V_callVs X [.int (1 : Int32)] dX7_addStation_10 m_X7_79 v_X7_fails ⟨Nat.le_of_ble_eq_true rfl, Nat.le_of_ble_eq_true rfl⟩ ⟨Nat.zero_le _, Nat.zero_le _⟩ rfl (Nat.le_of_ble_eq_true rfl) (gm7 hM) rfl cl7 (c_X7_fails hM eq15) ?_
    obtain rfl := Option.some.inj hs; exact V_iret X hr dX7_addStation_13

def s_X7_setsChute (p1 : Int32) (p2 : Int32) (p3 : Int32) (S : S4) : Option S4 := gd (inb (((15 : Int32) * p1) + p2) 120) (sv (u4 S 26 0 0 ((((15 : Int32) * p1) + p2).toNatClampNeg) p3) fun Z2 => some Z2)
set_option maxRecDepth 100000 in
set_option maxHeartbeats 4000000 in
theorem c_X7_setsChute {l : Launch} {D : va_G} {cA : Nat → ClassId} {dm : Dm} {ad : Ad} {S : S4} {p1 : Int32} {p2 : Int32} {p3 : Int32} (hM : DM dm) {out : S4} (hs : s_X7_setsChute p1 p2 p3 S = some out) : Ct D cA dm ad l yX7_setsChute cX7_setsChute 4 none 0 0 S [.ref (ad 7 0 0), .int p1, .int p2, .int p3] none out := by
  refine Ct.of (by decide +kernel) (Nat.le_of_ble_eq_true rfl) [(0, .ref (ad 7 0 0)), (1, .int p1), (2, .int p2), (3, .int p3)] rfl (fun p e s m args below meth c A X hr => ?_)
  unfold s_X7_setsChute at hs
  refine V_aload_n X dX7_setsChute_0 rfl 0 rfl ?_
  refine V_get X dX7_setsChute_1 r_X7_16 (gm7 hM) rfl rfl ?_
  refine V_bipush X (15 : Int32) dX7_setsChute_4 (by decide) ?_
  refine V_iload_n X dX7_setsChute_6 rfl 1 rfl ?_
  refine V_imul X dX7_setsChute_7 ?_
  refine V_iload_n X dX7_setsChute_8 rfl 2 rfl ?_
  refine V_iadd X dX7_setsChute_9 ?_
  refine V_iload_n X dX7_setsChute_10 rfl 3 rfl ?_
  obtain ⟨h1, hs⟩ := gd_some hs
  refine V_iast X dX7_setsChute_11 (gm26 hM) (fun _ => rfl) h1 (fun Z2 eZ2 => ?_)
  replace hs := sv_some hs Z2 eZ2
  clear eZ2
  obtain rfl := Option.some.inj hs; exact V_vret X hr dX7_setsChute_12

def s_X7_addChute_L93 (fu : Nat) (p1 : Int32) (p2 : Int32) (p3 : Int32) (p4 : Int32) (p5 : Int32) (p6 : Int32) : Nat → Int32 → S4 → Option (Int32 × S4)
  | 0, _, _ => none
  | f93+1, v7, Z22 => (if (15 : Int32) ≤ v7 then (s_X7_setsChute (Z22 7 0 0 9) (0 : Int32) p1 Z22).bind fun Z25 => (s_X7_setsChute (Z25 7 0 0 9) (1 : Int32) p2 Z25).bind fun Z27 => (s_X7_setsChute (Z27 7 0 0 9) (2 : Int32) p3 Z27).bind fun Z29 => (s_X7_setsChute (Z29 7 0 0 9) (3 : Int32) p4 Z29).bind fun Z31 => (s_X7_setsChute (Z31 7 0 0 9) (4 : Int32) p5 Z31).bind fun Z33 => (s_X7_setsChute (Z33 7 0 0 9) (5 : Int32) p6 Z33).bind fun Z35 => (s_X7_setsChute (Z35 7 0 0 9) (10 : Int32) (-1 : Int32) Z35).bind fun Z37 => sv (u4 Z37 7 0 0 9 ((Z37 7 0 0 9) + (1 : Int32))) fun Z38 => some (((Z38 7 0 0 9) - (1 : Int32)), Z38) else (s_X7_setsChute (Z22 7 0 0 9) v7 (0 : Int32) Z22).bind fun Z40 => s_X7_addChute_L93 fu p1 p2 p3 p4 p5 p6 f93 (v7 + (1 : Int32)) Z40)
def s_X7_addChute (fu : Nat) (p1 : Int32) (p2 : Int32) (p3 : Int32) (p4 : Int32) (p5 : Int32) (p6 : Int32) (S : S4) : Option (Int32 × S4) := (s_X7_isFree fu p1 S).bind fun q1 => (if q1 = 0 then (s_X7_fails (1 : Int32) S).bind fun q3 => some (q3.1, q3.2) else (s_X7_isBetween p2 (1 : Int32) (20 : Int32) S).bind fun q4 => (if q4 = 0 then (s_X7_fails (1 : Int32) S).bind fun q6 => some (q6.1, q6.2) else (s_X7_isBetween p3 (0 : Int32) (5 : Int32) S).bind fun q7 => (if q7 = 0 then (s_X7_fails (1 : Int32) S).bind fun q9 => some (q9.1, q9.2) else (s_X7_isBetween p4 (1 : Int32) (50 : Int32) S).bind fun q10 => (if q10 = 0 then (s_X7_fails (1 : Int32) S).bind fun q12 => some (q12.1, q12.2) else (s_X7_isBetween p5 (1 : Int32) (9 : Int32) S).bind fun q13 => (if q13 = 0 then (s_X7_fails (1 : Int32) S).bind fun q15 => some (q15.1, q15.2) else (s_X7_isBetween p6 (0 : Int32) (9 : Int32) S).bind fun q16 => (if q16 = 0 then (s_X7_fails (1 : Int32) S).bind fun q42 => some (q42.1, q42.2) else (if (S 7 0 0 9) = (8 : Int32) then (s_X7_fails (2 : Int32) S).bind fun q41 => some (q41.1, q41.2) else sv (u4 S 7 0 0 0 (0 : Int32)) fun Z19 => (s_X7_remembers fu Z19).bind fun Z21 => s_X7_addChute_L93 fu p1 p2 p3 p4 p5 p6 fu (0 : Int32) Z21)))))))
set_option maxRecDepth 100000 in
set_option maxHeartbeats 4000000 in
theorem c_X7_addChute {l : Launch} {D : va_G} {cA : Nat → ClassId} {dm : Dm} {ad : Ad} {fu : Nat} {S : S4} {p1 : Int32} {p2 : Int32} {p3 : Int32} {p4 : Int32} {p5 : Int32} {p6 : Int32} (hM : DM dm) {out : (Int32 × S4)} (hs : s_X7_addChute fu p1 p2 p3 p4 p5 p6 S = some out) : Ct D cA dm ad l yX7_addChute cX7_addChute 8 (some .int) 3 67 S [.ref (ad 7 0 0), .int p1, .int p2, .int p3, .int p4, .int p5, .int p6] (some (.int out.1)) out.2 := by
  refine Ct.of (by decide +kernel) (Nat.le_of_ble_eq_true rfl) [(0, .ref (ad 7 0 0)), (1, .int p1), (2, .int p2), (3, .int p3), (4, .int p4), (5, .int p5), (6, .int p6)] rfl (fun p e s m args below meth c A X hr => ?_)
  unfold s_X7_addChute at hs
  refine V_aload_n X dX7_addChute_0 rfl 0 rfl ?_
  refine V_iload_n X dX7_addChute_1 rfl 1 rfl ?_
  obtain ⟨q1, eq1, hs⟩ := bd_some hs
  refine V_callVs X [.int p1] dX7_addChute_2 m_X7_93 v_X7_isFree ⟨Nat.le_of_ble_eq_true rfl, Nat.le_of_ble_eq_true rfl⟩ ⟨Nat.zero_le _, Nat.zero_le _⟩ rfl (Nat.le_of_ble_eq_true rfl) (gm7 hM) rfl cl7 (c_X7_isFree hM eq1) ?_
  refine V_if_eq X 60 dX7_addChute_5 (by decide) (fun c2 => ?_) (fun c2 => ?_)
  · replace hs := if_t hs c2
    refine V_aload_n X dX7_addChute_60 rfl 0 rfl ?_
    refine V_iconst X (1 : Int32) dX7_addChute_61 (by decide) ?_
    obtain ⟨q3, eq3, hs⟩ := bd_some hs
    refine V_callVs X [.int (1 : Int32)] dX7_addChute_62 m_X7_79 v_X7_fails ⟨Nat.le_of_ble_eq_true rfl, Nat.le_of_ble_eq_true rfl⟩ ⟨Nat.zero_le _, Nat.zero_le _⟩ rfl (Nat.le_of_ble_eq_true rfl) (gm7 hM) rfl cl7 (c_X7_fails hM eq3) ?_
    obtain rfl := Option.some.inj hs; exact V_iret X hr dX7_addChute_65
  · replace hs := if_f hs c2
    refine V_iload_n X dX7_addChute_8 rfl 2 rfl ?_
    refine V_iconst X (1 : Int32) dX7_addChute_9 (by decide) ?_
    refine V_bipush X (20 : Int32) dX7_addChute_10 (by decide) ?_
    obtain ⟨q4, eq4, hs⟩ := bd_some hs
    refine V_callSs X [.int p2, .int (1 : Int32), .int (20 : Int32)] dX7_addChute_12 m_X7_75 t_X7_isBetween ⟨Nat.le_of_ble_eq_true rfl, Nat.le_of_ble_eq_true rfl⟩ ⟨Nat.zero_le _, Nat.zero_le _⟩ rfl (Nat.le_of_ble_eq_true rfl) (c_X7_isBetween  eq4) ?_
    refine V_if_eq X 60 dX7_addChute_15 (by decide) (fun c5 => ?_) (fun c5 => ?_)
    · replace hs := if_t hs c5
      refine V_aload_n X dX7_addChute_60 rfl 0 rfl ?_
      refine V_iconst X (1 : Int32) dX7_addChute_61 (by decide) ?_
      obtain ⟨q6, eq6, hs⟩ := bd_some hs
      refine V_callVs X [.int (1 : Int32)] dX7_addChute_62 m_X7_79 v_X7_fails ⟨Nat.le_of_ble_eq_true rfl, Nat.le_of_ble_eq_true rfl⟩ ⟨Nat.zero_le _, Nat.zero_le _⟩ rfl (Nat.le_of_ble_eq_true rfl) (gm7 hM) rfl cl7 (c_X7_fails hM eq6) ?_
      obtain rfl := Option.some.inj hs; exact V_iret X hr dX7_addChute_65
    · replace hs := if_f hs c5
      refine V_iload_n X dX7_addChute_18 rfl 3 rfl ?_
      refine V_iconst X (0 : Int32) dX7_addChute_19 (by decide) ?_
      refine V_iconst X (5 : Int32) dX7_addChute_20 (by decide) ?_
      obtain ⟨q7, eq7, hs⟩ := bd_some hs
      refine V_callSs X [.int p3, .int (0 : Int32), .int (5 : Int32)] dX7_addChute_21 m_X7_75 t_X7_isBetween ⟨Nat.le_of_ble_eq_true rfl, Nat.le_of_ble_eq_true rfl⟩ ⟨Nat.zero_le _, Nat.zero_le _⟩ rfl (Nat.le_of_ble_eq_true rfl) (c_X7_isBetween  eq7) ?_
      refine V_if_eq X 60 dX7_addChute_24 (by decide) (fun c8 => ?_) (fun c8 => ?_)
      · replace hs := if_t hs c8
        refine V_aload_n X dX7_addChute_60 rfl 0 rfl ?_
        refine V_iconst X (1 : Int32) dX7_addChute_61 (by decide) ?_
        obtain ⟨q9, eq9, hs⟩ := bd_some hs
        refine V_callVs X [.int (1 : Int32)] dX7_addChute_62 m_X7_79 v_X7_fails ⟨Nat.le_of_ble_eq_true rfl, Nat.le_of_ble_eq_true rfl⟩ ⟨Nat.zero_le _, Nat.zero_le _⟩ rfl (Nat.le_of_ble_eq_true rfl) (gm7 hM) rfl cl7 (c_X7_fails hM eq9) ?_
        obtain rfl := Option.some.inj hs; exact V_iret X hr dX7_addChute_65
      · replace hs := if_f hs c8
        refine V_iload X dX7_addChute_27 4 rfl ?_
        refine V_iconst X (1 : Int32) dX7_addChute_29 (by decide) ?_
        refine V_bipush X (50 : Int32) dX7_addChute_30 (by decide) ?_
        obtain ⟨q10, eq10, hs⟩ := bd_some hs
        refine V_callSs X [.int p4, .int (1 : Int32), .int (50 : Int32)] dX7_addChute_32 m_X7_75 t_X7_isBetween ⟨Nat.le_of_ble_eq_true rfl, Nat.le_of_ble_eq_true rfl⟩ ⟨Nat.zero_le _, Nat.zero_le _⟩ rfl (Nat.le_of_ble_eq_true rfl) (c_X7_isBetween  eq10) ?_
        refine V_if_eq X 60 dX7_addChute_35 (by decide) (fun c11 => ?_) (fun c11 => ?_)
        · replace hs := if_t hs c11
          refine V_aload_n X dX7_addChute_60 rfl 0 rfl ?_
          refine V_iconst X (1 : Int32) dX7_addChute_61 (by decide) ?_
          obtain ⟨q12, eq12, hs⟩ := bd_some hs
          refine V_callVs X [.int (1 : Int32)] dX7_addChute_62 m_X7_79 v_X7_fails ⟨Nat.le_of_ble_eq_true rfl, Nat.le_of_ble_eq_true rfl⟩ ⟨Nat.zero_le _, Nat.zero_le _⟩ rfl (Nat.le_of_ble_eq_true rfl) (gm7 hM) rfl cl7 (c_X7_fails hM eq12) ?_
          obtain rfl := Option.some.inj hs; exact V_iret X hr dX7_addChute_65
        · replace hs := if_f hs c11
          refine V_iload X dX7_addChute_38 5 rfl ?_
          refine V_iconst X (1 : Int32) dX7_addChute_40 (by decide) ?_
          refine V_bipush X (9 : Int32) dX7_addChute_41 (by decide) ?_
          obtain ⟨q13, eq13, hs⟩ := bd_some hs
          refine V_callSs X [.int p5, .int (1 : Int32), .int (9 : Int32)] dX7_addChute_43 m_X7_75 t_X7_isBetween ⟨Nat.le_of_ble_eq_true rfl, Nat.le_of_ble_eq_true rfl⟩ ⟨Nat.zero_le _, Nat.zero_le _⟩ rfl (Nat.le_of_ble_eq_true rfl) (c_X7_isBetween  eq13) ?_
          refine V_if_eq X 60 dX7_addChute_46 (by decide) (fun c14 => ?_) (fun c14 => ?_)
          · replace hs := if_t hs c14
            refine V_aload_n X dX7_addChute_60 rfl 0 rfl ?_
            refine V_iconst X (1 : Int32) dX7_addChute_61 (by decide) ?_
            obtain ⟨q15, eq15, hs⟩ := bd_some hs
            refine V_callVs X [.int (1 : Int32)] dX7_addChute_62 m_X7_79 v_X7_fails ⟨Nat.le_of_ble_eq_true rfl, Nat.le_of_ble_eq_true rfl⟩ ⟨Nat.zero_le _, Nat.zero_le _⟩ rfl (Nat.le_of_ble_eq_true rfl) (gm7 hM) rfl cl7 (c_X7_fails hM eq15) ?_
            obtain rfl := Option.some.inj hs; exact V_iret X hr dX7_addChute_65
          · replace hs := if_f hs c14
            refine V_iload X dX7_addChute_49 6 rfl ?_
            refine V_iconst X (0 : Int32) dX7_addChute_51 (by decide) ?_
            refine V_bipush X (9 : Int32) dX7_addChute_52 (by decide) ?_
            obtain ⟨q16, eq16, hs⟩ := bd_some hs
            refine V_callSs X [.int p6, .int (0 : Int32), .int (9 : Int32)] dX7_addChute_54 m_X7_75 t_X7_isBetween ⟨Nat.le_of_ble_eq_true rfl, Nat.le_of_ble_eq_true rfl⟩ ⟨Nat.zero_le _, Nat.zero_le _⟩ rfl (Nat.le_of_ble_eq_true rfl) (c_X7_isBetween  eq16) ?_
            refine V_if_ne X 66 dX7_addChute_57 (by decide) (fun c17 => ?_) (fun c17 => ?_)
            · replace hs := if_f hs c17
              refine V_aload_n X dX7_addChute_66 rfl 0 rfl ?_
              refine V_get X dX7_addChute_67 r_X7_60 (gm7 hM) rfl rfl ?_
              refine V_bipush X (8 : Int32) dX7_addChute_70 (by decide) ?_
              refine V_icmp_ne X 81 dX7_addChute_72 (by decide) (fun c18 => ?_) (fun c18 => ?_)
              · replace hs := if_f hs c18
                refine V_aload_n X dX7_addChute_81 rfl 0 rfl ?_
                refine V_iconst X (0 : Int32) dX7_addChute_82 (by decide) ?_
                refine V_put X dX7_addChute_83 f_X7_54 (gm7 hM) rfl (Nat.le_of_ble_eq_true rfl) rfl rfl rfl (fun Z19 eZ19 => ?_)
                replace hs := sv_some hs Z19 eZ19
                clear eZ19
                refine V_aload_n X dX7_addChute_86 rfl 0 rfl ?_
                obtain ⟨Z21, eZ21, hs⟩ := bd_some hs
                refine V_callVv X [] dX7_addChute_87 m_X7_97 v_X7_remembers ⟨Nat.le_of_ble_eq_true rfl, Nat.le_of_ble_eq_true rfl⟩ ⟨Nat.zero_le _, Nat.zero_le _⟩ rfl (Nat.le_of_ble_eq_true rfl) (gm7 hM) rfl cl7 (c_X7_remembers hM eZ21) ?_
                refine V_iconst X (0 : Int32) dX7_addChute_90 (by decide) ?_
                refine V_istore X dX7_addChute_91 [(7, .int (0 : Int32)), (0, .ref (ad 7 0 0)), (1, .int p1), (2, .int p2), (3, .int p3), (4, .int p4), (5, .int p5), (6, .int p6)] (by decide) rfl ?_
                have L93 : ∀ (n : Nat) (v7 : Int32) (S1 : S4), s_X7_addChute_L93 fu p1 p2 p3 p4 p5 p6 n v7 S1 = some out → V D cA dm ad A 8 p l e ({ frames := 3, cells := 0, slots := 0, locals := 67 }) s m args below meth c 0 0 (MQ below (gQ D cA dm ad out.2 (some (.int out.1)) A) args s 0 0 A) S1 93 [(0, .ref (ad 7 0 0)), (1, .int p1), (2, .int p2), (3, .int p3), (4, .int p4), (5, .int p5), (6, .int p6), (7, .int v7)] [] := by
                  intro n
                  induction n with
                  | zero => intro v7 S1 hs; rw [s_X7_addChute_L93] at hs; cases hs
                  | succ f93 ih93 =>
                    intro v7 Z22 hs
                    rw [s_X7_addChute_L93] at hs
                    refine V_iload X dX7_addChute_93 7 rfl ?_
                    refine V_bipush X (15 : Int32) dX7_addChute_95 (by decide) ?_
                    refine V_icmp_ge X 117 dX7_addChute_97 (by decide) (fun c23 => ?_) (fun c23 => ?_)
                    · replace hs := if_t hs c23
                      refine V_aload_n X dX7_addChute_117 rfl 0 rfl ?_
                      refine V_aload_n X dX7_addChute_118 rfl 0 rfl ?_
                      refine V_get X dX7_addChute_119 r_X7_60 (gm7 hM) rfl rfl ?_
                      refine V_iconst X (0 : Int32) dX7_addChute_122 (by decide) ?_
                      refine V_iload_n X dX7_addChute_123 rfl 1 rfl ?_
                      obtain ⟨Z25, eZ25, hs⟩ := bd_some hs
                      refine V_callVv X [.int (Z22 7 0 0 9), .int (0 : Int32), .int p1] dX7_addChute_124 m_X7_100 v_X7_setsChute ⟨Nat.le_of_ble_eq_true rfl, Nat.le_of_ble_eq_true rfl⟩ ⟨Nat.zero_le _, Nat.zero_le _⟩ rfl (Nat.le_of_ble_eq_true rfl) (gm7 hM) rfl cl7 (c_X7_setsChute hM eZ25) ?_
                      refine V_aload_n X dX7_addChute_127 rfl 0 rfl ?_
                      refine V_aload_n X dX7_addChute_128 rfl 0 rfl ?_
                      refine V_get X dX7_addChute_129 r_X7_60 (gm7 hM) rfl rfl ?_
                      refine V_iconst X (1 : Int32) dX7_addChute_132 (by decide) ?_
                      refine V_iload_n X dX7_addChute_133 rfl 2 rfl ?_
                      obtain ⟨Z27, eZ27, hs⟩ := bd_some hs
                      refine V_callVv X [.int (Z25 7 0 0 9), .int (1 : Int32), .int p2] dX7_addChute_134 m_X7_100 v_X7_setsChute ⟨Nat.le_of_ble_eq_true rfl, Nat.le_of_ble_eq_true rfl⟩ ⟨Nat.zero_le _, Nat.zero_le _⟩ rfl (Nat.le_of_ble_eq_true rfl) (gm7 hM) rfl cl7 (c_X7_setsChute hM eZ27) ?_
                      refine V_aload_n X dX7_addChute_137 rfl 0 rfl ?_
                      refine V_aload_n X dX7_addChute_138 rfl 0 rfl ?_
                      refine V_get X dX7_addChute_139 r_X7_60 (gm7 hM) rfl rfl ?_
                      refine V_iconst X (2 : Int32) dX7_addChute_142 (by decide) ?_
                      refine V_iload_n X dX7_addChute_143 rfl 3 rfl ?_
                      obtain ⟨Z29, eZ29, hs⟩ := bd_some hs
                      refine V_callVv X [.int (Z27 7 0 0 9), .int (2 : Int32), .int p3] dX7_addChute_144 m_X7_100 v_X7_setsChute ⟨Nat.le_of_ble_eq_true rfl, Nat.le_of_ble_eq_true rfl⟩ ⟨Nat.zero_le _, Nat.zero_le _⟩ rfl (Nat.le_of_ble_eq_true rfl) (gm7 hM) rfl cl7 (c_X7_setsChute hM eZ29) ?_
                      refine V_aload_n X dX7_addChute_147 rfl 0 rfl ?_
                      refine V_aload_n X dX7_addChute_148 rfl 0 rfl ?_
                      refine V_get X dX7_addChute_149 r_X7_60 (gm7 hM) rfl rfl ?_
                      refine V_iconst X (3 : Int32) dX7_addChute_152 (by decide) ?_
                      refine V_iload X dX7_addChute_153 4 rfl ?_
                      obtain ⟨Z31, eZ31, hs⟩ := bd_some hs
                      refine V_callVv X [.int (Z29 7 0 0 9), .int (3 : Int32), .int p4] dX7_addChute_155 m_X7_100 v_X7_setsChute ⟨Nat.le_of_ble_eq_true rfl, Nat.le_of_ble_eq_true rfl⟩ ⟨Nat.zero_le _, Nat.zero_le _⟩ rfl (Nat.le_of_ble_eq_true rfl) (gm7 hM) rfl cl7 (c_X7_setsChute hM eZ31) ?_
                      refine V_aload_n X dX7_addChute_158 rfl 0 rfl ?_
                      refine V_aload_n X dX7_addChute_159 rfl 0 rfl ?_
                      refine V_get X dX7_addChute_160 r_X7_60 (gm7 hM) rfl rfl ?_
                      refine V_iconst X (4 : Int32) dX7_addChute_163 (by decide) ?_
                      refine V_iload X dX7_addChute_164 5 rfl ?_
                      obtain ⟨Z33, eZ33, hs⟩ := bd_some hs
                      refine V_callVv X [.int (Z31 7 0 0 9), .int (4 : Int32), .int p5] dX7_addChute_166 m_X7_100 v_X7_setsChute ⟨Nat.le_of_ble_eq_true rfl, Nat.le_of_ble_eq_true rfl⟩ ⟨Nat.zero_le _, Nat.zero_le _⟩ rfl (Nat.le_of_ble_eq_true rfl) (gm7 hM) rfl cl7 (c_X7_setsChute hM eZ33) ?_
                      refine V_aload_n X dX7_addChute_169 rfl 0 rfl ?_
                      refine V_aload_n X dX7_addChute_170 rfl 0 rfl ?_
                      refine V_get X dX7_addChute_171 r_X7_60 (gm7 hM) rfl rfl ?_
                      refine V_iconst X (5 : Int32) dX7_addChute_174 (by decide) ?_
                      refine V_iload X dX7_addChute_175 6 rfl ?_
                      obtain ⟨Z35, eZ35, hs⟩ := bd_some hs
                      refine V_callVv X [.int (Z33 7 0 0 9), .int (5 : Int32), .int p6] dX7_addChute_177 m_X7_100 v_X7_setsChute ⟨Nat.le_of_ble_eq_true rfl, Nat.le_of_ble_eq_true rfl⟩ ⟨Nat.zero_le _, Nat.zero_le _⟩ rfl (Nat.le_of_ble_eq_true rfl) (gm7 hM) rfl cl7 (c_X7_setsChute hM eZ35) ?_
                      refine V_aload_n X dX7_addChute_180 rfl 0 rfl ?_
                      refine V_aload_n X dX7_addChute_181 rfl 0 rfl ?_
                      refine V_get X dX7_addChute_182 r_X7_60 (gm7 hM) rfl rfl ?_
                      refine V_bipush X (10 : Int32) dX7_addChute_185 (by decide) ?_
                      refine V_iconst X (-1 : Int32) dX7_addChute_187 (by decide) ?_
                      obtain ⟨Z37, eZ37, hs⟩ := bd_some hs
                      refine V_callVv X [.int (Z35 7 0 0 9), .int (10 : Int32), .int (-1 : Int32)] dX7_addChute_188 m_X7_100 v_X7_setsChute ⟨Nat.le_of_ble_eq_true rfl, Nat.le_of_ble_eq_true rfl⟩ ⟨Nat.zero_le _, Nat.zero_le _⟩ rfl (Nat.le_of_ble_eq_true rfl) (gm7 hM) rfl cl7 (c_X7_setsChute hM eZ37) ?_
                      refine V_aload_n X dX7_addChute_191 rfl 0 rfl ?_
                      refine V_dup X dX7_addChute_192 rfl ?_
                      refine V_get X dX7_addChute_193 r_X7_60 (gm7 hM) rfl rfl ?_
                      refine V_iconst X (1 : Int32) dX7_addChute_196 (by decide) ?_
                      refine V_iadd X dX7_addChute_197 ?_
                      refine V_put X dX7_addChute_198 f_X7_60 (gm7 hM) rfl (Nat.le_of_ble_eq_true rfl) rfl rfl rfl (fun Z38 eZ38 => ?_)
                      replace hs := sv_some hs Z38 eZ38
                      clear eZ38
                      refine V_aload_n X dX7_addChute_201 rfl 0 rfl ?_
                      refine V_get X dX7_addChute_202 r_X7_60 (gm7 hM) rfl rfl ?_
                      refine V_iconst X (1 : Int32) dX7_addChute_205 (by decide) ?_
                      refine V_isub X dX7_addChute_206 ?_
                      obtain rfl := Option.some.inj hs; exact V_iret X hr dX7_addChute_207
                    · replace hs := if_f hs c23
                      refine V_aload_n X dX7_addChute_100 rfl 0 rfl ?_
                      refine V_aload_n X dX7_addChute_101 rfl 0 rfl ?_
                      refine V_get X dX7_addChute_102 r_X7_60 (gm7 hM) rfl rfl ?_
                      refine V_iload X dX7_addChute_105 7 rfl ?_
                      refine V_iconst X (0 : Int32) dX7_addChute_107 (by decide) ?_
                      obtain ⟨Z40, eZ40, hs⟩ := bd_some hs
                      refine V_callVv X [.int (Z22 7 0 0 9), .int v7, .int (0 : Int32)] dX7_addChute_108 m_X7_100 v_X7_setsChute ⟨Nat.le_of_ble_eq_true rfl, Nat.le_of_ble_eq_true rfl⟩ ⟨Nat.zero_le _, Nat.zero_le _⟩ rfl (Nat.le_of_ble_eq_true rfl) (gm7 hM) rfl cl7 (c_X7_setsChute hM eZ40) ?_
                      refine V_iinc X (v7 + (1 : Int32)) dX7_addChute_111 7 rfl rfl [(7, .int (v7 + (1 : Int32))), (0, .ref (ad 7 0 0)), (1, .int p1), (2, .int p2), (3, .int p3), (4, .int p4), (5, .int p5), (6, .int p6)] (by decide) rfl ?_
                      refine V_goto X 93 dX7_addChute_114 (by decide) ?_
                      refine V_sub [1, 2, 3, 4, 5, 6, 7, 0] rfl ?_
                      exact ih93 _ _ hs
                refine V_sub [1, 2, 3, 4, 5, 6, 7, 0] rfl ?_
                exact L93 _ _ _ hs
              · replace hs := if_t hs c18
                refine V_aload_n X dX7_addChute_75 rfl 0 rfl ?_
                refine V_iconst X (2 : Int32) dX7_addChute_76 (by decide) ?_
                obtain ⟨q41, eq41, hs⟩ := bd_some hs
                refine V_callVs X [.int (2 : Int32)] dX7_addChute_77 m_X7_79 v_X7_fails ⟨Nat.le_of_ble_eq_true rfl, Nat.le_of_ble_eq_true rfl⟩ ⟨Nat.zero_le _, Nat.zero_le _⟩ rfl (Nat.le_of_ble_eq_true rfl) (gm7 hM) rfl cl7 (c_X7_fails hM eq41) ?_
                obtain rfl := Option.some.inj hs; exact V_iret X hr dX7_addChute_80
            · replace hs := if_t hs c17
              refine V_aload_n X dX7_addChute_60 rfl 0 rfl ?_
              refine V_iconst X (1 : Int32) dX7_addChute_61 (by decide) ?_
              obtain ⟨q42, eq42, hs⟩ := bd_some hs
              refine V_callVs X [.int (1 : Int32)] dX7_addChute_62 m_X7_79 v_X7_fails ⟨Nat.le_of_ble_eq_true rfl, Nat.le_of_ble_eq_true rfl⟩ ⟨Nat.zero_le _, Nat.zero_le _⟩ rfl (Nat.le_of_ble_eq_true rfl) (gm7 hM) rfl cl7 (c_X7_fails hM eq42) ?_
              obtain rfl := Option.some.inj hs; exact V_iret X hr dX7_addChute_65

def s_X7_feed (p1 : Int32) (S : S4) : Option (Int32 × S4) := (if (S 7 0 0 16) = (80 : Int32) then (s_X7_fails (1 : Int32) S).bind fun q6 => some (q6.1, q6.2) else sv (u4 S 7 0 0 0 (0 : Int32)) fun Z2 => gd (inb (Z2 7 0 0 16) 80) (sv (u4 Z2 30 0 0 ((Z2 7 0 0 16).toNatClampNeg) (vp_nar .char p1)) fun Z4 => sv (u4 Z4 7 0 0 16 ((Z4 7 0 0 16) + (1 : Int32))) fun Z5 => some ((Z5 7 0 0 16), Z5)))
set_option maxRecDepth 100000 in
set_option maxHeartbeats 4000000 in
theorem c_X7_feed {l : Launch} {D : va_G} {cA : Nat → ClassId} {dm : Dm} {ad : Ad} {S : S4} {p1 : Int32} (hM : DM dm) {out : (Int32 × S4)} (hs : s_X7_feed p1 S = some out) : Ct D cA dm ad l yX7_feed cX7_feed 2 (some .int) 1 21 S [.ref (ad 7 0 0), .int p1] (some (.int out.1)) out.2 := by
  refine Ct.of (by decide +kernel) (Nat.le_of_ble_eq_true rfl) [(0, .ref (ad 7 0 0)), (1, .int p1)] rfl (fun p e s m args below meth c A X hr => ?_)
  unfold s_X7_feed at hs
  refine V_aload_n X dX7_feed_0 rfl 0 rfl ?_
  refine V_get X dX7_feed_1 r_X7_104 (gm7 hM) rfl rfl ?_
  refine V_bipush X (80 : Int32) dX7_feed_4 (by decide) ?_
  refine V_icmp_ne X 15 dX7_feed_6 (by decide) (fun c1 => ?_) (fun c1 => ?_)
  · replace hs := if_f hs c1
    refine V_aload_n X dX7_feed_15 rfl 0 rfl ?_
    refine V_iconst X (0 : Int32) dX7_feed_16 (by decide) ?_
    refine V_put X dX7_feed_17 f_X7_54 (gm7 hM) rfl (Nat.le_of_ble_eq_true rfl) rfl rfl rfl (fun Z2 eZ2 => ?_)
    replace hs := sv_some hs Z2 eZ2
    clear eZ2
    refine V_aload_n X dX7_feed_20 rfl 0 rfl ?_
    refine V_get X dX7_feed_21 r_X7_32 (gm7 hM) rfl rfl ?_
    refine V_aload_n X dX7_feed_24 rfl 0 rfl ?_
    refine V_get X dX7_feed_25 r_X7_104 (gm7 hM) rfl rfl ?_
    refine V_iload_n X dX7_feed_28 rfl 1 rfl ?_
    obtain ⟨h3, hs⟩ := gd_some hs
    refine V_cast X dX7_feed_29 (gm30 hM) (fun _ => rfl) h3 (fun Z4 eZ4 => ?_)
    replace hs := sv_some hs Z4 eZ4
    clear eZ4
    refine V_aload_n X dX7_feed_30 rfl 0 rfl ?_
    refine V_dup X dX7_feed_31 rfl ?_
    refine V_get X dX7_feed_32 r_X7_104 (gm7 hM) rfl rfl ?_
    refine V_iconst X (1 : Int32) dX7_feed_35 (by decide) ?_
    refine V_iadd X dX7_feed_36 ?_
    refine V_put X dX7_feed_37 f_X7_104 (gm7 hM) rfl (Nat.le_of_ble_eq_true rfl) rfl rfl rfl (fun Z5 eZ5 => ?_)
    replace hs := sv_some hs Z5 eZ5
    clear eZ5
    refine V_aload_n X dX7_feed_40 rfl 0 rfl ?_
    refine V_get X dX7_feed_41 r_X7_104 (gm7 hM) rfl rfl ?_
    obtain rfl := Option.some.inj hs; exact V_iret X hr dX7_feed_44
  · replace hs := if_t hs c1
    refine V_aload_n X dX7_feed_9 rfl 0 rfl ?_
    refine V_iconst X (1 : Int32) dX7_feed_10 (by decide) ?_
    obtain ⟨q6, eq6, hs⟩ := bd_some hs
    refine V_callVs X [.int (1 : Int32)] dX7_feed_11 m_X7_79 v_X7_fails ⟨Nat.le_of_ble_eq_true rfl, Nat.le_of_ble_eq_true rfl⟩ ⟨Nat.zero_le _, Nat.zero_le _⟩ rfl (Nat.le_of_ble_eq_true rfl) (gm7 hM) rfl cl7 (c_X7_fails hM eq6) ?_
    obtain rfl := Option.some.inj hs; exact V_iret X hr dX7_feed_14

def s_X7_isNext (p1 : Int32) (p2 : Int32) (S : S4) : Option Int32 := (if (S 7 0 0 16) ≤ (S 7 0 0 17) then some (0 : Int32) else gd (inb (S 7 0 0 17) 80) ((if (S 30 0 0 (S 7 0 0 17).toNatClampNeg) < p1 then some (0 : Int32) else gd (inb (S 7 0 0 17) 80) ((if p2 < (S 30 0 0 (S 7 0 0 17).toNatClampNeg) then some (0 : Int32) else some (1 : Int32))))))
set_option maxRecDepth 100000 in
set_option maxHeartbeats 4000000 in
theorem c_X7_isNext {l : Launch} {D : va_G} {cA : Nat → ClassId} {dm : Dm} {ad : Ad} {S : S4} {p1 : Int32} {p2 : Int32} (hM : DM dm) {out : Int32} (hs : s_X7_isNext p1 p2 S = some out) : Ct D cA dm ad l yX7_isNext cX7_isNext 3 (some .boolean) 0 0 S [.ref (ad 7 0 0), .int p1, .int p2] (some (.int out)) S := by
  refine Ct.of (by decide +kernel) (Nat.le_of_ble_eq_true rfl) [(0, .ref (ad 7 0 0)), (1, .int p1), (2, .int p2)] rfl (fun p e s m args below meth c A X hr => ?_)
  unfold s_X7_isNext at hs
  refine V_aload_n X dX7_isNext_0 rfl 0 rfl ?_
  refine V_get X dX7_isNext_1 r_X7_107 (gm7 hM) rfl rfl ?_
  refine V_aload_n X dX7_isNext_4 rfl 0 rfl ?_
  refine V_get X dX7_isNext_5 r_X7_104 (gm7 hM) rfl rfl ?_
  refine V_icmp_ge X 41 dX7_isNext_8 (by decide) (fun c1 => ?_) (fun c1 => ?_)
  · replace hs := if_t hs c1
    refine V_iconst X (0 : Int32) dX7_isNext_41 (by decide) ?_
    obtain rfl := Option.some.inj hs; exact V_zret X hr nb0 dX7_isNext_42
  · replace hs := if_f hs c1
    refine V_aload_n X dX7_isNext_11 rfl 0 rfl ?_
    refine V_get X dX7_isNext_12 r_X7_32 (gm7 hM) rfl rfl ?_
    refine V_aload_n X dX7_isNext_15 rfl 0 rfl ?_
    refine V_get X dX7_isNext_16 r_X7_107 (gm7 hM) rfl rfl ?_
    obtain ⟨h2, hs⟩ := gd_some hs
    refine V_cald X dX7_isNext_19 (gm30 hM) rfl h2 ?_
    refine V_iload_n X dX7_isNext_20 rfl 1 rfl ?_
    refine V_icmp_lt X 41 dX7_isNext_21 (by decide) (fun c3 => ?_) (fun c3 => ?_)
    · replace hs := if_t hs c3
      refine V_iconst X (0 : Int32) dX7_isNext_41 (by decide) ?_
      obtain rfl := Option.some.inj hs; exact V_zret X hr nb0 dX7_isNext_42
    · replace hs := if_f hs c3
      refine V_aload_n X dX7_isNext_24 rfl 0 rfl ?_
      refine V_get X dX7_isNext_25 r_X7_32 (gm7 hM) rfl rfl ?_
      refine V_aload_n X dX7_isNext_28 rfl 0 rfl ?_
      refine V_get X dX7_isNext_29 r_X7_107 (gm7 hM) rfl rfl ?_
      obtain ⟨h4, hs⟩ := gd_some hs
      refine V_cald X dX7_isNext_32 (gm30 hM) rfl h4 ?_
      refine V_iload_n X dX7_isNext_33 rfl 2 rfl ?_
      refine V_icmp_gt X 41 dX7_isNext_34 (by decide) (fun c5 => ?_) (fun c5 => ?_)
      · replace hs := if_t hs c5
        refine V_iconst X (0 : Int32) dX7_isNext_41 (by decide) ?_
        obtain rfl := Option.some.inj hs; exact V_zret X hr nb0 dX7_isNext_42
      · replace hs := if_f hs c5
        refine V_iconst X (1 : Int32) dX7_isNext_37 (by decide) ?_
        refine V_goto X 42 dX7_isNext_38 (by decide) ?_
        obtain rfl := Option.some.inj hs; exact V_zret X hr nb1 dX7_isNext_42

def s_X7_skips (p1 : Int32) (S : S4) : Option (Int32 × S4) := (s_X7_isNext p1 p1 S).bind fun q1 => (if q1 = 0 then some ((0 : Int32), S) else sv (u4 S 7 0 0 17 ((S 7 0 0 17) + (1 : Int32))) fun Z3 => some ((1 : Int32), Z3))
set_option maxRecDepth 100000 in
set_option maxHeartbeats 4000000 in
theorem c_X7_skips {l : Launch} {D : va_G} {cA : Nat → ClassId} {dm : Dm} {ad : Ad} {S : S4} {p1 : Int32} (hM : DM dm) {out : (Int32 × S4)} (hs : s_X7_skips p1 S = some out) : Ct D cA dm ad l yX7_skips cX7_skips 2 (some .boolean) 1 22 S [.ref (ad 7 0 0), .int p1] (some (.int out.1)) out.2 := by
  refine Ct.of (by decide +kernel) (Nat.le_of_ble_eq_true rfl) [(0, .ref (ad 7 0 0)), (1, .int p1)] rfl (fun p e s m args below meth c A X hr => ?_)
  unfold s_X7_skips at hs
  refine V_aload_n X dX7_skips_0 rfl 0 rfl ?_
  refine V_iload_n X dX7_skips_1 rfl 1 rfl ?_
  refine V_iload_n X dX7_skips_2 rfl 1 rfl ?_
  obtain ⟨q1, eq1, hs⟩ := bd_some hs
  refine V_callVs X [.int p1, .int p1] dX7_skips_3 m_X7_110 v_X7_isNext ⟨Nat.le_of_ble_eq_true rfl, Nat.le_of_ble_eq_true rfl⟩ ⟨Nat.zero_le _, Nat.zero_le _⟩ rfl (Nat.le_of_ble_eq_true rfl) (gm7 hM) rfl cl7 (c_X7_isNext hM eq1) ?_
  refine V_if_ne X 11 dX7_skips_6 (by decide) (fun c2 => ?_) (fun c2 => ?_)
  · replace hs := if_f hs c2
    refine V_aload_n X dX7_skips_11 rfl 0 rfl ?_
    refine V_dup X dX7_skips_12 rfl ?_
    refine V_get X dX7_skips_13 r_X7_107 (gm7 hM) rfl rfl ?_
    refine V_iconst X (1 : Int32) dX7_skips_16 (by decide) ?_
    refine V_iadd X dX7_skips_17 ?_
    refine V_put X dX7_skips_18 f_X7_107 (gm7 hM) rfl (Nat.le_of_ble_eq_true rfl) rfl rfl rfl (fun Z3 eZ3 => ?_)
    replace hs := sv_some hs Z3 eZ3
    clear eZ3
    refine V_iconst X (1 : Int32) dX7_skips_21 (by decide) ?_
    obtain rfl := Option.some.inj hs; exact V_zret X hr nb1 dX7_skips_22
  · replace hs := if_t hs c2
    refine V_iconst X (0 : Int32) dX7_skips_9 (by decide) ?_
    obtain rfl := Option.some.inj hs; exact V_zret X hr nb0 dX7_skips_10

def s_X7_takesNumber_L4 (fu : Nat)  : Nat → Int32 → Int32 → S4 → Option (Int32 × S4)
  | 0, _, _, _ => none
  | f4+1, v1, v2, Z1 => (if (4 : Int32) ≤ v2 then some (v1, Z1) else (s_X7_isNext (48 : Int32) (57 : Int32) Z1).bind fun q3 => (if q3 = 0 then some (v1, Z1) else ((if 0 ≤ v1 then some v1 else some (0 : Int32))).bind fun q5 => gd (inb (Z1 7 0 0 17) 80) (sv (u4 Z1 7 0 0 17 ((Z1 7 0 0 17) + (1 : Int32))) fun Z7 => s_X7_takesNumber_L4 fu f4 ((((10 : Int32) * q5) + (Z1 30 0 0 (Z1 7 0 0 17).toNatClampNeg)) - (48 : Int32)) (v2 + (1 : Int32)) Z7)))
def s_X7_takesNumber (fu : Nat)  (S : S4) : Option (Int32 × S4) := s_X7_takesNumber_L4 fu fu (-1 : Int32) (0 : Int32) S
set_option maxRecDepth 100000 in
set_option maxHeartbeats 4000000 in
theorem c_X7_takesNumber {l : Launch} {D : va_G} {cA : Nat → ClassId} {dm : Dm} {ad : Ad} {fu : Nat} {S : S4} (hM : DM dm) {out : (Int32 × S4)} (hs : s_X7_takesNumber fu S = some out) : Ct D cA dm ad l yX7_takesNumber cX7_takesNumber 3 (some .int) 1 22 S [.ref (ad 7 0 0)] (some (.int out.1)) out.2 := by
  refine Ct.of (by decide +kernel) (Nat.le_of_ble_eq_true rfl) [(0, .ref (ad 7 0 0))] rfl (fun p e s m args below meth c A X hr => ?_)
  unfold s_X7_takesNumber at hs
  refine V_iconst X (-1 : Int32) dX7_takesNumber_0 (by decide) ?_
  refine V_istore_n X dX7_takesNumber_1 rfl [(1, .int (-1 : Int32)), (0, .ref (ad 7 0 0))] (by decide) rfl ?_
  refine V_iconst X (0 : Int32) dX7_takesNumber_2 (by decide) ?_
  refine V_istore_n X dX7_takesNumber_3 rfl [(2, .int (0 : Int32)), (1, .int (-1 : Int32)), (0, .ref (ad 7 0 0))] (by decide) rfl ?_
  have L4 : ∀ (n : Nat) (v1 v2 : Int32) (S1 : S4), s_X7_takesNumber_L4 fu n v1 v2 S1 = some out → V D cA dm ad A 3 p l e ({ frames := 1, cells := 0, slots := 0, locals := 22 }) s m args below meth c 0 0 (MQ below (gQ D cA dm ad out.2 (some (.int out.1)) A) args s 0 0 A) S1 4 [(0, .ref (ad 7 0 0)), (1, .int v1), (2, .int v2)] [] := by
    intro n
    induction n with
    | zero => intro v1 v2 S1 hs; rw [s_X7_takesNumber_L4] at hs; cases hs
    | succ f4 ih4 =>
      intro v1 v2 Z1 hs
      rw [s_X7_takesNumber_L4] at hs
      refine V_iload_n X dX7_takesNumber_4 rfl 2 rfl ?_
      refine V_iconst X (4 : Int32) dX7_takesNumber_5 (by decide) ?_
      refine V_icmp_ge X 62 dX7_takesNumber_6 (by decide) (fun c2 => ?_) (fun c2 => ?_)
      · replace hs := if_t hs c2
        refine V_iload_n X dX7_takesNumber_62 rfl 1 rfl ?_
        obtain rfl := Option.some.inj hs; exact V_iret X hr dX7_takesNumber_63
      · replace hs := if_f hs c2
        refine V_aload_n X dX7_takesNumber_9 rfl 0 rfl ?_
        refine V_bipush X (48 : Int32) dX7_takesNumber_10 (by decide) ?_
        refine V_bipush X (57 : Int32) dX7_takesNumber_12 (by decide) ?_
        obtain ⟨q3, eq3, hs⟩ := bd_some hs
        refine V_callVs X [.int (48 : Int32), .int (57 : Int32)] dX7_takesNumber_14 m_X7_110 v_X7_isNext ⟨Nat.le_of_ble_eq_true rfl, Nat.le_of_ble_eq_true rfl⟩ ⟨Nat.zero_le _, Nat.zero_le _⟩ rfl (Nat.le_of_ble_eq_true rfl) (gm7 hM) rfl cl7 (c_X7_isNext hM eq3) ?_
        refine V_if_eq X 62 dX7_takesNumber_17 (by decide) (fun c4 => ?_) (fun c4 => ?_)
        · replace hs := if_t hs c4
          refine V_iload_n X dX7_takesNumber_62 rfl 1 rfl ?_
          obtain rfl := Option.some.inj hs; exact V_iret X hr dX7_takesNumber_63
        · replace hs := if_f hs c4
          refine V_bipush X (10 : Int32) dX7_takesNumber_20 (by decide) ?_
          refine V_iload_n X dX7_takesNumber_22 rfl 1 rfl ?_
          refine jn (P := fun q => V D cA dm ad A 3 p l e ({ frames := 1, cells := 0, slots := 0, locals := 22 }) s m args below meth c 0 0 (MQ below (gQ D cA dm ad out.2 (some (.int out.1)) A) args s 0 0 A) Z1 31 [(0, .ref (ad 7 0 0)), (1, .int v1), (2, .int v2)] [.int q, .int (10 : Int32)]) hs (fun q5 hs => ?_) (fun J31 hs => ?_)
          · refine V_imul X dX7_takesNumber_31 ?_
            refine V_aload_n X dX7_takesNumber_32 rfl 0 rfl ?_
            refine V_get X dX7_takesNumber_33 r_X7_32 (gm7 hM) rfl rfl ?_
            refine V_aload_n X dX7_takesNumber_36 rfl 0 rfl ?_
            refine V_get X dX7_takesNumber_37 r_X7_107 (gm7 hM) rfl rfl ?_
            obtain ⟨h6, hs⟩ := gd_some hs
            refine V_cald X dX7_takesNumber_40 (gm30 hM) rfl h6 ?_
            refine V_iadd X dX7_takesNumber_41 ?_
            refine V_bipush X (48 : Int32) dX7_takesNumber_42 (by decide) ?_
            refine V_isub X dX7_takesNumber_44 ?_
            refine V_istore_n X dX7_takesNumber_45 rfl [(1, .int ((((10 : Int32) * q5) + (Z1 30 0 0 (Z1 7 0 0 17).toNatClampNeg)) - (48 : Int32))), (0, .ref (ad 7 0 0)), (2, .int v2)] (by decide) rfl ?_
            refine V_aload_n X dX7_takesNumber_46 rfl 1 rfl ?_
            refine V_dup X dX7_takesNumber_47 rfl ?_
            refine V_get X dX7_takesNumber_48 r_X7_107 (gm7 hM) rfl rfl ?_
            refine V_iconst X (1 : Int32) dX7_takesNumber_51 (by decide) ?_
            refine V_iadd X dX7_takesNumber_52 ?_
            refine V_put X dX7_takesNumber_53 f_X7_107 (gm7 hM) rfl (Nat.le_of_ble_eq_true rfl) rfl rfl rfl (fun Z7 eZ7 => ?_)
            replace hs := sv_some hs Z7 eZ7
            clear eZ7
            refine V_iinc X (v2 + (1 : Int32)) dX7_takesNumber_56 2 rfl rfl [(2, .int (v2 + (1 : Int32))), (1, .int ((((10 : Int32) * q5) + (Z1 30 0 0 (Z1 7 0 0 17).toNatClampNeg)) - (48 : Int32))), (0, .ref (ad 7 0 0))] (by decide) rfl ?_
            refine V_goto X 4 dX7_takesNumber_59 (by decide) ?_
            refine V_sub [2, 1, 0] rfl ?_
            exact ih4 _ _ _ hs
          · refine V_if_ge X 30 dX7_takesNumber_23 (by decide) (fun c8 => ?_) (fun c8 => ?_)
            · replace hs := if_tB hs c8
              refine V_iload_n X dX7_takesNumber_30 rfl 1 rfl ?_
              exact J31 _ (bs_some hs)
            · replace hs := if_fB hs c8
              refine V_iconst X (0 : Int32) dX7_takesNumber_26 (by decide) ?_
              refine V_goto X 31 dX7_takesNumber_27 (by decide) ?_
              exact J31 _ (bs_some hs)
  refine V_sub [2, 1, 0] rfl ?_
  exact L4 _ _ _ _ hs

def s_X7_takesChute_L28 (fu : Nat) (p1 : Int32) : Nat → Int32 → Int32 → S4 → Option (Int32 × S4)
  | 0, _, _, _ => none
  | f28+1, v2, v3, Z4 => gd (inb (p1 + (2 : Int32)) 52) ((if (Z4 31 0 0 (p1 + (2 : Int32)).toNatClampNeg) ≤ v3 then gd (inb (p1 + (2 : Int32)) 52) (gd (inb ((p1 + (3 : Int32)) + (Z4 31 0 0 (p1 + (2 : Int32)).toNatClampNeg)) 52) (sv (u4 Z4 31 0 0 (((p1 + (3 : Int32)) + (Z4 31 0 0 (p1 + (2 : Int32)).toNatClampNeg)).toNatClampNeg) v2) fun Z9 => gd (inb (p1 + (2 : Int32)) 52) (gd (inb (p1 + (2 : Int32)) 52) (sv (u4 Z9 31 0 0 ((p1 + (2 : Int32)).toNatClampNeg) ((Z9 31 0 0 (p1 + (2 : Int32)).toNatClampNeg) + (1 : Int32))) fun Z12 => sv (u4 Z12 7 0 0 17 ((Z12 7 0 0 17) + (1 : Int32))) fun Z13 => some ((1 : Int32), Z13))))) else gd (inb ((p1 + (3 : Int32)) + v3) 52) ((if (Z4 31 0 0 ((p1 + (3 : Int32)) + v3).toNatClampNeg) = v2 then some ((0 : Int32), Z4) else s_X7_takesChute_L28 fu p1 f28 v2 (v3 + (1 : Int32)) Z4))))
def s_X7_takesChute (fu : Nat) (p1 : Int32) (S : S4) : Option (Int32 × S4) := (s_X7_isNext (48 : Int32) (55 : Int32) S).bind fun q1 => (if q1 = 0 then some ((0 : Int32), S) else gd (inb (S 7 0 0 17) 80) (s_X7_takesChute_L28 fu p1 fu ((S 30 0 0 (S 7 0 0 17).toNatClampNeg) - (48 : Int32)) (0 : Int32) S))
set_option maxRecDepth 100000 in
set_option maxHeartbeats 4000000 in
theorem c_X7_takesChute {l : Launch} {D : va_G} {cA : Nat → ClassId} {dm : Dm} {ad : Ad} {fu : Nat} {S : S4} {p1 : Int32} (hM : DM dm) {out : (Int32 × S4)} (hs : s_X7_takesChute fu p1 S = some out) : Ct D cA dm ad l yX7_takesChute cX7_takesChute 4 (some .boolean) 1 22 S [.ref (ad 7 0 0), .int p1] (some (.int out.1)) out.2 := by
  refine Ct.of (by decide +kernel) (Nat.le_of_ble_eq_true rfl) [(0, .ref (ad 7 0 0)), (1, .int p1)] rfl (fun p e s m args below meth c A X hr => ?_)
  unfold s_X7_takesChute at hs
  refine V_aload_n X dX7_takesChute_0 rfl 0 rfl ?_
  refine V_bipush X (48 : Int32) dX7_takesChute_1 (by decide) ?_
  refine V_bipush X (55 : Int32) dX7_takesChute_3 (by decide) ?_
  obtain ⟨q1, eq1, hs⟩ := bd_some hs
  refine V_callVs X [.int (48 : Int32), .int (55 : Int32)] dX7_takesChute_5 m_X7_110 v_X7_isNext ⟨Nat.le_of_ble_eq_true rfl, Nat.le_of_ble_eq_true rfl⟩ ⟨Nat.zero_le _, Nat.zero_le _⟩ rfl (Nat.le_of_ble_eq_true rfl) (gm7 hM) rfl cl7 (c_X7_isNext hM eq1) ?_
  refine V_if_ne X 13 dX7_takesChute_8 (by decide) (fun c2 => ?_) (fun c2 => ?_)
  · replace hs := if_f hs c2
    refine V_aload_n X dX7_takesChute_13 rfl 0 rfl ?_
    refine V_get X dX7_takesChute_14 r_X7_32 (gm7 hM) rfl rfl ?_
    refine V_aload_n X dX7_takesChute_17 rfl 0 rfl ?_
    refine V_get X dX7_takesChute_18 r_X7_107 (gm7 hM) rfl rfl ?_
    obtain ⟨h3, hs⟩ := gd_some hs
    refine V_cald X dX7_takesChute_21 (gm30 hM) rfl h3 ?_
    refine V_bipush X (48 : Int32) dX7_takesChute_22 (by decide) ?_
    refine V_isub X dX7_takesChute_24 ?_
    refine V_istore_n X dX7_takesChute_25 rfl [(2, .int ((S 30 0 0 (S 7 0 0 17).toNatClampNeg) - (48 : Int32))), (0, .ref (ad 7 0 0)), (1, .int p1)] (by decide) rfl ?_
    refine V_iconst X (0 : Int32) dX7_takesChute_26 (by decide) ?_
    refine V_istore_n X dX7_takesChute_27 rfl [(3, .int (0 : Int32)), (2, .int ((S 30 0 0 (S 7 0 0 17).toNatClampNeg) - (48 : Int32))), (0, .ref (ad 7 0 0)), (1, .int p1)] (by decide) rfl ?_
    have L28 : ∀ (n : Nat) (v2 v3 : Int32) (S1 : S4), s_X7_takesChute_L28 fu p1 n v2 v3 S1 = some out → V D cA dm ad A 4 p l e ({ frames := 1, cells := 0, slots := 0, locals := 22 }) s m args below meth c 0 0 (MQ below (gQ D cA dm ad out.2 (some (.int out.1)) A) args s 0 0 A) S1 28 [(0, .ref (ad 7 0 0)), (1, .int p1), (2, .int v2), (3, .int v3)] [] := by
      intro n
      induction n with
      | zero => intro v2 v3 S1 hs; rw [s_X7_takesChute_L28] at hs; cases hs
      | succ f28 ih28 =>
        intro v2 v3 Z4 hs
        rw [s_X7_takesChute_L28] at hs
        refine V_iload_n X dX7_takesChute_28 rfl 3 rfl ?_
        refine V_aload_n X dX7_takesChute_29 rfl 0 rfl ?_
        refine V_get X dX7_takesChute_30 r_X7_36 (gm7 hM) rfl rfl ?_
        refine V_iload_n X dX7_takesChute_33 rfl 1 rfl ?_
        refine V_iconst X (2 : Int32) dX7_takesChute_34 (by decide) ?_
        refine V_iadd X dX7_takesChute_35 ?_
        obtain ⟨h5, hs⟩ := gd_some hs
        refine V_iald X dX7_takesChute_36 (gm31 hM) rfl h5 ?_
        refine V_icmp_ge X 62 dX7_takesChute_37 (by decide) (fun c6 => ?_) (fun c6 => ?_)
        · replace hs := if_t hs c6
          refine V_aload_n X dX7_takesChute_62 rfl 0 rfl ?_
          refine V_get X dX7_takesChute_63 r_X7_36 (gm7 hM) rfl rfl ?_
          refine V_iload_n X dX7_takesChute_66 rfl 1 rfl ?_
          refine V_iconst X (3 : Int32) dX7_takesChute_67 (by decide) ?_
          refine V_iadd X dX7_takesChute_68 ?_
          refine V_aload_n X dX7_takesChute_69 rfl 0 rfl ?_
          refine V_get X dX7_takesChute_70 r_X7_36 (gm7 hM) rfl rfl ?_
          refine V_iload_n X dX7_takesChute_73 rfl 1 rfl ?_
          refine V_iconst X (2 : Int32) dX7_takesChute_74 (by decide) ?_
          refine V_iadd X dX7_takesChute_75 ?_
          obtain ⟨h7, hs⟩ := gd_some hs
          refine V_iald X dX7_takesChute_76 (gm31 hM) rfl h7 ?_
          refine V_iadd X dX7_takesChute_77 ?_
          refine V_iload_n X dX7_takesChute_78 rfl 2 rfl ?_
          obtain ⟨h8, hs⟩ := gd_some hs
          refine V_iast X dX7_takesChute_79 (gm31 hM) (fun _ => rfl) h8 (fun Z9 eZ9 => ?_)
          replace hs := sv_some hs Z9 eZ9
          clear eZ9
          refine V_aload_n X dX7_takesChute_80 rfl 0 rfl ?_
          refine V_get X dX7_takesChute_81 r_X7_36 (gm7 hM) rfl rfl ?_
          refine V_iload_n X dX7_takesChute_84 rfl 1 rfl ?_
          refine V_iconst X (2 : Int32) dX7_takesChute_85 (by decide) ?_
          refine V_iadd X dX7_takesChute_86 ?_
          refine V_dup2 X dX7_takesChute_87 rfl rfl ?_
          obtain ⟨h10, hs⟩ := gd_some hs
          refine V_iald X dX7_takesChute_88 (gm31 hM) rfl h10 ?_
          refine V_iconst X (1 : Int32) dX7_takesChute_89 (by decide) ?_
          refine V_iadd X dX7_takesChute_90 ?_
          obtain ⟨h11, hs⟩ := gd_some hs
          refine V_iast X dX7_takesChute_91 (gm31 hM) (fun _ => rfl) h11 (fun Z12 eZ12 => ?_)
          replace hs := sv_some hs Z12 eZ12
          clear eZ12
          refine V_aload_n X dX7_takesChute_92 rfl 0 rfl ?_
          refine V_dup X dX7_takesChute_93 rfl ?_
          refine V_get X dX7_takesChute_94 r_X7_107 (gm7 hM) rfl rfl ?_
          refine V_iconst X (1 : Int32) dX7_takesChute_97 (by decide) ?_
          refine V_iadd X dX7_takesChute_98 ?_
          refine V_put X dX7_takesChute_99 f_X7_107 (gm7 hM) rfl (Nat.le_of_ble_eq_true rfl) rfl rfl rfl (fun Z13 eZ13 => ?_)
          replace hs := sv_some hs Z13 eZ13
          clear eZ13
          refine V_iconst X (1 : Int32) dX7_takesChute_102 (by decide) ?_
          obtain rfl := Option.some.inj hs; exact V_zret X hr nb1 dX7_takesChute_103
        · replace hs := if_f hs c6
          refine V_aload_n X dX7_takesChute_40 rfl 0 rfl ?_
          refine V_get X dX7_takesChute_41 r_X7_36 (gm7 hM) rfl rfl ?_
          refine V_iload_n X dX7_takesChute_44 rfl 1 rfl ?_
          refine V_iconst X (3 : Int32) dX7_takesChute_45 (by decide) ?_
          refine V_iadd X dX7_takesChute_46 ?_
          refine V_iload_n X dX7_takesChute_47 rfl 3 rfl ?_
          refine V_iadd X dX7_takesChute_48 ?_
          obtain ⟨h14, hs⟩ := gd_some hs
          refine V_iald X dX7_takesChute_49 (gm31 hM) rfl h14 ?_
          refine V_iload_n X dX7_takesChute_50 rfl 2 rfl ?_
          refine V_icmp_ne X 56 dX7_takesChute_51 (by decide) (fun c15 => ?_) (fun c15 => ?_)
          · replace hs := if_f hs c15
            refine V_iinc X (v3 + (1 : Int32)) dX7_takesChute_56 3 rfl rfl [(3, .int (v3 + (1 : Int32))), (0, .ref (ad 7 0 0)), (1, .int p1), (2, .int v2)] (by decide) rfl ?_
            refine V_goto X 28 dX7_takesChute_59 (by decide) ?_
            refine V_sub [1, 2, 3, 0] rfl ?_
            exact ih28 _ _ _ hs
          · replace hs := if_t hs c15
            refine V_iconst X (0 : Int32) dX7_takesChute_54 (by decide) ?_
            obtain rfl := Option.some.inj hs; exact V_zret X hr nb0 dX7_takesChute_55
    refine V_sub [2, 3, 1, 0] rfl ?_
    exact L28 _ _ _ _ hs
  · replace hs := if_t hs c2
    refine V_iconst X (0 : Int32) dX7_takesChute_11 (by decide) ?_
    obtain rfl := Option.some.inj hs; exact V_zret X hr nb0 dX7_takesChute_12

def s_X7_takesRule_L99 (fu : Nat) (p1 : Int32) : Nat → S4 → Option (Int32 × S4)
  | 0, _ => none
  | f99+1, Z17 => gd (inb (p1 + (2 : Int32)) 52) ((if (3 : Int32) ≤ (Z17 31 0 0 (p1 + (2 : Int32)).toNatClampNeg) then some ((1 : Int32), Z17) else (s_X7_skips (44 : Int32) Z17).bind fun q20 => (if q20.1 = 0 then some ((1 : Int32), q20.2) else (s_X7_takesChute fu p1 q20.2).bind fun q22 => (if q22.1 = 0 then some ((0 : Int32), q22.2) else s_X7_takesRule_L99 fu p1 f99  q22.2))))
def s_X7_takesRule (fu : Nat) (p1 : Int32) (S : S4) : Option (Int32 × S4) := (s_X7_takesNumber fu S).bind fun q1 => gd (inb p1 52) (sv (u4 q1.2 31 0 0 (p1.toNatClampNeg) q1.1) fun Z3 => gd (inb p1 52) ((if 0 ≤ (Z3 31 0 0 p1.toNatClampNeg) then gd (inb p1 52) (gd (inb (p1 + (1 : Int32)) 52) (sv (u4 Z3 31 0 0 ((p1 + (1 : Int32)).toNatClampNeg) (Z3 31 0 0 p1.toNatClampNeg)) fun Z8 => (s_X7_skips (45 : Int32) Z8).bind fun q9 => (if q9.1 = 0 then (s_X7_skips (61 : Int32) q9.2).bind fun q11 => (if q11.1 = 0 then some ((0 : Int32), q11.2) else gd (inb (p1 + (2 : Int32)) 52) (sv (u4 q11.2 31 0 0 ((p1 + (2 : Int32)).toNatClampNeg) (0 : Int32)) fun Z14 => (s_X7_takesChute fu p1 Z14).bind fun q15 => (if q15.1 = 0 then some ((0 : Int32), q15.2) else s_X7_takesRule_L99 fu p1 fu  q15.2))) else (s_X7_takesNumber fu q9.2).bind fun q24 => gd (inb (p1 + (1 : Int32)) 52) (sv (u4 q24.2 31 0 0 ((p1 + (1 : Int32)).toNatClampNeg) q24.1) fun Z26 => gd (inb (p1 + (1 : Int32)) 52) ((if 0 ≤ (Z26 31 0 0 (p1 + (1 : Int32)).toNatClampNeg) then (s_X7_skips (61 : Int32) Z26).bind fun q29 => (if q29.1 = 0 then some ((0 : Int32), q29.2) else gd (inb (p1 + (2 : Int32)) 52) (sv (u4 q29.2 31 0 0 ((p1 + (2 : Int32)).toNatClampNeg) (0 : Int32)) fun Z32 => (s_X7_takesChute fu p1 Z32).bind fun q33 => (if q33.1 = 0 then some ((0 : Int32), q33.2) else s_X7_takesRule_L99 fu p1 fu  q33.2))) else some ((0 : Int32), Z26))))))) else some ((0 : Int32), Z3))))
set_option maxRecDepth 100000 in
set_option maxHeartbeats 4000000 in
theorem c_X7_takesRule {l : Launch} {D : va_G} {cA : Nat → ClassId} {dm : Dm} {ad : Ad} {fu : Nat} {S : S4} {p1 : Int32} (hM : DM dm) {out : (Int32 × S4)} (hs : s_X7_takesRule fu p1 S = some out) : Ct D cA dm ad l yX7_takesRule cX7_takesRule 2 (some .boolean) 2 45 S [.ref (ad 7 0 0), .int p1] (some (.int out.1)) out.2 := by
  refine Ct.of (by decide +kernel) (Nat.le_of_ble_eq_true rfl) [(0, .ref (ad 7 0 0)), (1, .int p1)] rfl (fun p e s m args below meth c A X hr => ?_)
  unfold s_X7_takesRule at hs
  refine V_aload_n X dX7_takesRule_0 rfl 0 rfl ?_
  refine V_get X dX7_takesRule_1 r_X7_36 (gm7 hM) rfl rfl ?_
  refine V_iload_n X dX7_takesRule_4 rfl 1 rfl ?_
  refine V_aload_n X dX7_takesRule_5 rfl 0 rfl ?_
  obtain ⟨q1, eq1, hs⟩ := bd_some hs
  refine V_callVs X [] dX7_takesRule_6 m_X7_114 v_X7_takesNumber ⟨Nat.le_of_ble_eq_true rfl, Nat.le_of_ble_eq_true rfl⟩ ⟨Nat.zero_le _, Nat.zero_le _⟩ rfl (Nat.le_of_ble_eq_true rfl) (gm7 hM) rfl cl7 (c_X7_takesNumber hM eq1) ?_
  obtain ⟨h2, hs⟩ := gd_some hs
  refine V_iast X dX7_takesRule_9 (gm31 hM) (fun _ => rfl) h2 (fun Z3 eZ3 => ?_)
  replace hs := sv_some hs Z3 eZ3
  clear eZ3
  refine V_aload_n X dX7_takesRule_10 rfl 0 rfl ?_
  refine V_get X dX7_takesRule_11 r_X7_36 (gm7 hM) rfl rfl ?_
  refine V_iload_n X dX7_takesRule_14 rfl 1 rfl ?_
  obtain ⟨h4, hs⟩ := gd_some hs
  refine V_iald X dX7_takesRule_15 (gm31 hM) rfl h4 ?_
  refine V_if_ge X 21 dX7_takesRule_16 (by decide) (fun c5 => ?_) (fun c5 => ?_)
  · replace hs := if_t hs c5
    refine V_aload_n X dX7_takesRule_21 rfl 0 rfl ?_
    refine V_get X dX7_takesRule_22 r_X7_36 (gm7 hM) rfl rfl ?_
    refine V_iload_n X dX7_takesRule_25 rfl 1 rfl ?_
    refine V_iconst X (1 : Int32) dX7_takesRule_26 (by decide) ?_
    refine V_iadd X dX7_takesRule_27 ?_
    refine V_aload_n X dX7_takesRule_28 rfl 0 rfl ?_
    refine V_get X dX7_takesRule_29 r_X7_36 (gm7 hM) rfl rfl ?_
    refine V_iload_n X dX7_takesRule_32 rfl 1 rfl ?_
    obtain ⟨h6, hs⟩ := gd_some hs
    refine V_iald X dX7_takesRule_33 (gm31 hM) rfl h6 ?_
    obtain ⟨h7, hs⟩ := gd_some hs
    refine V_iast X dX7_takesRule_34 (gm31 hM) (fun _ => rfl) h7 (fun Z8 eZ8 => ?_)
    replace hs := sv_some hs Z8 eZ8
    clear eZ8
    refine V_aload_n X dX7_takesRule_35 rfl 0 rfl ?_
    refine V_bipush X (45 : Int32) dX7_takesRule_36 (by decide) ?_
    obtain ⟨q9, eq9, hs⟩ := bd_some hs
    refine V_callVs X [.int (45 : Int32)] dX7_takesRule_38 m_X7_118 v_X7_skips ⟨Nat.le_of_ble_eq_true rfl, Nat.le_of_ble_eq_true rfl⟩ ⟨Nat.zero_le _, Nat.zero_le _⟩ rfl (Nat.le_of_ble_eq_true rfl) (gm7 hM) rfl cl7 (c_X7_skips hM eq9) ?_
    refine V_if_eq X 69 dX7_takesRule_41 (by decide) (fun c10 => ?_) (fun c10 => ?_)
    · replace hs := if_t hs c10
      refine V_aload_n X dX7_takesRule_69 rfl 0 rfl ?_
      refine V_bipush X (61 : Int32) dX7_takesRule_70 (by decide) ?_
      obtain ⟨q11, eq11, hs⟩ := bd_some hs
      refine V_callVs X [.int (61 : Int32)] dX7_takesRule_72 m_X7_118 v_X7_skips ⟨Nat.le_of_ble_eq_true rfl, Nat.le_of_ble_eq_true rfl⟩ ⟨Nat.zero_le _, Nat.zero_le _⟩ rfl (Nat.le_of_ble_eq_true rfl) (gm7 hM) rfl cl7 (c_X7_skips hM eq11) ?_
      refine V_if_ne X 80 dX7_takesRule_75 (by decide) (fun c12 => ?_) (fun c12 => ?_)
      · replace hs := if_f hs c12
        refine V_aload_n X dX7_takesRule_80 rfl 0 rfl ?_
        refine V_get X dX7_takesRule_81 r_X7_36 (gm7 hM) rfl rfl ?_
        refine V_iload_n X dX7_takesRule_84 rfl 1 rfl ?_
        refine V_iconst X (2 : Int32) dX7_takesRule_85 (by decide) ?_
        refine V_iadd X dX7_takesRule_86 ?_
        refine V_iconst X (0 : Int32) dX7_takesRule_87 (by decide) ?_
        obtain ⟨h13, hs⟩ := gd_some hs
        refine V_iast X dX7_takesRule_88 (gm31 hM) (fun _ => rfl) h13 (fun Z14 eZ14 => ?_)
        replace hs := sv_some hs Z14 eZ14
        clear eZ14
        refine V_aload_n X dX7_takesRule_89 rfl 0 rfl ?_
        refine V_iload_n X dX7_takesRule_90 rfl 1 rfl ?_
        obtain ⟨q15, eq15, hs⟩ := bd_some hs
        refine V_callVs X [.int p1] dX7_takesRule_91 m_X7_122 v_X7_takesChute ⟨Nat.le_of_ble_eq_true rfl, Nat.le_of_ble_eq_true rfl⟩ ⟨Nat.zero_le _, Nat.zero_le _⟩ rfl (Nat.le_of_ble_eq_true rfl) (gm7 hM) rfl cl7 (c_X7_takesChute hM eq15) ?_
        refine V_if_ne X 99 dX7_takesRule_94 (by decide) (fun c16 => ?_) (fun c16 => ?_)
        · replace hs := if_f hs c16
          have L99 : ∀ (n : Nat) (S1 : S4), s_X7_takesRule_L99 fu p1 n  S1 = some out → V D cA dm ad A 2 p l e ({ frames := 2, cells := 0, slots := 0, locals := 45 }) s m args below meth c 0 0 (MQ below (gQ D cA dm ad out.2 (some (.int out.1)) A) args s 0 0 A) S1 99 [(0, .ref (ad 7 0 0)), (1, .int p1)] [] := by
            intro n
            induction n with
            | zero => intro  S1 hs; rw [s_X7_takesRule_L99] at hs; cases hs
            | succ f99 ih99 =>
              intro  Z17 hs
              rw [s_X7_takesRule_L99] at hs
              refine V_aload_n X dX7_takesRule_99 rfl 0 rfl ?_
              refine V_get X dX7_takesRule_100 r_X7_36 (gm7 hM) rfl rfl ?_
              refine V_iload_n X dX7_takesRule_103 rfl 1 rfl ?_
              refine V_iconst X (2 : Int32) dX7_takesRule_104 (by decide) ?_
              refine V_iadd X dX7_takesRule_105 ?_
              obtain ⟨h18, hs⟩ := gd_some hs
              refine V_iald X dX7_takesRule_106 (gm31 hM) rfl h18 ?_
              refine V_iconst X (3 : Int32) dX7_takesRule_107 (by decide) ?_
              refine V_icmp_ge X 130 dX7_takesRule_108 (by decide) (fun c19 => ?_) (fun c19 => ?_)
              · replace hs := if_t hs c19
                refine V_iconst X (1 : Int32) dX7_takesRule_130 (by decide) ?_
                obtain rfl := Option.some.inj hs; exact V_zret X hr nb1 dX7_takesRule_131
              · replace hs := if_f hs c19
                refine V_aload_n X dX7_takesRule_111 rfl 0 rfl ?_
                refine V_bipush X (44 : Int32) dX7_takesRule_112 (by decide) ?_
                obtain ⟨q20, eq20, hs⟩ := bd_some hs
                refine V_callVs X [.int (44 : Int32)] dX7_takesRule_114 m_X7_118 v_X7_skips ⟨Nat.le_of_ble_eq_true rfl, Nat.le_of_ble_eq_true rfl⟩ ⟨Nat.zero_le _, Nat.zero_le _⟩ rfl (Nat.le_of_ble_eq_true rfl) (gm7 hM) rfl cl7 (c_X7_skips hM eq20) ?_
                refine V_if_eq X 130 dX7_takesRule_117 (by decide) (fun c21 => ?_) (fun c21 => ?_)
                · replace hs := if_t hs c21
                  refine V_iconst X (1 : Int32) dX7_takesRule_130 (by decide) ?_
                  obtain rfl := Option.some.inj hs; exact V_zret X hr nb1 dX7_takesRule_131
                · replace hs := if_f hs c21
                  refine V_aload_n X dX7_takesRule_120 rfl 0 rfl ?_
                  refine V_iload_n X dX7_takesRule_121 rfl 1 rfl ?_
                  obtain ⟨q22, eq22, hs⟩ := bd_some hs
                  refine V_callVs X [.int p1] dX7_takesRule_122 m_X7_122 v_X7_takesChute ⟨Nat.le_of_ble_eq_true rfl, Nat.le_of_ble_eq_true rfl⟩ ⟨Nat.zero_le _, Nat.zero_le _⟩ rfl (Nat.le_of_ble_eq_true rfl) (gm7 hM) rfl cl7 (c_X7_takesChute hM eq22) ?_
                  refine V_if_ne X 99 dX7_takesRule_125 (by decide) (fun c23 => ?_) (fun c23 => ?_)
                  · replace hs := if_f hs c23
                    refine V_sub [0, 1] rfl ?_
                    exact ih99  _ hs
                  · replace hs := if_t hs c23
                    refine V_iconst X (0 : Int32) dX7_takesRule_128 (by decide) ?_
                    obtain rfl := Option.some.inj hs; exact V_zret X hr nb0 dX7_takesRule_129
          refine V_sub [0, 1] rfl ?_
          exact L99 _  _ hs
        · replace hs := if_t hs c16
          refine V_iconst X (0 : Int32) dX7_takesRule_97 (by decide) ?_
          obtain rfl := Option.some.inj hs; exact V_zret X hr nb0 dX7_takesRule_98
      · replace hs := if_t hs c12
        refine V_iconst X (0 : Int32) dX7_takesRule_78 (by decide) ?_
        obtain rfl := Option.some.inj hs; exact V_zret X hr nb0 dX7_takesRule_79
    · replace hs := if_f hs c10
      refine V_aload_n X dX7_takesRule_44 rfl 0 rfl ?_
      refine V_get X dX7_takesRule_45 r_X7_36 (gm7 hM) rfl rfl ?_
      refine V_iload_n X dX7_takesRule_48 rfl 1 rfl ?_
      refine V_iconst X (1 : Int32) dX7_takesRule_49 (by decide) ?_
      refine V_iadd X dX7_takesRule_50 ?_
      refine V_aload_n X dX7_takesRule_51 rfl 0 rfl ?_
      obtain ⟨q24, eq24, hs⟩ := bd_some hs
      refine V_callVs X [] dX7_takesRule_52 m_X7_114 v_X7_takesNumber ⟨Nat.le_of_ble_eq_true rfl, Nat.le_of_ble_eq_true rfl⟩ ⟨Nat.zero_le _, Nat.zero_le _⟩ rfl (Nat.le_of_ble_eq_true rfl) (gm7 hM) rfl cl7 (c_X7_takesNumber hM eq24) ?_
      obtain ⟨h25, hs⟩ := gd_some hs
      refine V_iast X dX7_takesRule_55 (gm31 hM) (fun _ => rfl) h25 (fun Z26 eZ26 => ?_)
      replace hs := sv_some hs Z26 eZ26
      clear eZ26
      refine V_aload_n X dX7_takesRule_56 rfl 0 rfl ?_
      refine V_get X dX7_takesRule_57 r_X7_36 (gm7 hM) rfl rfl ?_
      refine V_iload_n X dX7_takesRule_60 rfl 1 rfl ?_
      refine V_iconst X (1 : Int32) dX7_takesRule_61 (by decide) ?_
      refine V_iadd X dX7_takesRule_62 ?_
      obtain ⟨h27, hs⟩ := gd_some hs
      refine V_iald X dX7_takesRule_63 (gm31 hM) rfl h27 ?_
      refine V_if_ge X 69 dX7_takesRule_64 (by decide) (fun c28 => ?_) (fun c28 => ?_)
      · replace hs := if_t hs c28
        refine V_aload_n X dX7_takesRule_69 rfl 0 rfl ?_
        refine V_bipush X (61 : Int32) dX7_takesRule_70 (by decide) ?_
        obtain ⟨q29, eq29, hs⟩ := bd_some hs
        refine V_callVs X [.int (61 : Int32)] dX7_takesRule_72 m_X7_118 v_X7_skips ⟨Nat.le_of_ble_eq_true rfl, Nat.le_of_ble_eq_true rfl⟩ ⟨Nat.zero_le _, Nat.zero_le _⟩ rfl (Nat.le_of_ble_eq_true rfl) (gm7 hM) rfl cl7 (c_X7_skips hM eq29) ?_
        refine V_if_ne X 80 dX7_takesRule_75 (by decide) (fun c30 => ?_) (fun c30 => ?_)
        · replace hs := if_f hs c30
          refine V_aload_n X dX7_takesRule_80 rfl 0 rfl ?_
          refine V_get X dX7_takesRule_81 r_X7_36 (gm7 hM) rfl rfl ?_
          refine V_iload_n X dX7_takesRule_84 rfl 1 rfl ?_
          refine V_iconst X (2 : Int32) dX7_takesRule_85 (by decide) ?_
          refine V_iadd X dX7_takesRule_86 ?_
          refine V_iconst X (0 : Int32) dX7_takesRule_87 (by decide) ?_
          obtain ⟨h31, hs⟩ := gd_some hs
          refine V_iast X dX7_takesRule_88 (gm31 hM) (fun _ => rfl) h31 (fun Z32 eZ32 => ?_)
          replace hs := sv_some hs Z32 eZ32
          clear eZ32
          refine V_aload_n X dX7_takesRule_89 rfl 0 rfl ?_
          refine V_iload_n X dX7_takesRule_90 rfl 1 rfl ?_
          obtain ⟨q33, eq33, hs⟩ := bd_some hs
          refine V_callVs X [.int p1] dX7_takesRule_91 m_X7_122 v_X7_takesChute ⟨Nat.le_of_ble_eq_true rfl, Nat.le_of_ble_eq_true rfl⟩ ⟨Nat.zero_le _, Nat.zero_le _⟩ rfl (Nat.le_of_ble_eq_true rfl) (gm7 hM) rfl cl7 (c_X7_takesChute hM eq33) ?_
          refine V_if_ne X 99 dX7_takesRule_94 (by decide) (fun c34 => ?_) (fun c34 => ?_)
          · replace hs := if_f hs c34
            have L99 : ∀ (n : Nat) (S1 : S4), s_X7_takesRule_L99 fu p1 n  S1 = some out → V D cA dm ad A 2 p l e ({ frames := 2, cells := 0, slots := 0, locals := 45 }) s m args below meth c 0 0 (MQ below (gQ D cA dm ad out.2 (some (.int out.1)) A) args s 0 0 A) S1 99 [(0, .ref (ad 7 0 0)), (1, .int p1)] [] := by
              intro n
              induction n with
              | zero => intro  S1 hs; rw [s_X7_takesRule_L99] at hs; cases hs
              | succ f99 ih99 =>
                intro  Z35 hs
                rw [s_X7_takesRule_L99] at hs
                refine V_aload_n X dX7_takesRule_99 rfl 0 rfl ?_
                refine V_get X dX7_takesRule_100 r_X7_36 (gm7 hM) rfl rfl ?_
                refine V_iload_n X dX7_takesRule_103 rfl 1 rfl ?_
                refine V_iconst X (2 : Int32) dX7_takesRule_104 (by decide) ?_
                refine V_iadd X dX7_takesRule_105 ?_
                obtain ⟨h36, hs⟩ := gd_some hs
                refine V_iald X dX7_takesRule_106 (gm31 hM) rfl h36 ?_
                refine V_iconst X (3 : Int32) dX7_takesRule_107 (by decide) ?_
                refine V_icmp_ge X 130 dX7_takesRule_108 (by decide) (fun c37 => ?_) (fun c37 => ?_)
                · replace hs := if_t hs c37
                  refine V_iconst X (1 : Int32) dX7_takesRule_130 (by decide) ?_
                  obtain rfl := Option.some.inj hs; exact V_zret X hr nb1 dX7_takesRule_131
                · replace hs := if_f hs c37
                  refine V_aload_n X dX7_takesRule_111 rfl 0 rfl ?_
                  refine V_bipush X (44 : Int32) dX7_takesRule_112 (by decide) ?_
                  obtain ⟨q38, eq38, hs⟩ := bd_some hs
                  refine V_callVs X [.int (44 : Int32)] dX7_takesRule_114 m_X7_118 v_X7_skips ⟨Nat.le_of_ble_eq_true rfl, Nat.le_of_ble_eq_true rfl⟩ ⟨Nat.zero_le _, Nat.zero_le _⟩ rfl (Nat.le_of_ble_eq_true rfl) (gm7 hM) rfl cl7 (c_X7_skips hM eq38) ?_
                  refine V_if_eq X 130 dX7_takesRule_117 (by decide) (fun c39 => ?_) (fun c39 => ?_)
                  · replace hs := if_t hs c39
                    refine V_iconst X (1 : Int32) dX7_takesRule_130 (by decide) ?_
                    obtain rfl := Option.some.inj hs; exact V_zret X hr nb1 dX7_takesRule_131
                  · replace hs := if_f hs c39
                    refine V_aload_n X dX7_takesRule_120 rfl 0 rfl ?_
                    refine V_iload_n X dX7_takesRule_121 rfl 1 rfl ?_
                    obtain ⟨q40, eq40, hs⟩ := bd_some hs
                    refine V_callVs X [.int p1] dX7_takesRule_122 m_X7_122 v_X7_takesChute ⟨Nat.le_of_ble_eq_true rfl, Nat.le_of_ble_eq_true rfl⟩ ⟨Nat.zero_le _, Nat.zero_le _⟩ rfl (Nat.le_of_ble_eq_true rfl) (gm7 hM) rfl cl7 (c_X7_takesChute hM eq40) ?_
                    refine V_if_ne X 99 dX7_takesRule_125 (by decide) (fun c41 => ?_) (fun c41 => ?_)
                    · replace hs := if_f hs c41
                      refine V_sub [0, 1] rfl ?_
                      exact ih99  _ hs
                    · replace hs := if_t hs c41
                      refine V_iconst X (0 : Int32) dX7_takesRule_128 (by decide) ?_
                      obtain rfl := Option.some.inj hs; exact V_zret X hr nb0 dX7_takesRule_129
            refine V_sub [0, 1] rfl ?_
            exact L99 _  _ hs
          · replace hs := if_t hs c34
            refine V_iconst X (0 : Int32) dX7_takesRule_97 (by decide) ?_
            obtain rfl := Option.some.inj hs; exact V_zret X hr nb0 dX7_takesRule_98
        · replace hs := if_t hs c30
          refine V_iconst X (0 : Int32) dX7_takesRule_78 (by decide) ?_
          obtain rfl := Option.some.inj hs; exact V_zret X hr nb0 dX7_takesRule_79
      · replace hs := if_f hs c28
        refine V_iconst X (0 : Int32) dX7_takesRule_67 (by decide) ?_
        obtain rfl := Option.some.inj hs; exact V_zret X hr nb0 dX7_takesRule_68
  · replace hs := if_f hs c5
    refine V_iconst X (0 : Int32) dX7_takesRule_19 (by decide) ?_
    obtain rfl := Option.some.inj hs; exact V_zret X hr nb0 dX7_takesRule_20

def s_X7_takesRules_L7 (fu : Nat)  : Nat → S4 → Option (Int32 × S4)
  | 0, _ => none
  | f7+1, Z3 => gd (inb (1 : Int32) 52) ((s_X7_takesRule fu ((4 : Int32) + ((6 : Int32) * (Z3 31 0 0 (1 : Int32).toNatClampNeg))) Z3).bind fun q5 => (if q5.1 = 0 then some ((0 : Int32), q5.2) else gd (inb (1 : Int32) 52) (gd (inb (1 : Int32) 52) (sv (u4 q5.2 31 0 0 ((1 : Int32).toNatClampNeg) ((q5.2 31 0 0 (1 : Int32).toNatClampNeg) + (1 : Int32))) fun Z9 => gd (inb (1 : Int32) 52) ((if (8 : Int32) ≤ (Z9 31 0 0 (1 : Int32).toNatClampNeg) then some ((1 : Int32), Z9) else (s_X7_skips (59 : Int32) Z9).bind fun q12 => (if q12.1 = 0 then some ((1 : Int32), q12.2) else s_X7_takesRules_L7 fu f7  q12.2)))))))
def s_X7_takesRules (fu : Nat)  (S : S4) : Option (Int32 × S4) := gd (inb (1 : Int32) 52) (sv (u4 S 31 0 0 ((1 : Int32).toNatClampNeg) (0 : Int32)) fun Z2 => s_X7_takesRules_L7 fu fu  Z2)
set_option maxRecDepth 100000 in
set_option maxHeartbeats 4000000 in
theorem c_X7_takesRules {l : Launch} {D : va_G} {cA : Nat → ClassId} {dm : Dm} {ad : Ad} {fu : Nat} {S : S4} (hM : DM dm) {out : (Int32 × S4)} (hs : s_X7_takesRules fu S = some out) : Ct D cA dm ad l yX7_takesRules cX7_takesRules 1 (some .boolean) 3 66 S [.ref (ad 7 0 0)] (some (.int out.1)) out.2 := by
  refine Ct.of (by decide +kernel) (Nat.le_of_ble_eq_true rfl) [(0, .ref (ad 7 0 0))] rfl (fun p e s m args below meth c A X hr => ?_)
  unfold s_X7_takesRules at hs
  refine V_aload_n X dX7_takesRules_0 rfl 0 rfl ?_
  refine V_get X dX7_takesRules_1 r_X7_36 (gm7 hM) rfl rfl ?_
  refine V_iconst X (1 : Int32) dX7_takesRules_4 (by decide) ?_
  refine V_iconst X (0 : Int32) dX7_takesRules_5 (by decide) ?_
  obtain ⟨h1, hs⟩ := gd_some hs
  refine V_iast X dX7_takesRules_6 (gm31 hM) (fun _ => rfl) h1 (fun Z2 eZ2 => ?_)
  replace hs := sv_some hs Z2 eZ2
  clear eZ2
  have L7 : ∀ (n : Nat) (S1 : S4), s_X7_takesRules_L7 fu n  S1 = some out → V D cA dm ad A 1 p l e ({ frames := 3, cells := 0, slots := 0, locals := 66 }) s m args below meth c 0 0 (MQ below (gQ D cA dm ad out.2 (some (.int out.1)) A) args s 0 0 A) S1 7 [(0, .ref (ad 7 0 0))] [] := by
    intro n
    induction n with
    | zero => intro  S1 hs; rw [s_X7_takesRules_L7] at hs; cases hs
    | succ f7 ih7 =>
      intro  Z3 hs
      rw [s_X7_takesRules_L7] at hs
      refine V_aload_n X dX7_takesRules_7 rfl 0 rfl ?_
      refine V_iconst X (4 : Int32) dX7_takesRules_8 (by decide) ?_
      refine V_bipush X (6 : Int32) dX7_takesRules_9 (by decide) ?_
      refine V_aload_n X dX7_takesRules_11 rfl 0 rfl ?_
      refine V_get X dX7_takesRules_12 r_X7_36 (gm7 hM) rfl rfl ?_
      refine V_iconst X (1 : Int32) dX7_takesRules_15 (by decide) ?_
      obtain ⟨h4, hs⟩ := gd_some hs
      refine V_iald X dX7_takesRules_16 (gm31 hM) rfl h4 ?_
      refine V_imul X dX7_takesRules_17 ?_
      refine V_iadd X dX7_takesRules_18 ?_
      obtain ⟨q5, eq5, hs⟩ := bd_some hs
      refine V_callVs X [.int ((4 : Int32) + ((6 : Int32) * (Z3 31 0 0 (1 : Int32).toNatClampNeg)))] dX7_takesRules_19 m_X7_125 v_X7_takesRule ⟨Nat.le_of_ble_eq_true rfl, Nat.le_of_ble_eq_true rfl⟩ ⟨Nat.zero_le _, Nat.zero_le _⟩ rfl (Nat.le_of_ble_eq_true rfl) (gm7 hM) rfl cl7 (c_X7_takesRule hM eq5) ?_
      refine V_if_ne X 27 dX7_takesRules_22 (by decide) (fun c6 => ?_) (fun c6 => ?_)
      · replace hs := if_f hs c6
        refine V_aload_n X dX7_takesRules_27 rfl 0 rfl ?_
        refine V_get X dX7_takesRules_28 r_X7_36 (gm7 hM) rfl rfl ?_
        refine V_iconst X (1 : Int32) dX7_takesRules_31 (by decide) ?_
        refine V_dup2 X dX7_takesRules_32 rfl rfl ?_
        obtain ⟨h7, hs⟩ := gd_some hs
        refine V_iald X dX7_takesRules_33 (gm31 hM) rfl h7 ?_
        refine V_iconst X (1 : Int32) dX7_takesRules_34 (by decide) ?_
        refine V_iadd X dX7_takesRules_35 ?_
        obtain ⟨h8, hs⟩ := gd_some hs
        refine V_iast X dX7_takesRules_36 (gm31 hM) (fun _ => rfl) h8 (fun Z9 eZ9 => ?_)
        replace hs := sv_some hs Z9 eZ9
        clear eZ9
        refine V_aload_n X dX7_takesRules_37 rfl 0 rfl ?_
        refine V_get X dX7_takesRules_38 r_X7_36 (gm7 hM) rfl rfl ?_
        refine V_iconst X (1 : Int32) dX7_takesRules_41 (by decide) ?_
        obtain ⟨h10, hs⟩ := gd_some hs
        refine V_iald X dX7_takesRules_42 (gm31 hM) rfl h10 ?_
        refine V_bipush X (8 : Int32) dX7_takesRules_43 (by decide) ?_
        refine V_icmp_ge X 57 dX7_takesRules_45 (by decide) (fun c11 => ?_) (fun c11 => ?_)
        · replace hs := if_t hs c11
          refine V_iconst X (1 : Int32) dX7_takesRules_57 (by decide) ?_
          obtain rfl := Option.some.inj hs; exact V_zret X hr nb1 dX7_takesRules_58
        · replace hs := if_f hs c11
          refine V_aload_n X dX7_takesRules_48 rfl 0 rfl ?_
          refine V_bipush X (59 : Int32) dX7_takesRules_49 (by decide) ?_
          obtain ⟨q12, eq12, hs⟩ := bd_some hs
          refine V_callVs X [.int (59 : Int32)] dX7_takesRules_51 m_X7_118 v_X7_skips ⟨Nat.le_of_ble_eq_true rfl, Nat.le_of_ble_eq_true rfl⟩ ⟨Nat.zero_le _, Nat.zero_le _⟩ rfl (Nat.le_of_ble_eq_true rfl) (gm7 hM) rfl cl7 (c_X7_skips hM eq12) ?_
          refine V_if_ne X 7 dX7_takesRules_54 (by decide) (fun c13 => ?_) (fun c13 => ?_)
          · replace hs := if_f hs c13
            refine V_sub [0] rfl ?_
            exact ih7  _ hs
          · replace hs := if_t hs c13
            refine V_iconst X (1 : Int32) dX7_takesRules_57 (by decide) ?_
            obtain rfl := Option.some.inj hs; exact V_zret X hr nb1 dX7_takesRules_58
      · replace hs := if_t hs c6
        refine V_iconst X (0 : Int32) dX7_takesRules_25 (by decide) ?_
        obtain rfl := Option.some.inj hs; exact V_zret X hr nb0 dX7_takesRules_26
  refine V_sub [0] rfl ?_
  exact L7 _  _ hs

def s_X7_takesPlan (fu : Nat)  (S : S4) : Option (Int32 × S4) := sv (u4 S 7 0 0 17 (0 : Int32)) fun Z1 => (s_X7_skips (64 : Int32) Z1).bind fun q2 => (if q2.1 = 0 then some ((0 : Int32), q2.2) else (s_X7_takesNumber fu q2.2).bind fun q4 => gd (inb (0 : Int32) 52) (sv (u4 q4.2 31 0 0 ((0 : Int32).toNatClampNeg) q4.1) fun Z6 => gd (inb (0 : Int32) 52) ((if (Z6 31 0 0 (0 : Int32).toNatClampNeg) < 0 then some ((0 : Int32), Z6) else (s_X7_skips (58 : Int32) Z6).bind fun q9 => (if q9.1 = 0 then some ((0 : Int32), q9.2) else (s_X7_takesRules fu q9.2).bind fun q11 => (if q11.1 = 0 then some ((0 : Int32), q11.2) else (s_X7_skips (120 : Int32) q11.2).bind fun q13 => (if q13.1 = 0 then some ((0 : Int32), q13.2) else (s_X7_isNext (48 : Int32) (55 : Int32) q13.2).bind fun q15 => (if q15 = 0 then some ((0 : Int32), q13.2) else gd (inb (q13.2 7 0 0 17) 80) (gd (inb (2 : Int32) 52) (sv (u4 q13.2 31 0 0 ((2 : Int32).toNatClampNeg) ((q13.2 30 0 0 (q13.2 7 0 0 17).toNatClampNeg) - (48 : Int32))) fun Z19 => sv (u4 Z19 7 0 0 17 ((Z19 7 0 0 17) + (1 : Int32))) fun Z20 => gd (inb (3 : Int32) 52) (sv (u4 Z20 31 0 0 ((3 : Int32).toNatClampNeg) (3 : Int32)) fun Z22 => (s_X7_skips (42 : Int32) Z22).bind fun q23 => (if q23.1 = 0 then (if (q23.2 7 0 0 17) = (q23.2 7 0 0 16) then some ((1 : Int32), q23.2) else some ((0 : Int32), q23.2)) else (s_X7_isNext (48 : Int32) (57 : Int32) q23.2).bind fun q26 => (if q26 = 0 then some ((0 : Int32), q23.2) else gd (inb (q23.2 7 0 0 17) 80) (gd (inb (3 : Int32) 52) (sv (u4 q23.2 31 0 0 ((3 : Int32).toNatClampNeg) ((q23.2 30 0 0 (q23.2 7 0 0 17).toNatClampNeg) - (48 : Int32))) fun Z30 => sv (u4 Z30 7 0 0 17 ((Z30 7 0 0 17) + (1 : Int32))) fun Z31 => (if (Z31 7 0 0 17) = (Z31 7 0 0 16) then some ((1 : Int32), Z31) else some ((0 : Int32), Z31)))))))))))))))))
set_option maxRecDepth 100000 in
set_option maxHeartbeats 4000000 in
theorem c_X7_takesPlan {l : Launch} {D : va_G} {cA : Nat → ClassId} {dm : Dm} {ad : Ad} {fu : Nat} {S : S4} (hM : DM dm) {out : (Int32 × S4)} (hs : s_X7_takesPlan fu S = some out) : Ct D cA dm ad l yX7_takesPlan cX7_takesPlan 1 (some .boolean) 4 86 S [.ref (ad 7 0 0)] (some (.int out.1)) out.2 := by
  refine Ct.of (by decide +kernel) (Nat.le_of_ble_eq_true rfl) [(0, .ref (ad 7 0 0))] rfl (fun p e s m args below meth c A X hr => ?_)
  unfold s_X7_takesPlan at hs
  refine V_aload_n X dX7_takesPlan_0 rfl 0 rfl ?_
  refine V_iconst X (0 : Int32) dX7_takesPlan_1 (by decide) ?_
  refine V_put X dX7_takesPlan_2 f_X7_107 (gm7 hM) rfl (Nat.le_of_ble_eq_true rfl) rfl rfl rfl (fun Z1 eZ1 => ?_)
  replace hs := sv_some hs Z1 eZ1
  clear eZ1
  refine V_aload_n X dX7_takesPlan_5 rfl 0 rfl ?_
  refine V_bipush X (64 : Int32) dX7_takesPlan_6 (by decide) ?_
  obtain ⟨q2, eq2, hs⟩ := bd_some hs
  refine V_callVs X [.int (64 : Int32)] dX7_takesPlan_8 m_X7_118 v_X7_skips ⟨Nat.le_of_ble_eq_true rfl, Nat.le_of_ble_eq_true rfl⟩ ⟨Nat.zero_le _, Nat.zero_le _⟩ rfl (Nat.le_of_ble_eq_true rfl) (gm7 hM) rfl cl7 (c_X7_skips hM eq2) ?_
  refine V_if_ne X 16 dX7_takesPlan_11 (by decide) (fun c3 => ?_) (fun c3 => ?_)
  · replace hs := if_f hs c3
    refine V_aload_n X dX7_takesPlan_16 rfl 0 rfl ?_
    refine V_get X dX7_takesPlan_17 r_X7_36 (gm7 hM) rfl rfl ?_
    refine V_iconst X (0 : Int32) dX7_takesPlan_20 (by decide) ?_
    refine V_aload_n X dX7_takesPlan_21 rfl 0 rfl ?_
    obtain ⟨q4, eq4, hs⟩ := bd_some hs
    refine V_callVs X [] dX7_takesPlan_22 m_X7_114 v_X7_takesNumber ⟨Nat.le_of_ble_eq_true rfl, Nat.le_of_ble_eq_true rfl⟩ ⟨Nat.zero_le _, Nat.zero_le _⟩ rfl (Nat.le_of_ble_eq_true rfl) (gm7 hM) rfl cl7 (c_X7_takesNumber hM eq4) ?_
    obtain ⟨h5, hs⟩ := gd_some hs
    refine V_iast X dX7_takesPlan_25 (gm31 hM) (fun _ => rfl) h5 (fun Z6 eZ6 => ?_)
    replace hs := sv_some hs Z6 eZ6
    clear eZ6
    refine V_aload_n X dX7_takesPlan_26 rfl 0 rfl ?_
    refine V_get X dX7_takesPlan_27 r_X7_36 (gm7 hM) rfl rfl ?_
    refine V_iconst X (0 : Int32) dX7_takesPlan_30 (by decide) ?_
    obtain ⟨h7, hs⟩ := gd_some hs
    refine V_iald X dX7_takesPlan_31 (gm31 hM) rfl h7 ?_
    refine V_if_lt X 71 dX7_takesPlan_32 (by decide) (fun c8 => ?_) (fun c8 => ?_)
    · replace hs := if_t hs c8
      refine V_iconst X (0 : Int32) dX7_takesPlan_71 (by decide) ?_
      obtain rfl := Option.some.inj hs; exact V_zret X hr nb0 dX7_takesPlan_72
    · replace hs := if_f hs c8
      refine V_aload_n X dX7_takesPlan_35 rfl 0 rfl ?_
      refine V_bipush X (58 : Int32) dX7_takesPlan_36 (by decide) ?_
      obtain ⟨q9, eq9, hs⟩ := bd_some hs
      refine V_callVs X [.int (58 : Int32)] dX7_takesPlan_38 m_X7_118 v_X7_skips ⟨Nat.le_of_ble_eq_true rfl, Nat.le_of_ble_eq_true rfl⟩ ⟨Nat.zero_le _, Nat.zero_le _⟩ rfl (Nat.le_of_ble_eq_true rfl) (gm7 hM) rfl cl7 (c_X7_skips hM eq9) ?_
      refine V_if_eq X 71 dX7_takesPlan_41 (by decide) (fun c10 => ?_) (fun c10 => ?_)
      · replace hs := if_t hs c10
        refine V_iconst X (0 : Int32) dX7_takesPlan_71 (by decide) ?_
        obtain rfl := Option.some.inj hs; exact V_zret X hr nb0 dX7_takesPlan_72
      · replace hs := if_f hs c10
        refine V_aload_n X dX7_takesPlan_44 rfl 0 rfl ?_
        obtain ⟨q11, eq11, hs⟩ := bd_some hs
        refine V_callVs X [] dX7_takesPlan_45 m_X7_128 v_X7_takesRules ⟨Nat.le_of_ble_eq_true rfl, Nat.le_of_ble_eq_true rfl⟩ ⟨Nat.zero_le _, Nat.zero_le _⟩ rfl (Nat.le_of_ble_eq_true rfl) (gm7 hM) rfl cl7 (c_X7_takesRules hM eq11) ?_
        refine V_if_eq X 71 dX7_takesPlan_48 (by decide) (fun c12 => ?_) (fun c12 => ?_)
        · replace hs := if_t hs c12
          refine V_iconst X (0 : Int32) dX7_takesPlan_71 (by decide) ?_
          obtain rfl := Option.some.inj hs; exact V_zret X hr nb0 dX7_takesPlan_72
        · replace hs := if_f hs c12
          refine V_aload_n X dX7_takesPlan_51 rfl 0 rfl ?_
          refine V_bipush X (120 : Int32) dX7_takesPlan_52 (by decide) ?_
          obtain ⟨q13, eq13, hs⟩ := bd_some hs
          refine V_callVs X [.int (120 : Int32)] dX7_takesPlan_54 m_X7_118 v_X7_skips ⟨Nat.le_of_ble_eq_true rfl, Nat.le_of_ble_eq_true rfl⟩ ⟨Nat.zero_le _, Nat.zero_le _⟩ rfl (Nat.le_of_ble_eq_true rfl) (gm7 hM) rfl cl7 (c_X7_skips hM eq13) ?_
          refine V_if_eq X 71 dX7_takesPlan_57 (by decide) (fun c14 => ?_) (fun c14 => ?_)
          · replace hs := if_t hs c14
            refine V_iconst X (0 : Int32) dX7_takesPlan_71 (by decide) ?_
            obtain rfl := Option.some.inj hs; exact V_zret X hr nb0 dX7_takesPlan_72
          · replace hs := if_f hs c14
            refine V_aload_n X dX7_takesPlan_60 rfl 0 rfl ?_
            refine V_bipush X (48 : Int32) dX7_takesPlan_61 (by decide) ?_
            refine V_bipush X (55 : Int32) dX7_takesPlan_63 (by decide) ?_
            obtain ⟨q15, eq15, hs⟩ := bd_some hs
            refine V_callVs X [.int (48 : Int32), .int (55 : Int32)] dX7_takesPlan_65 m_X7_110 v_X7_isNext ⟨Nat.le_of_ble_eq_true rfl, Nat.le_of_ble_eq_true rfl⟩ ⟨Nat.zero_le _, Nat.zero_le _⟩ rfl (Nat.le_of_ble_eq_true rfl) (gm7 hM) rfl cl7 (c_X7_isNext hM eq15) ?_
            refine V_if_ne X 73 dX7_takesPlan_68 (by decide) (fun c16 => ?_) (fun c16 => ?_)
            · replace hs := if_f hs c16
              refine V_aload_n X dX7_takesPlan_73 rfl 0 rfl ?_
              refine V_get X dX7_takesPlan_74 r_X7_36 (gm7 hM) rfl rfl ?_
              refine V_iconst X (2 : Int32) dX7_takesPlan_77 (by decide) ?_
              refine V_aload_n X dX7_takesPlan_78 rfl 0 rfl ?_
              refine V_get X dX7_takesPlan_79 r_X7_32 (gm7 hM) rfl rfl ?_
              refine V_aload_n X dX7_takesPlan_82 rfl 0 rfl ?_
              refine V_get X dX7_takesPlan_83 r_X7_107 (gm7 hM) rfl rfl ?_
              obtain ⟨h17, hs⟩ := gd_some hs
              refine V_cald X dX7_takesPlan_86 (gm30 hM) rfl h17 ?_
              refine V_bipush X (48 : Int32) dX7_takesPlan_87 (by decide) ?_
              refine V_isub X dX7_takesPlan_89 ?_
              obtain ⟨h18, hs⟩ := gd_some hs
              refine V_iast X dX7_takesPlan_90 (gm31 hM) (fun _ => rfl) h18 (fun Z19 eZ19 => ?_)
              replace hs := sv_some hs Z19 eZ19
              clear eZ19
              refine V_aload_n X dX7_takesPlan_91 rfl 0 rfl ?_
              refine V_dup X dX7_takesPlan_92 rfl ?_
              refine V_get X dX7_takesPlan_93 r_X7_107 (gm7 hM) rfl rfl ?_
              refine V_iconst X (1 : Int32) dX7_takesPlan_96 (by decide) ?_
              refine V_iadd X dX7_takesPlan_97 ?_
              refine V_put X dX7_takesPlan_98 f_X7_107 (gm7 hM) rfl (Nat.le_of_ble_eq_true rfl) rfl rfl rfl (fun Z20 eZ20 => ?_)
              replace hs := sv_some hs Z20 eZ20
              clear eZ20
              refine V_aload_n X dX7_takesPlan_101 rfl 0 rfl ?_
              refine V_get X dX7_takesPlan_102 r_X7_36 (gm7 hM) rfl rfl ?_
              refine V_iconst X (3 : Int32) dX7_takesPlan_105 (by decide) ?_
              refine V_iconst X (3 : Int32) dX7_takesPlan_106 (by decide) ?_
              obtain ⟨h21, hs⟩ := gd_some hs
              refine V_iast X dX7_takesPlan_107 (gm31 hM) (fun _ => rfl) h21 (fun Z22 eZ22 => ?_)
              replace hs := sv_some hs Z22 eZ22
              clear eZ22
              refine V_aload_n X dX7_takesPlan_108 rfl 0 rfl ?_
              refine V_bipush X (42 : Int32) dX7_takesPlan_109 (by decide) ?_
              obtain ⟨q23, eq23, hs⟩ := bd_some hs
              refine V_callVs X [.int (42 : Int32)] dX7_takesPlan_111 m_X7_118 v_X7_skips ⟨Nat.le_of_ble_eq_true rfl, Nat.le_of_ble_eq_true rfl⟩ ⟨Nat.zero_le _, Nat.zero_le _⟩ rfl (Nat.le_of_ble_eq_true rfl) (gm7 hM) rfl cl7 (c_X7_skips hM eq23) ?_
              refine V_if_eq X 158 dX7_takesPlan_114 (by decide) (fun c24 => ?_) (fun c24 => ?_)
              · replace hs := if_t hs c24
                refine V_aload_n X dX7_takesPlan_158 rfl 0 rfl ?_
                refine V_get X dX7_takesPlan_159 r_X7_107 (gm7 hM) rfl rfl ?_
                refine V_aload_n X dX7_takesPlan_162 rfl 0 rfl ?_
                refine V_get X dX7_takesPlan_163 r_X7_104 (gm7 hM) rfl rfl ?_
                refine V_icmp_ne X 173 dX7_takesPlan_166 (by decide) (fun c25 => ?_) (fun c25 => ?_)
                · replace hs := if_f hs c25
                  refine V_iconst X (0 : Int32) dX7_takesPlan_173 (by decide) ?_
                  obtain rfl := Option.some.inj hs; exact V_zret X hr nb0 dX7_takesPlan_174
                · replace hs := if_t hs c25
                  refine V_iconst X (1 : Int32) dX7_takesPlan_169 (by decide) ?_
                  refine V_goto X 174 dX7_takesPlan_170 (by decide) ?_
                  obtain rfl := Option.some.inj hs; exact V_zret X hr nb1 dX7_takesPlan_174
              · replace hs := if_f hs c24
                refine V_aload_n X dX7_takesPlan_117 rfl 0 rfl ?_
                refine V_bipush X (48 : Int32) dX7_takesPlan_118 (by decide) ?_
                refine V_bipush X (57 : Int32) dX7_takesPlan_120 (by decide) ?_
                obtain ⟨q26, eq26, hs⟩ := bd_some hs
                refine V_callVs X [.int (48 : Int32), .int (57 : Int32)] dX7_takesPlan_122 m_X7_110 v_X7_isNext ⟨Nat.le_of_ble_eq_true rfl, Nat.le_of_ble_eq_true rfl⟩ ⟨Nat.zero_le _, Nat.zero_le _⟩ rfl (Nat.le_of_ble_eq_true rfl) (gm7 hM) rfl cl7 (c_X7_isNext hM eq26) ?_
                refine V_if_ne X 130 dX7_takesPlan_125 (by decide) (fun c27 => ?_) (fun c27 => ?_)
                · replace hs := if_f hs c27
                  refine V_aload_n X dX7_takesPlan_130 rfl 0 rfl ?_
                  refine V_get X dX7_takesPlan_131 r_X7_36 (gm7 hM) rfl rfl ?_
                  refine V_iconst X (3 : Int32) dX7_takesPlan_134 (by decide) ?_
                  refine V_aload_n X dX7_takesPlan_135 rfl 0 rfl ?_
                  refine V_get X dX7_takesPlan_136 r_X7_32 (gm7 hM) rfl rfl ?_
                  refine V_aload_n X dX7_takesPlan_139 rfl 0 rfl ?_
                  refine V_get X dX7_takesPlan_140 r_X7_107 (gm7 hM) rfl rfl ?_
                  obtain ⟨h28, hs⟩ := gd_some hs
                  refine V_cald X dX7_takesPlan_143 (gm30 hM) rfl h28 ?_
                  refine V_bipush X (48 : Int32) dX7_takesPlan_144 (by decide) ?_
                  refine V_isub X dX7_takesPlan_146 ?_
                  obtain ⟨h29, hs⟩ := gd_some hs
                  refine V_iast X dX7_takesPlan_147 (gm31 hM) (fun _ => rfl) h29 (fun Z30 eZ30 => ?_)
                  replace hs := sv_some hs Z30 eZ30
                  clear eZ30
                  refine V_aload_n X dX7_takesPlan_148 rfl 0 rfl ?_
                  refine V_dup X dX7_takesPlan_149 rfl ?_
                  refine V_get X dX7_takesPlan_150 r_X7_107 (gm7 hM) rfl rfl ?_
                  refine V_iconst X (1 : Int32) dX7_takesPlan_153 (by decide) ?_
                  refine V_iadd X dX7_takesPlan_154 ?_
                  refine V_put X dX7_takesPlan_155 f_X7_107 (gm7 hM) rfl (Nat.le_of_ble_eq_true rfl) rfl rfl rfl (fun Z31 eZ31 => ?_)
                  replace hs := sv_some hs Z31 eZ31
                  clear eZ31
                  refine V_aload_n X dX7_takesPlan_158 rfl 0 rfl ?_
                  refine V_get X dX7_takesPlan_159 r_X7_107 (gm7 hM) rfl rfl ?_
                  refine V_aload_n X dX7_takesPlan_162 rfl 0 rfl ?_
                  refine V_get X dX7_takesPlan_163 r_X7_104 (gm7 hM) rfl rfl ?_
                  refine V_icmp_ne X 173 dX7_takesPlan_166 (by decide) (fun c32 => ?_) (fun c32 => ?_)
                  · replace hs := if_f hs c32
                    refine V_iconst X (0 : Int32) dX7_takesPlan_173 (by decide) ?_
                    obtain rfl := Option.some.inj hs; exact V_zret X hr nb0 dX7_takesPlan_174
                  · replace hs := if_t hs c32
                    refine V_iconst X (1 : Int32) dX7_takesPlan_169 (by decide) ?_
                    refine V_goto X 174 dX7_takesPlan_170 (by decide) ?_
                    obtain rfl := Option.some.inj hs; exact V_zret X hr nb1 dX7_takesPlan_174
                · replace hs := if_t hs c27
                  refine V_iconst X (0 : Int32) dX7_takesPlan_128 (by decide) ?_
                  obtain rfl := Option.some.inj hs; exact V_zret X hr nb0 dX7_takesPlan_129
            · replace hs := if_t hs c16
              refine V_iconst X (0 : Int32) dX7_takesPlan_71 (by decide) ?_
              obtain rfl := Option.some.inj hs; exact V_zret X hr nb0 dX7_takesPlan_72
  · replace hs := if_t hs c3
    refine V_iconst X (0 : Int32) dX7_takesPlan_14 (by decide) ?_
    obtain rfl := Option.some.inj hs; exact V_zret X hr nb0 dX7_takesPlan_15

def s_X7_isChute (p1 : Int32) (S : S4) : Option Int32 := (if p1 < 0 then some (0 : Int32) else (if (S 7 0 0 9) ≤ p1 then some (0 : Int32) else some (1 : Int32)))
set_option maxRecDepth 100000 in
set_option maxHeartbeats 4000000 in
theorem c_X7_isChute {l : Launch} {D : va_G} {cA : Nat → ClassId} {dm : Dm} {ad : Ad} {S : S4} {p1 : Int32} (hM : DM dm) {out : Int32} (hs : s_X7_isChute p1 S = some out) : Ct D cA dm ad l yX7_isChute cX7_isChute 2 (some .boolean) 0 0 S [.ref (ad 7 0 0), .int p1] (some (.int out)) S := by
  refine Ct.of (by decide +kernel) (Nat.le_of_ble_eq_true rfl) [(0, .ref (ad 7 0 0)), (1, .int p1)] rfl (fun p e s m args below meth c A X hr => ?_)
  unfold s_X7_isChute at hs
  refine V_iload_n X dX7_isChute_0 rfl 1 rfl ?_
  refine V_if_lt X 16 dX7_isChute_1 (by decide) (fun c1 => ?_) (fun c1 => ?_)
  · replace hs := if_t hs c1
    refine V_iconst X (0 : Int32) dX7_isChute_16 (by decide) ?_
    obtain rfl := Option.some.inj hs; exact V_zret X hr nb0 dX7_isChute_17
  · replace hs := if_f hs c1
    refine V_iload_n X dX7_isChute_4 rfl 1 rfl ?_
    refine V_aload_n X dX7_isChute_5 rfl 0 rfl ?_
    refine V_get X dX7_isChute_6 r_X7_60 (gm7 hM) rfl rfl ?_
    refine V_icmp_ge X 16 dX7_isChute_9 (by decide) (fun c2 => ?_) (fun c2 => ?_)
    · replace hs := if_t hs c2
      refine V_iconst X (0 : Int32) dX7_isChute_16 (by decide) ?_
      obtain rfl := Option.some.inj hs; exact V_zret X hr nb0 dX7_isChute_17
    · replace hs := if_f hs c2
      refine V_iconst X (1 : Int32) dX7_isChute_12 (by decide) ?_
      refine V_goto X 17 dX7_isChute_13 (by decide) ?_
      obtain rfl := Option.some.inj hs; exact V_zret X hr nb1 dX7_isChute_17

def s_X7_isPossible_L68 (fu : Nat)  (k17 : Int32 → Option Int32) (S : S4) : Nat → Int32 → Int32 → Int32 → Option Int32
  | 0, _, _, _ => none
  | f68+1, v1, v2, v3 => gd (inb (v2 + (2 : Int32)) 52) ((if (S 31 0 0 (v2 + (2 : Int32)).toNatClampNeg) ≤ v3 then k17 (v1 + (1 : Int32)) else gd (inb ((v2 + (3 : Int32)) + v3) 52) ((s_X7_isChute (S 31 0 0 ((v2 + (3 : Int32)) + v3).toNatClampNeg) S).bind fun q14 => (if q14 = 0 then some (0 : Int32) else s_X7_isPossible_L68 fu k17 S f68 v1 v2 (v3 + (1 : Int32))))))
def s_X7_isPossible_L17 (fu : Nat)  (S : S4) : Nat → Int32 → Option Int32
  | 0, _ => none
  | f17+1, v1 => gd (inb (1 : Int32) 52) ((if (S 31 0 0 (1 : Int32).toNatClampNeg) ≤ v1 then some (1 : Int32) else gd (inb (((4 : Int32) + ((6 : Int32) * v1)) + (1 : Int32)) 52) ((if (99 : Int32) < (S 31 0 0 (((4 : Int32) + ((6 : Int32) * v1)) + (1 : Int32)).toNatClampNeg) then some (0 : Int32) else gd (inb ((4 : Int32) + ((6 : Int32) * v1)) 52) (gd (inb (((4 : Int32) + ((6 : Int32) * v1)) + (1 : Int32)) 52) ((if (S 31 0 0 ((4 : Int32) + ((6 : Int32) * v1)).toNatClampNeg) ≤ (S 31 0 0 (((4 : Int32) + ((6 : Int32) * v1)) + (1 : Int32)).toNatClampNeg) then s_X7_isPossible_L68 fu (fun a1 => s_X7_isPossible_L17 fu S f17 a1) S fu v1 ((4 : Int32) + ((6 : Int32) * v1)) (0 : Int32) else some (0 : Int32))))))))
def s_X7_isPossible (fu : Nat)  (S : S4) : Option Int32 := gd (inb (2 : Int32) 52) ((s_X7_isChute (S 31 0 0 (2 : Int32).toNatClampNeg) S).bind fun q2 => (if q2 = 0 then some (0 : Int32) else s_X7_isPossible_L17 fu S fu (0 : Int32)))
set_option maxRecDepth 100000 in
set_option maxHeartbeats 4000000 in
theorem c_X7_isPossible {l : Launch} {D : va_G} {cA : Nat → ClassId} {dm : Dm} {ad : Ad} {fu : Nat} {S : S4} (hM : DM dm) {out : Int32} (hs : s_X7_isPossible fu S = some out) : Ct D cA dm ad l yX7_isPossible cX7_isPossible 4 (some .boolean) 1 21 S [.ref (ad 7 0 0)] (some (.int out)) S := by
  refine Ct.of (by decide +kernel) (Nat.le_of_ble_eq_true rfl) [(0, .ref (ad 7 0 0))] rfl (fun p e s m args below meth c A X hr => ?_)
  unfold s_X7_isPossible at hs
  refine V_aload_n X dX7_isPossible_0 rfl 0 rfl ?_
  refine V_aload_n X dX7_isPossible_1 rfl 0 rfl ?_
  refine V_get X dX7_isPossible_2 r_X7_36 (gm7 hM) rfl rfl ?_
  refine V_iconst X (2 : Int32) dX7_isPossible_5 (by decide) ?_
  obtain ⟨h1, hs⟩ := gd_some hs
  refine V_iald X dX7_isPossible_6 (gm31 hM) rfl h1 ?_
  obtain ⟨q2, eq2, hs⟩ := bd_some hs
  refine V_callVs X [.int (S 31 0 0 (2 : Int32).toNatClampNeg)] dX7_isPossible_7 m_X7_132 v_X7_isChute ⟨Nat.le_of_ble_eq_true rfl, Nat.le_of_ble_eq_true rfl⟩ ⟨Nat.zero_le _, Nat.zero_le _⟩ rfl (Nat.le_of_ble_eq_true rfl) (gm7 hM) rfl cl7 (c_X7_isChute hM eq2) ?_
  refine V_if_ne X 15 dX7_isPossible_10 (by decide) (fun c3 => ?_) (fun c3 => ?_)
  · replace hs := if_f hs c3
    refine V_iconst X (0 : Int32) dX7_isPossible_15 (by decide) ?_
    refine V_istore_n X dX7_isPossible_16 rfl [(1, .int (0 : Int32)), (0, .ref (ad 7 0 0))] (by decide) rfl ?_
    have L17 : ∀ (n : Nat) (v1 : Int32) , s_X7_isPossible_L17 fu S n v1 = some out → V D cA dm ad A 4 p l e ({ frames := 1, cells := 0, slots := 0, locals := 21 }) s m args below meth c 0 0 (MQ below (gQ D cA dm ad S (some (.int out)) A) args s 0 0 A) S 17 [(0, .ref (ad 7 0 0)), (1, .int v1)] [] := by
      intro n
      induction n with
      | zero => intro v1 hs; rw [s_X7_isPossible_L17] at hs; cases hs
      | succ f17 ih17 =>
        intro v1 hs
        rw [s_X7_isPossible_L17] at hs
        refine V_iload_n X dX7_isPossible_17 rfl 1 rfl ?_
        refine V_aload_n X dX7_isPossible_18 rfl 0 rfl ?_
        refine V_get X dX7_isPossible_19 r_X7_36 (gm7 hM) rfl rfl ?_
        refine V_iconst X (1 : Int32) dX7_isPossible_22 (by decide) ?_
        obtain ⟨h4, hs⟩ := gd_some hs
        refine V_iald X dX7_isPossible_23 (gm31 hM) rfl h4 ?_
        refine V_icmp_ge X 111 dX7_isPossible_24 (by decide) (fun c5 => ?_) (fun c5 => ?_)
        · replace hs := if_t hs c5
          refine V_iconst X (1 : Int32) dX7_isPossible_111 (by decide) ?_
          obtain rfl := Option.some.inj hs; exact V_zret X hr nb1 dX7_isPossible_112
        · replace hs := if_f hs c5
          refine V_iconst X (4 : Int32) dX7_isPossible_27 (by decide) ?_
          refine V_bipush X (6 : Int32) dX7_isPossible_28 (by decide) ?_
          refine V_iload_n X dX7_isPossible_30 rfl 1 rfl ?_
          refine V_imul X dX7_isPossible_31 ?_
          refine V_iadd X dX7_isPossible_32 ?_
          refine V_istore_n X dX7_isPossible_33 rfl [(2, .int ((4 : Int32) + ((6 : Int32) * v1))), (0, .ref (ad 7 0 0)), (1, .int v1)] (by decide) rfl ?_
          refine V_aload_n X dX7_isPossible_34 rfl 1 rfl ?_
          refine V_get X dX7_isPossible_35 r_X7_36 (gm7 hM) rfl rfl ?_
          refine V_iload_n X dX7_isPossible_38 rfl 0 rfl ?_
          refine V_iconst X (1 : Int32) dX7_isPossible_39 (by decide) ?_
          refine V_iadd X dX7_isPossible_40 ?_
          obtain ⟨h6, hs⟩ := gd_some hs
          refine V_iald X dX7_isPossible_41 (gm31 hM) rfl h6 ?_
          refine V_bipush X (99 : Int32) dX7_isPossible_42 (by decide) ?_
          refine V_icmp_gt X 64 dX7_isPossible_44 (by decide) (fun c7 => ?_) (fun c7 => ?_)
          · replace hs := if_t hs c7
            refine V_iconst X (0 : Int32) dX7_isPossible_64 (by decide) ?_
            obtain rfl := Option.some.inj hs; exact V_zret X hr nb0 dX7_isPossible_65
          · replace hs := if_f hs c7
            refine V_aload_n X dX7_isPossible_47 rfl 1 rfl ?_
            refine V_get X dX7_isPossible_48 r_X7_36 (gm7 hM) rfl rfl ?_
            refine V_iload_n X dX7_isPossible_51 rfl 0 rfl ?_
            obtain ⟨h8, hs⟩ := gd_some hs
            refine V_iald X dX7_isPossible_52 (gm31 hM) rfl h8 ?_
            refine V_aload_n X dX7_isPossible_53 rfl 1 rfl ?_
            refine V_get X dX7_isPossible_54 r_X7_36 (gm7 hM) rfl rfl ?_
            refine V_iload_n X dX7_isPossible_57 rfl 0 rfl ?_
            refine V_iconst X (1 : Int32) dX7_isPossible_58 (by decide) ?_
            refine V_iadd X dX7_isPossible_59 ?_
            obtain ⟨h9, hs⟩ := gd_some hs
            refine V_iald X dX7_isPossible_60 (gm31 hM) rfl h9 ?_
            refine V_icmp_le X 66 dX7_isPossible_61 (by decide) (fun c10 => ?_) (fun c10 => ?_)
            · replace hs := if_t hs c10
              refine V_iconst X (0 : Int32) dX7_isPossible_66 (by decide) ?_
              refine V_istore_n X dX7_isPossible_67 rfl [(3, .int (0 : Int32)), (2, .int ((4 : Int32) + ((6 : Int32) * v1))), (0, .ref (ad 7 0 0)), (1, .int v1)] (by decide) rfl ?_
              have L68 : ∀ (n : Nat) (v1 v2 v3 : Int32) , s_X7_isPossible_L68 fu (fun a1 => s_X7_isPossible_L17 fu S f17 a1) S n v1 v2 v3 = some out → V D cA dm ad A 4 p l e ({ frames := 1, cells := 0, slots := 0, locals := 21 }) s m args below meth c 0 0 (MQ below (gQ D cA dm ad S (some (.int out)) A) args s 0 0 A) S 68 [(0, .ref (ad 7 0 0)), (1, .int v1), (2, .int v2), (3, .int v3)] [] := by
                intro n
                induction n with
                | zero => intro v1 v2 v3 hs; rw [s_X7_isPossible_L68] at hs; cases hs
                | succ f68 ih68 =>
                  intro v1 v2 v3 hs
                  rw [s_X7_isPossible_L68] at hs
                  refine V_iload_n X dX7_isPossible_68 rfl 3 rfl ?_
                  refine V_aload_n X dX7_isPossible_69 rfl 0 rfl ?_
                  refine V_get X dX7_isPossible_70 r_X7_36 (gm7 hM) rfl rfl ?_
                  refine V_iload_n X dX7_isPossible_73 rfl 2 rfl ?_
                  refine V_iconst X (2 : Int32) dX7_isPossible_74 (by decide) ?_
                  refine V_iadd X dX7_isPossible_75 ?_
                  obtain ⟨h11, hs⟩ := gd_some hs
                  refine V_iald X dX7_isPossible_76 (gm31 hM) rfl h11 ?_
                  refine V_icmp_ge X 105 dX7_isPossible_77 (by decide) (fun c12 => ?_) (fun c12 => ?_)
                  · replace hs := if_t hs c12
                    refine V_iinc X (v1 + (1 : Int32)) dX7_isPossible_105 1 rfl rfl [(1, .int (v1 + (1 : Int32))), (0, .ref (ad 7 0 0)), (2, .int v2), (3, .int v3)] (by decide) rfl ?_
                    refine V_goto X 17 dX7_isPossible_108 (by decide) ?_
                    refine V_sub [1, 0] rfl ?_
                    exact ih17 _ hs
                  · replace hs := if_f hs c12
                    refine V_aload_n X dX7_isPossible_80 rfl 0 rfl ?_
                    refine V_aload_n X dX7_isPossible_81 rfl 0 rfl ?_
                    refine V_get X dX7_isPossible_82 r_X7_36 (gm7 hM) rfl rfl ?_
                    refine V_iload_n X dX7_isPossible_85 rfl 2 rfl ?_
                    refine V_iconst X (3 : Int32) dX7_isPossible_86 (by decide) ?_
                    refine V_iadd X dX7_isPossible_87 ?_
                    refine V_iload_n X dX7_isPossible_88 rfl 3 rfl ?_
                    refine V_iadd X dX7_isPossible_89 ?_
                    obtain ⟨h13, hs⟩ := gd_some hs
                    refine V_iald X dX7_isPossible_90 (gm31 hM) rfl h13 ?_
                    obtain ⟨q14, eq14, hs⟩ := bd_some hs
                    refine V_callVs X [.int (S 31 0 0 ((v2 + (3 : Int32)) + v3).toNatClampNeg)] dX7_isPossible_91 m_X7_132 v_X7_isChute ⟨Nat.le_of_ble_eq_true rfl, Nat.le_of_ble_eq_true rfl⟩ ⟨Nat.zero_le _, Nat.zero_le _⟩ rfl (Nat.le_of_ble_eq_true rfl) (gm7 hM) rfl cl7 (c_X7_isChute hM eq14) ?_
                    refine V_if_ne X 99 dX7_isPossible_94 (by decide) (fun c15 => ?_) (fun c15 => ?_)
                    · replace hs := if_f hs c15
                      refine V_iinc X (v3 + (1 : Int32)) dX7_isPossible_99 3 rfl rfl [(3, .int (v3 + (1 : Int32))), (0, .ref (ad 7 0 0)), (1, .int v1), (2, .int v2)] (by decide) rfl ?_
                      refine V_goto X 68 dX7_isPossible_102 (by decide) ?_
                      refine V_sub [1, 2, 3, 0] rfl ?_
                      exact ih68 _ _ _ hs
                    · replace hs := if_t hs c15
                      refine V_iconst X (0 : Int32) dX7_isPossible_97 (by decide) ?_
                      obtain rfl := Option.some.inj hs; exact V_zret X hr nb0 dX7_isPossible_98
              refine V_sub [2, 3, 1, 0] rfl ?_
              exact L68 _ _ _ _ hs
            · replace hs := if_f hs c10
              refine V_iconst X (0 : Int32) dX7_isPossible_64 (by decide) ?_
              obtain rfl := Option.some.inj hs; exact V_zret X hr nb0 dX7_isPossible_65
    refine V_sub [1, 0] rfl ?_
    exact L17 _ _ hs
  · replace hs := if_t hs c3
    refine V_iconst X (0 : Int32) dX7_isPossible_13 (by decide) ?_
    obtain rfl := Option.some.inj hs; exact V_zret X hr nb0 dX7_isPossible_14

def s_X7_ofPlan (p1 : Int32) (p2 : Int32) (S : S4) : Option Int32 := gd (inb (((52 : Int32) * p1) + p2) 260) (some (S 27 0 0 (((52 : Int32) * p1) + p2).toNatClampNeg))
set_option maxRecDepth 100000 in
set_option maxHeartbeats 4000000 in
theorem c_X7_ofPlan {l : Launch} {D : va_G} {cA : Nat → ClassId} {dm : Dm} {ad : Ad} {S : S4} {p1 : Int32} {p2 : Int32} (hM : DM dm) {out : Int32} (hs : s_X7_ofPlan p1 p2 S = some out) : Ct D cA dm ad l yX7_ofPlan cX7_ofPlan 3 (some .int) 0 0 S [.ref (ad 7 0 0), .int p1, .int p2] (some (.int out)) S := by
  refine Ct.of (by decide +kernel) (Nat.le_of_ble_eq_true rfl) [(0, .ref (ad 7 0 0)), (1, .int p1), (2, .int p2)] rfl (fun p e s m args below meth c A X hr => ?_)
  unfold s_X7_ofPlan at hs
  refine V_aload_n X dX7_ofPlan_0 rfl 0 rfl ?_
  refine V_get X dX7_ofPlan_1 r_X7_19 (gm7 hM) rfl rfl ?_
  refine V_bipush X (52 : Int32) dX7_ofPlan_4 (by decide) ?_
  refine V_iload_n X dX7_ofPlan_6 rfl 1 rfl ?_
  refine V_imul X dX7_ofPlan_7 ?_
  refine V_iload_n X dX7_ofPlan_8 rfl 2 rfl ?_
  refine V_iadd X dX7_ofPlan_9 ?_
  obtain ⟨h1, hs⟩ := gd_some hs
  refine V_iald X dX7_ofPlan_10 (gm27 hM) rfl h1 ?_
  obtain rfl := Option.some.inj hs; exact V_iret X hr dX7_ofPlan_11

def s_X7_addPlan_L182 (fu : Nat)  : Nat → Int32 → Int32 → S4 → Option (Int32 × S4)
  | 0, _, _, _ => none
  | f182+1, v2, v4, Z14 => (if (52 : Int32) ≤ v4 then some ((Z14 7 0 0 10), Z14) else gd (inb v4 52) (gd (inb (((52 : Int32) * v2) + v4) 260) (sv (u4 Z14 27 0 0 ((((52 : Int32) * v2) + v4).toNatClampNeg) (Z14 31 0 0 v4.toNatClampNeg)) fun Z18 => s_X7_addPlan_L182 fu f182 v2 (v4 + (1 : Int32)) Z18)))
def s_X7_addPlan_L137 (fu : Nat)  : Nat → Int32 → Int32 → S4 → Option (Int32 × S4)
  | 0, _, _, _ => none
  | f137+1, v2, v4, Z19 => (if v4 < ((52 : Int32) * v2) then sv (u4 Z19 7 0 0 10 ((Z19 7 0 0 10) + (1 : Int32))) fun Z21 => s_X7_addPlan_L182 fu fu v2 (0 : Int32) Z21 else gd (inb v4 260) (gd (inb (v4 + (52 : Int32)) 260) (sv (u4 Z19 27 0 0 ((v4 + (52 : Int32)).toNatClampNeg) (Z19 27 0 0 v4.toNatClampNeg)) fun Z29 => s_X7_addPlan_L137 fu f137 v2 (v4 + (-1 : Int32)) Z29)))
def s_X7_addPlan_L42 (fu : Nat)  : Nat → Int32 → S4 → Option (Int32 × S4)
  | 0, _, _ => none
  | f42+1, v2, Z7 => (if (Z7 7 0 0 10) ≤ v2 then ((if (Z7 7 0 0 10) ≤ v2 then some (0 : Int32) else (s_X7_ofPlan v2 (0 : Int32) Z7).bind fun q52 => gd (inb (0 : Int32) 52) ((if q52 = (Z7 31 0 0 (0 : Int32).toNatClampNeg) then some (1 : Int32) else some (0 : Int32))))).bind fun q9 => (if q9 = 0 then (if (Z7 7 0 0 10) = (5 : Int32) then (s_X7_fails (2 : Int32) Z7).bind fun q50 => some (q50.1, q50.2) else (s_X7_remembers fu Z7).bind fun Z32 => (if q9 = 0 then s_X7_addPlan_L137 fu fu v2 (((52 : Int32) * (Z32 7 0 0 10)) - (1 : Int32)) Z32 else s_X7_addPlan_L182 fu fu v2 (0 : Int32) Z32)) else (s_X7_remembers fu Z7).bind fun Z12 => (if q9 = 0 then s_X7_addPlan_L137 fu fu v2 (((52 : Int32) * (Z12 7 0 0 10)) - (1 : Int32)) Z12 else s_X7_addPlan_L182 fu fu v2 (0 : Int32) Z12)) else (s_X7_ofPlan v2 (0 : Int32) Z7).bind fun q55 => gd (inb (0 : Int32) 52) ((if (Z7 31 0 0 (0 : Int32).toNatClampNeg) ≤ q55 then ((if (Z7 7 0 0 10) ≤ v2 then some (0 : Int32) else (s_X7_ofPlan v2 (0 : Int32) Z7).bind fun q101 => gd (inb (0 : Int32) 52) ((if q101 = (Z7 31 0 0 (0 : Int32).toNatClampNeg) then some (1 : Int32) else some (0 : Int32))))).bind fun q58 => (if q58 = 0 then (if (Z7 7 0 0 10) = (5 : Int32) then (s_X7_fails (2 : Int32) Z7).bind fun q99 => some (q99.1, q99.2) else (s_X7_remembers fu Z7).bind fun Z81 => (if q58 = 0 then s_X7_addPlan_L137 fu fu v2 (((52 : Int32) * (Z81 7 0 0 10)) - (1 : Int32)) Z81 else s_X7_addPlan_L182 fu fu v2 (0 : Int32) Z81)) else (s_X7_remembers fu Z7).bind fun Z61 => (if q58 = 0 then s_X7_addPlan_L137 fu fu v2 (((52 : Int32) * (Z61 7 0 0 10)) - (1 : Int32)) Z61 else s_X7_addPlan_L182 fu fu v2 (0 : Int32) Z61)) else s_X7_addPlan_L42 fu f42 (v2 + (1 : Int32)) Z7)))
def s_X7_addPlan (fu : Nat)  (S : S4) : Option (Int32 × S4) := (s_X7_takesPlan fu S).bind fun q1 => sv (u4 q1.2 7 0 0 16 (0 : Int32)) fun Z2 => sv (u4 Z2 7 0 0 0 (0 : Int32)) fun Z3 => (if q1.1 = 0 then some (((-100 : Int32) - (Z3 7 0 0 17)), Z3) else (s_X7_isPossible fu Z3).bind fun q5 => (if q5 = 0 then (s_X7_fails (1 : Int32) Z3).bind fun q104 => some (q104.1, q104.2) else s_X7_addPlan_L42 fu fu (0 : Int32) Z3))
set_option maxRecDepth 100000 in
set_option maxHeartbeats 4000000 in
theorem c_X7_addPlan {l : Launch} {D : va_G} {cA : Nat → ClassId} {dm : Dm} {ad : Ad} {fu : Nat} {S : S4} (hM : DM dm) {out : (Int32 × S4)} (hs : s_X7_addPlan fu S = some out) : Ct D cA dm ad l yX7_addPlan cX7_addPlan 5 (some .int) 5 106 S [.ref (ad 7 0 0)] (some (.int out.1)) out.2 := by
  refine Ct.of (by decide +kernel) (Nat.le_of_ble_eq_true rfl) [(0, .ref (ad 7 0 0))] rfl (fun p e s m args below meth c A X hr => ?_)
  unfold s_X7_addPlan at hs
  refine V_aload_n X dX7_addPlan_0 rfl 0 rfl ?_
  obtain ⟨q1, eq1, hs⟩ := bd_some hs
  refine V_callVs X [] dX7_addPlan_1 m_X7_135 v_X7_takesPlan ⟨Nat.le_of_ble_eq_true rfl, Nat.le_of_ble_eq_true rfl⟩ ⟨Nat.zero_le _, Nat.zero_le _⟩ rfl (Nat.le_of_ble_eq_true rfl) (gm7 hM) rfl cl7 (c_X7_takesPlan hM eq1) ?_
  refine V_istore_n X dX7_addPlan_4 rfl [(1, .int q1.1), (0, .ref (ad 7 0 0))] (by decide) rfl ?_
  refine V_aload_n X dX7_addPlan_5 rfl 1 rfl ?_
  refine V_iconst X (0 : Int32) dX7_addPlan_6 (by decide) ?_
  refine V_put X dX7_addPlan_7 f_X7_104 (gm7 hM) rfl (Nat.le_of_ble_eq_true rfl) rfl rfl rfl (fun Z2 eZ2 => ?_)
  replace hs := sv_some hs Z2 eZ2
  clear eZ2
  refine V_aload_n X dX7_addPlan_10 rfl 1 rfl ?_
  refine V_iconst X (0 : Int32) dX7_addPlan_11 (by decide) ?_
  refine V_put X dX7_addPlan_12 f_X7_54 (gm7 hM) rfl (Nat.le_of_ble_eq_true rfl) rfl rfl rfl (fun Z3 eZ3 => ?_)
  replace hs := sv_some hs Z3 eZ3
  clear eZ3
  refine V_iload_n X dX7_addPlan_15 rfl 0 rfl ?_
  refine V_if_ne X 27 dX7_addPlan_16 (by decide) (fun c4 => ?_) (fun c4 => ?_)
  · replace hs := if_f hs c4
    refine V_aload_n X dX7_addPlan_27 rfl 1 rfl ?_
    obtain ⟨q5, eq5, hs⟩ := bd_some hs
    refine V_callVs X [] dX7_addPlan_28 m_X7_138 v_X7_isPossible ⟨Nat.le_of_ble_eq_true rfl, Nat.le_of_ble_eq_true rfl⟩ ⟨Nat.zero_le _, Nat.zero_le _⟩ rfl (Nat.le_of_ble_eq_true rfl) (gm7 hM) rfl cl7 (c_X7_isPossible hM eq5) ?_
    refine V_if_ne X 40 dX7_addPlan_31 (by decide) (fun c6 => ?_) (fun c6 => ?_)
    · replace hs := if_f hs c6
      refine V_iconst X (0 : Int32) dX7_addPlan_40 (by decide) ?_
      refine V_istore_n X dX7_addPlan_41 rfl [(2, .int (0 : Int32)), (1, .int q1.1), (0, .ref (ad 7 0 0))] (by decide) rfl ?_
      have L42 : ∀ (n : Nat) (v2 : Int32) (S1 : S4), s_X7_addPlan_L42 fu n v2 S1 = some out → V D cA dm ad A 5 p l e ({ frames := 5, cells := 0, slots := 0, locals := 106 }) s m args below meth c 0 0 (MQ below (gQ D cA dm ad out.2 (some (.int out.1)) A) args s 0 0 A) S1 42 [(0, .ref (ad 7 0 0)), (2, .int v2)] [] := by
        intro n
        induction n with
        | zero => intro v2 S1 hs; rw [s_X7_addPlan_L42] at hs; cases hs
        | succ f42 ih42 =>
          intro v2 Z7 hs
          rw [s_X7_addPlan_L42] at hs
          refine V_iload_n X dX7_addPlan_42 rfl 1 rfl ?_
          refine V_aload_n X dX7_addPlan_43 rfl 0 rfl ?_
          refine V_get X dX7_addPlan_44 r_X7_66 (gm7 hM) rfl rfl ?_
          refine V_icmp_ge X 71 dX7_addPlan_47 (by decide) (fun c8 => ?_) (fun c8 => ?_)
          · replace hs := if_t hs c8
            refine V_iload_n X dX7_addPlan_71 rfl 1 rfl ?_
            refine V_aload_n X dX7_addPlan_72 rfl 0 rfl ?_
            refine V_get X dX7_addPlan_73 r_X7_66 (gm7 hM) rfl rfl ?_
            refine jn (P := fun q => V D cA dm ad A 5 p l e ({ frames := 5, cells := 0, slots := 0, locals := 106 }) s m args below meth c 0 0 (MQ below (gQ D cA dm ad out.2 (some (.int out.1)) A) args s 0 0 A) Z7 99 [(0, .ref (ad 7 0 0)), (2, .int v2)] [.int q]) hs (fun q9 hs => ?_) (fun J99 hs => ?_)
            · refine V_istore_n X dX7_addPlan_99 rfl [(3, .int q9), (0, .ref (ad 7 0 0)), (2, .int v2)] (by decide) rfl ?_
              refine V_iload_n X dX7_addPlan_100 rfl 0 rfl ?_
              refine V_if_ne X 118 dX7_addPlan_101 (by decide) (fun c10 => ?_) (fun c10 => ?_)
              · replace hs := if_f hs c10
                refine V_aload_n X dX7_addPlan_118 rfl 1 rfl ?_
                obtain ⟨Z12, eZ12, hs⟩ := bd_some hs
                refine V_callVv X [] dX7_addPlan_119 m_X7_97 v_X7_remembers ⟨Nat.le_of_ble_eq_true rfl, Nat.le_of_ble_eq_true rfl⟩ ⟨Nat.zero_le _, Nat.zero_le _⟩ rfl (Nat.le_of_ble_eq_true rfl) (gm7 hM) rfl cl7 (c_X7_remembers hM eZ12) ?_
                refine V_iload_n X dX7_addPlan_122 rfl 0 rfl ?_
                refine V_if_ne X 179 dX7_addPlan_123 (by decide) (fun c13 => ?_) (fun c13 => ?_)
                · replace hs := if_f hs c13
                  refine V_iconst X (0 : Int32) dX7_addPlan_179 (by decide) ?_
                  refine V_istore X dX7_addPlan_180 [(4, .int (0 : Int32)), (3, .int q9), (0, .ref (ad 7 0 0)), (2, .int v2)] (by decide) rfl ?_
                  have L182 : ∀ (n : Nat) (v2 v4 : Int32) (S1 : S4), s_X7_addPlan_L182 fu n v2 v4 S1 = some out → V D cA dm ad A 5 p l e ({ frames := 5, cells := 0, slots := 0, locals := 106 }) s m args below meth c 0 0 (MQ below (gQ D cA dm ad out.2 (some (.int out.1)) A) args s 0 0 A) S1 182 [(0, .ref (ad 7 0 0)), (2, .int v2), (4, .int v4)] [] := by
                    intro n
                    induction n with
                    | zero => intro v2 v4 S1 hs; rw [s_X7_addPlan_L182] at hs; cases hs
                    | succ f182 ih182 =>
                      intro v2 v4 Z14 hs
                      rw [s_X7_addPlan_L182] at hs
                      refine V_iload X dX7_addPlan_182 2 rfl ?_
                      refine V_bipush X (52 : Int32) dX7_addPlan_184 (by decide) ?_
                      refine V_icmp_ge X 214 dX7_addPlan_186 (by decide) (fun c15 => ?_) (fun c15 => ?_)
                      · replace hs := if_t hs c15
                        refine V_aload_n X dX7_addPlan_214 rfl 0 rfl ?_
                        refine V_get X dX7_addPlan_215 r_X7_66 (gm7 hM) rfl rfl ?_
                        obtain rfl := Option.some.inj hs; exact V_iret X hr dX7_addPlan_218
                      · replace hs := if_f hs c15
                        refine V_aload_n X dX7_addPlan_189 rfl 0 rfl ?_
                        refine V_get X dX7_addPlan_190 r_X7_19 (gm7 hM) rfl rfl ?_
                        refine V_bipush X (52 : Int32) dX7_addPlan_193 (by decide) ?_
                        refine V_iload_n X dX7_addPlan_195 rfl 1 rfl ?_
                        refine V_imul X dX7_addPlan_196 ?_
                        refine V_iload X dX7_addPlan_197 2 rfl ?_
                        refine V_iadd X dX7_addPlan_199 ?_
                        refine V_aload_n X dX7_addPlan_200 rfl 0 rfl ?_
                        refine V_get X dX7_addPlan_201 r_X7_36 (gm7 hM) rfl rfl ?_
                        refine V_iload X dX7_addPlan_204 2 rfl ?_
                        obtain ⟨h16, hs⟩ := gd_some hs
                        refine V_iald X dX7_addPlan_206 (gm31 hM) rfl h16 ?_
                        obtain ⟨h17, hs⟩ := gd_some hs
                        refine V_iast X dX7_addPlan_207 (gm27 hM) (fun _ => rfl) h17 (fun Z18 eZ18 => ?_)
                        replace hs := sv_some hs Z18 eZ18
                        clear eZ18
                        refine V_iinc X (v4 + (1 : Int32)) dX7_addPlan_208 2 rfl rfl [(4, .int (v4 + (1 : Int32))), (0, .ref (ad 7 0 0)), (2, .int v2)] (by decide) rfl ?_
                        refine V_goto X 182 dX7_addPlan_211 (by decide) ?_
                        refine V_sub [1, 2, 0] rfl ?_
                        exact ih182 _ _ _ hs
                  refine V_sub [2, 3, 0] rfl ?_
                  exact L182 _ _ _ _ hs
                · replace hs := if_t hs c13
                  refine V_bipush X (52 : Int32) dX7_addPlan_126 (by decide) ?_
                  refine V_aload_n X dX7_addPlan_128 rfl 1 rfl ?_
                  refine V_get X dX7_addPlan_129 r_X7_66 (gm7 hM) rfl rfl ?_
                  refine V_imul X dX7_addPlan_132 ?_
                  refine V_iconst X (1 : Int32) dX7_addPlan_133 (by decide) ?_
                  refine V_isub X dX7_addPlan_134 ?_
                  refine V_istore X dX7_addPlan_135 [(4, .int (((52 : Int32) * (Z12 7 0 0 10)) - (1 : Int32))), (3, .int q9), (0, .ref (ad 7 0 0)), (2, .int v2)] (by decide) rfl ?_
                  have L137 : ∀ (n : Nat) (v2 v4 : Int32) (S1 : S4), s_X7_addPlan_L137 fu n v2 v4 S1 = some out → V D cA dm ad A 5 p l e ({ frames := 5, cells := 0, slots := 0, locals := 106 }) s m args below meth c 0 0 (MQ below (gQ D cA dm ad out.2 (some (.int out.1)) A) args s 0 0 A) S1 137 [(0, .ref (ad 7 0 0)), (2, .int v2), (4, .int v4)] [] := by
                    intro n
                    induction n with
                    | zero => intro v2 v4 S1 hs; rw [s_X7_addPlan_L137] at hs; cases hs
                    | succ f137 ih137 =>
                      intro v2 v4 Z19 hs
                      rw [s_X7_addPlan_L137] at hs
                      refine V_iload X dX7_addPlan_137 2 rfl ?_
                      refine V_bipush X (52 : Int32) dX7_addPlan_139 (by decide) ?_
                      refine V_iload_n X dX7_addPlan_141 rfl 1 rfl ?_
                      refine V_imul X dX7_addPlan_142 ?_
                      refine V_icmp_lt X 169 dX7_addPlan_143 (by decide) (fun c20 => ?_) (fun c20 => ?_)
                      · replace hs := if_t hs c20
                        refine V_aload_n X dX7_addPlan_169 rfl 0 rfl ?_
                        refine V_dup X dX7_addPlan_170 rfl ?_
                        refine V_get X dX7_addPlan_171 r_X7_66 (gm7 hM) rfl rfl ?_
                        refine V_iconst X (1 : Int32) dX7_addPlan_174 (by decide) ?_
                        refine V_iadd X dX7_addPlan_175 ?_
                        refine V_put X dX7_addPlan_176 f_X7_66 (gm7 hM) rfl (Nat.le_of_ble_eq_true rfl) rfl rfl rfl (fun Z21 eZ21 => ?_)
                        replace hs := sv_some hs Z21 eZ21
                        clear eZ21
                        refine V_iconst X (0 : Int32) dX7_addPlan_179 (by decide) ?_
                        refine V_istore X dX7_addPlan_180 [(4, .int (0 : Int32)), (0, .ref (ad 7 0 0)), (2, .int v2)] (by decide) rfl ?_
                        have L182 : ∀ (n : Nat) (v2 v4 : Int32) (S1 : S4), s_X7_addPlan_L182 fu n v2 v4 S1 = some out → V D cA dm ad A 5 p l e ({ frames := 5, cells := 0, slots := 0, locals := 106 }) s m args below meth c 0 0 (MQ below (gQ D cA dm ad out.2 (some (.int out.1)) A) args s 0 0 A) S1 182 [(0, .ref (ad 7 0 0)), (2, .int v2), (4, .int v4)] [] := by
                          intro n
                          induction n with
                          | zero => intro v2 v4 S1 hs; rw [s_X7_addPlan_L182] at hs; cases hs
                          | succ f182 ih182 =>
                            intro v2 v4 Z22 hs
                            rw [s_X7_addPlan_L182] at hs
                            refine V_iload X dX7_addPlan_182 2 rfl ?_
                            refine V_bipush X (52 : Int32) dX7_addPlan_184 (by decide) ?_
                            refine V_icmp_ge X 214 dX7_addPlan_186 (by decide) (fun c23 => ?_) (fun c23 => ?_)
                            · replace hs := if_t hs c23
                              refine V_aload_n X dX7_addPlan_214 rfl 0 rfl ?_
                              refine V_get X dX7_addPlan_215 r_X7_66 (gm7 hM) rfl rfl ?_
                              obtain rfl := Option.some.inj hs; exact V_iret X hr dX7_addPlan_218
                            · replace hs := if_f hs c23
                              refine V_aload_n X dX7_addPlan_189 rfl 0 rfl ?_
                              refine V_get X dX7_addPlan_190 r_X7_19 (gm7 hM) rfl rfl ?_
                              refine V_bipush X (52 : Int32) dX7_addPlan_193 (by decide) ?_
                              refine V_iload_n X dX7_addPlan_195 rfl 1 rfl ?_
                              refine V_imul X dX7_addPlan_196 ?_
                              refine V_iload X dX7_addPlan_197 2 rfl ?_
                              refine V_iadd X dX7_addPlan_199 ?_
                              refine V_aload_n X dX7_addPlan_200 rfl 0 rfl ?_
                              refine V_get X dX7_addPlan_201 r_X7_36 (gm7 hM) rfl rfl ?_
                              refine V_iload X dX7_addPlan_204 2 rfl ?_
                              obtain ⟨h24, hs⟩ := gd_some hs
                              refine V_iald X dX7_addPlan_206 (gm31 hM) rfl h24 ?_
                              obtain ⟨h25, hs⟩ := gd_some hs
                              refine V_iast X dX7_addPlan_207 (gm27 hM) (fun _ => rfl) h25 (fun Z26 eZ26 => ?_)
                              replace hs := sv_some hs Z26 eZ26
                              clear eZ26
                              refine V_iinc X (v4 + (1 : Int32)) dX7_addPlan_208 2 rfl rfl [(4, .int (v4 + (1 : Int32))), (0, .ref (ad 7 0 0)), (2, .int v2)] (by decide) rfl ?_
                              refine V_goto X 182 dX7_addPlan_211 (by decide) ?_
                              refine V_sub [1, 2, 0] rfl ?_
                              exact ih182 _ _ _ hs
                        refine V_sub [1, 2, 0] rfl ?_
                        exact L182 _ _ _ _ hs
                      · replace hs := if_f hs c20
                        refine V_aload_n X dX7_addPlan_146 rfl 0 rfl ?_
                        refine V_get X dX7_addPlan_147 r_X7_19 (gm7 hM) rfl rfl ?_
                        refine V_iload X dX7_addPlan_150 2 rfl ?_
                        refine V_bipush X (52 : Int32) dX7_addPlan_152 (by decide) ?_
                        refine V_iadd X dX7_addPlan_154 ?_
                        refine V_aload_n X dX7_addPlan_155 rfl 0 rfl ?_
                        refine V_get X dX7_addPlan_156 r_X7_19 (gm7 hM) rfl rfl ?_
                        refine V_iload X dX7_addPlan_159 2 rfl ?_
                        obtain ⟨h27, hs⟩ := gd_some hs
                        refine V_iald X dX7_addPlan_161 (gm27 hM) rfl h27 ?_
                        obtain ⟨h28, hs⟩ := gd_some hs
                        refine V_iast X dX7_addPlan_162 (gm27 hM) (fun _ => rfl) h28 (fun Z29 eZ29 => ?_)
                        replace hs := sv_some hs Z29 eZ29
                        clear eZ29
                        refine V_iinc X (v4 + (-1 : Int32)) dX7_addPlan_163 2 rfl rfl [(4, .int (v4 + (-1 : Int32))), (0, .ref (ad 7 0 0)), (2, .int v2)] (by decide) rfl ?_
                        refine V_goto X 137 dX7_addPlan_166 (by decide) ?_
                        refine V_sub [1, 2, 0] rfl ?_
                        exact ih137 _ _ _ hs
                  refine V_sub [2, 3, 0] rfl ?_
                  exact L137 _ _ _ _ hs
              · replace hs := if_t hs c10
                refine V_aload_n X dX7_addPlan_104 rfl 1 rfl ?_
                refine V_get X dX7_addPlan_105 r_X7_66 (gm7 hM) rfl rfl ?_
                refine V_iconst X (5 : Int32) dX7_addPlan_108 (by decide) ?_
                refine V_icmp_ne X 118 dX7_addPlan_109 (by decide) (fun c30 => ?_) (fun c30 => ?_)
                · replace hs := if_f hs c30
                  refine V_aload_n X dX7_addPlan_118 rfl 1 rfl ?_
                  obtain ⟨Z32, eZ32, hs⟩ := bd_some hs
                  refine V_callVv X [] dX7_addPlan_119 m_X7_97 v_X7_remembers ⟨Nat.le_of_ble_eq_true rfl, Nat.le_of_ble_eq_true rfl⟩ ⟨Nat.zero_le _, Nat.zero_le _⟩ rfl (Nat.le_of_ble_eq_true rfl) (gm7 hM) rfl cl7 (c_X7_remembers hM eZ32) ?_
                  refine V_iload_n X dX7_addPlan_122 rfl 0 rfl ?_
                  refine V_if_ne X 179 dX7_addPlan_123 (by decide) (fun c33 => ?_) (fun c33 => ?_)
                  · replace hs := if_f hs c33
                    refine V_iconst X (0 : Int32) dX7_addPlan_179 (by decide) ?_
                    refine V_istore X dX7_addPlan_180 [(4, .int (0 : Int32)), (3, .int q9), (0, .ref (ad 7 0 0)), (2, .int v2)] (by decide) rfl ?_
                    have L182 : ∀ (n : Nat) (v2 v4 : Int32) (S1 : S4), s_X7_addPlan_L182 fu n v2 v4 S1 = some out → V D cA dm ad A 5 p l e ({ frames := 5, cells := 0, slots := 0, locals := 106 }) s m args below meth c 0 0 (MQ below (gQ D cA dm ad out.2 (some (.int out.1)) A) args s 0 0 A) S1 182 [(0, .ref (ad 7 0 0)), (2, .int v2), (4, .int v4)] [] := by
                      intro n
                      induction n with
                      | zero => intro v2 v4 S1 hs; rw [s_X7_addPlan_L182] at hs; cases hs
                      | succ f182 ih182 =>
                        intro v2 v4 Z34 hs
                        rw [s_X7_addPlan_L182] at hs
                        refine V_iload X dX7_addPlan_182 2 rfl ?_
                        refine V_bipush X (52 : Int32) dX7_addPlan_184 (by decide) ?_
                        refine V_icmp_ge X 214 dX7_addPlan_186 (by decide) (fun c35 => ?_) (fun c35 => ?_)
                        · replace hs := if_t hs c35
                          refine V_aload_n X dX7_addPlan_214 rfl 0 rfl ?_
                          refine V_get X dX7_addPlan_215 r_X7_66 (gm7 hM) rfl rfl ?_
                          obtain rfl := Option.some.inj hs; exact V_iret X hr dX7_addPlan_218
                        · replace hs := if_f hs c35
                          refine V_aload_n X dX7_addPlan_189 rfl 0 rfl ?_
                          refine V_get X dX7_addPlan_190 r_X7_19 (gm7 hM) rfl rfl ?_
                          refine V_bipush X (52 : Int32) dX7_addPlan_193 (by decide) ?_
                          refine V_iload_n X dX7_addPlan_195 rfl 1 rfl ?_
                          refine V_imul X dX7_addPlan_196 ?_
                          refine V_iload X dX7_addPlan_197 2 rfl ?_
                          refine V_iadd X dX7_addPlan_199 ?_
                          refine V_aload_n X dX7_addPlan_200 rfl 0 rfl ?_
                          refine V_get X dX7_addPlan_201 r_X7_36 (gm7 hM) rfl rfl ?_
                          refine V_iload X dX7_addPlan_204 2 rfl ?_
                          obtain ⟨h36, hs⟩ := gd_some hs
                          refine V_iald X dX7_addPlan_206 (gm31 hM) rfl h36 ?_
                          obtain ⟨h37, hs⟩ := gd_some hs
                          refine V_iast X dX7_addPlan_207 (gm27 hM) (fun _ => rfl) h37 (fun Z38 eZ38 => ?_)
                          replace hs := sv_some hs Z38 eZ38
                          clear eZ38
                          refine V_iinc X (v4 + (1 : Int32)) dX7_addPlan_208 2 rfl rfl [(4, .int (v4 + (1 : Int32))), (0, .ref (ad 7 0 0)), (2, .int v2)] (by decide) rfl ?_
                          refine V_goto X 182 dX7_addPlan_211 (by decide) ?_
                          refine V_sub [1, 2, 0] rfl ?_
                          exact ih182 _ _ _ hs
                    refine V_sub [2, 3, 0] rfl ?_
                    exact L182 _ _ _ _ hs
                  · replace hs := if_t hs c33
                    refine V_bipush X (52 : Int32) dX7_addPlan_126 (by decide) ?_
                    refine V_aload_n X dX7_addPlan_128 rfl 1 rfl ?_
                    refine V_get X dX7_addPlan_129 r_X7_66 (gm7 hM) rfl rfl ?_
                    refine V_imul X dX7_addPlan_132 ?_
                    refine V_iconst X (1 : Int32) dX7_addPlan_133 (by decide) ?_
                    refine V_isub X dX7_addPlan_134 ?_
                    refine V_istore X dX7_addPlan_135 [(4, .int (((52 : Int32) * (Z32 7 0 0 10)) - (1 : Int32))), (3, .int q9), (0, .ref (ad 7 0 0)), (2, .int v2)] (by decide) rfl ?_
                    have L137 : ∀ (n : Nat) (v2 v4 : Int32) (S1 : S4), s_X7_addPlan_L137 fu n v2 v4 S1 = some out → V D cA dm ad A 5 p l e ({ frames := 5, cells := 0, slots := 0, locals := 106 }) s m args below meth c 0 0 (MQ below (gQ D cA dm ad out.2 (some (.int out.1)) A) args s 0 0 A) S1 137 [(0, .ref (ad 7 0 0)), (2, .int v2), (4, .int v4)] [] := by
                      intro n
                      induction n with
                      | zero => intro v2 v4 S1 hs; rw [s_X7_addPlan_L137] at hs; cases hs
                      | succ f137 ih137 =>
                        intro v2 v4 Z39 hs
                        rw [s_X7_addPlan_L137] at hs
                        refine V_iload X dX7_addPlan_137 2 rfl ?_
                        refine V_bipush X (52 : Int32) dX7_addPlan_139 (by decide) ?_
                        refine V_iload_n X dX7_addPlan_141 rfl 1 rfl ?_
                        refine V_imul X dX7_addPlan_142 ?_
                        refine V_icmp_lt X 169 dX7_addPlan_143 (by decide) (fun c40 => ?_) (fun c40 => ?_)
                        · replace hs := if_t hs c40
                          refine V_aload_n X dX7_addPlan_169 rfl 0 rfl ?_
                          refine V_dup X dX7_addPlan_170 rfl ?_
                          refine V_get X dX7_addPlan_171 r_X7_66 (gm7 hM) rfl rfl ?_
                          refine V_iconst X (1 : Int32) dX7_addPlan_174 (by decide) ?_
                          refine V_iadd X dX7_addPlan_175 ?_
                          refine V_put X dX7_addPlan_176 f_X7_66 (gm7 hM) rfl (Nat.le_of_ble_eq_true rfl) rfl rfl rfl (fun Z41 eZ41 => ?_)
                          replace hs := sv_some hs Z41 eZ41
                          clear eZ41
                          refine V_iconst X (0 : Int32) dX7_addPlan_179 (by decide) ?_
                          refine V_istore X dX7_addPlan_180 [(4, .int (0 : Int32)), (0, .ref (ad 7 0 0)), (2, .int v2)] (by decide) rfl ?_
                          have L182 : ∀ (n : Nat) (v2 v4 : Int32) (S1 : S4), s_X7_addPlan_L182 fu n v2 v4 S1 = some out → V D cA dm ad A 5 p l e ({ frames := 5, cells := 0, slots := 0, locals := 106 }) s m args below meth c 0 0 (MQ below (gQ D cA dm ad out.2 (some (.int out.1)) A) args s 0 0 A) S1 182 [(0, .ref (ad 7 0 0)), (2, .int v2), (4, .int v4)] [] := by
                            intro n
                            induction n with
                            | zero => intro v2 v4 S1 hs; rw [s_X7_addPlan_L182] at hs; cases hs
                            | succ f182 ih182 =>
                              intro v2 v4 Z42 hs
                              rw [s_X7_addPlan_L182] at hs
                              refine V_iload X dX7_addPlan_182 2 rfl ?_
                              refine V_bipush X (52 : Int32) dX7_addPlan_184 (by decide) ?_
                              refine V_icmp_ge X 214 dX7_addPlan_186 (by decide) (fun c43 => ?_) (fun c43 => ?_)
                              · replace hs := if_t hs c43
                                refine V_aload_n X dX7_addPlan_214 rfl 0 rfl ?_
                                refine V_get X dX7_addPlan_215 r_X7_66 (gm7 hM) rfl rfl ?_
                                obtain rfl := Option.some.inj hs; exact V_iret X hr dX7_addPlan_218
                              · replace hs := if_f hs c43
                                refine V_aload_n X dX7_addPlan_189 rfl 0 rfl ?_
                                refine V_get X dX7_addPlan_190 r_X7_19 (gm7 hM) rfl rfl ?_
                                refine V_bipush X (52 : Int32) dX7_addPlan_193 (by decide) ?_
                                refine V_iload_n X dX7_addPlan_195 rfl 1 rfl ?_
                                refine V_imul X dX7_addPlan_196 ?_
                                refine V_iload X dX7_addPlan_197 2 rfl ?_
                                refine V_iadd X dX7_addPlan_199 ?_
                                refine V_aload_n X dX7_addPlan_200 rfl 0 rfl ?_
                                refine V_get X dX7_addPlan_201 r_X7_36 (gm7 hM) rfl rfl ?_
                                refine V_iload X dX7_addPlan_204 2 rfl ?_
                                obtain ⟨h44, hs⟩ := gd_some hs
                                refine V_iald X dX7_addPlan_206 (gm31 hM) rfl h44 ?_
                                obtain ⟨h45, hs⟩ := gd_some hs
                                refine V_iast X dX7_addPlan_207 (gm27 hM) (fun _ => rfl) h45 (fun Z46 eZ46 => ?_)
                                replace hs := sv_some hs Z46 eZ46
                                clear eZ46
                                refine V_iinc X (v4 + (1 : Int32)) dX7_addPlan_208 2 rfl rfl [(4, .int (v4 + (1 : Int32))), (0, .ref (ad 7 0 0)), (2, .int v2)] (by decide) rfl ?_
                                refine V_goto X 182 dX7_addPlan_211 (by decide) ?_
                                refine V_sub [1, 2, 0] rfl ?_
                                exact ih182 _ _ _ hs
                          refine V_sub [1, 2, 0] rfl ?_
                          exact L182 _ _ _ _ hs
                        · replace hs := if_f hs c40
                          refine V_aload_n X dX7_addPlan_146 rfl 0 rfl ?_
                          refine V_get X dX7_addPlan_147 r_X7_19 (gm7 hM) rfl rfl ?_
                          refine V_iload X dX7_addPlan_150 2 rfl ?_
                          refine V_bipush X (52 : Int32) dX7_addPlan_152 (by decide) ?_
                          refine V_iadd X dX7_addPlan_154 ?_
                          refine V_aload_n X dX7_addPlan_155 rfl 0 rfl ?_
                          refine V_get X dX7_addPlan_156 r_X7_19 (gm7 hM) rfl rfl ?_
                          refine V_iload X dX7_addPlan_159 2 rfl ?_
                          obtain ⟨h47, hs⟩ := gd_some hs
                          refine V_iald X dX7_addPlan_161 (gm27 hM) rfl h47 ?_
                          obtain ⟨h48, hs⟩ := gd_some hs
                          refine V_iast X dX7_addPlan_162 (gm27 hM) (fun _ => rfl) h48 (fun Z49 eZ49 => ?_)
                          replace hs := sv_some hs Z49 eZ49
                          clear eZ49
                          refine V_iinc X (v4 + (-1 : Int32)) dX7_addPlan_163 2 rfl rfl [(4, .int (v4 + (-1 : Int32))), (0, .ref (ad 7 0 0)), (2, .int v2)] (by decide) rfl ?_
                          refine V_goto X 137 dX7_addPlan_166 (by decide) ?_
                          refine V_sub [1, 2, 0] rfl ?_
                          exact ih137 _ _ _ hs
                    refine V_sub [2, 3, 0] rfl ?_
                    exact L137 _ _ _ _ hs
                · replace hs := if_t hs c30
                  refine V_aload_n X dX7_addPlan_112 rfl 1 rfl ?_
                  refine V_iconst X (2 : Int32) dX7_addPlan_113 (by decide) ?_
                  obtain ⟨q50, eq50, hs⟩ := bd_some hs
                  refine V_callVs X [.int (2 : Int32)] dX7_addPlan_114 m_X7_79 v_X7_fails ⟨Nat.le_of_ble_eq_true rfl, Nat.le_of_ble_eq_true rfl⟩ ⟨Nat.zero_le _, Nat.zero_le _⟩ rfl (Nat.le_of_ble_eq_true rfl) (gm7 hM) rfl cl7 (c_X7_fails hM eq50) ?_
                  obtain rfl := Option.some.inj hs; exact V_iret X hr dX7_addPlan_117
            · refine V_icmp_ge X 98 dX7_addPlan_76 (by decide) (fun c51 => ?_) (fun c51 => ?_)
              · replace hs := if_tB hs c51
                refine V_iconst X (0 : Int32) dX7_addPlan_98 (by decide) ?_
                exact J99 _ (bs_some hs)
              · replace hs := if_fB hs c51
                refine V_aload_n X dX7_addPlan_79 rfl 0 rfl ?_
                refine V_iload_n X dX7_addPlan_80 rfl 1 rfl ?_
                refine V_iconst X (0 : Int32) dX7_addPlan_81 (by decide) ?_
                obtain ⟨q52, eq52, hs⟩ := bd_someB hs
                refine V_callVs X [.int v2, .int (0 : Int32)] dX7_addPlan_82 m_X7_141 v_X7_ofPlan ⟨Nat.le_of_ble_eq_true rfl, Nat.le_of_ble_eq_true rfl⟩ ⟨Nat.zero_le _, Nat.zero_le _⟩ rfl (Nat.le_of_ble_eq_true rfl) (gm7 hM) rfl cl7 (c_X7_ofPlan hM eq52) ?_
                refine V_aload_n X dX7_addPlan_85 rfl 0 rfl ?_
                refine V_get X dX7_addPlan_86 r_X7_36 (gm7 hM) rfl rfl ?_
                refine V_iconst X (0 : Int32) dX7_addPlan_89 (by decide) ?_
                obtain ⟨h53, hs⟩ := gd_someB hs
                refine V_iald X dX7_addPlan_90 (gm31 hM) rfl h53 ?_
                refine V_icmp_ne X 98 dX7_addPlan_91 (by decide) (fun c54 => ?_) (fun c54 => ?_)
                · replace hs := if_fB hs c54
                  refine V_iconst X (0 : Int32) dX7_addPlan_98 (by decide) ?_
                  exact J99 _ (bs_some hs)
                · replace hs := if_tB hs c54
                  refine V_iconst X (1 : Int32) dX7_addPlan_94 (by decide) ?_
                  refine V_goto X 99 dX7_addPlan_95 (by decide) ?_
                  exact J99 _ (bs_some hs)
          · replace hs := if_f hs c8
            refine V_aload_n X dX7_addPlan_50 rfl 0 rfl ?_
            refine V_iload_n X dX7_addPlan_51 rfl 1 rfl ?_
            refine V_iconst X (0 : Int32) dX7_addPlan_52 (by decide) ?_
            obtain ⟨q55, eq55, hs⟩ := bd_some hs
            refine V_callVs X [.int v2, .int (0 : Int32)] dX7_addPlan_53 m_X7_141 v_X7_ofPlan ⟨Nat.le_of_ble_eq_true rfl, Nat.le_of_ble_eq_true rfl⟩ ⟨Nat.zero_le _, Nat.zero_le _⟩ rfl (Nat.le_of_ble_eq_true rfl) (gm7 hM) rfl cl7 (c_X7_ofPlan hM eq55) ?_
            refine V_aload_n X dX7_addPlan_56 rfl 0 rfl ?_
            refine V_get X dX7_addPlan_57 r_X7_36 (gm7 hM) rfl rfl ?_
            refine V_iconst X (0 : Int32) dX7_addPlan_60 (by decide) ?_
            obtain ⟨h56, hs⟩ := gd_some hs
            refine V_iald X dX7_addPlan_61 (gm31 hM) rfl h56 ?_
            refine V_icmp_ge X 71 dX7_addPlan_62 (by decide) (fun c57 => ?_) (fun c57 => ?_)
            · replace hs := if_t hs c57
              refine V_iload_n X dX7_addPlan_71 rfl 1 rfl ?_
              refine V_aload_n X dX7_addPlan_72 rfl 0 rfl ?_
              refine V_get X dX7_addPlan_73 r_X7_66 (gm7 hM) rfl rfl ?_
              refine jn (P := fun q => V D cA dm ad A 5 p l e ({ frames := 5, cells := 0, slots := 0, locals := 106 }) s m args below meth c 0 0 (MQ below (gQ D cA dm ad out.2 (some (.int out.1)) A) args s 0 0 A) Z7 99 [(0, .ref (ad 7 0 0)), (2, .int v2)] [.int q]) hs (fun q58 hs => ?_) (fun J99 hs => ?_)
              · refine V_istore_n X dX7_addPlan_99 rfl [(3, .int q58), (0, .ref (ad 7 0 0)), (2, .int v2)] (by decide) rfl ?_
                refine V_iload_n X dX7_addPlan_100 rfl 0 rfl ?_
                refine V_if_ne X 118 dX7_addPlan_101 (by decide) (fun c59 => ?_) (fun c59 => ?_)
                · replace hs := if_f hs c59
                  refine V_aload_n X dX7_addPlan_118 rfl 1 rfl ?_
                  obtain ⟨Z61, eZ61, hs⟩ := bd_some hs
                  refine V_callVv X [] dX7_addPlan_119 m_X7_97 v_X7_remembers ⟨Nat.le_of_ble_eq_true rfl, Nat.le_of_ble_eq_true rfl⟩ ⟨Nat.zero_le _, Nat.zero_le _⟩ rfl (Nat.le_of_ble_eq_true rfl) (gm7 hM) rfl cl7 (c_X7_remembers hM eZ61) ?_
                  refine V_iload_n X dX7_addPlan_122 rfl 0 rfl ?_
                  refine V_if_ne X 179 dX7_addPlan_123 (by decide) (fun c62 => ?_) (fun c62 => ?_)
                  · replace hs := if_f hs c62
                    refine V_iconst X (0 : Int32) dX7_addPlan_179 (by decide) ?_
                    refine V_istore X dX7_addPlan_180 [(4, .int (0 : Int32)), (3, .int q58), (0, .ref (ad 7 0 0)), (2, .int v2)] (by decide) rfl ?_
                    have L182 : ∀ (n : Nat) (v2 v4 : Int32) (S1 : S4), s_X7_addPlan_L182 fu n v2 v4 S1 = some out → V D cA dm ad A 5 p l e ({ frames := 5, cells := 0, slots := 0, locals := 106 }) s m args below meth c 0 0 (MQ below (gQ D cA dm ad out.2 (some (.int out.1)) A) args s 0 0 A) S1 182 [(0, .ref (ad 7 0 0)), (2, .int v2), (4, .int v4)] [] := by
                      intro n
                      induction n with
                      | zero => intro v2 v4 S1 hs; rw [s_X7_addPlan_L182] at hs; cases hs
                      | succ f182 ih182 =>
                        intro v2 v4 Z63 hs
                        rw [s_X7_addPlan_L182] at hs
                        refine V_iload X dX7_addPlan_182 2 rfl ?_
                        refine V_bipush X (52 : Int32) dX7_addPlan_184 (by decide) ?_
                        refine V_icmp_ge X 214 dX7_addPlan_186 (by decide) (fun c64 => ?_) (fun c64 => ?_)
                        · replace hs := if_t hs c64
                          refine V_aload_n X dX7_addPlan_214 rfl 0 rfl ?_
                          refine V_get X dX7_addPlan_215 r_X7_66 (gm7 hM) rfl rfl ?_
                          obtain rfl := Option.some.inj hs; exact V_iret X hr dX7_addPlan_218
                        · replace hs := if_f hs c64
                          refine V_aload_n X dX7_addPlan_189 rfl 0 rfl ?_
                          refine V_get X dX7_addPlan_190 r_X7_19 (gm7 hM) rfl rfl ?_
                          refine V_bipush X (52 : Int32) dX7_addPlan_193 (by decide) ?_
                          refine V_iload_n X dX7_addPlan_195 rfl 1 rfl ?_
                          refine V_imul X dX7_addPlan_196 ?_
                          refine V_iload X dX7_addPlan_197 2 rfl ?_
                          refine V_iadd X dX7_addPlan_199 ?_
                          refine V_aload_n X dX7_addPlan_200 rfl 0 rfl ?_
                          refine V_get X dX7_addPlan_201 r_X7_36 (gm7 hM) rfl rfl ?_
                          refine V_iload X dX7_addPlan_204 2 rfl ?_
                          obtain ⟨h65, hs⟩ := gd_some hs
                          refine V_iald X dX7_addPlan_206 (gm31 hM) rfl h65 ?_
                          obtain ⟨h66, hs⟩ := gd_some hs
                          refine V_iast X dX7_addPlan_207 (gm27 hM) (fun _ => rfl) h66 (fun Z67 eZ67 => ?_)
                          replace hs := sv_some hs Z67 eZ67
                          clear eZ67
                          refine V_iinc X (v4 + (1 : Int32)) dX7_addPlan_208 2 rfl rfl [(4, .int (v4 + (1 : Int32))), (0, .ref (ad 7 0 0)), (2, .int v2)] (by decide) rfl ?_
                          refine V_goto X 182 dX7_addPlan_211 (by decide) ?_
                          refine V_sub [1, 2, 0] rfl ?_
                          exact ih182 _ _ _ hs
                    refine V_sub [2, 3, 0] rfl ?_
                    exact L182 _ _ _ _ hs
                  · replace hs := if_t hs c62
                    refine V_bipush X (52 : Int32) dX7_addPlan_126 (by decide) ?_
                    refine V_aload_n X dX7_addPlan_128 rfl 1 rfl ?_
                    refine V_get X dX7_addPlan_129 r_X7_66 (gm7 hM) rfl rfl ?_
                    refine V_imul X dX7_addPlan_132 ?_
                    refine V_iconst X (1 : Int32) dX7_addPlan_133 (by decide) ?_
                    refine V_isub X dX7_addPlan_134 ?_
                    refine V_istore X dX7_addPlan_135 [(4, .int (((52 : Int32) * (Z61 7 0 0 10)) - (1 : Int32))), (3, .int q58), (0, .ref (ad 7 0 0)), (2, .int v2)] (by decide) rfl ?_
                    have L137 : ∀ (n : Nat) (v2 v4 : Int32) (S1 : S4), s_X7_addPlan_L137 fu n v2 v4 S1 = some out → V D cA dm ad A 5 p l e ({ frames := 5, cells := 0, slots := 0, locals := 106 }) s m args below meth c 0 0 (MQ below (gQ D cA dm ad out.2 (some (.int out.1)) A) args s 0 0 A) S1 137 [(0, .ref (ad 7 0 0)), (2, .int v2), (4, .int v4)] [] := by
                      intro n
                      induction n with
                      | zero => intro v2 v4 S1 hs; rw [s_X7_addPlan_L137] at hs; cases hs
                      | succ f137 ih137 =>
                        intro v2 v4 Z68 hs
                        rw [s_X7_addPlan_L137] at hs
                        refine V_iload X dX7_addPlan_137 2 rfl ?_
                        refine V_bipush X (52 : Int32) dX7_addPlan_139 (by decide) ?_
                        refine V_iload_n X dX7_addPlan_141 rfl 1 rfl ?_
                        refine V_imul X dX7_addPlan_142 ?_
                        refine V_icmp_lt X 169 dX7_addPlan_143 (by decide) (fun c69 => ?_) (fun c69 => ?_)
                        · replace hs := if_t hs c69
                          refine V_aload_n X dX7_addPlan_169 rfl 0 rfl ?_
                          refine V_dup X dX7_addPlan_170 rfl ?_
                          refine V_get X dX7_addPlan_171 r_X7_66 (gm7 hM) rfl rfl ?_
                          refine V_iconst X (1 : Int32) dX7_addPlan_174 (by decide) ?_
                          refine V_iadd X dX7_addPlan_175 ?_
                          refine V_put X dX7_addPlan_176 f_X7_66 (gm7 hM) rfl (Nat.le_of_ble_eq_true rfl) rfl rfl rfl (fun Z70 eZ70 => ?_)
                          replace hs := sv_some hs Z70 eZ70
                          clear eZ70
                          refine V_iconst X (0 : Int32) dX7_addPlan_179 (by decide) ?_
                          refine V_istore X dX7_addPlan_180 [(4, .int (0 : Int32)), (0, .ref (ad 7 0 0)), (2, .int v2)] (by decide) rfl ?_
                          have L182 : ∀ (n : Nat) (v2 v4 : Int32) (S1 : S4), s_X7_addPlan_L182 fu n v2 v4 S1 = some out → V D cA dm ad A 5 p l e ({ frames := 5, cells := 0, slots := 0, locals := 106 }) s m args below meth c 0 0 (MQ below (gQ D cA dm ad out.2 (some (.int out.1)) A) args s 0 0 A) S1 182 [(0, .ref (ad 7 0 0)), (2, .int v2), (4, .int v4)] [] := by
                            intro n
                            induction n with
                            | zero => intro v2 v4 S1 hs; rw [s_X7_addPlan_L182] at hs; cases hs
                            | succ f182 ih182 =>
                              intro v2 v4 Z71 hs
                              rw [s_X7_addPlan_L182] at hs
                              refine V_iload X dX7_addPlan_182 2 rfl ?_
                              refine V_bipush X (52 : Int32) dX7_addPlan_184 (by decide) ?_
                              refine V_icmp_ge X 214 dX7_addPlan_186 (by decide) (fun c72 => ?_) (fun c72 => ?_)
                              · replace hs := if_t hs c72
                                refine V_aload_n X dX7_addPlan_214 rfl 0 rfl ?_
                                refine V_get X dX7_addPlan_215 r_X7_66 (gm7 hM) rfl rfl ?_
                                obtain rfl := Option.some.inj hs; exact V_iret X hr dX7_addPlan_218
                              · replace hs := if_f hs c72
                                refine V_aload_n X dX7_addPlan_189 rfl 0 rfl ?_
                                refine V_get X dX7_addPlan_190 r_X7_19 (gm7 hM) rfl rfl ?_
                                refine V_bipush X (52 : Int32) dX7_addPlan_193 (by decide) ?_
                                refine V_iload_n X dX7_addPlan_195 rfl 1 rfl ?_
                                refine V_imul X dX7_addPlan_196 ?_
                                refine V_iload X dX7_addPlan_197 2 rfl ?_
                                refine V_iadd X dX7_addPlan_199 ?_
                                refine V_aload_n X dX7_addPlan_200 rfl 0 rfl ?_
                                refine V_get X dX7_addPlan_201 r_X7_36 (gm7 hM) rfl rfl ?_
                                refine V_iload X dX7_addPlan_204 2 rfl ?_
                                obtain ⟨h73, hs⟩ := gd_some hs
                                refine V_iald X dX7_addPlan_206 (gm31 hM) rfl h73 ?_
                                obtain ⟨h74, hs⟩ := gd_some hs
                                refine V_iast X dX7_addPlan_207 (gm27 hM) (fun _ => rfl) h74 (fun Z75 eZ75 => ?_)
                                replace hs := sv_some hs Z75 eZ75
                                clear eZ75
                                refine V_iinc X (v4 + (1 : Int32)) dX7_addPlan_208 2 rfl rfl [(4, .int (v4 + (1 : Int32))), (0, .ref (ad 7 0 0)), (2, .int v2)] (by decide) rfl ?_
                                refine V_goto X 182 dX7_addPlan_211 (by decide) ?_
                                refine V_sub [1, 2, 0] rfl ?_
                                exact ih182 _ _ _ hs
                          refine V_sub [1, 2, 0] rfl ?_
                          exact L182 _ _ _ _ hs
                        · replace hs := if_f hs c69
                          refine V_aload_n X dX7_addPlan_146 rfl 0 rfl ?_
                          refine V_get X dX7_addPlan_147 r_X7_19 (gm7 hM) rfl rfl ?_
                          refine V_iload X dX7_addPlan_150 2 rfl ?_
                          refine V_bipush X (52 : Int32) dX7_addPlan_152 (by decide) ?_
                          refine V_iadd X dX7_addPlan_154 ?_
                          refine V_aload_n X dX7_addPlan_155 rfl 0 rfl ?_
                          refine V_get X dX7_addPlan_156 r_X7_19 (gm7 hM) rfl rfl ?_
                          refine V_iload X dX7_addPlan_159 2 rfl ?_
                          obtain ⟨h76, hs⟩ := gd_some hs
                          refine V_iald X dX7_addPlan_161 (gm27 hM) rfl h76 ?_
                          obtain ⟨h77, hs⟩ := gd_some hs
                          refine V_iast X dX7_addPlan_162 (gm27 hM) (fun _ => rfl) h77 (fun Z78 eZ78 => ?_)
                          replace hs := sv_some hs Z78 eZ78
                          clear eZ78
                          refine V_iinc X (v4 + (-1 : Int32)) dX7_addPlan_163 2 rfl rfl [(4, .int (v4 + (-1 : Int32))), (0, .ref (ad 7 0 0)), (2, .int v2)] (by decide) rfl ?_
                          refine V_goto X 137 dX7_addPlan_166 (by decide) ?_
                          refine V_sub [1, 2, 0] rfl ?_
                          exact ih137 _ _ _ hs
                    refine V_sub [2, 3, 0] rfl ?_
                    exact L137 _ _ _ _ hs
                · replace hs := if_t hs c59
                  refine V_aload_n X dX7_addPlan_104 rfl 1 rfl ?_
                  refine V_get X dX7_addPlan_105 r_X7_66 (gm7 hM) rfl rfl ?_
                  refine V_iconst X (5 : Int32) dX7_addPlan_108 (by decide) ?_
                  refine V_icmp_ne X 118 dX7_addPlan_109 (by decide) (fun c79 => ?_) (fun c79 => ?_)
                  · replace hs := if_f hs c79
                    refine V_aload_n X dX7_addPlan_118 rfl 1 rfl ?_
                    obtain ⟨Z81, eZ81, hs⟩ := bd_some hs
                    refine V_callVv X [] dX7_addPlan_119 m_X7_97 v_X7_remembers ⟨Nat.le_of_ble_eq_true rfl, Nat.le_of_ble_eq_true rfl⟩ ⟨Nat.zero_le _, Nat.zero_le _⟩ rfl (Nat.le_of_ble_eq_true rfl) (gm7 hM) rfl cl7 (c_X7_remembers hM eZ81) ?_
                    refine V_iload_n X dX7_addPlan_122 rfl 0 rfl ?_
                    refine V_if_ne X 179 dX7_addPlan_123 (by decide) (fun c82 => ?_) (fun c82 => ?_)
                    · replace hs := if_f hs c82
                      refine V_iconst X (0 : Int32) dX7_addPlan_179 (by decide) ?_
                      refine V_istore X dX7_addPlan_180 [(4, .int (0 : Int32)), (3, .int q58), (0, .ref (ad 7 0 0)), (2, .int v2)] (by decide) rfl ?_
                      have L182 : ∀ (n : Nat) (v2 v4 : Int32) (S1 : S4), s_X7_addPlan_L182 fu n v2 v4 S1 = some out → V D cA dm ad A 5 p l e ({ frames := 5, cells := 0, slots := 0, locals := 106 }) s m args below meth c 0 0 (MQ below (gQ D cA dm ad out.2 (some (.int out.1)) A) args s 0 0 A) S1 182 [(0, .ref (ad 7 0 0)), (2, .int v2), (4, .int v4)] [] := by
                        intro n
                        induction n with
                        | zero => intro v2 v4 S1 hs; rw [s_X7_addPlan_L182] at hs; cases hs
                        | succ f182 ih182 =>
                          intro v2 v4 Z83 hs
                          rw [s_X7_addPlan_L182] at hs
                          refine V_iload X dX7_addPlan_182 2 rfl ?_
                          refine V_bipush X (52 : Int32) dX7_addPlan_184 (by decide) ?_
                          refine V_icmp_ge X 214 dX7_addPlan_186 (by decide) (fun c84 => ?_) (fun c84 => ?_)
                          · replace hs := if_t hs c84
                            refine V_aload_n X dX7_addPlan_214 rfl 0 rfl ?_
                            refine V_get X dX7_addPlan_215 r_X7_66 (gm7 hM) rfl rfl ?_
                            obtain rfl := Option.some.inj hs; exact V_iret X hr dX7_addPlan_218
                          · replace hs := if_f hs c84
                            refine V_aload_n X dX7_addPlan_189 rfl 0 rfl ?_
                            refine V_get X dX7_addPlan_190 r_X7_19 (gm7 hM) rfl rfl ?_
                            refine V_bipush X (52 : Int32) dX7_addPlan_193 (by decide) ?_
                            refine V_iload_n X dX7_addPlan_195 rfl 1 rfl ?_
                            refine V_imul X dX7_addPlan_196 ?_
                            refine V_iload X dX7_addPlan_197 2 rfl ?_
                            refine V_iadd X dX7_addPlan_199 ?_
                            refine V_aload_n X dX7_addPlan_200 rfl 0 rfl ?_
                            refine V_get X dX7_addPlan_201 r_X7_36 (gm7 hM) rfl rfl ?_
                            refine V_iload X dX7_addPlan_204 2 rfl ?_
                            obtain ⟨h85, hs⟩ := gd_some hs
                            refine V_iald X dX7_addPlan_206 (gm31 hM) rfl h85 ?_
                            obtain ⟨h86, hs⟩ := gd_some hs
                            refine V_iast X dX7_addPlan_207 (gm27 hM) (fun _ => rfl) h86 (fun Z87 eZ87 => ?_)
                            replace hs := sv_some hs Z87 eZ87
                            clear eZ87
                            refine V_iinc X (v4 + (1 : Int32)) dX7_addPlan_208 2 rfl rfl [(4, .int (v4 + (1 : Int32))), (0, .ref (ad 7 0 0)), (2, .int v2)] (by decide) rfl ?_
                            refine V_goto X 182 dX7_addPlan_211 (by decide) ?_
                            refine V_sub [1, 2, 0] rfl ?_
                            exact ih182 _ _ _ hs
                      refine V_sub [2, 3, 0] rfl ?_
                      exact L182 _ _ _ _ hs
                    · replace hs := if_t hs c82
                      refine V_bipush X (52 : Int32) dX7_addPlan_126 (by decide) ?_
                      refine V_aload_n X dX7_addPlan_128 rfl 1 rfl ?_
                      refine V_get X dX7_addPlan_129 r_X7_66 (gm7 hM) rfl rfl ?_
                      refine V_imul X dX7_addPlan_132 ?_
                      refine V_iconst X (1 : Int32) dX7_addPlan_133 (by decide) ?_
                      refine V_isub X dX7_addPlan_134 ?_
                      refine V_istore X dX7_addPlan_135 [(4, .int (((52 : Int32) * (Z81 7 0 0 10)) - (1 : Int32))), (3, .int q58), (0, .ref (ad 7 0 0)), (2, .int v2)] (by decide) rfl ?_
                      have L137 : ∀ (n : Nat) (v2 v4 : Int32) (S1 : S4), s_X7_addPlan_L137 fu n v2 v4 S1 = some out → V D cA dm ad A 5 p l e ({ frames := 5, cells := 0, slots := 0, locals := 106 }) s m args below meth c 0 0 (MQ below (gQ D cA dm ad out.2 (some (.int out.1)) A) args s 0 0 A) S1 137 [(0, .ref (ad 7 0 0)), (2, .int v2), (4, .int v4)] [] := by
                        intro n
                        induction n with
                        | zero => intro v2 v4 S1 hs; rw [s_X7_addPlan_L137] at hs; cases hs
                        | succ f137 ih137 =>
                          intro v2 v4 Z88 hs
                          rw [s_X7_addPlan_L137] at hs
                          refine V_iload X dX7_addPlan_137 2 rfl ?_
                          refine V_bipush X (52 : Int32) dX7_addPlan_139 (by decide) ?_
                          refine V_iload_n X dX7_addPlan_141 rfl 1 rfl ?_
                          refine V_imul X dX7_addPlan_142 ?_
                          refine V_icmp_lt X 169 dX7_addPlan_143 (by decide) (fun c89 => ?_) (fun c89 => ?_)
                          · replace hs := if_t hs c89
                            refine V_aload_n X dX7_addPlan_169 rfl 0 rfl ?_
                            refine V_dup X dX7_addPlan_170 rfl ?_
                            refine V_get X dX7_addPlan_171 r_X7_66 (gm7 hM) rfl rfl ?_
                            refine V_iconst X (1 : Int32) dX7_addPlan_174 (by decide) ?_
                            refine V_iadd X dX7_addPlan_175 ?_
                            refine V_put X dX7_addPlan_176 f_X7_66 (gm7 hM) rfl (Nat.le_of_ble_eq_true rfl) rfl rfl rfl (fun Z90 eZ90 => ?_)
                            replace hs := sv_some hs Z90 eZ90
                            clear eZ90
                            refine V_iconst X (0 : Int32) dX7_addPlan_179 (by decide) ?_
                            refine V_istore X dX7_addPlan_180 [(4, .int (0 : Int32)), (0, .ref (ad 7 0 0)), (2, .int v2)] (by decide) rfl ?_
                            have L182 : ∀ (n : Nat) (v2 v4 : Int32) (S1 : S4), s_X7_addPlan_L182 fu n v2 v4 S1 = some out → V D cA dm ad A 5 p l e ({ frames := 5, cells := 0, slots := 0, locals := 106 }) s m args below meth c 0 0 (MQ below (gQ D cA dm ad out.2 (some (.int out.1)) A) args s 0 0 A) S1 182 [(0, .ref (ad 7 0 0)), (2, .int v2), (4, .int v4)] [] := by
                              intro n
                              induction n with
                              | zero => intro v2 v4 S1 hs; rw [s_X7_addPlan_L182] at hs; cases hs
                              | succ f182 ih182 =>
                                intro v2 v4 Z91 hs
                                rw [s_X7_addPlan_L182] at hs
                                refine V_iload X dX7_addPlan_182 2 rfl ?_
                                refine V_bipush X (52 : Int32) dX7_addPlan_184 (by decide) ?_
                                refine V_icmp_ge X 214 dX7_addPlan_186 (by decide) (fun c92 => ?_) (fun c92 => ?_)
                                · replace hs := if_t hs c92
                                  refine V_aload_n X dX7_addPlan_214 rfl 0 rfl ?_
                                  refine V_get X dX7_addPlan_215 r_X7_66 (gm7 hM) rfl rfl ?_
                                  obtain rfl := Option.some.inj hs; exact V_iret X hr dX7_addPlan_218
                                · replace hs := if_f hs c92
                                  refine V_aload_n X dX7_addPlan_189 rfl 0 rfl ?_
                                  refine V_get X dX7_addPlan_190 r_X7_19 (gm7 hM) rfl rfl ?_
                                  refine V_bipush X (52 : Int32) dX7_addPlan_193 (by decide) ?_
                                  refine V_iload_n X dX7_addPlan_195 rfl 1 rfl ?_
                                  refine V_imul X dX7_addPlan_196 ?_
                                  refine V_iload X dX7_addPlan_197 2 rfl ?_
                                  refine V_iadd X dX7_addPlan_199 ?_
                                  refine V_aload_n X dX7_addPlan_200 rfl 0 rfl ?_
                                  refine V_get X dX7_addPlan_201 r_X7_36 (gm7 hM) rfl rfl ?_
                                  refine V_iload X dX7_addPlan_204 2 rfl ?_
                                  obtain ⟨h93, hs⟩ := gd_some hs
                                  refine V_iald X dX7_addPlan_206 (gm31 hM) rfl h93 ?_
                                  obtain ⟨h94, hs⟩ := gd_some hs
                                  refine V_iast X dX7_addPlan_207 (gm27 hM) (fun _ => rfl) h94 (fun Z95 eZ95 => ?_)
                                  replace hs := sv_some hs Z95 eZ95
                                  clear eZ95
                                  refine V_iinc X (v4 + (1 : Int32)) dX7_addPlan_208 2 rfl rfl [(4, .int (v4 + (1 : Int32))), (0, .ref (ad 7 0 0)), (2, .int v2)] (by decide) rfl ?_
                                  refine V_goto X 182 dX7_addPlan_211 (by decide) ?_
                                  refine V_sub [1, 2, 0] rfl ?_
                                  exact ih182 _ _ _ hs
                            refine V_sub [1, 2, 0] rfl ?_
                            exact L182 _ _ _ _ hs
                          · replace hs := if_f hs c89
                            refine V_aload_n X dX7_addPlan_146 rfl 0 rfl ?_
                            refine V_get X dX7_addPlan_147 r_X7_19 (gm7 hM) rfl rfl ?_
                            refine V_iload X dX7_addPlan_150 2 rfl ?_
                            refine V_bipush X (52 : Int32) dX7_addPlan_152 (by decide) ?_
                            refine V_iadd X dX7_addPlan_154 ?_
                            refine V_aload_n X dX7_addPlan_155 rfl 0 rfl ?_
                            refine V_get X dX7_addPlan_156 r_X7_19 (gm7 hM) rfl rfl ?_
                            refine V_iload X dX7_addPlan_159 2 rfl ?_
                            obtain ⟨h96, hs⟩ := gd_some hs
                            refine V_iald X dX7_addPlan_161 (gm27 hM) rfl h96 ?_
                            obtain ⟨h97, hs⟩ := gd_some hs
                            refine V_iast X dX7_addPlan_162 (gm27 hM) (fun _ => rfl) h97 (fun Z98 eZ98 => ?_)
                            replace hs := sv_some hs Z98 eZ98
                            clear eZ98
                            refine V_iinc X (v4 + (-1 : Int32)) dX7_addPlan_163 2 rfl rfl [(4, .int (v4 + (-1 : Int32))), (0, .ref (ad 7 0 0)), (2, .int v2)] (by decide) rfl ?_
                            refine V_goto X 137 dX7_addPlan_166 (by decide) ?_
                            refine V_sub [1, 2, 0] rfl ?_
                            exact ih137 _ _ _ hs
                      refine V_sub [2, 3, 0] rfl ?_
                      exact L137 _ _ _ _ hs
                  · replace hs := if_t hs c79
                    refine V_aload_n X dX7_addPlan_112 rfl 1 rfl ?_
                    refine V_iconst X (2 : Int32) dX7_addPlan_113 (by decide) ?_
                    obtain ⟨q99, eq99, hs⟩ := bd_some hs
                    refine V_callVs X [.int (2 : Int32)] dX7_addPlan_114 m_X7_79 v_X7_fails ⟨Nat.le_of_ble_eq_true rfl, Nat.le_of_ble_eq_true rfl⟩ ⟨Nat.zero_le _, Nat.zero_le _⟩ rfl (Nat.le_of_ble_eq_true rfl) (gm7 hM) rfl cl7 (c_X7_fails hM eq99) ?_
                    obtain rfl := Option.some.inj hs; exact V_iret X hr dX7_addPlan_117
              · refine V_icmp_ge X 98 dX7_addPlan_76 (by decide) (fun c100 => ?_) (fun c100 => ?_)
                · replace hs := if_tB hs c100
                  refine V_iconst X (0 : Int32) dX7_addPlan_98 (by decide) ?_
                  exact J99 _ (bs_some hs)
                · replace hs := if_fB hs c100
                  refine V_aload_n X dX7_addPlan_79 rfl 0 rfl ?_
                  refine V_iload_n X dX7_addPlan_80 rfl 1 rfl ?_
                  refine V_iconst X (0 : Int32) dX7_addPlan_81 (by decide) ?_
                  obtain ⟨q101, eq101, hs⟩ := bd_someB hs
                  refine V_callVs X [.int v2, .int (0 : Int32)] dX7_addPlan_82 m_X7_141 v_X7_ofPlan ⟨Nat.le_of_ble_eq_true rfl, Nat.le_of_ble_eq_true rfl⟩ ⟨Nat.zero_le _, Nat.zero_le _⟩ rfl (Nat.le_of_ble_eq_true rfl) (gm7 hM) rfl cl7 (c_X7_ofPlan hM eq101) ?_
                  refine V_aload_n X dX7_addPlan_85 rfl 0 rfl ?_
                  refine V_get X dX7_addPlan_86 r_X7_36 (gm7 hM) rfl rfl ?_
                  refine V_iconst X (0 : Int32) dX7_addPlan_89 (by decide) ?_
                  obtain ⟨h102, hs⟩ := gd_someB hs
                  refine V_iald X dX7_addPlan_90 (gm31 hM) rfl h102 ?_
                  refine V_icmp_ne X 98 dX7_addPlan_91 (by decide) (fun c103 => ?_) (fun c103 => ?_)
                  · replace hs := if_fB hs c103
                    refine V_iconst X (0 : Int32) dX7_addPlan_98 (by decide) ?_
                    exact J99 _ (bs_some hs)
                  · replace hs := if_tB hs c103
                    refine V_iconst X (1 : Int32) dX7_addPlan_94 (by decide) ?_
                    refine V_goto X 99 dX7_addPlan_95 (by decide) ?_
                    exact J99 _ (bs_some hs)
            · replace hs := if_f hs c57
              refine V_iinc X (v2 + (1 : Int32)) dX7_addPlan_65 1 rfl rfl [(2, .int (v2 + (1 : Int32))), (0, .ref (ad 7 0 0))] (by decide) rfl ?_
              refine V_goto X 42 dX7_addPlan_68 (by decide) ?_
              refine V_sub [1, 0] rfl ?_
              exact ih42 _ _ hs
      refine V_sub [2, 0] rfl ?_
      exact L42 _ _ _ hs
    · replace hs := if_t hs c6
      refine V_aload_n X dX7_addPlan_34 rfl 1 rfl ?_
      refine V_iconst X (1 : Int32) dX7_addPlan_35 (by decide) ?_
      obtain ⟨q104, eq104, hs⟩ := bd_some hs
      refine V_callVs X [.int (1 : Int32)] dX7_addPlan_36 m_X7_79 v_X7_fails ⟨Nat.le_of_ble_eq_true rfl, Nat.le_of_ble_eq_true rfl⟩ ⟨Nat.zero_le _, Nat.zero_le _⟩ rfl (Nat.le_of_ble_eq_true rfl) (gm7 hM) rfl cl7 (c_X7_fails hM eq104) ?_
      obtain rfl := Option.some.inj hs; exact V_iret X hr dX7_addPlan_39
  · replace hs := if_t hs c4
    refine V_bipush X (-100 : Int32) dX7_addPlan_19 (by decide) ?_
    refine V_aload_n X dX7_addPlan_21 rfl 1 rfl ?_
    refine V_get X dX7_addPlan_22 r_X7_107 (gm7 hM) rfl rfl ?_
    refine V_isub X dX7_addPlan_25 ?_
    obtain rfl := Option.some.inj hs; exact V_iret X hr dX7_addPlan_26

def s_X7_isPlan (p1 : Int32) (S : S4) : Option Int32 := (if p1 < 0 then some (0 : Int32) else (if (S 7 0 0 10) ≤ p1 then some (0 : Int32) else some (1 : Int32)))
set_option maxRecDepth 100000 in
set_option maxHeartbeats 4000000 in
theorem c_X7_isPlan {l : Launch} {D : va_G} {cA : Nat → ClassId} {dm : Dm} {ad : Ad} {S : S4} {p1 : Int32} (hM : DM dm) {out : Int32} (hs : s_X7_isPlan p1 S = some out) : Ct D cA dm ad l yX7_isPlan cX7_isPlan 2 (some .boolean) 0 0 S [.ref (ad 7 0 0), .int p1] (some (.int out)) S := by
  refine Ct.of (by decide +kernel) (Nat.le_of_ble_eq_true rfl) [(0, .ref (ad 7 0 0)), (1, .int p1)] rfl (fun p e s m args below meth c A X hr => ?_)
  unfold s_X7_isPlan at hs
  refine V_iload_n X dX7_isPlan_0 rfl 1 rfl ?_
  refine V_if_lt X 16 dX7_isPlan_1 (by decide) (fun c1 => ?_) (fun c1 => ?_)
  · replace hs := if_t hs c1
    refine V_iconst X (0 : Int32) dX7_isPlan_16 (by decide) ?_
    obtain rfl := Option.some.inj hs; exact V_zret X hr nb0 dX7_isPlan_17
  · replace hs := if_f hs c1
    refine V_iload_n X dX7_isPlan_4 rfl 1 rfl ?_
    refine V_aload_n X dX7_isPlan_5 rfl 0 rfl ?_
    refine V_get X dX7_isPlan_6 r_X7_66 (gm7 hM) rfl rfl ?_
    refine V_icmp_ge X 16 dX7_isPlan_9 (by decide) (fun c2 => ?_) (fun c2 => ?_)
    · replace hs := if_t hs c2
      refine V_iconst X (0 : Int32) dX7_isPlan_16 (by decide) ?_
      obtain rfl := Option.some.inj hs; exact V_zret X hr nb0 dX7_isPlan_17
    · replace hs := if_f hs c2
      refine V_iconst X (1 : Int32) dX7_isPlan_12 (by decide) ?_
      refine V_goto X 17 dX7_isPlan_13 (by decide) ?_
      obtain rfl := Option.some.inj hs; exact V_zret X hr nb1 dX7_isPlan_17

def s_X7_ofRule (p1 : Int32) (p2 : Int32) (p3 : Int32) (S : S4) : Option Int32 := gd (inb (((((52 : Int32) * p1) + (4 : Int32)) + ((6 : Int32) * p2)) + p3) 260) (some (S 27 0 0 (((((52 : Int32) * p1) + (4 : Int32)) + ((6 : Int32) * p2)) + p3).toNatClampNeg))
set_option maxRecDepth 100000 in
set_option maxHeartbeats 4000000 in
theorem c_X7_ofRule {l : Launch} {D : va_G} {cA : Nat → ClassId} {dm : Dm} {ad : Ad} {S : S4} {p1 : Int32} {p2 : Int32} {p3 : Int32} (hM : DM dm) {out : Int32} (hs : s_X7_ofRule p1 p2 p3 S = some out) : Ct D cA dm ad l yX7_ofRule cX7_ofRule 4 (some .int) 0 0 S [.ref (ad 7 0 0), .int p1, .int p2, .int p3] (some (.int out)) S := by
  refine Ct.of (by decide +kernel) (Nat.le_of_ble_eq_true rfl) [(0, .ref (ad 7 0 0)), (1, .int p1), (2, .int p2), (3, .int p3)] rfl (fun p e s m args below meth c A X hr => ?_)
  unfold s_X7_ofRule at hs
  refine V_aload_n X dX7_ofRule_0 rfl 0 rfl ?_
  refine V_get X dX7_ofRule_1 r_X7_19 (gm7 hM) rfl rfl ?_
  refine V_bipush X (52 : Int32) dX7_ofRule_4 (by decide) ?_
  refine V_iload_n X dX7_ofRule_6 rfl 1 rfl ?_
  refine V_imul X dX7_ofRule_7 ?_
  refine V_iconst X (4 : Int32) dX7_ofRule_8 (by decide) ?_
  refine V_iadd X dX7_ofRule_9 ?_
  refine V_bipush X (6 : Int32) dX7_ofRule_10 (by decide) ?_
  refine V_iload_n X dX7_ofRule_12 rfl 2 rfl ?_
  refine V_imul X dX7_ofRule_13 ?_
  refine V_iadd X dX7_ofRule_14 ?_
  refine V_iload_n X dX7_ofRule_15 rfl 3 rfl ?_
  refine V_iadd X dX7_ofRule_16 ?_
  obtain ⟨h1, hs⟩ := gd_some hs
  refine V_iald X dX7_ofRule_17 (gm27 hM) rfl h1 ?_
  obtain rfl := Option.some.inj hs; exact V_iret X hr dX7_ofRule_18

def s_X7_ruleFor_L2 (fu : Nat) (p1 : Int32) (p2 : Int32) (S : S4) : Nat → Int32 → Option Int32
  | 0, _ => none
  | f2+1, v3 => (s_X7_ofPlan p1 (1 : Int32) S).bind fun q1 => (if q1 ≤ v3 then some (-1 : Int32) else (s_X7_ofRule p1 v3 (0 : Int32) S).bind fun q3 => (s_X7_ofRule p1 v3 (1 : Int32) S).bind fun q4 => (s_X7_isBetween p2 q3 q4 S).bind fun q5 => (if q5 = 0 then s_X7_ruleFor_L2 fu p1 p2 S f2 (v3 + (1 : Int32)) else some v3))
def s_X7_ruleFor (fu : Nat) (p1 : Int32) (p2 : Int32) (S : S4) : Option Int32 := s_X7_ruleFor_L2 fu p1 p2 S fu (0 : Int32)
set_option maxRecDepth 100000 in
set_option maxHeartbeats 4000000 in
theorem c_X7_ruleFor {l : Launch} {D : va_G} {cA : Nat → ClassId} {dm : Dm} {ad : Ad} {fu : Nat} {S : S4} {p1 : Int32} {p2 : Int32} (hM : DM dm) {out : Int32} (hs : s_X7_ruleFor fu p1 p2 S = some out) : Ct D cA dm ad l yX7_ruleFor cX7_ruleFor 4 (some .int) 1 23 S [.ref (ad 7 0 0), .int p1, .int p2] (some (.int out)) S := by
  refine Ct.of (by decide +kernel) (Nat.le_of_ble_eq_true rfl) [(0, .ref (ad 7 0 0)), (1, .int p1), (2, .int p2)] rfl (fun p e s m args below meth c A X hr => ?_)
  unfold s_X7_ruleFor at hs
  refine V_iconst X (0 : Int32) dX7_ruleFor_0 (by decide) ?_
  refine V_istore_n X dX7_ruleFor_1 rfl [(3, .int (0 : Int32)), (0, .ref (ad 7 0 0)), (1, .int p1), (2, .int p2)] (by decide) rfl ?_
  have L2 : ∀ (n : Nat) (v3 : Int32) , s_X7_ruleFor_L2 fu p1 p2 S n v3 = some out → V D cA dm ad A 4 p l e ({ frames := 1, cells := 0, slots := 0, locals := 23 }) s m args below meth c 0 0 (MQ below (gQ D cA dm ad S (some (.int out)) A) args s 0 0 A) S 2 [(0, .ref (ad 7 0 0)), (1, .int p1), (2, .int p2), (3, .int v3)] [] := by
    intro n
    induction n with
    | zero => intro v3 hs; rw [s_X7_ruleFor_L2] at hs; cases hs
    | succ f2 ih2 =>
      intro v3 hs
      rw [s_X7_ruleFor_L2] at hs
      refine V_iload_n X dX7_ruleFor_2 rfl 3 rfl ?_
      refine V_aload_n X dX7_ruleFor_3 rfl 0 rfl ?_
      refine V_iload_n X dX7_ruleFor_4 rfl 1 rfl ?_
      refine V_iconst X (1 : Int32) dX7_ruleFor_5 (by decide) ?_
      obtain ⟨q1, eq1, hs⟩ := bd_some hs
      refine V_callVs X [.int p1, .int (1 : Int32)] dX7_ruleFor_6 m_X7_141 v_X7_ofPlan ⟨Nat.le_of_ble_eq_true rfl, Nat.le_of_ble_eq_true rfl⟩ ⟨Nat.zero_le _, Nat.zero_le _⟩ rfl (Nat.le_of_ble_eq_true rfl) (gm7 hM) rfl cl7 (c_X7_ofPlan hM eq1) ?_
      refine V_icmp_ge X 41 dX7_ruleFor_9 (by decide) (fun c2 => ?_) (fun c2 => ?_)
      · replace hs := if_t hs c2
        refine V_iconst X (-1 : Int32) dX7_ruleFor_41 (by decide) ?_
        obtain rfl := Option.some.inj hs; exact V_iret X hr dX7_ruleFor_42
      · replace hs := if_f hs c2
        refine V_iload_n X dX7_ruleFor_12 rfl 2 rfl ?_
        refine V_aload_n X dX7_ruleFor_13 rfl 0 rfl ?_
        refine V_iload_n X dX7_ruleFor_14 rfl 1 rfl ?_
        refine V_iload_n X dX7_ruleFor_15 rfl 3 rfl ?_
        refine V_iconst X (0 : Int32) dX7_ruleFor_16 (by decide) ?_
        obtain ⟨q3, eq3, hs⟩ := bd_some hs
        refine V_callVs X [.int p1, .int v3, .int (0 : Int32)] dX7_ruleFor_17 m_X7_144 v_X7_ofRule ⟨Nat.le_of_ble_eq_true rfl, Nat.le_of_ble_eq_true rfl⟩ ⟨Nat.zero_le _, Nat.zero_le _⟩ rfl (Nat.le_of_ble_eq_true rfl) (gm7 hM) rfl cl7 (c_X7_ofRule hM eq3) ?_
        refine V_aload_n X dX7_ruleFor_20 rfl 0 rfl ?_
        refine V_iload_n X dX7_ruleFor_21 rfl 1 rfl ?_
        refine V_iload_n X dX7_ruleFor_22 rfl 3 rfl ?_
        refine V_iconst X (1 : Int32) dX7_ruleFor_23 (by decide) ?_
        obtain ⟨q4, eq4, hs⟩ := bd_some hs
        refine V_callVs X [.int p1, .int v3, .int (1 : Int32)] dX7_ruleFor_24 m_X7_144 v_X7_ofRule ⟨Nat.le_of_ble_eq_true rfl, Nat.le_of_ble_eq_true rfl⟩ ⟨Nat.zero_le _, Nat.zero_le _⟩ rfl (Nat.le_of_ble_eq_true rfl) (gm7 hM) rfl cl7 (c_X7_ofRule hM eq4) ?_
        obtain ⟨q5, eq5, hs⟩ := bd_some hs
        refine V_callSs X [.int p2, .int q3, .int q4] dX7_ruleFor_27 m_X7_75 t_X7_isBetween ⟨Nat.le_of_ble_eq_true rfl, Nat.le_of_ble_eq_true rfl⟩ ⟨Nat.zero_le _, Nat.zero_le _⟩ rfl (Nat.le_of_ble_eq_true rfl) (c_X7_isBetween  eq5) ?_
        refine V_if_eq X 35 dX7_ruleFor_30 (by decide) (fun c6 => ?_) (fun c6 => ?_)
        · replace hs := if_t hs c6
          refine V_iinc X (v3 + (1 : Int32)) dX7_ruleFor_35 3 rfl rfl [(3, .int (v3 + (1 : Int32))), (0, .ref (ad 7 0 0)), (1, .int p1), (2, .int p2)] (by decide) rfl ?_
          refine V_goto X 2 dX7_ruleFor_38 (by decide) ?_
          refine V_sub [1, 2, 3, 0] rfl ?_
          exact ih2 _ hs
        · replace hs := if_f hs c6
          refine V_iload_n X dX7_ruleFor_33 rfl 3 rfl ?_
          obtain rfl := Option.some.inj hs; exact V_iret X hr dX7_ruleFor_34
  refine V_sub [1, 2, 3, 0] rfl ?_
  exact L2 _ _ hs

def s_X7_plan_L51 (fu : Nat) (p1 : Int32) (p2 : Int32) : Nat → Int32 → Int32 → S4 → Option (Int32 × S4)
  | 0, _, _, _ => none
  | f51+1, v3, v4, Z7 => (if (100 : Int32) ≤ v4 then some (v3, Z7) else (s_X7_ruleFor fu p1 v4 Z7).bind fun q9 => ((if 0 ≤ q9 then some (0 : Int32) else some (1 : Int32))).bind fun q10 => s_X7_plan_L51 fu p1 p2 f51 (v3 + q10) (v4 + (1 : Int32)) Z7)
def s_X7_plan (fu : Nat) (p1 : Int32) (p2 : Int32) (S : S4) : Option (Int32 × S4) := (s_X7_isPlan p1 S).bind fun q1 => (if q1 = 0 then (s_X7_fails (1 : Int32) S).bind fun q14 => some (q14.1, q14.2) else (s_X7_isBetween p2 (0 : Int32) (4 : Int32) S).bind fun q3 => (if q3 = 0 then (s_X7_fails (2 : Int32) S).bind fun q13 => some (q13.1, q13.2) else sv (u4 S 7 0 0 0 (0 : Int32)) fun Z5 => (if (4 : Int32) ≤ p2 then s_X7_plan_L51 fu p1 p2 fu (0 : Int32) (0 : Int32) Z5 else (s_X7_ofPlan p1 p2 Z5).bind fun q12 => some (q12, Z5))))
set_option maxRecDepth 100000 in
set_option maxHeartbeats 4000000 in
theorem c_X7_plan {l : Launch} {D : va_G} {cA : Nat → ClassId} {dm : Dm} {ad : Ad} {fu : Nat} {S : S4} {p1 : Int32} {p2 : Int32} (hM : DM dm) {out : (Int32 × S4)} (hs : s_X7_plan fu p1 p2 S = some out) : Ct D cA dm ad l yX7_plan cX7_plan 5 (some .int) 2 46 S [.ref (ad 7 0 0), .int p1, .int p2] (some (.int out.1)) out.2 := by
  refine Ct.of (by decide +kernel) (Nat.le_of_ble_eq_true rfl) [(0, .ref (ad 7 0 0)), (1, .int p1), (2, .int p2)] rfl (fun p e s m args below meth c A X hr => ?_)
  unfold s_X7_plan at hs
  refine V_aload_n X dX7_plan_0 rfl 0 rfl ?_
  refine V_iload_n X dX7_plan_1 rfl 1 rfl ?_
  obtain ⟨q1, eq1, hs⟩ := bd_some hs
  refine V_callVs X [.int p1] dX7_plan_2 m_X7_148 v_X7_isPlan ⟨Nat.le_of_ble_eq_true rfl, Nat.le_of_ble_eq_true rfl⟩ ⟨Nat.zero_le _, Nat.zero_le _⟩ rfl (Nat.le_of_ble_eq_true rfl) (gm7 hM) rfl cl7 (c_X7_isPlan hM eq1) ?_
  refine V_if_ne X 14 dX7_plan_5 (by decide) (fun c2 => ?_) (fun c2 => ?_)
  · replace hs := if_f hs c2
    refine V_iload_n X dX7_plan_14 rfl 2 rfl ?_
    refine V_iconst X (0 : Int32) dX7_plan_15 (by decide) ?_
    refine V_iconst X (4 : Int32) dX7_plan_16 (by decide) ?_
    obtain ⟨q3, eq3, hs⟩ := bd_some hs
    refine V_callSs X [.int p2, .int (0 : Int32), .int (4 : Int32)] dX7_plan_17 m_X7_75 t_X7_isBetween ⟨Nat.le_of_ble_eq_true rfl, Nat.le_of_ble_eq_true rfl⟩ ⟨Nat.zero_le _, Nat.zero_le _⟩ rfl (Nat.le_of_ble_eq_true rfl) (c_X7_isBetween  eq3) ?_
    refine V_if_ne X 29 dX7_plan_20 (by decide) (fun c4 => ?_) (fun c4 => ?_)
    · replace hs := if_f hs c4
      refine V_aload_n X dX7_plan_29 rfl 0 rfl ?_
      refine V_iconst X (0 : Int32) dX7_plan_30 (by decide) ?_
      refine V_put X dX7_plan_31 f_X7_54 (gm7 hM) rfl (Nat.le_of_ble_eq_true rfl) rfl rfl rfl (fun Z5 eZ5 => ?_)
      replace hs := sv_some hs Z5 eZ5
      clear eZ5
      refine V_iload_n X dX7_plan_34 rfl 2 rfl ?_
      refine V_iconst X (4 : Int32) dX7_plan_35 (by decide) ?_
      refine V_icmp_ge X 46 dX7_plan_36 (by decide) (fun c6 => ?_) (fun c6 => ?_)
      · replace hs := if_t hs c6
        refine V_iconst X (0 : Int32) dX7_plan_46 (by decide) ?_
        refine V_istore_n X dX7_plan_47 rfl [(3, .int (0 : Int32)), (0, .ref (ad 7 0 0)), (1, .int p1), (2, .int p2)] (by decide) rfl ?_
        refine V_iconst X (0 : Int32) dX7_plan_48 (by decide) ?_
        refine V_istore X dX7_plan_49 [(4, .int (0 : Int32)), (3, .int (0 : Int32)), (0, .ref (ad 7 0 0)), (1, .int p1), (2, .int p2)] (by decide) rfl ?_
        have L51 : ∀ (n : Nat) (v3 v4 : Int32) (S1 : S4), s_X7_plan_L51 fu p1 p2 n v3 v4 S1 = some out → V D cA dm ad A 5 p l e ({ frames := 2, cells := 0, slots := 0, locals := 46 }) s m args below meth c 0 0 (MQ below (gQ D cA dm ad out.2 (some (.int out.1)) A) args s 0 0 A) S1 51 [(0, .ref (ad 7 0 0)), (1, .int p1), (3, .int v3), (4, .int v4)] [] := by
          intro n
          induction n with
          | zero => intro v3 v4 S1 hs; rw [s_X7_plan_L51] at hs; cases hs
          | succ f51 ih51 =>
            intro v3 v4 Z7 hs
            rw [s_X7_plan_L51] at hs
            refine V_iload X dX7_plan_51 3 rfl ?_
            refine V_bipush X (100 : Int32) dX7_plan_53 (by decide) ?_
            refine V_icmp_ge X 82 dX7_plan_55 (by decide) (fun c8 => ?_) (fun c8 => ?_)
            · replace hs := if_t hs c8
              refine V_iload_n X dX7_plan_82 rfl 2 rfl ?_
              obtain rfl := Option.some.inj hs; exact V_iret X hr dX7_plan_83
            · replace hs := if_f hs c8
              refine V_iload_n X dX7_plan_58 rfl 2 rfl ?_
              refine V_aload_n X dX7_plan_59 rfl 0 rfl ?_
              refine V_iload_n X dX7_plan_60 rfl 1 rfl ?_
              refine V_iload X dX7_plan_61 3 rfl ?_
              obtain ⟨q9, eq9, hs⟩ := bd_some hs
              refine V_callVs X [.int p1, .int v4] dX7_plan_63 m_X7_151 v_X7_ruleFor ⟨Nat.le_of_ble_eq_true rfl, Nat.le_of_ble_eq_true rfl⟩ ⟨Nat.zero_le _, Nat.zero_le _⟩ rfl (Nat.le_of_ble_eq_true rfl) (gm7 hM) rfl cl7 (c_X7_ruleFor hM eq9) ?_
              refine jn (P := fun q => V D cA dm ad A 5 p l e ({ frames := 2, cells := 0, slots := 0, locals := 46 }) s m args below meth c 0 0 (MQ below (gQ D cA dm ad out.2 (some (.int out.1)) A) args s 0 0 A) Z7 74 [(0, .ref (ad 7 0 0)), (1, .int p1), (3, .int v3), (4, .int v4)] [.int q, .int v3]) hs (fun q10 hs => ?_) (fun J74 hs => ?_)
              · refine V_iadd X dX7_plan_74 ?_
                refine V_istore_n X dX7_plan_75 rfl [(3, .int (v3 + q10)), (0, .ref (ad 7 0 0)), (1, .int p1), (4, .int v4)] (by decide) rfl ?_
                refine V_iinc X (v4 + (1 : Int32)) dX7_plan_76 3 rfl rfl [(4, .int (v4 + (1 : Int32))), (3, .int (v3 + q10)), (0, .ref (ad 7 0 0)), (1, .int p1)] (by decide) rfl ?_
                refine V_goto X 51 dX7_plan_79 (by decide) ?_
                refine V_sub [2, 3, 1, 0] rfl ?_
                exact ih51 _ _ _ hs
              · refine V_if_ge X 73 dX7_plan_66 (by decide) (fun c11 => ?_) (fun c11 => ?_)
                · replace hs := if_tB hs c11
                  refine V_iconst X (0 : Int32) dX7_plan_73 (by decide) ?_
                  exact J74 _ (bs_some hs)
                · replace hs := if_fB hs c11
                  refine V_iconst X (1 : Int32) dX7_plan_69 (by decide) ?_
                  refine V_goto X 74 dX7_plan_70 (by decide) ?_
                  exact J74 _ (bs_some hs)
        refine V_sub [2, 3, 1, 0] rfl ?_
        exact L51 _ _ _ _ hs
      · replace hs := if_f hs c6
        refine V_aload_n X dX7_plan_39 rfl 0 rfl ?_
        refine V_iload_n X dX7_plan_40 rfl 1 rfl ?_
        refine V_iload_n X dX7_plan_41 rfl 2 rfl ?_
        obtain ⟨q12, eq12, hs⟩ := bd_some hs
        refine V_callVs X [.int p1, .int p2] dX7_plan_42 m_X7_141 v_X7_ofPlan ⟨Nat.le_of_ble_eq_true rfl, Nat.le_of_ble_eq_true rfl⟩ ⟨Nat.zero_le _, Nat.zero_le _⟩ rfl (Nat.le_of_ble_eq_true rfl) (gm7 hM) rfl cl7 (c_X7_ofPlan hM eq12) ?_
        obtain rfl := Option.some.inj hs; exact V_iret X hr dX7_plan_45
    · replace hs := if_t hs c4
      refine V_aload_n X dX7_plan_23 rfl 0 rfl ?_
      refine V_iconst X (2 : Int32) dX7_plan_24 (by decide) ?_
      obtain ⟨q13, eq13, hs⟩ := bd_some hs
      refine V_callVs X [.int (2 : Int32)] dX7_plan_25 m_X7_79 v_X7_fails ⟨Nat.le_of_ble_eq_true rfl, Nat.le_of_ble_eq_true rfl⟩ ⟨Nat.zero_le _, Nat.zero_le _⟩ rfl (Nat.le_of_ble_eq_true rfl) (gm7 hM) rfl cl7 (c_X7_fails hM eq13) ?_
      obtain rfl := Option.some.inj hs; exact V_iret X hr dX7_plan_28
  · replace hs := if_t hs c2
    refine V_aload_n X dX7_plan_8 rfl 0 rfl ?_
    refine V_iconst X (1 : Int32) dX7_plan_9 (by decide) ?_
    obtain ⟨q14, eq14, hs⟩ := bd_some hs
    refine V_callVs X [.int (1 : Int32)] dX7_plan_10 m_X7_79 v_X7_fails ⟨Nat.le_of_ble_eq_true rfl, Nat.le_of_ble_eq_true rfl⟩ ⟨Nat.zero_le _, Nat.zero_le _⟩ rfl (Nat.le_of_ble_eq_true rfl) (gm7 hM) rfl cl7 (c_X7_fails hM eq14) ?_
    obtain rfl := Option.some.inj hs; exact V_iret X hr dX7_plan_13

def s_X7_planOf_L4 (fu : Nat) (p1 : Int32) (S : S4) : Nat → Int32 → Int32 → Option Int32
  | 0, _, _ => none
  | f4+1, v2, v3 => (if (S 7 0 0 10) ≤ v3 then some v2 else (s_X7_ofPlan v3 (0 : Int32) S).bind fun q2 => ((if p1 < q2 then some v2 else some v3)).bind fun q3 => s_X7_planOf_L4 fu p1 S f4 q3 (v3 + (1 : Int32)))
def s_X7_planOf (fu : Nat) (p1 : Int32) (S : S4) : Option Int32 := s_X7_planOf_L4 fu p1 S fu (-1 : Int32) (0 : Int32)
set_option maxRecDepth 100000 in
set_option maxHeartbeats 4000000 in
theorem c_X7_planOf {l : Launch} {D : va_G} {cA : Nat → ClassId} {dm : Dm} {ad : Ad} {fu : Nat} {S : S4} {p1 : Int32} (hM : DM dm) {out : Int32} (hs : s_X7_planOf fu p1 S = some out) : Ct D cA dm ad l yX7_planOf cX7_planOf 4 (some .int) 1 22 S [.ref (ad 7 0 0), .int p1] (some (.int out)) S := by
  refine Ct.of (by decide +kernel) (Nat.le_of_ble_eq_true rfl) [(0, .ref (ad 7 0 0)), (1, .int p1)] rfl (fun p e s m args below meth c A X hr => ?_)
  unfold s_X7_planOf at hs
  refine V_iconst X (-1 : Int32) dX7_planOf_0 (by decide) ?_
  refine V_istore_n X dX7_planOf_1 rfl [(2, .int (-1 : Int32)), (0, .ref (ad 7 0 0)), (1, .int p1)] (by decide) rfl ?_
  refine V_iconst X (0 : Int32) dX7_planOf_2 (by decide) ?_
  refine V_istore_n X dX7_planOf_3 rfl [(3, .int (0 : Int32)), (2, .int (-1 : Int32)), (0, .ref (ad 7 0 0)), (1, .int p1)] (by decide) rfl ?_
  have L4 : ∀ (n : Nat) (v2 v3 : Int32) , s_X7_planOf_L4 fu p1 S n v2 v3 = some out → V D cA dm ad A 4 p l e ({ frames := 1, cells := 0, slots := 0, locals := 22 }) s m args below meth c 0 0 (MQ below (gQ D cA dm ad S (some (.int out)) A) args s 0 0 A) S 4 [(0, .ref (ad 7 0 0)), (1, .int p1), (2, .int v2), (3, .int v3)] [] := by
    intro n
    induction n with
    | zero => intro v2 v3 hs; rw [s_X7_planOf_L4] at hs; cases hs
    | succ f4 ih4 =>
      intro v2 v3 hs
      rw [s_X7_planOf_L4] at hs
      refine V_iload_n X dX7_planOf_4 rfl 3 rfl ?_
      refine V_aload_n X dX7_planOf_5 rfl 0 rfl ?_
      refine V_get X dX7_planOf_6 r_X7_66 (gm7 hM) rfl rfl ?_
      refine V_icmp_ge X 34 dX7_planOf_9 (by decide) (fun c1 => ?_) (fun c1 => ?_)
      · replace hs := if_t hs c1
        refine V_iload_n X dX7_planOf_34 rfl 2 rfl ?_
        obtain rfl := Option.some.inj hs; exact V_iret X hr dX7_planOf_35
      · replace hs := if_f hs c1
        refine V_aload_n X dX7_planOf_12 rfl 0 rfl ?_
        refine V_iload_n X dX7_planOf_13 rfl 3 rfl ?_
        refine V_iconst X (0 : Int32) dX7_planOf_14 (by decide) ?_
        obtain ⟨q2, eq2, hs⟩ := bd_some hs
        refine V_callVs X [.int v3, .int (0 : Int32)] dX7_planOf_15 m_X7_141 v_X7_ofPlan ⟨Nat.le_of_ble_eq_true rfl, Nat.le_of_ble_eq_true rfl⟩ ⟨Nat.zero_le _, Nat.zero_le _⟩ rfl (Nat.le_of_ble_eq_true rfl) (gm7 hM) rfl cl7 (c_X7_ofPlan hM eq2) ?_
        refine V_iload_n X dX7_planOf_18 rfl 1 rfl ?_
        refine jn (P := fun q => V D cA dm ad A 4 p l e ({ frames := 1, cells := 0, slots := 0, locals := 22 }) s m args below meth c 0 0 (MQ below (gQ D cA dm ad S (some (.int out)) A) args s 0 0 A) S 27 [(0, .ref (ad 7 0 0)), (1, .int p1), (2, .int v2), (3, .int v3)] [.int q]) hs (fun q3 hs => ?_) (fun J27 hs => ?_)
        · refine V_istore_n X dX7_planOf_27 rfl [(2, .int q3), (0, .ref (ad 7 0 0)), (1, .int p1), (3, .int v3)] (by decide) rfl ?_
          refine V_iinc X (v3 + (1 : Int32)) dX7_planOf_28 3 rfl rfl [(3, .int (v3 + (1 : Int32))), (2, .int q3), (0, .ref (ad 7 0 0)), (1, .int p1)] (by decide) rfl ?_
          refine V_goto X 4 dX7_planOf_31 (by decide) ?_
          refine V_sub [2, 3, 1, 0] rfl ?_
          exact ih4 _ _ hs
        · refine V_icmp_gt X 26 dX7_planOf_19 (by decide) (fun c4 => ?_) (fun c4 => ?_)
          · replace hs := if_tB hs c4
            refine V_iload_n X dX7_planOf_26 rfl 2 rfl ?_
            exact J27 _ (bs_some hs)
          · replace hs := if_fB hs c4
            refine V_iload_n X dX7_planOf_22 rfl 3 rfl ?_
            refine V_goto X 27 dX7_planOf_23 (by decide) ?_
            exact J27 _ (bs_some hs)
  refine V_sub [2, 3, 1, 0] rfl ?_
  exact L4 _ _ _ hs

def s_X7_route (fu : Nat) (p1 : Int32) (p2 : Int32) (p3 : Int32) (S : S4) : Option (Int32 × S4) := (if p1 < 0 then (s_X7_fails (1 : Int32) S).bind fun q2 => some (q2.1, q2.2) else (s_X7_isBetween p2 (0 : Int32) (99 : Int32) S).bind fun q3 => (if q3 = 0 then (s_X7_fails (1 : Int32) S).bind fun q19 => some (q19.1, q19.2) else (s_X7_planOf fu p1 S).bind fun q5 => (if 0 ≤ q5 then (s_X7_ruleFor fu q5 p2 S).bind fun q7 => (if q7 < 0 then (s_X7_fails (3 : Int32) S).bind fun q9 => some (q9.1, q9.2) else (s_X7_ofRule q5 q7 (2 : Int32) S).bind fun q10 => (s_X7_isBetween p3 (-1 : Int32) (q10 - (1 : Int32)) S).bind fun q11 => (if q11 = 0 then (s_X7_fails (3 : Int32) S).bind fun q17 => some (q17.1, q17.2) else sv (u4 S 7 0 0 0 (0 : Int32)) fun Z13 => ((if 0 ≤ p3 then some ((3 : Int32) + p3) else some (2 : Int32))).bind fun q14 => (s_X7_ofRule q5 q7 q14 Z13).bind fun q15 => some (q15, Z13))) else (s_X7_fails (2 : Int32) S).bind fun q18 => some (q18.1, q18.2))))
set_option maxRecDepth 100000 in
set_option maxHeartbeats 4000000 in
theorem c_X7_route {l : Launch} {D : va_G} {cA : Nat → ClassId} {dm : Dm} {ad : Ad} {fu : Nat} {S : S4} {p1 : Int32} {p2 : Int32} {p3 : Int32} (hM : DM dm) {out : (Int32 × S4)} (hs : s_X7_route fu p1 p2 p3 S = some out) : Ct D cA dm ad l yX7_route cX7_route 6 (some .int) 2 46 S [.ref (ad 7 0 0), .int p1, .int p2, .int p3] (some (.int out.1)) out.2 := by
  refine Ct.of (by decide +kernel) (Nat.le_of_ble_eq_true rfl) [(0, .ref (ad 7 0 0)), (1, .int p1), (2, .int p2), (3, .int p3)] rfl (fun p e s m args below meth c A X hr => ?_)
  unfold s_X7_route at hs
  refine V_iload_n X dX7_route_0 rfl 1 rfl ?_
  refine V_if_lt X 14 dX7_route_1 (by decide) (fun c1 => ?_) (fun c1 => ?_)
  · replace hs := if_t hs c1
    refine V_aload_n X dX7_route_14 rfl 0 rfl ?_
    refine V_iconst X (1 : Int32) dX7_route_15 (by decide) ?_
    obtain ⟨q2, eq2, hs⟩ := bd_some hs
    refine V_callVs X [.int (1 : Int32)] dX7_route_16 m_X7_79 v_X7_fails ⟨Nat.le_of_ble_eq_true rfl, Nat.le_of_ble_eq_true rfl⟩ ⟨Nat.zero_le _, Nat.zero_le _⟩ rfl (Nat.le_of_ble_eq_true rfl) (gm7 hM) rfl cl7 (c_X7_fails hM eq2) ?_
    obtain rfl := Option.some.inj hs; exact V_iret X hr dX7_route_19
  · replace hs := if_f hs c1
    refine V_iload_n X dX7_route_4 rfl 2 rfl ?_
    refine V_iconst X (0 : Int32) dX7_route_5 (by decide) ?_
    refine V_bipush X (99 : Int32) dX7_route_6 (by decide) ?_
    obtain ⟨q3, eq3, hs⟩ := bd_some hs
    refine V_callSs X [.int p2, .int (0 : Int32), .int (99 : Int32)] dX7_route_8 m_X7_75 t_X7_isBetween ⟨Nat.le_of_ble_eq_true rfl, Nat.le_of_ble_eq_true rfl⟩ ⟨Nat.zero_le _, Nat.zero_le _⟩ rfl (Nat.le_of_ble_eq_true rfl) (c_X7_isBetween  eq3) ?_
    refine V_if_ne X 20 dX7_route_11 (by decide) (fun c4 => ?_) (fun c4 => ?_)
    · replace hs := if_f hs c4
      refine V_aload_n X dX7_route_20 rfl 0 rfl ?_
      refine V_iload_n X dX7_route_21 rfl 1 rfl ?_
      obtain ⟨q5, eq5, hs⟩ := bd_some hs
      refine V_callVs X [.int p1] dX7_route_22 m_X7_154 v_X7_planOf ⟨Nat.le_of_ble_eq_true rfl, Nat.le_of_ble_eq_true rfl⟩ ⟨Nat.zero_le _, Nat.zero_le _⟩ rfl (Nat.le_of_ble_eq_true rfl) (gm7 hM) rfl cl7 (c_X7_planOf hM eq5) ?_
      refine V_istore X dX7_route_25 [(4, .int q5), (0, .ref (ad 7 0 0)), (1, .int p1), (2, .int p2), (3, .int p3)] (by decide) rfl ?_
      refine V_iload X dX7_route_27 0 rfl ?_
      refine V_if_ge X 38 dX7_route_29 (by decide) (fun c6 => ?_) (fun c6 => ?_)
      · replace hs := if_t hs c6
        refine V_aload_n X dX7_route_38 rfl 1 rfl ?_
        refine V_iload X dX7_route_39 0 rfl ?_
        refine V_iload_n X dX7_route_41 rfl 3 rfl ?_
        obtain ⟨q7, eq7, hs⟩ := bd_some hs
        refine V_callVs X [.int q5, .int p2] dX7_route_42 m_X7_151 v_X7_ruleFor ⟨Nat.le_of_ble_eq_true rfl, Nat.le_of_ble_eq_true rfl⟩ ⟨Nat.zero_le _, Nat.zero_le _⟩ rfl (Nat.le_of_ble_eq_true rfl) (gm7 hM) rfl cl7 (c_X7_ruleFor hM eq7) ?_
        refine V_istore X dX7_route_45 [(5, .int q7), (4, .int q5), (0, .ref (ad 7 0 0)), (1, .int p1), (2, .int p2), (3, .int p3)] (by decide) rfl ?_
        refine V_iload X dX7_route_47 0 rfl ?_
        refine V_if_lt X 71 dX7_route_49 (by decide) (fun c8 => ?_) (fun c8 => ?_)
        · replace hs := if_t hs c8
          refine V_aload_n X dX7_route_71 rfl 2 rfl ?_
          refine V_iconst X (3 : Int32) dX7_route_72 (by decide) ?_
          obtain ⟨q9, eq9, hs⟩ := bd_some hs
          refine V_callVs X [.int (3 : Int32)] dX7_route_73 m_X7_79 v_X7_fails ⟨Nat.le_of_ble_eq_true rfl, Nat.le_of_ble_eq_true rfl⟩ ⟨Nat.zero_le _, Nat.zero_le _⟩ rfl (Nat.le_of_ble_eq_true rfl) (gm7 hM) rfl cl7 (c_X7_fails hM eq9) ?_
          obtain rfl := Option.some.inj hs; exact V_iret X hr dX7_route_76
        · replace hs := if_f hs c8
          refine V_iload_n X dX7_route_52 rfl 5 rfl ?_
          refine V_iconst X (-1 : Int32) dX7_route_53 (by decide) ?_
          refine V_aload_n X dX7_route_54 rfl 2 rfl ?_
          refine V_iload X dX7_route_55 1 rfl ?_
          refine V_iload X dX7_route_57 0 rfl ?_
          refine V_iconst X (2 : Int32) dX7_route_59 (by decide) ?_
          obtain ⟨q10, eq10, hs⟩ := bd_some hs
          refine V_callVs X [.int q5, .int q7, .int (2 : Int32)] dX7_route_60 m_X7_144 v_X7_ofRule ⟨Nat.le_of_ble_eq_true rfl, Nat.le_of_ble_eq_true rfl⟩ ⟨Nat.zero_le _, Nat.zero_le _⟩ rfl (Nat.le_of_ble_eq_true rfl) (gm7 hM) rfl cl7 (c_X7_ofRule hM eq10) ?_
          refine V_iconst X (1 : Int32) dX7_route_63 (by decide) ?_
          refine V_isub X dX7_route_64 ?_
          obtain ⟨q11, eq11, hs⟩ := bd_some hs
          refine V_callSs X [.int p3, .int (-1 : Int32), .int (q10 - (1 : Int32))] dX7_route_65 m_X7_75 t_X7_isBetween ⟨Nat.le_of_ble_eq_true rfl, Nat.le_of_ble_eq_true rfl⟩ ⟨Nat.zero_le _, Nat.zero_le _⟩ rfl (Nat.le_of_ble_eq_true rfl) (c_X7_isBetween  eq11) ?_
          refine V_if_ne X 77 dX7_route_68 (by decide) (fun c12 => ?_) (fun c12 => ?_)
          · replace hs := if_f hs c12
            refine V_aload_n X dX7_route_77 rfl 2 rfl ?_
            refine V_iconst X (0 : Int32) dX7_route_78 (by decide) ?_
            refine V_put X dX7_route_79 f_X7_54 (gm7 hM) rfl (Nat.le_of_ble_eq_true rfl) rfl rfl rfl (fun Z13 eZ13 => ?_)
            replace hs := sv_some hs Z13 eZ13
            clear eZ13
            refine V_aload_n X dX7_route_82 rfl 2 rfl ?_
            refine V_iload X dX7_route_83 1 rfl ?_
            refine V_iload X dX7_route_85 0 rfl ?_
            refine V_iload_n X dX7_route_87 rfl 5 rfl ?_
            refine jn (P := fun q => V D cA dm ad A 6 p l e ({ frames := 2, cells := 0, slots := 0, locals := 46 }) s m args below meth c 0 0 (MQ below (gQ D cA dm ad out.2 (some (.int out.1)) A) args s 0 0 A) Z13 98 [(5, .int q7), (4, .int q5), (0, .ref (ad 7 0 0)), (1, .int p1), (2, .int p2), (3, .int p3)] [.int q, .int q7, .int q5, .ref (ad 7 0 0)]) hs (fun q14 hs => ?_) (fun J98 hs => ?_)
            · obtain ⟨q15, eq15, hs⟩ := bd_some hs
              refine V_callVs X [.int q5, .int q7, .int q14] dX7_route_98 m_X7_144 v_X7_ofRule ⟨Nat.le_of_ble_eq_true rfl, Nat.le_of_ble_eq_true rfl⟩ ⟨Nat.zero_le _, Nat.zero_le _⟩ rfl (Nat.le_of_ble_eq_true rfl) (gm7 hM) rfl cl7 (c_X7_ofRule hM eq15) ?_
              obtain rfl := Option.some.inj hs; exact V_iret X hr dX7_route_101
            · refine V_if_ge X 95 dX7_route_88 (by decide) (fun c16 => ?_) (fun c16 => ?_)
              · replace hs := if_tB hs c16
                refine V_iconst X (3 : Int32) dX7_route_95 (by decide) ?_
                refine V_iload_n X dX7_route_96 rfl 5 rfl ?_
                refine V_iadd X dX7_route_97 ?_
                exact J98 _ (bs_some hs)
              · replace hs := if_fB hs c16
                refine V_iconst X (2 : Int32) dX7_route_91 (by decide) ?_
                refine V_goto X 98 dX7_route_92 (by decide) ?_
                exact J98 _ (bs_some hs)
          · replace hs := if_t hs c12
            refine V_aload_n X dX7_route_71 rfl 2 rfl ?_
            refine V_iconst X (3 : Int32) dX7_route_72 (by decide) ?_
            obtain ⟨q17, eq17, hs⟩ := bd_some hs
            refine V_callVs X [.int (3 : Int32)] dX7_route_73 m_X7_79 v_X7_fails ⟨Nat.le_of_ble_eq_true rfl, Nat.le_of_ble_eq_true rfl⟩ ⟨Nat.zero_le _, Nat.zero_le _⟩ rfl (Nat.le_of_ble_eq_true rfl) (gm7 hM) rfl cl7 (c_X7_fails hM eq17) ?_
            obtain rfl := Option.some.inj hs; exact V_iret X hr dX7_route_76
      · replace hs := if_f hs c6
        refine V_aload_n X dX7_route_32 rfl 1 rfl ?_
        refine V_iconst X (2 : Int32) dX7_route_33 (by decide) ?_
        obtain ⟨q18, eq18, hs⟩ := bd_some hs
        refine V_callVs X [.int (2 : Int32)] dX7_route_34 m_X7_79 v_X7_fails ⟨Nat.le_of_ble_eq_true rfl, Nat.le_of_ble_eq_true rfl⟩ ⟨Nat.zero_le _, Nat.zero_le _⟩ rfl (Nat.le_of_ble_eq_true rfl) (gm7 hM) rfl cl7 (c_X7_fails hM eq18) ?_
        obtain rfl := Option.some.inj hs; exact V_iret X hr dX7_route_37
    · replace hs := if_t hs c4
      refine V_aload_n X dX7_route_14 rfl 0 rfl ?_
      refine V_iconst X (1 : Int32) dX7_route_15 (by decide) ?_
      obtain ⟨q19, eq19, hs⟩ := bd_some hs
      refine V_callVs X [.int (1 : Int32)] dX7_route_16 m_X7_79 v_X7_fails ⟨Nat.le_of_ble_eq_true rfl, Nat.le_of_ble_eq_true rfl⟩ ⟨Nat.zero_le _, Nat.zero_le _⟩ rfl (Nat.le_of_ble_eq_true rfl) (gm7 hM) rfl cl7 (c_X7_fails hM eq19) ?_
      obtain rfl := Option.some.inj hs; exact V_iret X hr dX7_route_19

def s_X7_isStation (p1 : Int32) (S : S4) : Option Int32 := (if p1 < 0 then some (0 : Int32) else (if (S 7 0 0 8) ≤ p1 then some (0 : Int32) else some (1 : Int32)))
set_option maxRecDepth 100000 in
set_option maxHeartbeats 4000000 in
theorem c_X7_isStation {l : Launch} {D : va_G} {cA : Nat → ClassId} {dm : Dm} {ad : Ad} {S : S4} {p1 : Int32} (hM : DM dm) {out : Int32} (hs : s_X7_isStation p1 S = some out) : Ct D cA dm ad l yX7_isStation cX7_isStation 2 (some .boolean) 0 0 S [.ref (ad 7 0 0), .int p1] (some (.int out)) S := by
  refine Ct.of (by decide +kernel) (Nat.le_of_ble_eq_true rfl) [(0, .ref (ad 7 0 0)), (1, .int p1)] rfl (fun p e s m args below meth c A X hr => ?_)
  unfold s_X7_isStation at hs
  refine V_iload_n X dX7_isStation_0 rfl 1 rfl ?_
  refine V_if_lt X 16 dX7_isStation_1 (by decide) (fun c1 => ?_) (fun c1 => ?_)
  · replace hs := if_t hs c1
    refine V_iconst X (0 : Int32) dX7_isStation_16 (by decide) ?_
    obtain rfl := Option.some.inj hs; exact V_zret X hr nb0 dX7_isStation_17
  · replace hs := if_f hs c1
    refine V_iload_n X dX7_isStation_4 rfl 1 rfl ?_
    refine V_aload_n X dX7_isStation_5 rfl 0 rfl ?_
    refine V_get X dX7_isStation_6 r_X7_57 (gm7 hM) rfl rfl ?_
    refine V_icmp_ge X 16 dX7_isStation_9 (by decide) (fun c2 => ?_) (fun c2 => ?_)
    · replace hs := if_t hs c2
      refine V_iconst X (0 : Int32) dX7_isStation_16 (by decide) ?_
      obtain rfl := Option.some.inj hs; exact V_zret X hr nb0 dX7_isStation_17
    · replace hs := if_f hs c2
      refine V_iconst X (1 : Int32) dX7_isStation_12 (by decide) ?_
      refine V_goto X 17 dX7_isStation_13 (by decide) ?_
      obtain rfl := Option.some.inj hs; exact V_zret X hr nb1 dX7_isStation_17

def s_X7_ofParcel (p1 : Int32) (p2 : Int32) (S : S4) : Option Int32 := gd (inb (((12 : Int32) * p1) + p2) 720) (some (S 28 0 0 (((12 : Int32) * p1) + p2).toNatClampNeg))
set_option maxRecDepth 100000 in
set_option maxHeartbeats 4000000 in
theorem c_X7_ofParcel {l : Launch} {D : va_G} {cA : Nat → ClassId} {dm : Dm} {ad : Ad} {S : S4} {p1 : Int32} {p2 : Int32} (hM : DM dm) {out : Int32} (hs : s_X7_ofParcel p1 p2 S = some out) : Ct D cA dm ad l yX7_ofParcel cX7_ofParcel 3 (some .int) 0 0 S [.ref (ad 7 0 0), .int p1, .int p2] (some (.int out)) S := by
  refine Ct.of (by decide +kernel) (Nat.le_of_ble_eq_true rfl) [(0, .ref (ad 7 0 0)), (1, .int p1), (2, .int p2)] rfl (fun p e s m args below meth c A X hr => ?_)
  unfold s_X7_ofParcel at hs
  refine V_aload_n X dX7_ofParcel_0 rfl 0 rfl ?_
  refine V_get X dX7_ofParcel_1 r_X7_22 (gm7 hM) rfl rfl ?_
  refine V_bipush X (12 : Int32) dX7_ofParcel_4 (by decide) ?_
  refine V_iload_n X dX7_ofParcel_6 rfl 1 rfl ?_
  refine V_imul X dX7_ofParcel_7 ?_
  refine V_iload_n X dX7_ofParcel_8 rfl 2 rfl ?_
  refine V_iadd X dX7_ofParcel_9 ?_
  obtain ⟨h1, hs⟩ := gd_some hs
  refine V_iald X dX7_ofParcel_10 (gm28 hM) rfl h1 ?_
  obtain rfl := Option.some.inj hs; exact V_iret X hr dX7_ofParcel_11

def s_X7_setsParcel (p1 : Int32) (p2 : Int32) (p3 : Int32) (S : S4) : Option S4 := gd (inb (((12 : Int32) * p1) + p2) 720) (sv (u4 S 28 0 0 ((((12 : Int32) * p1) + p2).toNatClampNeg) p3) fun Z2 => some Z2)
set_option maxRecDepth 100000 in
set_option maxHeartbeats 4000000 in
theorem c_X7_setsParcel {l : Launch} {D : va_G} {cA : Nat → ClassId} {dm : Dm} {ad : Ad} {S : S4} {p1 : Int32} {p2 : Int32} {p3 : Int32} (hM : DM dm) {out : S4} (hs : s_X7_setsParcel p1 p2 p3 S = some out) : Ct D cA dm ad l yX7_setsParcel cX7_setsParcel 4 none 0 0 S [.ref (ad 7 0 0), .int p1, .int p2, .int p3] none out := by
  refine Ct.of (by decide +kernel) (Nat.le_of_ble_eq_true rfl) [(0, .ref (ad 7 0 0)), (1, .int p1), (2, .int p2), (3, .int p3)] rfl (fun p e s m args below meth c A X hr => ?_)
  unfold s_X7_setsParcel at hs
  refine V_aload_n X dX7_setsParcel_0 rfl 0 rfl ?_
  refine V_get X dX7_setsParcel_1 r_X7_22 (gm7 hM) rfl rfl ?_
  refine V_bipush X (12 : Int32) dX7_setsParcel_4 (by decide) ?_
  refine V_iload_n X dX7_setsParcel_6 rfl 1 rfl ?_
  refine V_imul X dX7_setsParcel_7 ?_
  refine V_iload_n X dX7_setsParcel_8 rfl 2 rfl ?_
  refine V_iadd X dX7_setsParcel_9 ?_
  refine V_iload_n X dX7_setsParcel_10 rfl 3 rfl ?_
  obtain ⟨h1, hs⟩ := gd_some hs
  refine V_iast X dX7_setsParcel_11 (gm28 hM) (fun _ => rfl) h1 (fun Z2 eZ2 => ?_)
  replace hs := sv_some hs Z2 eZ2
  clear eZ2
  obtain rfl := Option.some.inj hs; exact V_vret X hr dX7_setsParcel_12

def s_X7_arrive_L208 (fu : Nat) (p1 : Int32) (p2 : Int32) (p3 : Int32) (p4 : Int32) : Nat → Int32 → Int32 → Int32 → S4 → Option (Int32 × S4)
  | 0, _, _, _, _ => none
  | f208+1, v5, v7, v8, Z32 => (if (10 : Int32) < v8 then gd (inb ((((13 : Int32) * p1) + (3 : Int32)) + v5) 39) (sv (u4 Z32 25 0 0 (((((13 : Int32) * p1) + (3 : Int32)) + v5).toNatClampNeg) v7) fun Z35 => gd (inb (((13 : Int32) * p1) + (1 : Int32)) 39) (gd (inb (((13 : Int32) * p1) + (1 : Int32)) 39) (sv (u4 Z35 25 0 0 ((((13 : Int32) * p1) + (1 : Int32)).toNatClampNeg) ((Z35 25 0 0 (((13 : Int32) * p1) + (1 : Int32)).toNatClampNeg) + (1 : Int32))) fun Z38 => sv (u4 Z38 7 0 0 11 ((Z38 7 0 0 11) + (1 : Int32))) fun Z39 => some (v7, Z39)))) else (s_X7_setsParcel v7 v8 (-1 : Int32) Z32).bind fun Z41 => s_X7_arrive_L208 fu p1 p2 p3 p4 f208 v5 v7 (v8 + (1 : Int32)) Z41)
def s_X7_arrive_L140 (fu : Nat) (p1 : Int32) (p2 : Int32) (p3 : Int32) (p4 : Int32) : Nat → Int32 → Int32 → Int32 → Int32 → S4 → Option (Int32 × S4)
  | 0, _, _, _, _, _ => none
  | f140+1, v5, v6, v7, v8, Z20 => (if (12 : Int32) ≤ v8 then (s_X7_setsParcel v7 (0 : Int32) p2 Z20).bind fun Z23 => (s_X7_setsParcel v7 (1 : Int32) v6 Z23).bind fun Z25 => (s_X7_setsParcel v7 (2 : Int32) p3 Z25).bind fun Z27 => (s_X7_setsParcel v7 (3 : Int32) p4 Z27).bind fun Z29 => (s_X7_setsParcel v7 (5 : Int32) p1 Z29).bind fun Z31 => s_X7_arrive_L208 fu p1 p2 p3 p4 fu v5 v7 (7 : Int32) Z31 else (s_X7_setsParcel v7 v8 (0 : Int32) Z20).bind fun Z43 => s_X7_arrive_L140 fu p1 p2 p3 p4 f140 v5 v6 v7 (v8 + (1 : Int32)) Z43)
def s_X7_arrive_L95 (fu : Nat) (p1 : Int32) (p2 : Int32) (p3 : Int32) (p4 : Int32) : Nat → Int32 → Int32 → Int32 → S4 → Option (Int32 × S4)
  | 0, _, _, _, _ => none
  | f95+1, v5, v6, v7, Z18 => (if (Z18 7 0 0 11) ≤ v7 then s_X7_arrive_L140 fu p1 p2 p3 p4 fu v5 v6 (Z18 7 0 0 11) (0 : Int32) Z18 else (s_X7_ofParcel v7 (0 : Int32) Z18).bind fun q44 => ((if q44 = p2 then some (1 : Int32) else some (0 : Int32))).bind fun q45 => s_X7_arrive_L95 fu p1 p2 p3 p4 f95 v5 (v6 + q45) (v7 + (1 : Int32)) Z18)
def s_X7_arrive (fu : Nat) (p1 : Int32) (p2 : Int32) (p3 : Int32) (p4 : Int32) (S : S4) : Option (Int32 × S4) := (s_X7_isStation p1 S).bind fun q1 => (if q1 = 0 then (s_X7_fails (1 : Int32) S).bind fun q49 => some (q49.1, q49.2) else (s_X7_isBetween p2 (0 : Int32) (99 : Int32) S).bind fun q3 => (if q3 = 0 then (s_X7_fails (2 : Int32) S).bind fun q5 => some (q5.1, q5.2) else (s_X7_isBetween p3 (1 : Int32) (50 : Int32) S).bind fun q6 => (if q6 = 0 then (s_X7_fails (2 : Int32) S).bind fun q8 => some (q8.1, q8.2) else (s_X7_isBetween p4 (0 : Int32) (2 : Int32) S).bind fun q9 => (if q9 = 0 then (s_X7_fails (2 : Int32) S).bind fun q48 => some (q48.1, q48.2) else (s_X7_ofStation p1 (1 : Int32) S).bind fun q11 => (if (S 7 0 0 11) = (60 : Int32) then (s_X7_fails (3 : Int32) S).bind fun q13 => some (q13.1, q13.2) else (if q11 = (10 : Int32) then (s_X7_fails (3 : Int32) S).bind fun q47 => some (q47.1, q47.2) else sv (u4 S 7 0 0 0 (0 : Int32)) fun Z15 => (s_X7_remembers fu Z15).bind fun Z17 => s_X7_arrive_L95 fu p1 p2 p3 p4 fu q11 (0 : Int32) (0 : Int32) Z17))))))
set_option maxRecDepth 100000 in
set_option maxHeartbeats 4000000 in
theorem c_X7_arrive {l : Launch} {D : va_G} {cA : Nat → ClassId} {dm : Dm} {ad : Ad} {fu : Nat} {S : S4} {p1 : Int32} {p2 : Int32} {p3 : Int32} {p4 : Int32} (hM : DM dm) {out : (Int32 × S4)} (hs : s_X7_arrive fu p1 p2 p3 p4 S = some out) : Ct D cA dm ad l yX7_arrive cX7_arrive 9 (some .int) 3 67 S [.ref (ad 7 0 0), .int p1, .int p2, .int p3, .int p4] (some (.int out.1)) out.2 := by
  refine Ct.of (by decide +kernel) (Nat.le_of_ble_eq_true rfl) [(0, .ref (ad 7 0 0)), (1, .int p1), (2, .int p2), (3, .int p3), (4, .int p4)] rfl (fun p e s m args below meth c A X hr => ?_)
  unfold s_X7_arrive at hs
  refine V_aload_n X dX7_arrive_0 rfl 0 rfl ?_
  refine V_iload_n X dX7_arrive_1 rfl 1 rfl ?_
  obtain ⟨q1, eq1, hs⟩ := bd_some hs
  refine V_callVs X [.int p1] dX7_arrive_2 m_X7_157 v_X7_isStation ⟨Nat.le_of_ble_eq_true rfl, Nat.le_of_ble_eq_true rfl⟩ ⟨Nat.zero_le _, Nat.zero_le _⟩ rfl (Nat.le_of_ble_eq_true rfl) (gm7 hM) rfl cl7 (c_X7_isStation hM eq1) ?_
  refine V_if_ne X 14 dX7_arrive_5 (by decide) (fun c2 => ?_) (fun c2 => ?_)
  · replace hs := if_f hs c2
    refine V_iload_n X dX7_arrive_14 rfl 2 rfl ?_
    refine V_iconst X (0 : Int32) dX7_arrive_15 (by decide) ?_
    refine V_bipush X (99 : Int32) dX7_arrive_16 (by decide) ?_
    obtain ⟨q3, eq3, hs⟩ := bd_some hs
    refine V_callSs X [.int p2, .int (0 : Int32), .int (99 : Int32)] dX7_arrive_18 m_X7_75 t_X7_isBetween ⟨Nat.le_of_ble_eq_true rfl, Nat.le_of_ble_eq_true rfl⟩ ⟨Nat.zero_le _, Nat.zero_le _⟩ rfl (Nat.le_of_ble_eq_true rfl) (c_X7_isBetween  eq3) ?_
    refine V_if_eq X 44 dX7_arrive_21 (by decide) (fun c4 => ?_) (fun c4 => ?_)
    · replace hs := if_t hs c4
      refine V_aload_n X dX7_arrive_44 rfl 0 rfl ?_
      refine V_iconst X (2 : Int32) dX7_arrive_45 (by decide) ?_
      obtain ⟨q5, eq5, hs⟩ := bd_some hs
      refine V_callVs X [.int (2 : Int32)] dX7_arrive_46 m_X7_79 v_X7_fails ⟨Nat.le_of_ble_eq_true rfl, Nat.le_of_ble_eq_true rfl⟩ ⟨Nat.zero_le _, Nat.zero_le _⟩ rfl (Nat.le_of_ble_eq_true rfl) (gm7 hM) rfl cl7 (c_X7_fails hM eq5) ?_
      obtain rfl := Option.some.inj hs; exact V_iret X hr dX7_arrive_49
    · replace hs := if_f hs c4
      refine V_iload_n X dX7_arrive_24 rfl 3 rfl ?_
      refine V_iconst X (1 : Int32) dX7_arrive_25 (by decide) ?_
      refine V_bipush X (50 : Int32) dX7_arrive_26 (by decide) ?_
      obtain ⟨q6, eq6, hs⟩ := bd_some hs
      refine V_callSs X [.int p3, .int (1 : Int32), .int (50 : Int32)] dX7_arrive_28 m_X7_75 t_X7_isBetween ⟨Nat.le_of_ble_eq_true rfl, Nat.le_of_ble_eq_true rfl⟩ ⟨Nat.zero_le _, Nat.zero_le _⟩ rfl (Nat.le_of_ble_eq_true rfl) (c_X7_isBetween  eq6) ?_
      refine V_if_eq X 44 dX7_arrive_31 (by decide) (fun c7 => ?_) (fun c7 => ?_)
      · replace hs := if_t hs c7
        refine V_aload_n X dX7_arrive_44 rfl 0 rfl ?_
        refine V_iconst X (2 : Int32) dX7_arrive_45 (by decide) ?_
        obtain ⟨q8, eq8, hs⟩ := bd_some hs
        refine V_callVs X [.int (2 : Int32)] dX7_arrive_46 m_X7_79 v_X7_fails ⟨Nat.le_of_ble_eq_true rfl, Nat.le_of_ble_eq_true rfl⟩ ⟨Nat.zero_le _, Nat.zero_le _⟩ rfl (Nat.le_of_ble_eq_true rfl) (gm7 hM) rfl cl7 (c_X7_fails hM eq8) ?_
        obtain rfl := Option.some.inj hs; exact V_iret X hr dX7_arrive_49
      · replace hs := if_f hs c7
        refine V_iload X dX7_arrive_34 4 rfl ?_
        refine V_iconst X (0 : Int32) dX7_arrive_36 (by decide) ?_
        refine V_iconst X (2 : Int32) dX7_arrive_37 (by decide) ?_
        obtain ⟨q9, eq9, hs⟩ := bd_some hs
        refine V_callSs X [.int p4, .int (0 : Int32), .int (2 : Int32)] dX7_arrive_38 m_X7_75 t_X7_isBetween ⟨Nat.le_of_ble_eq_true rfl, Nat.le_of_ble_eq_true rfl⟩ ⟨Nat.zero_le _, Nat.zero_le _⟩ rfl (Nat.le_of_ble_eq_true rfl) (c_X7_isBetween  eq9) ?_
        refine V_if_ne X 50 dX7_arrive_41 (by decide) (fun c10 => ?_) (fun c10 => ?_)
        · replace hs := if_f hs c10
          refine V_aload_n X dX7_arrive_50 rfl 0 rfl ?_
          refine V_iload_n X dX7_arrive_51 rfl 1 rfl ?_
          refine V_iconst X (1 : Int32) dX7_arrive_52 (by decide) ?_
          obtain ⟨q11, eq11, hs⟩ := bd_some hs
          refine V_callVs X [.int p1, .int (1 : Int32)] dX7_arrive_53 m_X7_86 v_X7_ofStation ⟨Nat.le_of_ble_eq_true rfl, Nat.le_of_ble_eq_true rfl⟩ ⟨Nat.zero_le _, Nat.zero_le _⟩ rfl (Nat.le_of_ble_eq_true rfl) (gm7 hM) rfl cl7 (c_X7_ofStation hM eq11) ?_
          refine V_istore X dX7_arrive_56 [(5, .int q11), (0, .ref (ad 7 0 0)), (1, .int p1), (2, .int p2), (3, .int p3), (4, .int p4)] (by decide) rfl ?_
          refine V_aload_n X dX7_arrive_58 rfl 1 rfl ?_
          refine V_get X dX7_arrive_59 r_X7_63 (gm7 hM) rfl rfl ?_
          refine V_bipush X (60 : Int32) dX7_arrive_62 (by decide) ?_
          refine V_icmp_eq X 74 dX7_arrive_64 (by decide) (fun c12 => ?_) (fun c12 => ?_)
          · replace hs := if_t hs c12
            refine V_aload_n X dX7_arrive_74 rfl 1 rfl ?_
            refine V_iconst X (3 : Int32) dX7_arrive_75 (by decide) ?_
            obtain ⟨q13, eq13, hs⟩ := bd_some hs
            refine V_callVs X [.int (3 : Int32)] dX7_arrive_76 m_X7_79 v_X7_fails ⟨Nat.le_of_ble_eq_true rfl, Nat.le_of_ble_eq_true rfl⟩ ⟨Nat.zero_le _, Nat.zero_le _⟩ rfl (Nat.le_of_ble_eq_true rfl) (gm7 hM) rfl cl7 (c_X7_fails hM eq13) ?_
            obtain rfl := Option.some.inj hs; exact V_iret X hr dX7_arrive_79
          · replace hs := if_f hs c12
            refine V_iload X dX7_arrive_67 0 rfl ?_
            refine V_bipush X (10 : Int32) dX7_arrive_69 (by decide) ?_
            refine V_icmp_ne X 80 dX7_arrive_71 (by decide) (fun c14 => ?_) (fun c14 => ?_)
            · replace hs := if_f hs c14
              refine V_aload_n X dX7_arrive_80 rfl 1 rfl ?_
              refine V_iconst X (0 : Int32) dX7_arrive_81 (by decide) ?_
              refine V_put X dX7_arrive_82 f_X7_54 (gm7 hM) rfl (Nat.le_of_ble_eq_true rfl) rfl rfl rfl (fun Z15 eZ15 => ?_)
              replace hs := sv_some hs Z15 eZ15
              clear eZ15
              refine V_aload_n X dX7_arrive_85 rfl 1 rfl ?_
              obtain ⟨Z17, eZ17, hs⟩ := bd_some hs
              refine V_callVv X [] dX7_arrive_86 m_X7_97 v_X7_remembers ⟨Nat.le_of_ble_eq_true rfl, Nat.le_of_ble_eq_true rfl⟩ ⟨Nat.zero_le _, Nat.zero_le _⟩ rfl (Nat.le_of_ble_eq_true rfl) (gm7 hM) rfl cl7 (c_X7_remembers hM eZ17) ?_
              refine V_iconst X (0 : Int32) dX7_arrive_89 (by decide) ?_
              refine V_istore X dX7_arrive_90 [(6, .int (0 : Int32)), (5, .int q11), (0, .ref (ad 7 0 0)), (1, .int p1), (2, .int p2), (3, .int p3), (4, .int p4)] (by decide) rfl ?_
              refine V_iconst X (0 : Int32) dX7_arrive_92 (by decide) ?_
              refine V_istore X dX7_arrive_93 [(7, .int (0 : Int32)), (6, .int (0 : Int32)), (5, .int q11), (0, .ref (ad 7 0 0)), (1, .int p1), (2, .int p2), (3, .int p3), (4, .int p4)] (by decide) rfl ?_
              have L95 : ∀ (n : Nat) (v5 v6 v7 : Int32) (S1 : S4), s_X7_arrive_L95 fu p1 p2 p3 p4 n v5 v6 v7 S1 = some out → V D cA dm ad A 9 p l e ({ frames := 3, cells := 0, slots := 0, locals := 67 }) s m args below meth c 0 0 (MQ below (gQ D cA dm ad out.2 (some (.int out.1)) A) args s 0 0 A) S1 95 [(0, .ref (ad 7 0 0)), (1, .int p1), (2, .int p2), (3, .int p3), (4, .int p4), (5, .int v5), (6, .int v6), (7, .int v7)] [] := by
                intro n
                induction n with
                | zero => intro v5 v6 v7 S1 hs; rw [s_X7_arrive_L95] at hs; cases hs
                | succ f95 ih95 =>
                  intro v5 v6 v7 Z18 hs
                  rw [s_X7_arrive_L95] at hs
                  refine V_iload X dX7_arrive_95 7 rfl ?_
                  refine V_aload_n X dX7_arrive_97 rfl 0 rfl ?_
                  refine V_get X dX7_arrive_98 r_X7_63 (gm7 hM) rfl rfl ?_
                  refine V_icmp_ge X 131 dX7_arrive_101 (by decide) (fun c19 => ?_) (fun c19 => ?_)
                  · replace hs := if_t hs c19
                    refine V_aload_n X dX7_arrive_131 rfl 0 rfl ?_
                    refine V_get X dX7_arrive_132 r_X7_63 (gm7 hM) rfl rfl ?_
                    refine V_istore X dX7_arrive_135 [(7, .int (Z18 7 0 0 11)), (0, .ref (ad 7 0 0)), (1, .int p1), (2, .int p2), (3, .int p3), (4, .int p4), (5, .int v5), (6, .int v6)] (by decide) rfl ?_
                    refine V_iconst X (0 : Int32) dX7_arrive_137 (by decide) ?_
                    refine V_istore X dX7_arrive_138 [(8, .int (0 : Int32)), (7, .int (Z18 7 0 0 11)), (0, .ref (ad 7 0 0)), (1, .int p1), (2, .int p2), (3, .int p3), (4, .int p4), (5, .int v5), (6, .int v6)] (by decide) rfl ?_
                    have L140 : ∀ (n : Nat) (v5 v6 v7 v8 : Int32) (S1 : S4), s_X7_arrive_L140 fu p1 p2 p3 p4 n v5 v6 v7 v8 S1 = some out → V D cA dm ad A 9 p l e ({ frames := 3, cells := 0, slots := 0, locals := 67 }) s m args below meth c 0 0 (MQ below (gQ D cA dm ad out.2 (some (.int out.1)) A) args s 0 0 A) S1 140 [(0, .ref (ad 7 0 0)), (1, .int p1), (2, .int p2), (3, .int p3), (4, .int p4), (5, .int v5), (6, .int v6), (7, .int v7), (8, .int v8)] [] := by
                      intro n
                      induction n with
                      | zero => intro v5 v6 v7 v8 S1 hs; rw [s_X7_arrive_L140] at hs; cases hs
                      | succ f140 ih140 =>
                        intro v5 v6 v7 v8 Z20 hs
                        rw [s_X7_arrive_L140] at hs
                        refine V_iload X dX7_arrive_140 8 rfl ?_
                        refine V_bipush X (12 : Int32) dX7_arrive_142 (by decide) ?_
                        refine V_icmp_ge X 162 dX7_arrive_144 (by decide) (fun c21 => ?_) (fun c21 => ?_)
                        · replace hs := if_t hs c21
                          refine V_aload_n X dX7_arrive_162 rfl 0 rfl ?_
                          refine V_iload X dX7_arrive_163 7 rfl ?_
                          refine V_iconst X (0 : Int32) dX7_arrive_165 (by decide) ?_
                          refine V_iload_n X dX7_arrive_166 rfl 2 rfl ?_
                          obtain ⟨Z23, eZ23, hs⟩ := bd_some hs
                          refine V_callVv X [.int v7, .int (0 : Int32), .int p2] dX7_arrive_167 m_X7_163 v_X7_setsParcel ⟨Nat.le_of_ble_eq_true rfl, Nat.le_of_ble_eq_true rfl⟩ ⟨Nat.zero_le _, Nat.zero_le _⟩ rfl (Nat.le_of_ble_eq_true rfl) (gm7 hM) rfl cl7 (c_X7_setsParcel hM eZ23) ?_
                          refine V_aload_n X dX7_arrive_170 rfl 0 rfl ?_
                          refine V_iload X dX7_arrive_171 7 rfl ?_
                          refine V_iconst X (1 : Int32) dX7_arrive_173 (by decide) ?_
                          refine V_iload X dX7_arrive_174 6 rfl ?_
                          obtain ⟨Z25, eZ25, hs⟩ := bd_some hs
                          refine V_callVv X [.int v7, .int (1 : Int32), .int v6] dX7_arrive_176 m_X7_163 v_X7_setsParcel ⟨Nat.le_of_ble_eq_true rfl, Nat.le_of_ble_eq_true rfl⟩ ⟨Nat.zero_le _, Nat.zero_le _⟩ rfl (Nat.le_of_ble_eq_true rfl) (gm7 hM) rfl cl7 (c_X7_setsParcel hM eZ25) ?_
                          refine V_aload_n X dX7_arrive_179 rfl 0 rfl ?_
                          refine V_iload X dX7_arrive_180 7 rfl ?_
                          refine V_iconst X (2 : Int32) dX7_arrive_182 (by decide) ?_
                          refine V_iload_n X dX7_arrive_183 rfl 3 rfl ?_
                          obtain ⟨Z27, eZ27, hs⟩ := bd_some hs
                          refine V_callVv X [.int v7, .int (2 : Int32), .int p3] dX7_arrive_184 m_X7_163 v_X7_setsParcel ⟨Nat.le_of_ble_eq_true rfl, Nat.le_of_ble_eq_true rfl⟩ ⟨Nat.zero_le _, Nat.zero_le _⟩ rfl (Nat.le_of_ble_eq_true rfl) (gm7 hM) rfl cl7 (c_X7_setsParcel hM eZ27) ?_
                          refine V_aload_n X dX7_arrive_187 rfl 0 rfl ?_
                          refine V_iload X dX7_arrive_188 7 rfl ?_
                          refine V_iconst X (3 : Int32) dX7_arrive_190 (by decide) ?_
                          refine V_iload X dX7_arrive_191 4 rfl ?_
                          obtain ⟨Z29, eZ29, hs⟩ := bd_some hs
                          refine V_callVv X [.int v7, .int (3 : Int32), .int p4] dX7_arrive_193 m_X7_163 v_X7_setsParcel ⟨Nat.le_of_ble_eq_true rfl, Nat.le_of_ble_eq_true rfl⟩ ⟨Nat.zero_le _, Nat.zero_le _⟩ rfl (Nat.le_of_ble_eq_true rfl) (gm7 hM) rfl cl7 (c_X7_setsParcel hM eZ29) ?_
                          refine V_aload_n X dX7_arrive_196 rfl 0 rfl ?_
                          refine V_iload X dX7_arrive_197 7 rfl ?_
                          refine V_iconst X (5 : Int32) dX7_arrive_199 (by decide) ?_
                          refine V_iload_n X dX7_arrive_200 rfl 1 rfl ?_
                          obtain ⟨Z31, eZ31, hs⟩ := bd_some hs
                          refine V_callVv X [.int v7, .int (5 : Int32), .int p1] dX7_arrive_201 m_X7_163 v_X7_setsParcel ⟨Nat.le_of_ble_eq_true rfl, Nat.le_of_ble_eq_true rfl⟩ ⟨Nat.zero_le _, Nat.zero_le _⟩ rfl (Nat.le_of_ble_eq_true rfl) (gm7 hM) rfl cl7 (c_X7_setsParcel hM eZ31) ?_
                          refine V_bipush X (7 : Int32) dX7_arrive_204 (by decide) ?_
                          refine V_istore X dX7_arrive_206 [(8, .int (7 : Int32)), (0, .ref (ad 7 0 0)), (1, .int p1), (2, .int p2), (3, .int p3), (4, .int p4), (5, .int v5), (6, .int v6), (7, .int v7)] (by decide) rfl ?_
                          have L208 : ∀ (n : Nat) (v5 v7 v8 : Int32) (S1 : S4), s_X7_arrive_L208 fu p1 p2 p3 p4 n v5 v7 v8 S1 = some out → V D cA dm ad A 9 p l e ({ frames := 3, cells := 0, slots := 0, locals := 67 }) s m args below meth c 0 0 (MQ below (gQ D cA dm ad out.2 (some (.int out.1)) A) args s 0 0 A) S1 208 [(0, .ref (ad 7 0 0)), (1, .int p1), (5, .int v5), (7, .int v7), (8, .int v8)] [] := by
                            intro n
                            induction n with
                            | zero => intro v5 v7 v8 S1 hs; rw [s_X7_arrive_L208] at hs; cases hs
                            | succ f208 ih208 =>
                              intro v5 v7 v8 Z32 hs
                              rw [s_X7_arrive_L208] at hs
                              refine V_iload X dX7_arrive_208 4 rfl ?_
                              refine V_bipush X (10 : Int32) dX7_arrive_210 (by decide) ?_
                              refine V_icmp_gt X 230 dX7_arrive_212 (by decide) (fun c33 => ?_) (fun c33 => ?_)
                              · replace hs := if_t hs c33
                                refine V_aload_n X dX7_arrive_230 rfl 0 rfl ?_
                                refine V_get X dX7_arrive_231 r_X7_13 (gm7 hM) rfl rfl ?_
                                refine V_bipush X (13 : Int32) dX7_arrive_234 (by decide) ?_
                                refine V_iload_n X dX7_arrive_236 rfl 1 rfl ?_
                                refine V_imul X dX7_arrive_237 ?_
                                refine V_iconst X (3 : Int32) dX7_arrive_238 (by decide) ?_
                                refine V_iadd X dX7_arrive_239 ?_
                                refine V_iload X dX7_arrive_240 2 rfl ?_
                                refine V_iadd X dX7_arrive_242 ?_
                                refine V_iload X dX7_arrive_243 3 rfl ?_
                                obtain ⟨h34, hs⟩ := gd_some hs
                                refine V_iast X dX7_arrive_245 (gm25 hM) (fun _ => rfl) h34 (fun Z35 eZ35 => ?_)
                                replace hs := sv_some hs Z35 eZ35
                                clear eZ35
                                refine V_aload_n X dX7_arrive_246 rfl 0 rfl ?_
                                refine V_get X dX7_arrive_247 r_X7_13 (gm7 hM) rfl rfl ?_
                                refine V_bipush X (13 : Int32) dX7_arrive_250 (by decide) ?_
                                refine V_iload_n X dX7_arrive_252 rfl 1 rfl ?_
                                refine V_imul X dX7_arrive_253 ?_
                                refine V_iconst X (1 : Int32) dX7_arrive_254 (by decide) ?_
                                refine V_iadd X dX7_arrive_255 ?_
                                refine V_dup2 X dX7_arrive_256 rfl rfl ?_
                                obtain ⟨h36, hs⟩ := gd_some hs
                                refine V_iald X dX7_arrive_257 (gm25 hM) rfl h36 ?_
                                refine V_iconst X (1 : Int32) dX7_arrive_258 (by decide) ?_
                                refine V_iadd X dX7_arrive_259 ?_
                                obtain ⟨h37, hs⟩ := gd_some hs
                                refine V_iast X dX7_arrive_260 (gm25 hM) (fun _ => rfl) h37 (fun Z38 eZ38 => ?_)
                                replace hs := sv_some hs Z38 eZ38
                                clear eZ38
                                refine V_aload_n X dX7_arrive_261 rfl 0 rfl ?_
                                refine V_dup X dX7_arrive_262 rfl ?_
                                refine V_get X dX7_arrive_263 r_X7_63 (gm7 hM) rfl rfl ?_
                                refine V_iconst X (1 : Int32) dX7_arrive_266 (by decide) ?_
                                refine V_iadd X dX7_arrive_267 ?_
                                refine V_put X dX7_arrive_268 f_X7_63 (gm7 hM) rfl (Nat.le_of_ble_eq_true rfl) rfl rfl rfl (fun Z39 eZ39 => ?_)
                                replace hs := sv_some hs Z39 eZ39
                                clear eZ39
                                refine V_iload X dX7_arrive_271 3 rfl ?_
                                obtain rfl := Option.some.inj hs; exact V_iret X hr dX7_arrive_273
                              · replace hs := if_f hs c33
                                refine V_aload_n X dX7_arrive_215 rfl 0 rfl ?_
                                refine V_iload X dX7_arrive_216 3 rfl ?_
                                refine V_iload X dX7_arrive_218 4 rfl ?_
                                refine V_iconst X (-1 : Int32) dX7_arrive_220 (by decide) ?_
                                obtain ⟨Z41, eZ41, hs⟩ := bd_some hs
                                refine V_callVv X [.int v7, .int v8, .int (-1 : Int32)] dX7_arrive_221 m_X7_163 v_X7_setsParcel ⟨Nat.le_of_ble_eq_true rfl, Nat.le_of_ble_eq_true rfl⟩ ⟨Nat.zero_le _, Nat.zero_le _⟩ rfl (Nat.le_of_ble_eq_true rfl) (gm7 hM) rfl cl7 (c_X7_setsParcel hM eZ41) ?_
                                refine V_iinc X (v8 + (1 : Int32)) dX7_arrive_224 4 rfl rfl [(8, .int (v8 + (1 : Int32))), (0, .ref (ad 7 0 0)), (1, .int p1), (5, .int v5), (7, .int v7)] (by decide) rfl ?_
                                refine V_goto X 208 dX7_arrive_227 (by decide) ?_
                                refine V_sub [1, 2, 3, 4, 0] rfl ?_
                                exact ih208 _ _ _ _ hs
                          refine V_sub [1, 2, 6, 8, 0] rfl ?_
                          exact L208 _ _ _ _ _ hs
                        · replace hs := if_f hs c21
                          refine V_aload_n X dX7_arrive_147 rfl 0 rfl ?_
                          refine V_iload X dX7_arrive_148 7 rfl ?_
                          refine V_iload X dX7_arrive_150 8 rfl ?_
                          refine V_iconst X (0 : Int32) dX7_arrive_152 (by decide) ?_
                          obtain ⟨Z43, eZ43, hs⟩ := bd_some hs
                          refine V_callVv X [.int v7, .int v8, .int (0 : Int32)] dX7_arrive_153 m_X7_163 v_X7_setsParcel ⟨Nat.le_of_ble_eq_true rfl, Nat.le_of_ble_eq_true rfl⟩ ⟨Nat.zero_le _, Nat.zero_le _⟩ rfl (Nat.le_of_ble_eq_true rfl) (gm7 hM) rfl cl7 (c_X7_setsParcel hM eZ43) ?_
                          refine V_iinc X (v8 + (1 : Int32)) dX7_arrive_156 8 rfl rfl [(8, .int (v8 + (1 : Int32))), (0, .ref (ad 7 0 0)), (1, .int p1), (2, .int p2), (3, .int p3), (4, .int p4), (5, .int v5), (6, .int v6), (7, .int v7)] (by decide) rfl ?_
                          refine V_goto X 140 dX7_arrive_159 (by decide) ?_
                          refine V_sub [1, 2, 3, 4, 5, 6, 7, 8, 0] rfl ?_
                          exact ih140 _ _ _ _ _ hs
                    refine V_sub [2, 3, 4, 5, 6, 7, 8, 1, 0] rfl ?_
                    exact L140 _ _ _ _ _ _ hs
                  · replace hs := if_f hs c19
                    refine V_iload X dX7_arrive_104 6 rfl ?_
                    refine V_aload_n X dX7_arrive_106 rfl 0 rfl ?_
                    refine V_iload X dX7_arrive_107 7 rfl ?_
                    refine V_iconst X (0 : Int32) dX7_arrive_109 (by decide) ?_
                    obtain ⟨q44, eq44, hs⟩ := bd_some hs
                    refine V_callVs X [.int v7, .int (0 : Int32)] dX7_arrive_110 m_X7_160 v_X7_ofParcel ⟨Nat.le_of_ble_eq_true rfl, Nat.le_of_ble_eq_true rfl⟩ ⟨Nat.zero_le _, Nat.zero_le _⟩ rfl (Nat.le_of_ble_eq_true rfl) (gm7 hM) rfl cl7 (c_X7_ofParcel hM eq44) ?_
                    refine V_iload_n X dX7_arrive_113 rfl 2 rfl ?_
                    refine jn (P := fun q => V D cA dm ad A 9 p l e ({ frames := 3, cells := 0, slots := 0, locals := 67 }) s m args below meth c 0 0 (MQ below (gQ D cA dm ad out.2 (some (.int out.1)) A) args s 0 0 A) Z18 122 [(0, .ref (ad 7 0 0)), (1, .int p1), (2, .int p2), (3, .int p3), (4, .int p4), (5, .int v5), (6, .int v6), (7, .int v7)] [.int q, .int v6]) hs (fun q45 hs => ?_) (fun J122 hs => ?_)
                    · refine V_iadd X dX7_arrive_122 ?_
                      refine V_istore X dX7_arrive_123 [(6, .int (v6 + q45)), (0, .ref (ad 7 0 0)), (1, .int p1), (2, .int p2), (3, .int p3), (4, .int p4), (5, .int v5), (7, .int v7)] (by decide) rfl ?_
                      refine V_iinc X (v7 + (1 : Int32)) dX7_arrive_125 7 rfl rfl [(7, .int (v7 + (1 : Int32))), (6, .int (v6 + q45)), (0, .ref (ad 7 0 0)), (1, .int p1), (2, .int p2), (3, .int p3), (4, .int p4), (5, .int v5)] (by decide) rfl ?_
                      refine V_goto X 95 dX7_arrive_128 (by decide) ?_
                      refine V_sub [2, 3, 4, 5, 6, 7, 1, 0] rfl ?_
                      exact ih95 _ _ _ _ hs
                    · refine V_icmp_ne X 121 dX7_arrive_114 (by decide) (fun c46 => ?_) (fun c46 => ?_)
                      · replace hs := if_fB hs c46
                        refine V_iconst X (0 : Int32) dX7_arrive_121 (by decide) ?_
                        exact J122 _ (bs_some hs)
                      · replace hs := if_tB hs c46
                        refine V_iconst X (1 : Int32) dX7_arrive_117 (by decide) ?_
                        refine V_goto X 122 dX7_arrive_118 (by decide) ?_
                        exact J122 _ (bs_some hs)
              refine V_sub [3, 4, 5, 6, 7, 2, 1, 0] rfl ?_
              exact L95 _ _ _ _ _ hs
            · replace hs := if_t hs c14
              refine V_aload_n X dX7_arrive_74 rfl 1 rfl ?_
              refine V_iconst X (3 : Int32) dX7_arrive_75 (by decide) ?_
              obtain ⟨q47, eq47, hs⟩ := bd_some hs
              refine V_callVs X [.int (3 : Int32)] dX7_arrive_76 m_X7_79 v_X7_fails ⟨Nat.le_of_ble_eq_true rfl, Nat.le_of_ble_eq_true rfl⟩ ⟨Nat.zero_le _, Nat.zero_le _⟩ rfl (Nat.le_of_ble_eq_true rfl) (gm7 hM) rfl cl7 (c_X7_fails hM eq47) ?_
              obtain rfl := Option.some.inj hs; exact V_iret X hr dX7_arrive_79
        · replace hs := if_t hs c10
          refine V_aload_n X dX7_arrive_44 rfl 0 rfl ?_
          refine V_iconst X (2 : Int32) dX7_arrive_45 (by decide) ?_
          obtain ⟨q48, eq48, hs⟩ := bd_some hs
          refine V_callVs X [.int (2 : Int32)] dX7_arrive_46 m_X7_79 v_X7_fails ⟨Nat.le_of_ble_eq_true rfl, Nat.le_of_ble_eq_true rfl⟩ ⟨Nat.zero_le _, Nat.zero_le _⟩ rfl (Nat.le_of_ble_eq_true rfl) (gm7 hM) rfl cl7 (c_X7_fails hM eq48) ?_
          obtain rfl := Option.some.inj hs; exact V_iret X hr dX7_arrive_49
  · replace hs := if_t hs c2
    refine V_aload_n X dX7_arrive_8 rfl 0 rfl ?_
    refine V_iconst X (1 : Int32) dX7_arrive_9 (by decide) ?_
    obtain ⟨q49, eq49, hs⟩ := bd_some hs
    refine V_callVs X [.int (1 : Int32)] dX7_arrive_10 m_X7_79 v_X7_fails ⟨Nat.le_of_ble_eq_true rfl, Nat.le_of_ble_eq_true rfl⟩ ⟨Nat.zero_le _, Nat.zero_le _⟩ rfl (Nat.le_of_ble_eq_true rfl) (gm7 hM) rfl cl7 (c_X7_fails hM eq49) ?_
    obtain rfl := Option.some.inj hs; exact V_iret X hr dX7_arrive_13

def s_X7_find_L2 (fu : Nat) (p1 : Int32) (p2 : Int32) : Nat → Int32 → S4 → Option (Int32 × S4)
  | 0, _, _ => none
  | f2+1, v3, Z1 => (if (Z1 7 0 0 11) ≤ v3 then (s_X7_fails (1 : Int32) Z1).bind fun q3 => some (q3.1, q3.2) else (s_X7_ofParcel v3 (0 : Int32) Z1).bind fun q4 => (if q4 = p1 then (s_X7_ofParcel v3 (1 : Int32) Z1).bind fun q6 => (if q6 = p2 then sv (u4 Z1 7 0 0 0 (0 : Int32)) fun Z8 => some (v3, Z8) else s_X7_find_L2 fu p1 p2 f2 (v3 + (1 : Int32)) Z1) else s_X7_find_L2 fu p1 p2 f2 (v3 + (1 : Int32)) Z1))
def s_X7_find (fu : Nat) (p1 : Int32) (p2 : Int32) (S : S4) : Option (Int32 × S4) := s_X7_find_L2 fu p1 p2 fu (0 : Int32) S
set_option maxRecDepth 100000 in
set_option maxHeartbeats 4000000 in
theorem c_X7_find {l : Launch} {D : va_G} {cA : Nat → ClassId} {dm : Dm} {ad : Ad} {fu : Nat} {S : S4} {p1 : Int32} {p2 : Int32} (hM : DM dm) {out : (Int32 × S4)} (hs : s_X7_find fu p1 p2 S = some out) : Ct D cA dm ad l yX7_find cX7_find 4 (some .int) 1 22 S [.ref (ad 7 0 0), .int p1, .int p2] (some (.int out.1)) out.2 := by
  refine Ct.of (by decide +kernel) (Nat.le_of_ble_eq_true rfl) [(0, .ref (ad 7 0 0)), (1, .int p1), (2, .int p2)] rfl (fun p e s m args below meth c A X hr => ?_)
  unfold s_X7_find at hs
  refine V_iconst X (0 : Int32) dX7_find_0 (by decide) ?_
  refine V_istore_n X dX7_find_1 rfl [(3, .int (0 : Int32)), (0, .ref (ad 7 0 0)), (1, .int p1), (2, .int p2)] (by decide) rfl ?_
  have L2 : ∀ (n : Nat) (v3 : Int32) (S1 : S4), s_X7_find_L2 fu p1 p2 n v3 S1 = some out → V D cA dm ad A 4 p l e ({ frames := 1, cells := 0, slots := 0, locals := 22 }) s m args below meth c 0 0 (MQ below (gQ D cA dm ad out.2 (some (.int out.1)) A) args s 0 0 A) S1 2 [(0, .ref (ad 7 0 0)), (1, .int p1), (2, .int p2), (3, .int v3)] [] := by
    intro n
    induction n with
    | zero => intro v3 S1 hs; rw [s_X7_find_L2] at hs; cases hs
    | succ f2 ih2 =>
      intro v3 Z1 hs
      rw [s_X7_find_L2] at hs
      refine V_iload_n X dX7_find_2 rfl 3 rfl ?_
      refine V_aload_n X dX7_find_3 rfl 0 rfl ?_
      refine V_get X dX7_find_4 r_X7_63 (gm7 hM) rfl rfl ?_
      refine V_icmp_ge X 46 dX7_find_7 (by decide) (fun c2 => ?_) (fun c2 => ?_)
      · replace hs := if_t hs c2
        refine V_aload_n X dX7_find_46 rfl 0 rfl ?_
        refine V_iconst X (1 : Int32) dX7_find_47 (by decide) ?_
        obtain ⟨q3, eq3, hs⟩ := bd_some hs
        refine V_callVs X [.int (1 : Int32)] dX7_find_48 m_X7_79 v_X7_fails ⟨Nat.le_of_ble_eq_true rfl, Nat.le_of_ble_eq_true rfl⟩ ⟨Nat.zero_le _, Nat.zero_le _⟩ rfl (Nat.le_of_ble_eq_true rfl) (gm7 hM) rfl cl7 (c_X7_fails hM eq3) ?_
        obtain rfl := Option.some.inj hs; exact V_iret X hr dX7_find_51
      · replace hs := if_f hs c2
        refine V_aload_n X dX7_find_10 rfl 0 rfl ?_
        refine V_iload_n X dX7_find_11 rfl 3 rfl ?_
        refine V_iconst X (0 : Int32) dX7_find_12 (by decide) ?_
        obtain ⟨q4, eq4, hs⟩ := bd_some hs
        refine V_callVs X [.int v3, .int (0 : Int32)] dX7_find_13 m_X7_160 v_X7_ofParcel ⟨Nat.le_of_ble_eq_true rfl, Nat.le_of_ble_eq_true rfl⟩ ⟨Nat.zero_le _, Nat.zero_le _⟩ rfl (Nat.le_of_ble_eq_true rfl) (gm7 hM) rfl cl7 (c_X7_ofParcel hM eq4) ?_
        refine V_iload_n X dX7_find_16 rfl 1 rfl ?_
        refine V_icmp_ne X 40 dX7_find_17 (by decide) (fun c5 => ?_) (fun c5 => ?_)
        · replace hs := if_f hs c5
          refine V_iinc X (v3 + (1 : Int32)) dX7_find_40 3 rfl rfl [(3, .int (v3 + (1 : Int32))), (0, .ref (ad 7 0 0)), (1, .int p1), (2, .int p2)] (by decide) rfl ?_
          refine V_goto X 2 dX7_find_43 (by decide) ?_
          refine V_sub [1, 2, 3, 0] rfl ?_
          exact ih2 _ _ hs
        · replace hs := if_t hs c5
          refine V_aload_n X dX7_find_20 rfl 0 rfl ?_
          refine V_iload_n X dX7_find_21 rfl 3 rfl ?_
          refine V_iconst X (1 : Int32) dX7_find_22 (by decide) ?_
          obtain ⟨q6, eq6, hs⟩ := bd_some hs
          refine V_callVs X [.int v3, .int (1 : Int32)] dX7_find_23 m_X7_160 v_X7_ofParcel ⟨Nat.le_of_ble_eq_true rfl, Nat.le_of_ble_eq_true rfl⟩ ⟨Nat.zero_le _, Nat.zero_le _⟩ rfl (Nat.le_of_ble_eq_true rfl) (gm7 hM) rfl cl7 (c_X7_ofParcel hM eq6) ?_
          refine V_iload_n X dX7_find_26 rfl 2 rfl ?_
          refine V_icmp_eq X 33 dX7_find_27 (by decide) (fun c7 => ?_) (fun c7 => ?_)
          · replace hs := if_t hs c7
            refine V_aload_n X dX7_find_33 rfl 0 rfl ?_
            refine V_iconst X (0 : Int32) dX7_find_34 (by decide) ?_
            refine V_put X dX7_find_35 f_X7_54 (gm7 hM) rfl (Nat.le_of_ble_eq_true rfl) rfl rfl rfl (fun Z8 eZ8 => ?_)
            replace hs := sv_some hs Z8 eZ8
            clear eZ8
            refine V_iload_n X dX7_find_38 rfl 3 rfl ?_
            obtain rfl := Option.some.inj hs; exact V_iret X hr dX7_find_39
          · replace hs := if_f hs c7
            refine V_goto X 40 dX7_find_30 (by decide) ?_
            refine V_iinc X (v3 + (1 : Int32)) dX7_find_40 3 rfl rfl [(3, .int (v3 + (1 : Int32))), (0, .ref (ad 7 0 0)), (1, .int p1), (2, .int p2)] (by decide) rfl ?_
            refine V_goto X 2 dX7_find_43 (by decide) ?_
            refine V_sub [1, 2, 3, 0] rfl ?_
            exact ih2 _ _ hs
  refine V_sub [1, 2, 3, 0] rfl ?_
  exact L2 _ _ _ hs

def s_X7_isParcel (p1 : Int32) (S : S4) : Option Int32 := (if p1 < 0 then some (0 : Int32) else (if (S 7 0 0 11) ≤ p1 then some (0 : Int32) else some (1 : Int32)))
set_option maxRecDepth 100000 in
set_option maxHeartbeats 4000000 in
theorem c_X7_isParcel {l : Launch} {D : va_G} {cA : Nat → ClassId} {dm : Dm} {ad : Ad} {S : S4} {p1 : Int32} (hM : DM dm) {out : Int32} (hs : s_X7_isParcel p1 S = some out) : Ct D cA dm ad l yX7_isParcel cX7_isParcel 2 (some .boolean) 0 0 S [.ref (ad 7 0 0), .int p1] (some (.int out)) S := by
  refine Ct.of (by decide +kernel) (Nat.le_of_ble_eq_true rfl) [(0, .ref (ad 7 0 0)), (1, .int p1)] rfl (fun p e s m args below meth c A X hr => ?_)
  unfold s_X7_isParcel at hs
  refine V_iload_n X dX7_isParcel_0 rfl 1 rfl ?_
  refine V_if_lt X 16 dX7_isParcel_1 (by decide) (fun c1 => ?_) (fun c1 => ?_)
  · replace hs := if_t hs c1
    refine V_iconst X (0 : Int32) dX7_isParcel_16 (by decide) ?_
    obtain rfl := Option.some.inj hs; exact V_zret X hr nb0 dX7_isParcel_17
  · replace hs := if_f hs c1
    refine V_iload_n X dX7_isParcel_4 rfl 1 rfl ?_
    refine V_aload_n X dX7_isParcel_5 rfl 0 rfl ?_
    refine V_get X dX7_isParcel_6 r_X7_63 (gm7 hM) rfl rfl ?_
    refine V_icmp_ge X 16 dX7_isParcel_9 (by decide) (fun c2 => ?_) (fun c2 => ?_)
    · replace hs := if_t hs c2
      refine V_iconst X (0 : Int32) dX7_isParcel_16 (by decide) ?_
      obtain rfl := Option.some.inj hs; exact V_zret X hr nb0 dX7_isParcel_17
    · replace hs := if_f hs c2
      refine V_iconst X (1 : Int32) dX7_isParcel_12 (by decide) ?_
      refine V_goto X 17 dX7_isParcel_13 (by decide) ?_
      obtain rfl := Option.some.inj hs; exact V_zret X hr nb1 dX7_isParcel_17

def s_X7_parcel (p1 : Int32) (p2 : Int32) (S : S4) : Option (Int32 × S4) := (s_X7_isParcel p1 S).bind fun q1 => (if q1 = 0 then (s_X7_fails (1 : Int32) S).bind fun q8 => some (q8.1, q8.2) else (s_X7_isBetween p2 (0 : Int32) (11 : Int32) S).bind fun q3 => (if q3 = 0 then (s_X7_fails (2 : Int32) S).bind fun q7 => some (q7.1, q7.2) else sv (u4 S 7 0 0 0 (0 : Int32)) fun Z5 => (s_X7_ofParcel p1 p2 Z5).bind fun q6 => some (q6, Z5)))
set_option maxRecDepth 100000 in
set_option maxHeartbeats 4000000 in
theorem c_X7_parcel {l : Launch} {D : va_G} {cA : Nat → ClassId} {dm : Dm} {ad : Ad} {S : S4} {p1 : Int32} {p2 : Int32} (hM : DM dm) {out : (Int32 × S4)} (hs : s_X7_parcel p1 p2 S = some out) : Ct D cA dm ad l yX7_parcel cX7_parcel 3 (some .int) 1 22 S [.ref (ad 7 0 0), .int p1, .int p2] (some (.int out.1)) out.2 := by
  refine Ct.of (by decide +kernel) (Nat.le_of_ble_eq_true rfl) [(0, .ref (ad 7 0 0)), (1, .int p1), (2, .int p2)] rfl (fun p e s m args below meth c A X hr => ?_)
  unfold s_X7_parcel at hs
  refine V_aload_n X dX7_parcel_0 rfl 0 rfl ?_
  refine V_iload_n X dX7_parcel_1 rfl 1 rfl ?_
  obtain ⟨q1, eq1, hs⟩ := bd_some hs
  refine V_callVs X [.int p1] dX7_parcel_2 m_X7_166 v_X7_isParcel ⟨Nat.le_of_ble_eq_true rfl, Nat.le_of_ble_eq_true rfl⟩ ⟨Nat.zero_le _, Nat.zero_le _⟩ rfl (Nat.le_of_ble_eq_true rfl) (gm7 hM) rfl cl7 (c_X7_isParcel hM eq1) ?_
  refine V_if_ne X 14 dX7_parcel_5 (by decide) (fun c2 => ?_) (fun c2 => ?_)
  · replace hs := if_f hs c2
    refine V_iload_n X dX7_parcel_14 rfl 2 rfl ?_
    refine V_iconst X (0 : Int32) dX7_parcel_15 (by decide) ?_
    refine V_bipush X (11 : Int32) dX7_parcel_16 (by decide) ?_
    obtain ⟨q3, eq3, hs⟩ := bd_some hs
    refine V_callSs X [.int p2, .int (0 : Int32), .int (11 : Int32)] dX7_parcel_18 m_X7_75 t_X7_isBetween ⟨Nat.le_of_ble_eq_true rfl, Nat.le_of_ble_eq_true rfl⟩ ⟨Nat.zero_le _, Nat.zero_le _⟩ rfl (Nat.le_of_ble_eq_true rfl) (c_X7_isBetween  eq3) ?_
    refine V_if_ne X 30 dX7_parcel_21 (by decide) (fun c4 => ?_) (fun c4 => ?_)
    · replace hs := if_f hs c4
      refine V_aload_n X dX7_parcel_30 rfl 0 rfl ?_
      refine V_iconst X (0 : Int32) dX7_parcel_31 (by decide) ?_
      refine V_put X dX7_parcel_32 f_X7_54 (gm7 hM) rfl (Nat.le_of_ble_eq_true rfl) rfl rfl rfl (fun Z5 eZ5 => ?_)
      replace hs := sv_some hs Z5 eZ5
      clear eZ5
      refine V_aload_n X dX7_parcel_35 rfl 0 rfl ?_
      refine V_iload_n X dX7_parcel_36 rfl 1 rfl ?_
      refine V_iload_n X dX7_parcel_37 rfl 2 rfl ?_
      obtain ⟨q6, eq6, hs⟩ := bd_some hs
      refine V_callVs X [.int p1, .int p2] dX7_parcel_38 m_X7_160 v_X7_ofParcel ⟨Nat.le_of_ble_eq_true rfl, Nat.le_of_ble_eq_true rfl⟩ ⟨Nat.zero_le _, Nat.zero_le _⟩ rfl (Nat.le_of_ble_eq_true rfl) (gm7 hM) rfl cl7 (c_X7_ofParcel hM eq6) ?_
      obtain rfl := Option.some.inj hs; exact V_iret X hr dX7_parcel_41
    · replace hs := if_t hs c4
      refine V_aload_n X dX7_parcel_24 rfl 0 rfl ?_
      refine V_iconst X (2 : Int32) dX7_parcel_25 (by decide) ?_
      obtain ⟨q7, eq7, hs⟩ := bd_some hs
      refine V_callVs X [.int (2 : Int32)] dX7_parcel_26 m_X7_79 v_X7_fails ⟨Nat.le_of_ble_eq_true rfl, Nat.le_of_ble_eq_true rfl⟩ ⟨Nat.zero_le _, Nat.zero_le _⟩ rfl (Nat.le_of_ble_eq_true rfl) (gm7 hM) rfl cl7 (c_X7_fails hM eq7) ?_
      obtain rfl := Option.some.inj hs; exact V_iret X hr dX7_parcel_29
  · replace hs := if_t hs c2
    refine V_aload_n X dX7_parcel_8 rfl 0 rfl ?_
    refine V_iconst X (1 : Int32) dX7_parcel_9 (by decide) ?_
    obtain ⟨q8, eq8, hs⟩ := bd_some hs
    refine V_callVs X [.int (1 : Int32)] dX7_parcel_10 m_X7_79 v_X7_fails ⟨Nat.le_of_ble_eq_true rfl, Nat.le_of_ble_eq_true rfl⟩ ⟨Nat.zero_le _, Nat.zero_le _⟩ rfl (Nat.le_of_ble_eq_true rfl) (gm7 hM) rfl cl7 (c_X7_fails hM eq8) ?_
    obtain rfl := Option.some.inj hs; exact V_iret X hr dX7_parcel_13

def s_X7_carried (p1 : Int32) (S : S4) : Option (Int32 × S4) := (s_X7_isBetween p1 (0 : Int32) ((S 7 0 0 7) - (1 : Int32)) S).bind fun q1 => (if q1 = 0 then (s_X7_fails (1 : Int32) S).bind fun q8 => some (q8.1, q8.2) else gd (inb p1 30) ((if 0 ≤ (S 24 0 0 p1.toNatClampNeg) then sv (u4 S 7 0 0 0 (0 : Int32)) fun Z5 => gd (inb p1 30) (some ((Z5 24 0 0 p1.toNatClampNeg), Z5)) else (s_X7_fails (2 : Int32) S).bind fun q7 => some (q7.1, q7.2))))
set_option maxRecDepth 100000 in
set_option maxHeartbeats 4000000 in
theorem c_X7_carried {l : Launch} {D : va_G} {cA : Nat → ClassId} {dm : Dm} {ad : Ad} {S : S4} {p1 : Int32} (hM : DM dm) {out : (Int32 × S4)} (hs : s_X7_carried p1 S = some out) : Ct D cA dm ad l yX7_carried cX7_carried 2 (some .int) 1 22 S [.ref (ad 7 0 0), .int p1] (some (.int out.1)) out.2 := by
  refine Ct.of (by decide +kernel) (Nat.le_of_ble_eq_true rfl) [(0, .ref (ad 7 0 0)), (1, .int p1)] rfl (fun p e s m args below meth c A X hr => ?_)
  unfold s_X7_carried at hs
  refine V_iload_n X dX7_carried_0 rfl 1 rfl ?_
  refine V_iconst X (0 : Int32) dX7_carried_1 (by decide) ?_
  refine V_aload_n X dX7_carried_2 rfl 0 rfl ?_
  refine V_get X dX7_carried_3 r_X7_28 (gm7 hM) rfl rfl ?_
  refine V_iconst X (1 : Int32) dX7_carried_6 (by decide) ?_
  refine V_isub X dX7_carried_7 ?_
  obtain ⟨q1, eq1, hs⟩ := bd_some hs
  refine V_callSs X [.int p1, .int (0 : Int32), .int ((S 7 0 0 7) - (1 : Int32))] dX7_carried_8 m_X7_75 t_X7_isBetween ⟨Nat.le_of_ble_eq_true rfl, Nat.le_of_ble_eq_true rfl⟩ ⟨Nat.zero_le _, Nat.zero_le _⟩ rfl (Nat.le_of_ble_eq_true rfl) (c_X7_isBetween  eq1) ?_
  refine V_if_ne X 20 dX7_carried_11 (by decide) (fun c2 => ?_) (fun c2 => ?_)
  · replace hs := if_f hs c2
    refine V_aload_n X dX7_carried_20 rfl 0 rfl ?_
    refine V_get X dX7_carried_21 r_X7_7 (gm7 hM) rfl rfl ?_
    refine V_iload_n X dX7_carried_24 rfl 1 rfl ?_
    obtain ⟨h3, hs⟩ := gd_some hs
    refine V_iald X dX7_carried_25 (gm24 hM) rfl h3 ?_
    refine V_if_ge X 35 dX7_carried_26 (by decide) (fun c4 => ?_) (fun c4 => ?_)
    · replace hs := if_t hs c4
      refine V_aload_n X dX7_carried_35 rfl 0 rfl ?_
      refine V_iconst X (0 : Int32) dX7_carried_36 (by decide) ?_
      refine V_put X dX7_carried_37 f_X7_54 (gm7 hM) rfl (Nat.le_of_ble_eq_true rfl) rfl rfl rfl (fun Z5 eZ5 => ?_)
      replace hs := sv_some hs Z5 eZ5
      clear eZ5
      refine V_aload_n X dX7_carried_40 rfl 0 rfl ?_
      refine V_get X dX7_carried_41 r_X7_7 (gm7 hM) rfl rfl ?_
      refine V_iload_n X dX7_carried_44 rfl 1 rfl ?_
      obtain ⟨h6, hs⟩ := gd_some hs
      refine V_iald X dX7_carried_45 (gm24 hM) rfl h6 ?_
      obtain rfl := Option.some.inj hs; exact V_iret X hr dX7_carried_46
    · replace hs := if_f hs c4
      refine V_aload_n X dX7_carried_29 rfl 0 rfl ?_
      refine V_iconst X (2 : Int32) dX7_carried_30 (by decide) ?_
      obtain ⟨q7, eq7, hs⟩ := bd_some hs
      refine V_callVs X [.int (2 : Int32)] dX7_carried_31 m_X7_79 v_X7_fails ⟨Nat.le_of_ble_eq_true rfl, Nat.le_of_ble_eq_true rfl⟩ ⟨Nat.zero_le _, Nat.zero_le _⟩ rfl (Nat.le_of_ble_eq_true rfl) (gm7 hM) rfl cl7 (c_X7_fails hM eq7) ?_
      obtain rfl := Option.some.inj hs; exact V_iret X hr dX7_carried_34
  · replace hs := if_t hs c2
    refine V_aload_n X dX7_carried_14 rfl 0 rfl ?_
    refine V_iconst X (1 : Int32) dX7_carried_15 (by decide) ?_
    obtain ⟨q8, eq8, hs⟩ := bd_some hs
    refine V_callVs X [.int (1 : Int32)] dX7_carried_16 m_X7_79 v_X7_fails ⟨Nat.le_of_ble_eq_true rfl, Nat.le_of_ble_eq_true rfl⟩ ⟨Nat.zero_le _, Nat.zero_le _⟩ rfl (Nat.le_of_ble_eq_true rfl) (gm7 hM) rfl cl7 (c_X7_fails hM eq8) ?_
    obtain rfl := Option.some.inj hs; exact V_iret X hr dX7_carried_19

def s_X7_addsChute (p1 : Int32) (p2 : Int32) (p3 : Int32) (S : S4) : Option S4 := gd (inb (((15 : Int32) * p1) + p2) 120) (gd (inb (((15 : Int32) * p1) + p2) 120) (sv (u4 S 26 0 0 ((((15 : Int32) * p1) + p2).toNatClampNeg) ((S 26 0 0 (((15 : Int32) * p1) + p2).toNatClampNeg) + p3)) fun Z3 => some Z3))
set_option maxRecDepth 100000 in
set_option maxHeartbeats 4000000 in
theorem c_X7_addsChute {l : Launch} {D : va_G} {cA : Nat → ClassId} {dm : Dm} {ad : Ad} {S : S4} {p1 : Int32} {p2 : Int32} {p3 : Int32} (hM : DM dm) {out : S4} (hs : s_X7_addsChute p1 p2 p3 S = some out) : Ct D cA dm ad l yX7_addsChute cX7_addsChute 4 none 0 0 S [.ref (ad 7 0 0), .int p1, .int p2, .int p3] none out := by
  refine Ct.of (by decide +kernel) (Nat.le_of_ble_eq_true rfl) [(0, .ref (ad 7 0 0)), (1, .int p1), (2, .int p2), (3, .int p3)] rfl (fun p e s m args below meth c A X hr => ?_)
  unfold s_X7_addsChute at hs
  refine V_aload_n X dX7_addsChute_0 rfl 0 rfl ?_
  refine V_get X dX7_addsChute_1 r_X7_16 (gm7 hM) rfl rfl ?_
  refine V_bipush X (15 : Int32) dX7_addsChute_4 (by decide) ?_
  refine V_iload_n X dX7_addsChute_6 rfl 1 rfl ?_
  refine V_imul X dX7_addsChute_7 ?_
  refine V_iload_n X dX7_addsChute_8 rfl 2 rfl ?_
  refine V_iadd X dX7_addsChute_9 ?_
  refine V_dup2 X dX7_addsChute_10 rfl rfl ?_
  obtain ⟨h1, hs⟩ := gd_some hs
  refine V_iald X dX7_addsChute_11 (gm26 hM) rfl h1 ?_
  refine V_iload_n X dX7_addsChute_12 rfl 3 rfl ?_
  refine V_iadd X dX7_addsChute_13 ?_
  obtain ⟨h2, hs⟩ := gd_some hs
  refine V_iast X dX7_addsChute_14 (gm26 hM) (fun _ => rfl) h2 (fun Z3 eZ3 => ?_)
  replace hs := sv_some hs Z3 eZ3
  clear eZ3
  obtain rfl := Option.some.inj hs; exact V_vret X hr dX7_addsChute_15

def s_X7_waitsLess (p1 : Int32) (S : S4) : Option S4 := (s_X7_ofChute p1 (7 : Int32) S).bind fun q1 => (if q1 ≤ 0 then (s_X7_ofChute p1 (8 : Int32) S).bind fun q3 => (if q3 = 0 then some S else (s_X7_addsChute p1 (8 : Int32) (-1 : Int32) S).bind fun Z6 => (s_X7_ofChute p1 (8 : Int32) Z6).bind fun q7 => (if q7 = 0 then (s_X7_setsChute p1 (6 : Int32) (0 : Int32) Z6).bind fun Z10 => some Z10 else some Z6)) else (s_X7_addsChute p1 (7 : Int32) (-1 : Int32) S).bind fun Z12 => (s_X7_ofChute p1 (8 : Int32) Z12).bind fun q13 => (if q13 = 0 then some Z12 else (s_X7_addsChute p1 (8 : Int32) (-1 : Int32) Z12).bind fun Z16 => (s_X7_ofChute p1 (8 : Int32) Z16).bind fun q17 => (if q17 = 0 then (s_X7_setsChute p1 (6 : Int32) (0 : Int32) Z16).bind fun Z20 => some Z20 else some Z16)))
set_option maxRecDepth 100000 in
set_option maxHeartbeats 4000000 in
theorem c_X7_waitsLess {l : Launch} {D : va_G} {cA : Nat → ClassId} {dm : Dm} {ad : Ad} {S : S4} {p1 : Int32} (hM : DM dm) {out : S4} (hs : s_X7_waitsLess p1 S = some out) : Ct D cA dm ad l yX7_waitsLess cX7_waitsLess 2 none 1 23 S [.ref (ad 7 0 0), .int p1] none out := by
  refine Ct.of (by decide +kernel) (Nat.le_of_ble_eq_true rfl) [(0, .ref (ad 7 0 0)), (1, .int p1)] rfl (fun p e s m args below meth c A X hr => ?_)
  unfold s_X7_waitsLess at hs
  refine V_aload_n X dX7_waitsLess_0 rfl 0 rfl ?_
  refine V_iload_n X dX7_waitsLess_1 rfl 1 rfl ?_
  refine V_bipush X (7 : Int32) dX7_waitsLess_2 (by decide) ?_
  obtain ⟨q1, eq1, hs⟩ := bd_some hs
  refine V_callVs X [.int p1, .int (7 : Int32)] dX7_waitsLess_4 m_X7_90 v_X7_ofChute ⟨Nat.le_of_ble_eq_true rfl, Nat.le_of_ble_eq_true rfl⟩ ⟨Nat.zero_le _, Nat.zero_le _⟩ rfl (Nat.le_of_ble_eq_true rfl) (gm7 hM) rfl cl7 (c_X7_ofChute hM eq1) ?_
  refine V_if_le X 18 dX7_waitsLess_7 (by decide) (fun c2 => ?_) (fun c2 => ?_)
  · replace hs := if_t hs c2
    refine V_aload_n X dX7_waitsLess_18 rfl 0 rfl ?_
    refine V_iload_n X dX7_waitsLess_19 rfl 1 rfl ?_
    refine V_bipush X (8 : Int32) dX7_waitsLess_20 (by decide) ?_
    obtain ⟨q3, eq3, hs⟩ := bd_some hs
    refine V_callVs X [.int p1, .int (8 : Int32)] dX7_waitsLess_22 m_X7_90 v_X7_ofChute ⟨Nat.le_of_ble_eq_true rfl, Nat.le_of_ble_eq_true rfl⟩ ⟨Nat.zero_le _, Nat.zero_le _⟩ rfl (Nat.le_of_ble_eq_true rfl) (gm7 hM) rfl cl7 (c_X7_ofChute hM eq3) ?_
    refine V_if_ne X 29 dX7_waitsLess_25 (by decide) (fun c4 => ?_) (fun c4 => ?_)
    · replace hs := if_f hs c4
      refine V_aload_n X dX7_waitsLess_29 rfl 0 rfl ?_
      refine V_iload_n X dX7_waitsLess_30 rfl 1 rfl ?_
      refine V_bipush X (8 : Int32) dX7_waitsLess_31 (by decide) ?_
      refine V_iconst X (-1 : Int32) dX7_waitsLess_33 (by decide) ?_
      obtain ⟨Z6, eZ6, hs⟩ := bd_some hs
      refine V_callVv X [.int p1, .int (8 : Int32), .int (-1 : Int32)] dX7_waitsLess_34 m_X7_176 v_X7_addsChute ⟨Nat.le_of_ble_eq_true rfl, Nat.le_of_ble_eq_true rfl⟩ ⟨Nat.zero_le _, Nat.zero_le _⟩ rfl (Nat.le_of_ble_eq_true rfl) (gm7 hM) rfl cl7 (c_X7_addsChute hM eZ6) ?_
      refine V_aload_n X dX7_waitsLess_37 rfl 0 rfl ?_
      refine V_iload_n X dX7_waitsLess_38 rfl 1 rfl ?_
      refine V_bipush X (8 : Int32) dX7_waitsLess_39 (by decide) ?_
      obtain ⟨q7, eq7, hs⟩ := bd_some hs
      refine V_callVs X [.int p1, .int (8 : Int32)] dX7_waitsLess_41 m_X7_90 v_X7_ofChute ⟨Nat.le_of_ble_eq_true rfl, Nat.le_of_ble_eq_true rfl⟩ ⟨Nat.zero_le _, Nat.zero_le _⟩ rfl (Nat.le_of_ble_eq_true rfl) (gm7 hM) rfl cl7 (c_X7_ofChute hM eq7) ?_
      refine V_if_ne X 55 dX7_waitsLess_44 (by decide) (fun c8 => ?_) (fun c8 => ?_)
      · replace hs := if_f hs c8
        obtain rfl := Option.some.inj hs; exact V_vret X hr dX7_waitsLess_55
      · replace hs := if_t hs c8
        refine V_aload_n X dX7_waitsLess_47 rfl 0 rfl ?_
        refine V_iload_n X dX7_waitsLess_48 rfl 1 rfl ?_
        refine V_bipush X (6 : Int32) dX7_waitsLess_49 (by decide) ?_
        refine V_iconst X (0 : Int32) dX7_waitsLess_51 (by decide) ?_
        obtain ⟨Z10, eZ10, hs⟩ := bd_some hs
        refine V_callVv X [.int p1, .int (6 : Int32), .int (0 : Int32)] dX7_waitsLess_52 m_X7_100 v_X7_setsChute ⟨Nat.le_of_ble_eq_true rfl, Nat.le_of_ble_eq_true rfl⟩ ⟨Nat.zero_le _, Nat.zero_le _⟩ rfl (Nat.le_of_ble_eq_true rfl) (gm7 hM) rfl cl7 (c_X7_setsChute hM eZ10) ?_
        obtain rfl := Option.some.inj hs; exact V_vret X hr dX7_waitsLess_55
    · replace hs := if_t hs c4
      obtain rfl := Option.some.inj hs; exact V_vret X hr dX7_waitsLess_28
  · replace hs := if_f hs c2
    refine V_aload_n X dX7_waitsLess_10 rfl 0 rfl ?_
    refine V_iload_n X dX7_waitsLess_11 rfl 1 rfl ?_
    refine V_bipush X (7 : Int32) dX7_waitsLess_12 (by decide) ?_
    refine V_iconst X (-1 : Int32) dX7_waitsLess_14 (by decide) ?_
    obtain ⟨Z12, eZ12, hs⟩ := bd_some hs
    refine V_callVv X [.int p1, .int (7 : Int32), .int (-1 : Int32)] dX7_waitsLess_15 m_X7_176 v_X7_addsChute ⟨Nat.le_of_ble_eq_true rfl, Nat.le_of_ble_eq_true rfl⟩ ⟨Nat.zero_le _, Nat.zero_le _⟩ rfl (Nat.le_of_ble_eq_true rfl) (gm7 hM) rfl cl7 (c_X7_addsChute hM eZ12) ?_
    refine V_aload_n X dX7_waitsLess_18 rfl 0 rfl ?_
    refine V_iload_n X dX7_waitsLess_19 rfl 1 rfl ?_
    refine V_bipush X (8 : Int32) dX7_waitsLess_20 (by decide) ?_
    obtain ⟨q13, eq13, hs⟩ := bd_some hs
    refine V_callVs X [.int p1, .int (8 : Int32)] dX7_waitsLess_22 m_X7_90 v_X7_ofChute ⟨Nat.le_of_ble_eq_true rfl, Nat.le_of_ble_eq_true rfl⟩ ⟨Nat.zero_le _, Nat.zero_le _⟩ rfl (Nat.le_of_ble_eq_true rfl) (gm7 hM) rfl cl7 (c_X7_ofChute hM eq13) ?_
    refine V_if_ne X 29 dX7_waitsLess_25 (by decide) (fun c14 => ?_) (fun c14 => ?_)
    · replace hs := if_f hs c14
      refine V_aload_n X dX7_waitsLess_29 rfl 0 rfl ?_
      refine V_iload_n X dX7_waitsLess_30 rfl 1 rfl ?_
      refine V_bipush X (8 : Int32) dX7_waitsLess_31 (by decide) ?_
      refine V_iconst X (-1 : Int32) dX7_waitsLess_33 (by decide) ?_
      obtain ⟨Z16, eZ16, hs⟩ := bd_some hs
      refine V_callVv X [.int p1, .int (8 : Int32), .int (-1 : Int32)] dX7_waitsLess_34 m_X7_176 v_X7_addsChute ⟨Nat.le_of_ble_eq_true rfl, Nat.le_of_ble_eq_true rfl⟩ ⟨Nat.zero_le _, Nat.zero_le _⟩ rfl (Nat.le_of_ble_eq_true rfl) (gm7 hM) rfl cl7 (c_X7_addsChute hM eZ16) ?_
      refine V_aload_n X dX7_waitsLess_37 rfl 0 rfl ?_
      refine V_iload_n X dX7_waitsLess_38 rfl 1 rfl ?_
      refine V_bipush X (8 : Int32) dX7_waitsLess_39 (by decide) ?_
      obtain ⟨q17, eq17, hs⟩ := bd_some hs
      refine V_callVs X [.int p1, .int (8 : Int32)] dX7_waitsLess_41 m_X7_90 v_X7_ofChute ⟨Nat.le_of_ble_eq_true rfl, Nat.le_of_ble_eq_true rfl⟩ ⟨Nat.zero_le _, Nat.zero_le _⟩ rfl (Nat.le_of_ble_eq_true rfl) (gm7 hM) rfl cl7 (c_X7_ofChute hM eq17) ?_
      refine V_if_ne X 55 dX7_waitsLess_44 (by decide) (fun c18 => ?_) (fun c18 => ?_)
      · replace hs := if_f hs c18
        obtain rfl := Option.some.inj hs; exact V_vret X hr dX7_waitsLess_55
      · replace hs := if_t hs c18
        refine V_aload_n X dX7_waitsLess_47 rfl 0 rfl ?_
        refine V_iload_n X dX7_waitsLess_48 rfl 1 rfl ?_
        refine V_bipush X (6 : Int32) dX7_waitsLess_49 (by decide) ?_
        refine V_iconst X (0 : Int32) dX7_waitsLess_51 (by decide) ?_
        obtain ⟨Z20, eZ20, hs⟩ := bd_some hs
        refine V_callVv X [.int p1, .int (6 : Int32), .int (0 : Int32)] dX7_waitsLess_52 m_X7_100 v_X7_setsChute ⟨Nat.le_of_ble_eq_true rfl, Nat.le_of_ble_eq_true rfl⟩ ⟨Nat.zero_le _, Nat.zero_le _⟩ rfl (Nat.le_of_ble_eq_true rfl) (gm7 hM) rfl cl7 (c_X7_setsChute hM eZ20) ?_
        obtain rfl := Option.some.inj hs; exact V_vret X hr dX7_waitsLess_55
    · replace hs := if_t hs c14
      obtain rfl := Option.some.inj hs; exact V_vret X hr dX7_waitsLess_28

def s_X7_turns_L52 (fu : Nat)  : Nat → Int32 → S4 → Option S4
  | 0, _, _ => none
  | f52+1, v2, Z6 => (if (Z6 7 0 0 7) ≤ v2 then some Z6 else gd (inb v2 30) ((if (Z6 24 0 0 v2.toNatClampNeg) < 0 then s_X7_turns_L52 fu f52 (v2 + (1 : Int32)) Z6 else gd (inb v2 30) ((s_X7_setsParcel (Z6 24 0 0 v2.toNatClampNeg) (5 : Int32) v2 Z6).bind fun Z12 => s_X7_turns_L52 fu f52 (v2 + (1 : Int32)) Z12))))
def s_X7_turns_L19 (fu : Nat)  : Nat → Int32 → Int32 → S4 → Option S4
  | 0, _, _, _ => none
  | f19+1, v1, v2, Z2 => (if v2 ≤ 0 then gd (inb (0 : Int32) 30) (sv (u4 Z2 24 0 0 ((0 : Int32).toNatClampNeg) v1) fun Z5 => s_X7_turns_L52 fu fu (0 : Int32) Z5) else gd (inb (v2 - (1 : Int32)) 30) (gd (inb v2 30) (sv (u4 Z2 24 0 0 (v2.toNatClampNeg) (Z2 24 0 0 (v2 - (1 : Int32)).toNatClampNeg)) fun Z15 => s_X7_turns_L19 fu f19 v1 (v2 + (-1 : Int32)) Z15)))
def s_X7_turns (fu : Nat)  (S : S4) : Option S4 := gd (inb ((S 7 0 0 7) - (1 : Int32)) 30) (s_X7_turns_L19 fu fu (S 24 0 0 ((S 7 0 0 7) - (1 : Int32)).toNatClampNeg) ((S 7 0 0 7) - (1 : Int32)) S)
set_option maxRecDepth 100000 in
set_option maxHeartbeats 4000000 in
theorem c_X7_turns {l : Launch} {D : va_G} {cA : Nat → ClassId} {dm : Dm} {ad : Ad} {fu : Nat} {S : S4} (hM : DM dm) {out : S4} (hs : s_X7_turns fu S = some out) : Ct D cA dm ad l yX7_turns cX7_turns 3 none 1 23 S [.ref (ad 7 0 0)] none out := by
  refine Ct.of (by decide +kernel) (Nat.le_of_ble_eq_true rfl) [(0, .ref (ad 7 0 0))] rfl (fun p e s m args below meth c A X hr => ?_)
  unfold s_X7_turns at hs
  refine V_aload_n X dX7_turns_0 rfl 0 rfl ?_
  refine V_get X dX7_turns_1 r_X7_7 (gm7 hM) rfl rfl ?_
  refine V_aload_n X dX7_turns_4 rfl 0 rfl ?_
  refine V_get X dX7_turns_5 r_X7_28 (gm7 hM) rfl rfl ?_
  refine V_iconst X (1 : Int32) dX7_turns_8 (by decide) ?_
  refine V_isub X dX7_turns_9 ?_
  obtain ⟨h1, hs⟩ := gd_some hs
  refine V_iald X dX7_turns_10 (gm24 hM) rfl h1 ?_
  refine V_istore_n X dX7_turns_11 rfl [(1, .int (S 24 0 0 ((S 7 0 0 7) - (1 : Int32)).toNatClampNeg)), (0, .ref (ad 7 0 0))] (by decide) rfl ?_
  refine V_aload_n X dX7_turns_12 rfl 1 rfl ?_
  refine V_get X dX7_turns_13 r_X7_28 (gm7 hM) rfl rfl ?_
  refine V_iconst X (1 : Int32) dX7_turns_16 (by decide) ?_
  refine V_isub X dX7_turns_17 ?_
  refine V_istore_n X dX7_turns_18 rfl [(2, .int ((S 7 0 0 7) - (1 : Int32))), (1, .int (S 24 0 0 ((S 7 0 0 7) - (1 : Int32)).toNatClampNeg)), (0, .ref (ad 7 0 0))] (by decide) rfl ?_
  have L19 : ∀ (n : Nat) (v1 v2 : Int32) (S1 : S4), s_X7_turns_L19 fu n v1 v2 S1 = some out → V D cA dm ad A 3 p l e ({ frames := 1, cells := 0, slots := 0, locals := 23 }) s m args below meth c 0 0 (MQ below (gQ D cA dm ad out none A) args s 0 0 A) S1 19 [(0, .ref (ad 7 0 0)), (1, .int v1), (2, .int v2)] [] := by
    intro n
    induction n with
    | zero => intro v1 v2 S1 hs; rw [s_X7_turns_L19] at hs; cases hs
    | succ f19 ih19 =>
      intro v1 v2 Z2 hs
      rw [s_X7_turns_L19] at hs
      refine V_iload_n X dX7_turns_19 rfl 2 rfl ?_
      refine V_if_le X 43 dX7_turns_20 (by decide) (fun c3 => ?_) (fun c3 => ?_)
      · replace hs := if_t hs c3
        refine V_aload_n X dX7_turns_43 rfl 0 rfl ?_
        refine V_get X dX7_turns_44 r_X7_7 (gm7 hM) rfl rfl ?_
        refine V_iconst X (0 : Int32) dX7_turns_47 (by decide) ?_
        refine V_iload_n X dX7_turns_48 rfl 1 rfl ?_
        obtain ⟨h4, hs⟩ := gd_some hs
        refine V_iast X dX7_turns_49 (gm24 hM) (fun _ => rfl) h4 (fun Z5 eZ5 => ?_)
        replace hs := sv_some hs Z5 eZ5
        clear eZ5
        refine V_iconst X (0 : Int32) dX7_turns_50 (by decide) ?_
        refine V_istore_n X dX7_turns_51 rfl [(2, .int (0 : Int32)), (0, .ref (ad 7 0 0)), (1, .int v1)] (by decide) rfl ?_
        have L52 : ∀ (n : Nat) (v2 : Int32) (S1 : S4), s_X7_turns_L52 fu n v2 S1 = some out → V D cA dm ad A 3 p l e ({ frames := 1, cells := 0, slots := 0, locals := 23 }) s m args below meth c 0 0 (MQ below (gQ D cA dm ad out none A) args s 0 0 A) S1 52 [(0, .ref (ad 7 0 0)), (2, .int v2)] [] := by
          intro n
          induction n with
          | zero => intro v2 S1 hs; rw [s_X7_turns_L52] at hs; cases hs
          | succ f52 ih52 =>
            intro v2 Z6 hs
            rw [s_X7_turns_L52] at hs
            refine V_iload_n X dX7_turns_52 rfl 1 rfl ?_
            refine V_aload_n X dX7_turns_53 rfl 0 rfl ?_
            refine V_get X dX7_turns_54 r_X7_28 (gm7 hM) rfl rfl ?_
            refine V_icmp_ge X 87 dX7_turns_57 (by decide) (fun c7 => ?_) (fun c7 => ?_)
            · replace hs := if_t hs c7
              obtain rfl := Option.some.inj hs; exact V_vret X hr dX7_turns_87
            · replace hs := if_f hs c7
              refine V_aload_n X dX7_turns_60 rfl 0 rfl ?_
              refine V_get X dX7_turns_61 r_X7_7 (gm7 hM) rfl rfl ?_
              refine V_iload_n X dX7_turns_64 rfl 1 rfl ?_
              obtain ⟨h8, hs⟩ := gd_some hs
              refine V_iald X dX7_turns_65 (gm24 hM) rfl h8 ?_
              refine V_if_lt X 81 dX7_turns_66 (by decide) (fun c9 => ?_) (fun c9 => ?_)
              · replace hs := if_t hs c9
                refine V_iinc X (v2 + (1 : Int32)) dX7_turns_81 1 rfl rfl [(2, .int (v2 + (1 : Int32))), (0, .ref (ad 7 0 0))] (by decide) rfl ?_
                refine V_goto X 52 dX7_turns_84 (by decide) ?_
                refine V_sub [1, 0] rfl ?_
                exact ih52 _ _ hs
              · replace hs := if_f hs c9
                refine V_aload_n X dX7_turns_69 rfl 0 rfl ?_
                refine V_aload_n X dX7_turns_70 rfl 0 rfl ?_
                refine V_get X dX7_turns_71 r_X7_7 (gm7 hM) rfl rfl ?_
                refine V_iload_n X dX7_turns_74 rfl 1 rfl ?_
                obtain ⟨h10, hs⟩ := gd_some hs
                refine V_iald X dX7_turns_75 (gm24 hM) rfl h10 ?_
                refine V_iconst X (5 : Int32) dX7_turns_76 (by decide) ?_
                refine V_iload_n X dX7_turns_77 rfl 1 rfl ?_
                obtain ⟨Z12, eZ12, hs⟩ := bd_some hs
                refine V_callVv X [.int (Z6 24 0 0 v2.toNatClampNeg), .int (5 : Int32), .int v2] dX7_turns_78 m_X7_163 v_X7_setsParcel ⟨Nat.le_of_ble_eq_true rfl, Nat.le_of_ble_eq_true rfl⟩ ⟨Nat.zero_le _, Nat.zero_le _⟩ rfl (Nat.le_of_ble_eq_true rfl) (gm7 hM) rfl cl7 (c_X7_setsParcel hM eZ12) ?_
                refine V_iinc X (v2 + (1 : Int32)) dX7_turns_81 1 rfl rfl [(2, .int (v2 + (1 : Int32))), (0, .ref (ad 7 0 0))] (by decide) rfl ?_
                refine V_goto X 52 dX7_turns_84 (by decide) ?_
                refine V_sub [1, 0] rfl ?_
                exact ih52 _ _ hs
        refine V_sub [1, 0] rfl ?_
        exact L52 _ _ _ hs
      · replace hs := if_f hs c3
        refine V_aload_n X dX7_turns_23 rfl 0 rfl ?_
        refine V_get X dX7_turns_24 r_X7_7 (gm7 hM) rfl rfl ?_
        refine V_iload_n X dX7_turns_27 rfl 2 rfl ?_
        refine V_aload_n X dX7_turns_28 rfl 0 rfl ?_
        refine V_get X dX7_turns_29 r_X7_7 (gm7 hM) rfl rfl ?_
        refine V_iload_n X dX7_turns_32 rfl 2 rfl ?_
        refine V_iconst X (1 : Int32) dX7_turns_33 (by decide) ?_
        refine V_isub X dX7_turns_34 ?_
        obtain ⟨h13, hs⟩ := gd_some hs
        refine V_iald X dX7_turns_35 (gm24 hM) rfl h13 ?_
        obtain ⟨h14, hs⟩ := gd_some hs
        refine V_iast X dX7_turns_36 (gm24 hM) (fun _ => rfl) h14 (fun Z15 eZ15 => ?_)
        replace hs := sv_some hs Z15 eZ15
        clear eZ15
        refine V_iinc X (v2 + (-1 : Int32)) dX7_turns_37 2 rfl rfl [(2, .int (v2 + (-1 : Int32))), (0, .ref (ad 7 0 0)), (1, .int v1)] (by decide) rfl ?_
        refine V_goto X 19 dX7_turns_40 (by decide) ?_
        refine V_sub [1, 2, 0] rfl ?_
        exact ih19 _ _ _ hs
  refine V_sub [2, 1, 0] rfl ?_
  exact L19 _ _ _ _ hs

def s_X7_aims (p1 : Int32) (p2 : Int32) (p3 : Int32) (S : S4) : Option S4 := (s_X7_setsParcel p1 (7 : Int32) p2 S).bind fun Z2 => (s_X7_setsParcel p1 (8 : Int32) p3 Z2).bind fun Z4 => some Z4
set_option maxRecDepth 100000 in
set_option maxHeartbeats 4000000 in
theorem c_X7_aims {l : Launch} {D : va_G} {cA : Nat → ClassId} {dm : Dm} {ad : Ad} {S : S4} {p1 : Int32} {p2 : Int32} {p3 : Int32} (hM : DM dm) {out : S4} (hs : s_X7_aims p1 p2 p3 S = some out) : Ct D cA dm ad l yX7_aims cX7_aims 4 none 1 23 S [.ref (ad 7 0 0), .int p1, .int p2, .int p3] none out := by
  refine Ct.of (by decide +kernel) (Nat.le_of_ble_eq_true rfl) [(0, .ref (ad 7 0 0)), (1, .int p1), (2, .int p2), (3, .int p3)] rfl (fun p e s m args below meth c A X hr => ?_)
  unfold s_X7_aims at hs
  refine V_aload_n X dX7_aims_0 rfl 0 rfl ?_
  refine V_iload_n X dX7_aims_1 rfl 1 rfl ?_
  refine V_bipush X (7 : Int32) dX7_aims_2 (by decide) ?_
  refine V_iload_n X dX7_aims_4 rfl 2 rfl ?_
  obtain ⟨Z2, eZ2, hs⟩ := bd_some hs
  refine V_callVv X [.int p1, .int (7 : Int32), .int p2] dX7_aims_5 m_X7_163 v_X7_setsParcel ⟨Nat.le_of_ble_eq_true rfl, Nat.le_of_ble_eq_true rfl⟩ ⟨Nat.zero_le _, Nat.zero_le _⟩ rfl (Nat.le_of_ble_eq_true rfl) (gm7 hM) rfl cl7 (c_X7_setsParcel hM eZ2) ?_
  refine V_aload_n X dX7_aims_8 rfl 0 rfl ?_
  refine V_iload_n X dX7_aims_9 rfl 1 rfl ?_
  refine V_bipush X (8 : Int32) dX7_aims_10 (by decide) ?_
  refine V_iload_n X dX7_aims_12 rfl 3 rfl ?_
  obtain ⟨Z4, eZ4, hs⟩ := bd_some hs
  refine V_callVv X [.int p1, .int (8 : Int32), .int p3] dX7_aims_13 m_X7_163 v_X7_setsParcel ⟨Nat.le_of_ble_eq_true rfl, Nat.le_of_ble_eq_true rfl⟩ ⟨Nat.zero_le _, Nat.zero_le _⟩ rfl (Nat.le_of_ble_eq_true rfl) (gm7 hM) rfl cl7 (c_X7_setsParcel hM eZ4) ?_
  obtain rfl := Option.some.inj hs; exact V_vret X hr dX7_aims_16

def s_X7_destinationRead (p1 : Int32) (S : S4) : Option Int32 := (s_X7_ofParcel p1 (0 : Int32) S).bind fun q1 => (s_X7_ofParcel p1 (3 : Int32) S).bind fun q2 => (if q2 = (1 : Int32) then some (((10 : Int32) * (q1 - q1 / (10 : Int32) * (10 : Int32))) + (q1 / (10 : Int32))) else some q1)
set_option maxRecDepth 100000 in
set_option maxHeartbeats 4000000 in
theorem c_X7_destinationRead {l : Launch} {D : va_G} {cA : Nat → ClassId} {dm : Dm} {ad : Ad} {S : S4} {p1 : Int32} (hM : DM dm) {out : Int32} (hs : s_X7_destinationRead p1 S = some out) : Ct D cA dm ad l yX7_destinationRead cX7_destinationRead 3 (some .int) 1 22 S [.ref (ad 7 0 0), .int p1] (some (.int out)) S := by
  refine Ct.of (by decide +kernel) (Nat.le_of_ble_eq_true rfl) [(0, .ref (ad 7 0 0)), (1, .int p1)] rfl (fun p e s m args below meth c A X hr => ?_)
  unfold s_X7_destinationRead at hs
  refine V_aload_n X dX7_destinationRead_0 rfl 0 rfl ?_
  refine V_iload_n X dX7_destinationRead_1 rfl 1 rfl ?_
  refine V_iconst X (0 : Int32) dX7_destinationRead_2 (by decide) ?_
  obtain ⟨q1, eq1, hs⟩ := bd_some hs
  refine V_callVs X [.int p1, .int (0 : Int32)] dX7_destinationRead_3 m_X7_160 v_X7_ofParcel ⟨Nat.le_of_ble_eq_true rfl, Nat.le_of_ble_eq_true rfl⟩ ⟨Nat.zero_le _, Nat.zero_le _⟩ rfl (Nat.le_of_ble_eq_true rfl) (gm7 hM) rfl cl7 (c_X7_ofParcel hM eq1) ?_
  refine V_istore_n X dX7_destinationRead_6 rfl [(2, .int q1), (0, .ref (ad 7 0 0)), (1, .int p1)] (by decide) rfl ?_
  refine V_aload_n X dX7_destinationRead_7 rfl 1 rfl ?_
  refine V_iload_n X dX7_destinationRead_8 rfl 2 rfl ?_
  refine V_iconst X (3 : Int32) dX7_destinationRead_9 (by decide) ?_
  obtain ⟨q2, eq2, hs⟩ := bd_some hs
  refine V_callVs X [.int p1, .int (3 : Int32)] dX7_destinationRead_10 m_X7_160 v_X7_ofParcel ⟨Nat.le_of_ble_eq_true rfl, Nat.le_of_ble_eq_true rfl⟩ ⟨Nat.zero_le _, Nat.zero_le _⟩ rfl (Nat.le_of_ble_eq_true rfl) (gm7 hM) rfl cl7 (c_X7_ofParcel hM eq2) ?_
  refine V_iconst X (1 : Int32) dX7_destinationRead_13 (by decide) ?_
  refine V_icmp_ne X 32 dX7_destinationRead_14 (by decide) (fun c3 => ?_) (fun c3 => ?_)
  · replace hs := if_f hs c3
    refine V_iload_n X dX7_destinationRead_32 rfl 0 rfl ?_
    obtain rfl := Option.some.inj hs; exact V_iret X hr dX7_destinationRead_33
  · replace hs := if_t hs c3
    refine V_bipush X (10 : Int32) dX7_destinationRead_17 (by decide) ?_
    refine V_iload_n X dX7_destinationRead_19 rfl 0 rfl ?_
    refine V_bipush X (10 : Int32) dX7_destinationRead_20 (by decide) ?_
    refine V_irem X dX7_destinationRead_22 (by decide) ?_
    refine V_imul X dX7_destinationRead_23 ?_
    refine V_iload_n X dX7_destinationRead_24 rfl 0 rfl ?_
    refine V_bipush X (10 : Int32) dX7_destinationRead_25 (by decide) ?_
    refine V_idiv X dX7_destinationRead_27 (by decide) ?_
    refine V_iadd X dX7_destinationRead_28 ?_
    refine V_goto X 33 dX7_destinationRead_29 (by decide) ?_
    obtain rfl := Option.some.inj hs; exact V_iret X hr dX7_destinationRead_33

def s_X7_isUsable (p1 : Int32) (S : S4) : Option Int32 := (s_X7_ofChute p1 (9 : Int32) S).bind fun q1 => (if q1 = 0 then (s_X7_ofChute p1 (7 : Int32) S).bind fun q3 => (if q3 = 0 then (s_X7_ofChute p1 (8 : Int32) S).bind fun q5 => (if q5 = 0 then (s_X7_ofChute p1 (6 : Int32) S).bind fun q7 => (s_X7_ofChute p1 (1 : Int32) S).bind fun q8 => (if q8 ≤ q7 then some (0 : Int32) else some (1 : Int32)) else some (0 : Int32)) else some (0 : Int32)) else some (0 : Int32))
set_option maxRecDepth 100000 in
set_option maxHeartbeats 4000000 in
theorem c_X7_isUsable {l : Launch} {D : va_G} {cA : Nat → ClassId} {dm : Dm} {ad : Ad} {S : S4} {p1 : Int32} (hM : DM dm) {out : Int32} (hs : s_X7_isUsable p1 S = some out) : Ct D cA dm ad l yX7_isUsable cX7_isUsable 2 (some .boolean) 1 22 S [.ref (ad 7 0 0), .int p1] (some (.int out)) S := by
  refine Ct.of (by decide +kernel) (Nat.le_of_ble_eq_true rfl) [(0, .ref (ad 7 0 0)), (1, .int p1)] rfl (fun p e s m args below meth c A X hr => ?_)
  unfold s_X7_isUsable at hs
  refine V_aload_n X dX7_isUsable_0 rfl 0 rfl ?_
  refine V_iload_n X dX7_isUsable_1 rfl 1 rfl ?_
  refine V_bipush X (9 : Int32) dX7_isUsable_2 (by decide) ?_
  obtain ⟨q1, eq1, hs⟩ := bd_some hs
  refine V_callVs X [.int p1, .int (9 : Int32)] dX7_isUsable_4 m_X7_90 v_X7_ofChute ⟨Nat.le_of_ble_eq_true rfl, Nat.le_of_ble_eq_true rfl⟩ ⟨Nat.zero_le _, Nat.zero_le _⟩ rfl (Nat.le_of_ble_eq_true rfl) (gm7 hM) rfl cl7 (c_X7_ofChute hM eq1) ?_
  refine V_if_ne X 50 dX7_isUsable_7 (by decide) (fun c2 => ?_) (fun c2 => ?_)
  · replace hs := if_f hs c2
    refine V_iconst X (0 : Int32) dX7_isUsable_50 (by decide) ?_
    obtain rfl := Option.some.inj hs; exact V_zret X hr nb0 dX7_isUsable_51
  · replace hs := if_t hs c2
    refine V_aload_n X dX7_isUsable_10 rfl 0 rfl ?_
    refine V_iload_n X dX7_isUsable_11 rfl 1 rfl ?_
    refine V_bipush X (7 : Int32) dX7_isUsable_12 (by decide) ?_
    obtain ⟨q3, eq3, hs⟩ := bd_some hs
    refine V_callVs X [.int p1, .int (7 : Int32)] dX7_isUsable_14 m_X7_90 v_X7_ofChute ⟨Nat.le_of_ble_eq_true rfl, Nat.le_of_ble_eq_true rfl⟩ ⟨Nat.zero_le _, Nat.zero_le _⟩ rfl (Nat.le_of_ble_eq_true rfl) (gm7 hM) rfl cl7 (c_X7_ofChute hM eq3) ?_
    refine V_if_ne X 50 dX7_isUsable_17 (by decide) (fun c4 => ?_) (fun c4 => ?_)
    · replace hs := if_f hs c4
      refine V_iconst X (0 : Int32) dX7_isUsable_50 (by decide) ?_
      obtain rfl := Option.some.inj hs; exact V_zret X hr nb0 dX7_isUsable_51
    · replace hs := if_t hs c4
      refine V_aload_n X dX7_isUsable_20 rfl 0 rfl ?_
      refine V_iload_n X dX7_isUsable_21 rfl 1 rfl ?_
      refine V_bipush X (8 : Int32) dX7_isUsable_22 (by decide) ?_
      obtain ⟨q5, eq5, hs⟩ := bd_some hs
      refine V_callVs X [.int p1, .int (8 : Int32)] dX7_isUsable_24 m_X7_90 v_X7_ofChute ⟨Nat.le_of_ble_eq_true rfl, Nat.le_of_ble_eq_true rfl⟩ ⟨Nat.zero_le _, Nat.zero_le _⟩ rfl (Nat.le_of_ble_eq_true rfl) (gm7 hM) rfl cl7 (c_X7_ofChute hM eq5) ?_
      refine V_if_ne X 50 dX7_isUsable_27 (by decide) (fun c6 => ?_) (fun c6 => ?_)
      · replace hs := if_f hs c6
        refine V_iconst X (0 : Int32) dX7_isUsable_50 (by decide) ?_
        obtain rfl := Option.some.inj hs; exact V_zret X hr nb0 dX7_isUsable_51
      · replace hs := if_t hs c6
        refine V_aload_n X dX7_isUsable_30 rfl 0 rfl ?_
        refine V_iload_n X dX7_isUsable_31 rfl 1 rfl ?_
        refine V_bipush X (6 : Int32) dX7_isUsable_32 (by decide) ?_
        obtain ⟨q7, eq7, hs⟩ := bd_some hs
        refine V_callVs X [.int p1, .int (6 : Int32)] dX7_isUsable_34 m_X7_90 v_X7_ofChute ⟨Nat.le_of_ble_eq_true rfl, Nat.le_of_ble_eq_true rfl⟩ ⟨Nat.zero_le _, Nat.zero_le _⟩ rfl (Nat.le_of_ble_eq_true rfl) (gm7 hM) rfl cl7 (c_X7_ofChute hM eq7) ?_
        refine V_aload_n X dX7_isUsable_37 rfl 0 rfl ?_
        refine V_iload_n X dX7_isUsable_38 rfl 1 rfl ?_
        refine V_iconst X (1 : Int32) dX7_isUsable_39 (by decide) ?_
        obtain ⟨q8, eq8, hs⟩ := bd_some hs
        refine V_callVs X [.int p1, .int (1 : Int32)] dX7_isUsable_40 m_X7_90 v_X7_ofChute ⟨Nat.le_of_ble_eq_true rfl, Nat.le_of_ble_eq_true rfl⟩ ⟨Nat.zero_le _, Nat.zero_le _⟩ rfl (Nat.le_of_ble_eq_true rfl) (gm7 hM) rfl cl7 (c_X7_ofChute hM eq8) ?_
        refine V_icmp_ge X 50 dX7_isUsable_43 (by decide) (fun c9 => ?_) (fun c9 => ?_)
        · replace hs := if_t hs c9
          refine V_iconst X (0 : Int32) dX7_isUsable_50 (by decide) ?_
          obtain rfl := Option.some.inj hs; exact V_zret X hr nb0 dX7_isUsable_51
        · replace hs := if_f hs c9
          refine V_iconst X (1 : Int32) dX7_isUsable_46 (by decide) ?_
          refine V_goto X 51 dX7_isUsable_47 (by decide) ?_
          obtain rfl := Option.some.inj hs; exact V_zret X hr nb1 dX7_isUsable_51

def s_X7_has (p1 : Int32) (p2 : Int32) (S : S4) : Option Int32 := (if ((p1 >>> (p2 &&& 31)) &&& (1 : Int32)) = (1 : Int32) then some (1 : Int32) else some (0 : Int32))
set_option maxRecDepth 100000 in
set_option maxHeartbeats 4000000 in
theorem c_X7_has {l : Launch} {D : va_G} {cA : Nat → ClassId} {dm : Dm} {ad : Ad} {S : S4} {p1 : Int32} {p2 : Int32}  {out : Int32} (hs : s_X7_has p1 p2 S = some out) : Ct D cA dm ad l yX7_has cX7_has 2 (some .boolean) 0 0 S [.int p1, .int p2] (some (.int out)) S := by
  refine Ct.of (by decide +kernel) (Nat.le_of_ble_eq_true rfl) [(0, .int p1), (1, .int p2)] rfl (fun p e s m args below meth c A X hr => ?_)
  unfold s_X7_has at hs
  refine V_iload_n X dX7_has_0 rfl 0 rfl ?_
  refine V_iload_n X dX7_has_1 rfl 1 rfl ?_
  refine V_ishr X dX7_has_2 ?_
  refine V_iconst X (1 : Int32) dX7_has_3 (by decide) ?_
  refine V_iand X dX7_has_4 ?_
  refine V_iconst X (1 : Int32) dX7_has_5 (by decide) ?_
  refine V_icmp_ne X 13 dX7_has_6 (by decide) (fun c1 => ?_) (fun c1 => ?_)
  · replace hs := if_f hs c1
    refine V_iconst X (0 : Int32) dX7_has_13 (by decide) ?_
    obtain rfl := Option.some.inj hs; exact V_zret X hr nb0 dX7_has_14
  · replace hs := if_t hs c1
    refine V_iconst X (1 : Int32) dX7_has_9 (by decide) ?_
    refine V_goto X 14 dX7_has_10 (by decide) ?_
    obtain rfl := Option.some.inj hs; exact V_zret X hr nb1 dX7_has_14

def s_X7_canGo (p1 : Int32) (p2 : Int32) (S : S4) : Option Int32 := (s_X7_isUsable p2 S).bind fun q1 => (if q1 = 0 then some (0 : Int32) else (s_X7_ofParcel p1 (11 : Int32) S).bind fun q3 => (s_X7_has q3 p2 S).bind fun q4 => (if q4 = 0 then some (1 : Int32) else some (0 : Int32)))
set_option maxRecDepth 100000 in
set_option maxHeartbeats 4000000 in
theorem c_X7_canGo {l : Launch} {D : va_G} {cA : Nat → ClassId} {dm : Dm} {ad : Ad} {S : S4} {p1 : Int32} {p2 : Int32} (hM : DM dm) {out : Int32} (hs : s_X7_canGo p1 p2 S = some out) : Ct D cA dm ad l yX7_canGo cX7_canGo 3 (some .boolean) 2 43 S [.ref (ad 7 0 0), .int p1, .int p2] (some (.int out)) S := by
  refine Ct.of (by decide +kernel) (Nat.le_of_ble_eq_true rfl) [(0, .ref (ad 7 0 0)), (1, .int p1), (2, .int p2)] rfl (fun p e s m args below meth c A X hr => ?_)
  unfold s_X7_canGo at hs
  refine V_aload_n X dX7_canGo_0 rfl 0 rfl ?_
  refine V_iload_n X dX7_canGo_1 rfl 2 rfl ?_
  obtain ⟨q1, eq1, hs⟩ := bd_some hs
  refine V_callVs X [.int p2] dX7_canGo_2 m_X7_169 v_X7_isUsable ⟨Nat.le_of_ble_eq_true rfl, Nat.le_of_ble_eq_true rfl⟩ ⟨Nat.zero_le _, Nat.zero_le _⟩ rfl (Nat.le_of_ble_eq_true rfl) (gm7 hM) rfl cl7 (c_X7_isUsable hM eq1) ?_
  refine V_if_eq X 26 dX7_canGo_5 (by decide) (fun c2 => ?_) (fun c2 => ?_)
  · replace hs := if_t hs c2
    refine V_iconst X (0 : Int32) dX7_canGo_26 (by decide) ?_
    obtain rfl := Option.some.inj hs; exact V_zret X hr nb0 dX7_canGo_27
  · replace hs := if_f hs c2
    refine V_aload_n X dX7_canGo_8 rfl 0 rfl ?_
    refine V_iload_n X dX7_canGo_9 rfl 1 rfl ?_
    refine V_bipush X (11 : Int32) dX7_canGo_10 (by decide) ?_
    obtain ⟨q3, eq3, hs⟩ := bd_some hs
    refine V_callVs X [.int p1, .int (11 : Int32)] dX7_canGo_12 m_X7_160 v_X7_ofParcel ⟨Nat.le_of_ble_eq_true rfl, Nat.le_of_ble_eq_true rfl⟩ ⟨Nat.zero_le _, Nat.zero_le _⟩ rfl (Nat.le_of_ble_eq_true rfl) (gm7 hM) rfl cl7 (c_X7_ofParcel hM eq3) ?_
    refine V_iload_n X dX7_canGo_15 rfl 2 rfl ?_
    obtain ⟨q4, eq4, hs⟩ := bd_some hs
    refine V_callSs X [.int q3, .int p2] dX7_canGo_16 m_X7_172 t_X7_has ⟨Nat.le_of_ble_eq_true rfl, Nat.le_of_ble_eq_true rfl⟩ ⟨Nat.zero_le _, Nat.zero_le _⟩ rfl (Nat.le_of_ble_eq_true rfl) (c_X7_has  eq4) ?_
    refine V_if_ne X 26 dX7_canGo_19 (by decide) (fun c5 => ?_) (fun c5 => ?_)
    · replace hs := if_f hs c5
      refine V_iconst X (0 : Int32) dX7_canGo_26 (by decide) ?_
      obtain rfl := Option.some.inj hs; exact V_zret X hr nb0 dX7_canGo_27
    · replace hs := if_t hs c5
      refine V_iconst X (1 : Int32) dX7_canGo_22 (by decide) ?_
      refine V_goto X 27 dX7_canGo_23 (by decide) ?_
      obtain rfl := Option.some.inj hs; exact V_zret X hr nb1 dX7_canGo_27

def s_X7_excepts (p1 : Int32) (p2 : Int32) (p3 : Int32) (S : S4) : Option S4 := (s_X7_ofPlan p2 (2 : Int32) S).bind fun q1 => (s_X7_canGo p1 q1 S).bind fun q2 => (if q2 = 0 then (s_X7_aims p1 (-1 : Int32) (p3 + (10 : Int32)) S).bind fun Z5 => some Z5 else (s_X7_aims p1 q1 p3 S).bind fun Z7 => some Z7)
set_option maxRecDepth 100000 in
set_option maxHeartbeats 4000000 in
theorem c_X7_excepts {l : Launch} {D : va_G} {cA : Nat → ClassId} {dm : Dm} {ad : Ad} {S : S4} {p1 : Int32} {p2 : Int32} {p3 : Int32} (hM : DM dm) {out : S4} (hs : s_X7_excepts p1 p2 p3 S = some out) : Ct D cA dm ad l yX7_excepts cX7_excepts 5 none 3 65 S [.ref (ad 7 0 0), .int p1, .int p2, .int p3] none out := by
  refine Ct.of (by decide +kernel) (Nat.le_of_ble_eq_true rfl) [(0, .ref (ad 7 0 0)), (1, .int p1), (2, .int p2), (3, .int p3)] rfl (fun p e s m args below meth c A X hr => ?_)
  unfold s_X7_excepts at hs
  refine V_aload_n X dX7_excepts_0 rfl 0 rfl ?_
  refine V_iload_n X dX7_excepts_1 rfl 2 rfl ?_
  refine V_iconst X (2 : Int32) dX7_excepts_2 (by decide) ?_
  obtain ⟨q1, eq1, hs⟩ := bd_some hs
  refine V_callVs X [.int p2, .int (2 : Int32)] dX7_excepts_3 m_X7_141 v_X7_ofPlan ⟨Nat.le_of_ble_eq_true rfl, Nat.le_of_ble_eq_true rfl⟩ ⟨Nat.zero_le _, Nat.zero_le _⟩ rfl (Nat.le_of_ble_eq_true rfl) (gm7 hM) rfl cl7 (c_X7_ofPlan hM eq1) ?_
  refine V_istore X dX7_excepts_6 [(4, .int q1), (0, .ref (ad 7 0 0)), (1, .int p1), (2, .int p2), (3, .int p3)] (by decide) rfl ?_
  refine V_aload_n X dX7_excepts_8 rfl 1 rfl ?_
  refine V_iload_n X dX7_excepts_9 rfl 2 rfl ?_
  refine V_iload X dX7_excepts_10 0 rfl ?_
  obtain ⟨q2, eq2, hs⟩ := bd_some hs
  refine V_callVs X [.int p1, .int q1] dX7_excepts_12 m_X7_179 v_X7_canGo ⟨Nat.le_of_ble_eq_true rfl, Nat.le_of_ble_eq_true rfl⟩ ⟨Nat.zero_le _, Nat.zero_le _⟩ rfl (Nat.le_of_ble_eq_true rfl) (gm7 hM) rfl cl7 (c_X7_canGo hM eq2) ?_
  refine V_if_eq X 29 dX7_excepts_15 (by decide) (fun c3 => ?_) (fun c3 => ?_)
  · replace hs := if_t hs c3
    refine V_aload_n X dX7_excepts_29 rfl 1 rfl ?_
    refine V_iload_n X dX7_excepts_30 rfl 2 rfl ?_
    refine V_iconst X (-1 : Int32) dX7_excepts_31 (by decide) ?_
    refine V_iload_n X dX7_excepts_32 rfl 4 rfl ?_
    refine V_bipush X (10 : Int32) dX7_excepts_33 (by decide) ?_
    refine V_iadd X dX7_excepts_35 ?_
    obtain ⟨Z5, eZ5, hs⟩ := bd_some hs
    refine V_callVv X [.int p1, .int (-1 : Int32), .int (p3 + (10 : Int32))] dX7_excepts_36 m_X7_182 v_X7_aims ⟨Nat.le_of_ble_eq_true rfl, Nat.le_of_ble_eq_true rfl⟩ ⟨Nat.zero_le _, Nat.zero_le _⟩ rfl (Nat.le_of_ble_eq_true rfl) (gm7 hM) rfl cl7 (c_X7_aims hM eZ5) ?_
    obtain rfl := Option.some.inj hs; exact V_vret X hr dX7_excepts_39
  · replace hs := if_f hs c3
    refine V_aload_n X dX7_excepts_18 rfl 1 rfl ?_
    refine V_iload_n X dX7_excepts_19 rfl 2 rfl ?_
    refine V_iload X dX7_excepts_20 0 rfl ?_
    refine V_iload_n X dX7_excepts_22 rfl 4 rfl ?_
    obtain ⟨Z7, eZ7, hs⟩ := bd_some hs
    refine V_callVv X [.int p1, .int q1, .int p3] dX7_excepts_23 m_X7_182 v_X7_aims ⟨Nat.le_of_ble_eq_true rfl, Nat.le_of_ble_eq_true rfl⟩ ⟨Nat.zero_le _, Nat.zero_le _⟩ rfl (Nat.le_of_ble_eq_true rfl) (gm7 hM) rfl cl7 (c_X7_aims hM eZ7) ?_
    refine V_goto X 39 dX7_excepts_26 (by decide) ?_
    obtain rfl := Option.some.inj hs; exact V_vret X hr dX7_excepts_39

def s_X7_scans_L128 (fu : Nat) (p1 : Int32) : Nat → Int32 → Int32 → Int32 → S4 → Option S4
  | 0, _, _, _, _ => none
  | f128+1, v2, v3, v5, Z14 => (if v5 < 0 then some Z14 else (s_X7_ofRule v2 v3 ((3 : Int32) + v5) Z14).bind fun q16 => (s_X7_canGo p1 q16 Z14).bind fun q17 => (if q17 = 0 then s_X7_scans_L128 fu p1 f128 v2 v3 (v5 + (-1 : Int32)) Z14 else ((if v5 = 0 then some (0 : Int32) else some (1 : Int32))).bind fun q19 => (s_X7_aims p1 q16 q19 Z14).bind fun Z21 => s_X7_scans_L128 fu p1 f128 v2 v3 (v5 + (-1 : Int32)) Z21))
def s_X7_scans (fu : Nat) (p1 : Int32) (S : S4) : Option S4 := gd (inb (((12 : Int32) * p1) + (6 : Int32)) 720) (gd (inb (((12 : Int32) * p1) + (6 : Int32)) 720) (sv (u4 S 28 0 0 ((((12 : Int32) * p1) + (6 : Int32)).toNatClampNeg) ((S 28 0 0 (((12 : Int32) * p1) + (6 : Int32)).toNatClampNeg) + (1 : Int32))) fun Z3 => (s_X7_planOf fu (Z3 7 0 0 13) Z3).bind fun q4 => (if 0 ≤ q4 then (s_X7_destinationRead p1 Z3).bind fun q6 => (s_X7_ruleFor fu q4 q6 Z3).bind fun q7 => (s_X7_ofParcel p1 (3 : Int32) Z3).bind fun q8 => ((if q8 = (2 : Int32) then some (2 : Int32) else (s_X7_ofParcel p1 (6 : Int32) Z3).bind fun q26 => (s_X7_ofPlan q4 (3 : Int32) Z3).bind fun q27 => (if (q26 - (1 : Int32)) ≤ q27 then (if 0 ≤ q7 then some (0 : Int32) else some (4 : Int32)) else some (3 : Int32)))).bind fun q9 => (if q9 ≤ 0 then (s_X7_aims p1 (-1 : Int32) (6 : Int32) Z3).bind fun Z12 => (s_X7_ofRule q4 q7 (2 : Int32) Z12).bind fun q13 => s_X7_scans_L128 fu p1 fu q4 q7 (q13 - (1 : Int32)) Z12 else (s_X7_excepts p1 q4 q9 Z3).bind fun Z24 => some Z24) else (s_X7_aims p1 (-1 : Int32) (5 : Int32) Z3).bind fun Z31 => some Z31)))
set_option maxRecDepth 100000 in
set_option maxHeartbeats 4000000 in
theorem c_X7_scans {l : Launch} {D : va_G} {cA : Nat → ClassId} {dm : Dm} {ad : Ad} {fu : Nat} {S : S4} {p1 : Int32} (hM : DM dm) {out : S4} (hs : s_X7_scans fu p1 S = some out) : Ct D cA dm ad l yX7_scans cX7_scans 7 none 4 89 S [.ref (ad 7 0 0), .int p1] none out := by
  refine Ct.of (by decide +kernel) (Nat.le_of_ble_eq_true rfl) [(0, .ref (ad 7 0 0)), (1, .int p1)] rfl (fun p e s m args below meth c A X hr => ?_)
  unfold s_X7_scans at hs
  refine V_aload_n X dX7_scans_0 rfl 0 rfl ?_
  refine V_get X dX7_scans_1 r_X7_22 (gm7 hM) rfl rfl ?_
  refine V_bipush X (12 : Int32) dX7_scans_4 (by decide) ?_
  refine V_iload_n X dX7_scans_6 rfl 1 rfl ?_
  refine V_imul X dX7_scans_7 ?_
  refine V_bipush X (6 : Int32) dX7_scans_8 (by decide) ?_
  refine V_iadd X dX7_scans_10 ?_
  refine V_dup2 X dX7_scans_11 rfl rfl ?_
  obtain ⟨h1, hs⟩ := gd_some hs
  refine V_iald X dX7_scans_12 (gm28 hM) rfl h1 ?_
  refine V_iconst X (1 : Int32) dX7_scans_13 (by decide) ?_
  refine V_iadd X dX7_scans_14 ?_
  obtain ⟨h2, hs⟩ := gd_some hs
  refine V_iast X dX7_scans_15 (gm28 hM) (fun _ => rfl) h2 (fun Z3 eZ3 => ?_)
  replace hs := sv_some hs Z3 eZ3
  clear eZ3
  refine V_aload_n X dX7_scans_16 rfl 0 rfl ?_
  refine V_aload_n X dX7_scans_17 rfl 0 rfl ?_
  refine V_get X dX7_scans_18 r_X7_72 (gm7 hM) rfl rfl ?_
  obtain ⟨q4, eq4, hs⟩ := bd_some hs
  refine V_callVs X [.int (Z3 7 0 0 13)] dX7_scans_21 m_X7_154 v_X7_planOf ⟨Nat.le_of_ble_eq_true rfl, Nat.le_of_ble_eq_true rfl⟩ ⟨Nat.zero_le _, Nat.zero_le _⟩ rfl (Nat.le_of_ble_eq_true rfl) (gm7 hM) rfl cl7 (c_X7_planOf hM eq4) ?_
  refine V_istore_n X dX7_scans_24 rfl [(2, .int q4), (0, .ref (ad 7 0 0)), (1, .int p1)] (by decide) rfl ?_
  refine V_iload_n X dX7_scans_25 rfl 0 rfl ?_
  refine V_if_ge X 37 dX7_scans_26 (by decide) (fun c5 => ?_) (fun c5 => ?_)
  · replace hs := if_t hs c5
    refine V_aload_n X dX7_scans_37 rfl 1 rfl ?_
    refine V_iload_n X dX7_scans_38 rfl 0 rfl ?_
    refine V_aload_n X dX7_scans_39 rfl 1 rfl ?_
    refine V_iload_n X dX7_scans_40 rfl 2 rfl ?_
    obtain ⟨q6, eq6, hs⟩ := bd_some hs
    refine V_callVs X [.int p1] dX7_scans_41 m_X7_185 v_X7_destinationRead ⟨Nat.le_of_ble_eq_true rfl, Nat.le_of_ble_eq_true rfl⟩ ⟨Nat.zero_le _, Nat.zero_le _⟩ rfl (Nat.le_of_ble_eq_true rfl) (gm7 hM) rfl cl7 (c_X7_destinationRead hM eq6) ?_
    obtain ⟨q7, eq7, hs⟩ := bd_some hs
    refine V_callVs X [.int q4, .int q6] dX7_scans_44 m_X7_151 v_X7_ruleFor ⟨Nat.le_of_ble_eq_true rfl, Nat.le_of_ble_eq_true rfl⟩ ⟨Nat.zero_le _, Nat.zero_le _⟩ rfl (Nat.le_of_ble_eq_true rfl) (gm7 hM) rfl cl7 (c_X7_ruleFor hM eq7) ?_
    refine V_istore_n X dX7_scans_47 rfl [(3, .int q7), (2, .int q4), (0, .ref (ad 7 0 0)), (1, .int p1)] (by decide) rfl ?_
    refine V_aload_n X dX7_scans_48 rfl 2 rfl ?_
    refine V_iload_n X dX7_scans_49 rfl 3 rfl ?_
    refine V_iconst X (3 : Int32) dX7_scans_50 (by decide) ?_
    obtain ⟨q8, eq8, hs⟩ := bd_some hs
    refine V_callVs X [.int p1, .int (3 : Int32)] dX7_scans_51 m_X7_160 v_X7_ofParcel ⟨Nat.le_of_ble_eq_true rfl, Nat.le_of_ble_eq_true rfl⟩ ⟨Nat.zero_le _, Nat.zero_le _⟩ rfl (Nat.le_of_ble_eq_true rfl) (gm7 hM) rfl cl7 (c_X7_ofParcel hM eq8) ?_
    refine V_iconst X (2 : Int32) dX7_scans_54 (by decide) ?_
    refine jn (P := fun q => V D cA dm ad A 7 p l e ({ frames := 4, cells := 0, slots := 0, locals := 89 }) s m args below meth c 0 0 (MQ below (gQ D cA dm ad out none A) args s 0 0 A) Z3 93 [(3, .int q7), (2, .int q4), (0, .ref (ad 7 0 0)), (1, .int p1)] [.int q]) hs (fun q9 hs => ?_) (fun J93 hs => ?_)
    · refine V_istore X dX7_scans_93 [(4, .int q9), (3, .int q7), (2, .int q4), (0, .ref (ad 7 0 0)), (1, .int p1)] (by decide) rfl ?_
      refine V_iload X dX7_scans_95 0 rfl ?_
      refine V_if_le X 109 dX7_scans_97 (by decide) (fun c10 => ?_) (fun c10 => ?_)
      · replace hs := if_t hs c10
        refine V_aload_n X dX7_scans_109 rfl 3 rfl ?_
        refine V_iload_n X dX7_scans_110 rfl 4 rfl ?_
        refine V_iconst X (-1 : Int32) dX7_scans_111 (by decide) ?_
        refine V_bipush X (6 : Int32) dX7_scans_112 (by decide) ?_
        obtain ⟨Z12, eZ12, hs⟩ := bd_some hs
        refine V_callVv X [.int p1, .int (-1 : Int32), .int (6 : Int32)] dX7_scans_114 m_X7_182 v_X7_aims ⟨Nat.le_of_ble_eq_true rfl, Nat.le_of_ble_eq_true rfl⟩ ⟨Nat.zero_le _, Nat.zero_le _⟩ rfl (Nat.le_of_ble_eq_true rfl) (gm7 hM) rfl cl7 (c_X7_aims hM eZ12) ?_
        refine V_aload_n X dX7_scans_117 rfl 3 rfl ?_
        refine V_iload_n X dX7_scans_118 rfl 2 rfl ?_
        refine V_iload_n X dX7_scans_119 rfl 1 rfl ?_
        refine V_iconst X (2 : Int32) dX7_scans_120 (by decide) ?_
        obtain ⟨q13, eq13, hs⟩ := bd_some hs
        refine V_callVs X [.int q4, .int q7, .int (2 : Int32)] dX7_scans_121 m_X7_144 v_X7_ofRule ⟨Nat.le_of_ble_eq_true rfl, Nat.le_of_ble_eq_true rfl⟩ ⟨Nat.zero_le _, Nat.zero_le _⟩ rfl (Nat.le_of_ble_eq_true rfl) (gm7 hM) rfl cl7 (c_X7_ofRule hM eq13) ?_
        refine V_iconst X (1 : Int32) dX7_scans_124 (by decide) ?_
        refine V_isub X dX7_scans_125 ?_
        refine V_istore X dX7_scans_126 [(5, .int (q13 - (1 : Int32))), (4, .int q9), (3, .int q7), (2, .int q4), (0, .ref (ad 7 0 0)), (1, .int p1)] (by decide) rfl ?_
        have L128 : ∀ (n : Nat) (v2 v3 v5 : Int32) (S1 : S4), s_X7_scans_L128 fu p1 n v2 v3 v5 S1 = some out → V D cA dm ad A 7 p l e ({ frames := 4, cells := 0, slots := 0, locals := 89 }) s m args below meth c 0 0 (MQ below (gQ D cA dm ad out none A) args s 0 0 A) S1 128 [(0, .ref (ad 7 0 0)), (1, .int p1), (2, .int v2), (3, .int v3), (5, .int v5)] [] := by
          intro n
          induction n with
          | zero => intro v2 v3 v5 S1 hs; rw [s_X7_scans_L128] at hs; cases hs
          | succ f128 ih128 =>
            intro v2 v3 v5 Z14 hs
            rw [s_X7_scans_L128] at hs
            refine V_iload X dX7_scans_128 4 rfl ?_
            refine V_if_lt X 178 dX7_scans_130 (by decide) (fun c15 => ?_) (fun c15 => ?_)
            · replace hs := if_t hs c15
              obtain rfl := Option.some.inj hs; exact V_vret X hr dX7_scans_178
            · replace hs := if_f hs c15
              refine V_aload_n X dX7_scans_133 rfl 0 rfl ?_
              refine V_iload_n X dX7_scans_134 rfl 2 rfl ?_
              refine V_iload_n X dX7_scans_135 rfl 3 rfl ?_
              refine V_iconst X (3 : Int32) dX7_scans_136 (by decide) ?_
              refine V_iload X dX7_scans_137 4 rfl ?_
              refine V_iadd X dX7_scans_139 ?_
              obtain ⟨q16, eq16, hs⟩ := bd_some hs
              refine V_callVs X [.int v2, .int v3, .int ((3 : Int32) + v5)] dX7_scans_140 m_X7_144 v_X7_ofRule ⟨Nat.le_of_ble_eq_true rfl, Nat.le_of_ble_eq_true rfl⟩ ⟨Nat.zero_le _, Nat.zero_le _⟩ rfl (Nat.le_of_ble_eq_true rfl) (gm7 hM) rfl cl7 (c_X7_ofRule hM eq16) ?_
              refine V_istore X dX7_scans_143 [(6, .int q16), (0, .ref (ad 7 0 0)), (1, .int p1), (2, .int v2), (3, .int v3), (5, .int v5)] (by decide) rfl ?_
              refine V_aload_n X dX7_scans_145 rfl 1 rfl ?_
              refine V_iload_n X dX7_scans_146 rfl 2 rfl ?_
              refine V_iload X dX7_scans_147 0 rfl ?_
              obtain ⟨q17, eq17, hs⟩ := bd_some hs
              refine V_callVs X [.int p1, .int q16] dX7_scans_149 m_X7_179 v_X7_canGo ⟨Nat.le_of_ble_eq_true rfl, Nat.le_of_ble_eq_true rfl⟩ ⟨Nat.zero_le _, Nat.zero_le _⟩ rfl (Nat.le_of_ble_eq_true rfl) (gm7 hM) rfl cl7 (c_X7_canGo hM eq17) ?_
              refine V_if_eq X 172 dX7_scans_152 (by decide) (fun c18 => ?_) (fun c18 => ?_)
              · replace hs := if_t hs c18
                refine V_iinc X (v5 + (-1 : Int32)) dX7_scans_172 5 rfl rfl [(5, .int (v5 + (-1 : Int32))), (6, .int q16), (0, .ref (ad 7 0 0)), (1, .int p1), (2, .int v2), (3, .int v3)] (by decide) rfl ?_
                refine V_goto X 128 dX7_scans_175 (by decide) ?_
                refine V_sub [2, 3, 4, 5, 0] rfl ?_
                exact ih128 _ _ _ _ hs
              · replace hs := if_f hs c18
                refine V_aload_n X dX7_scans_155 rfl 1 rfl ?_
                refine V_iload_n X dX7_scans_156 rfl 2 rfl ?_
                refine V_iload X dX7_scans_157 0 rfl ?_
                refine V_iload X dX7_scans_159 5 rfl ?_
                refine jn (P := fun q => V D cA dm ad A 7 p l e ({ frames := 4, cells := 0, slots := 0, locals := 89 }) s m args below meth c 0 0 (MQ below (gQ D cA dm ad out none A) args s 0 0 A) Z14 169 [(6, .int q16), (0, .ref (ad 7 0 0)), (1, .int p1), (2, .int v2), (3, .int v3), (5, .int v5)] [.int q, .int q16, .int p1, .ref (ad 7 0 0)]) hs (fun q19 hs => ?_) (fun J169 hs => ?_)
                · obtain ⟨Z21, eZ21, hs⟩ := bd_some hs
                  refine V_callVv X [.int p1, .int q16, .int q19] dX7_scans_169 m_X7_182 v_X7_aims ⟨Nat.le_of_ble_eq_true rfl, Nat.le_of_ble_eq_true rfl⟩ ⟨Nat.zero_le _, Nat.zero_le _⟩ rfl (Nat.le_of_ble_eq_true rfl) (gm7 hM) rfl cl7 (c_X7_aims hM eZ21) ?_
                  refine V_iinc X (v5 + (-1 : Int32)) dX7_scans_172 5 rfl rfl [(5, .int (v5 + (-1 : Int32))), (6, .int q16), (0, .ref (ad 7 0 0)), (1, .int p1), (2, .int v2), (3, .int v3)] (by decide) rfl ?_
                  refine V_goto X 128 dX7_scans_175 (by decide) ?_
                  refine V_sub [2, 3, 4, 5, 0] rfl ?_
                  exact ih128 _ _ _ _ hs
                · refine V_if_ne X 168 dX7_scans_161 (by decide) (fun c22 => ?_) (fun c22 => ?_)
                  · replace hs := if_fB hs c22
                    refine V_iconst X (1 : Int32) dX7_scans_168 (by decide) ?_
                    exact J169 _ (bs_some hs)
                  · replace hs := if_tB hs c22
                    refine V_iconst X (0 : Int32) dX7_scans_164 (by decide) ?_
                    refine V_goto X 169 dX7_scans_165 (by decide) ?_
                    exact J169 _ (bs_some hs)
        refine V_sub [4, 5, 3, 2, 0] rfl ?_
        exact L128 _ _ _ _ _ hs
      · replace hs := if_f hs c10
        refine V_aload_n X dX7_scans_100 rfl 3 rfl ?_
        refine V_iload_n X dX7_scans_101 rfl 4 rfl ?_
        refine V_iload_n X dX7_scans_102 rfl 2 rfl ?_
        refine V_iload X dX7_scans_103 0 rfl ?_
        obtain ⟨Z24, eZ24, hs⟩ := bd_some hs
        refine V_callVv X [.int p1, .int q4, .int q9] dX7_scans_105 m_X7_188 v_X7_excepts ⟨Nat.le_of_ble_eq_true rfl, Nat.le_of_ble_eq_true rfl⟩ ⟨Nat.zero_le _, Nat.zero_le _⟩ rfl (Nat.le_of_ble_eq_true rfl) (gm7 hM) rfl cl7 (c_X7_excepts hM eZ24) ?_
        obtain rfl := Option.some.inj hs; exact V_vret X hr dX7_scans_108
    · refine V_icmp_ne X 62 dX7_scans_55 (by decide) (fun c25 => ?_) (fun c25 => ?_)
      · replace hs := if_fB hs c25
        refine V_aload_n X dX7_scans_62 rfl 2 rfl ?_
        refine V_iload_n X dX7_scans_63 rfl 3 rfl ?_
        refine V_bipush X (6 : Int32) dX7_scans_64 (by decide) ?_
        obtain ⟨q26, eq26, hs⟩ := bd_someB hs
        refine V_callVs X [.int p1, .int (6 : Int32)] dX7_scans_66 m_X7_160 v_X7_ofParcel ⟨Nat.le_of_ble_eq_true rfl, Nat.le_of_ble_eq_true rfl⟩ ⟨Nat.zero_le _, Nat.zero_le _⟩ rfl (Nat.le_of_ble_eq_true rfl) (gm7 hM) rfl cl7 (c_X7_ofParcel hM eq26) ?_
        refine V_iconst X (1 : Int32) dX7_scans_69 (by decide) ?_
        refine V_isub X dX7_scans_70 ?_
        refine V_aload_n X dX7_scans_71 rfl 2 rfl ?_
        refine V_iload_n X dX7_scans_72 rfl 1 rfl ?_
        refine V_iconst X (3 : Int32) dX7_scans_73 (by decide) ?_
        obtain ⟨q27, eq27, hs⟩ := bd_someB hs
        refine V_callVs X [.int q4, .int (3 : Int32)] dX7_scans_74 m_X7_141 v_X7_ofPlan ⟨Nat.le_of_ble_eq_true rfl, Nat.le_of_ble_eq_true rfl⟩ ⟨Nat.zero_le _, Nat.zero_le _⟩ rfl (Nat.le_of_ble_eq_true rfl) (gm7 hM) rfl cl7 (c_X7_ofPlan hM eq27) ?_
        refine V_icmp_le X 84 dX7_scans_77 (by decide) (fun c28 => ?_) (fun c28 => ?_)
        · replace hs := if_tB hs c28
          refine V_iload_n X dX7_scans_84 rfl 0 rfl ?_
          refine V_if_ge X 92 dX7_scans_85 (by decide) (fun c29 => ?_) (fun c29 => ?_)
          · replace hs := if_tB hs c29
            refine V_iconst X (0 : Int32) dX7_scans_92 (by decide) ?_
            exact J93 _ (bs_some hs)
          · replace hs := if_fB hs c29
            refine V_iconst X (4 : Int32) dX7_scans_88 (by decide) ?_
            refine V_goto X 93 dX7_scans_89 (by decide) ?_
            exact J93 _ (bs_some hs)
        · replace hs := if_fB hs c28
          refine V_iconst X (3 : Int32) dX7_scans_80 (by decide) ?_
          refine V_goto X 93 dX7_scans_81 (by decide) ?_
          exact J93 _ (bs_some hs)
      · replace hs := if_tB hs c25
        refine V_iconst X (2 : Int32) dX7_scans_58 (by decide) ?_
        refine V_goto X 93 dX7_scans_59 (by decide) ?_
        exact J93 _ (bs_some hs)
  · replace hs := if_f hs c5
    refine V_aload_n X dX7_scans_29 rfl 1 rfl ?_
    refine V_iload_n X dX7_scans_30 rfl 2 rfl ?_
    refine V_iconst X (-1 : Int32) dX7_scans_31 (by decide) ?_
    refine V_iconst X (5 : Int32) dX7_scans_32 (by decide) ?_
    obtain ⟨Z31, eZ31, hs⟩ := bd_some hs
    refine V_callVv X [.int p1, .int (-1 : Int32), .int (5 : Int32)] dX7_scans_33 m_X7_182 v_X7_aims ⟨Nat.le_of_ble_eq_true rfl, Nat.le_of_ble_eq_true rfl⟩ ⟨Nat.zero_le _, Nat.zero_le _⟩ rfl (Nat.le_of_ble_eq_true rfl) (gm7 hM) rfl cl7 (c_X7_aims hM eZ31) ?_
    obtain rfl := Option.some.inj hs; exact V_vret X hr dX7_scans_36

def s_X7_verdictOf_L49 (fu : Nat) (p1 : Int32) (p2 : Int32) (S : S4) : Nat → Int32 → Int32 → Int32 → Option Int32
  | 0, _, _, _ => none
  | f49+1, v3, v4, v5 => (if v4 < 0 then (s_X7_ofParcel p1 (3 : Int32) S).bind fun q5 => (if q5 = (1 : Int32) then some (2 : Int32) else some (3 : Int32)) else (s_X7_ofRule v3 v4 (2 : Int32) S).bind fun q7 => (if q7 ≤ v5 then (s_X7_ofParcel p1 (3 : Int32) S).bind fun q9 => (if q9 = (1 : Int32) then some (2 : Int32) else some (3 : Int32)) else (s_X7_ofRule v3 v4 ((3 : Int32) + v5) S).bind fun q11 => (if q11 = p2 then some (0 : Int32) else s_X7_verdictOf_L49 fu p1 p2 S f49 v3 v4 (v5 + (1 : Int32)))))
def s_X7_verdictOf (fu : Nat) (p1 : Int32) (p2 : Int32) (S : S4) : Option Int32 := (s_X7_planOf fu (S 7 0 0 13) S).bind fun q1 => (if q1 < 0 then ((if 0 ≤ q1 then (s_X7_ofParcel p1 (0 : Int32) S).bind fun q14 => (s_X7_ruleFor fu q1 q14 S).bind fun q15 => some q15 else some (-1 : Int32))).bind fun q3 => s_X7_verdictOf_L49 fu p1 p2 S fu q1 q3 (0 : Int32) else (s_X7_ofPlan q1 (2 : Int32) S).bind fun q16 => (if q16 = p2 then some (1 : Int32) else ((if 0 ≤ q1 then (s_X7_ofParcel p1 (0 : Int32) S).bind fun q29 => (s_X7_ruleFor fu q1 q29 S).bind fun q30 => some q30 else some (-1 : Int32))).bind fun q18 => s_X7_verdictOf_L49 fu p1 p2 S fu q1 q18 (0 : Int32)))
set_option maxRecDepth 100000 in
set_option maxHeartbeats 4000000 in
theorem c_X7_verdictOf {l : Launch} {D : va_G} {cA : Nat → ClassId} {dm : Dm} {ad : Ad} {fu : Nat} {S : S4} {p1 : Int32} {p2 : Int32} (hM : DM dm) {out : Int32} (hs : s_X7_verdictOf fu p1 p2 S = some out) : Ct D cA dm ad l yX7_verdictOf cX7_verdictOf 6 (some .int) 2 46 S [.ref (ad 7 0 0), .int p1, .int p2] (some (.int out)) S := by
  refine Ct.of (by decide +kernel) (Nat.le_of_ble_eq_true rfl) [(0, .ref (ad 7 0 0)), (1, .int p1), (2, .int p2)] rfl (fun p e s m args below meth c A X hr => ?_)
  unfold s_X7_verdictOf at hs
  refine V_aload_n X dX7_verdictOf_0 rfl 0 rfl ?_
  refine V_aload_n X dX7_verdictOf_1 rfl 0 rfl ?_
  refine V_get X dX7_verdictOf_2 r_X7_72 (gm7 hM) rfl rfl ?_
  obtain ⟨q1, eq1, hs⟩ := bd_some hs
  refine V_callVs X [.int (S 7 0 0 13)] dX7_verdictOf_5 m_X7_154 v_X7_planOf ⟨Nat.le_of_ble_eq_true rfl, Nat.le_of_ble_eq_true rfl⟩ ⟨Nat.zero_le _, Nat.zero_le _⟩ rfl (Nat.le_of_ble_eq_true rfl) (gm7 hM) rfl cl7 (c_X7_planOf hM eq1) ?_
  refine V_istore_n X dX7_verdictOf_8 rfl [(3, .int q1), (0, .ref (ad 7 0 0)), (1, .int p1), (2, .int p2)] (by decide) rfl ?_
  refine V_iload_n X dX7_verdictOf_9 rfl 0 rfl ?_
  refine V_if_lt X 25 dX7_verdictOf_10 (by decide) (fun c2 => ?_) (fun c2 => ?_)
  · replace hs := if_t hs c2
    refine V_iload_n X dX7_verdictOf_25 rfl 0 rfl ?_
    refine jn (P := fun q => V D cA dm ad A 6 p l e ({ frames := 2, cells := 0, slots := 0, locals := 46 }) s m args below meth c 0 0 (MQ below (gQ D cA dm ad S (some (.int out)) A) args s 0 0 A) S 44 [(3, .int q1), (0, .ref (ad 7 0 0)), (1, .int p1), (2, .int p2)] [.int q]) hs (fun q3 hs => ?_) (fun J44 hs => ?_)
    · refine V_istore X dX7_verdictOf_44 [(4, .int q3), (3, .int q1), (0, .ref (ad 7 0 0)), (1, .int p1), (2, .int p2)] (by decide) rfl ?_
      refine V_iconst X (0 : Int32) dX7_verdictOf_46 (by decide) ?_
      refine V_istore X dX7_verdictOf_47 [(5, .int (0 : Int32)), (4, .int q3), (3, .int q1), (0, .ref (ad 7 0 0)), (1, .int p1), (2, .int p2)] (by decide) rfl ?_
      have L49 : ∀ (n : Nat) (v3 v4 v5 : Int32) , s_X7_verdictOf_L49 fu p1 p2 S n v3 v4 v5 = some out → V D cA dm ad A 6 p l e ({ frames := 2, cells := 0, slots := 0, locals := 46 }) s m args below meth c 0 0 (MQ below (gQ D cA dm ad S (some (.int out)) A) args s 0 0 A) S 49 [(0, .ref (ad 7 0 0)), (1, .int p1), (2, .int p2), (3, .int v3), (4, .int v4), (5, .int v5)] [] := by
        intro n
        induction n with
        | zero => intro v3 v4 v5 hs; rw [s_X7_verdictOf_L49] at hs; cases hs
        | succ f49 ih49 =>
          intro v3 v4 v5 hs
          rw [s_X7_verdictOf_L49] at hs
          refine V_iload X dX7_verdictOf_49 4 rfl ?_
          refine V_if_lt X 90 dX7_verdictOf_51 (by decide) (fun c4 => ?_) (fun c4 => ?_)
          · replace hs := if_t hs c4
            refine V_aload_n X dX7_verdictOf_90 rfl 0 rfl ?_
            refine V_iload_n X dX7_verdictOf_91 rfl 1 rfl ?_
            refine V_iconst X (3 : Int32) dX7_verdictOf_92 (by decide) ?_
            obtain ⟨q5, eq5, hs⟩ := bd_some hs
            refine V_callVs X [.int p1, .int (3 : Int32)] dX7_verdictOf_93 m_X7_160 v_X7_ofParcel ⟨Nat.le_of_ble_eq_true rfl, Nat.le_of_ble_eq_true rfl⟩ ⟨Nat.zero_le _, Nat.zero_le _⟩ rfl (Nat.le_of_ble_eq_true rfl) (gm7 hM) rfl cl7 (c_X7_ofParcel hM eq5) ?_
            refine V_iconst X (1 : Int32) dX7_verdictOf_96 (by decide) ?_
            refine V_icmp_ne X 104 dX7_verdictOf_97 (by decide) (fun c6 => ?_) (fun c6 => ?_)
            · replace hs := if_f hs c6
              refine V_iconst X (3 : Int32) dX7_verdictOf_104 (by decide) ?_
              obtain rfl := Option.some.inj hs; exact V_iret X hr dX7_verdictOf_105
            · replace hs := if_t hs c6
              refine V_iconst X (2 : Int32) dX7_verdictOf_100 (by decide) ?_
              refine V_goto X 105 dX7_verdictOf_101 (by decide) ?_
              obtain rfl := Option.some.inj hs; exact V_iret X hr dX7_verdictOf_105
          · replace hs := if_f hs c4
            refine V_iload X dX7_verdictOf_54 5 rfl ?_
            refine V_aload_n X dX7_verdictOf_56 rfl 0 rfl ?_
            refine V_iload_n X dX7_verdictOf_57 rfl 3 rfl ?_
            refine V_iload X dX7_verdictOf_58 4 rfl ?_
            refine V_iconst X (2 : Int32) dX7_verdictOf_60 (by decide) ?_
            obtain ⟨q7, eq7, hs⟩ := bd_some hs
            refine V_callVs X [.int v3, .int v4, .int (2 : Int32)] dX7_verdictOf_61 m_X7_144 v_X7_ofRule ⟨Nat.le_of_ble_eq_true rfl, Nat.le_of_ble_eq_true rfl⟩ ⟨Nat.zero_le _, Nat.zero_le _⟩ rfl (Nat.le_of_ble_eq_true rfl) (gm7 hM) rfl cl7 (c_X7_ofRule hM eq7) ?_
            refine V_icmp_ge X 90 dX7_verdictOf_64 (by decide) (fun c8 => ?_) (fun c8 => ?_)
            · replace hs := if_t hs c8
              refine V_aload_n X dX7_verdictOf_90 rfl 0 rfl ?_
              refine V_iload_n X dX7_verdictOf_91 rfl 1 rfl ?_
              refine V_iconst X (3 : Int32) dX7_verdictOf_92 (by decide) ?_
              obtain ⟨q9, eq9, hs⟩ := bd_some hs
              refine V_callVs X [.int p1, .int (3 : Int32)] dX7_verdictOf_93 m_X7_160 v_X7_ofParcel ⟨Nat.le_of_ble_eq_true rfl, Nat.le_of_ble_eq_true rfl⟩ ⟨Nat.zero_le _, Nat.zero_le _⟩ rfl (Nat.le_of_ble_eq_true rfl) (gm7 hM) rfl cl7 (c_X7_ofParcel hM eq9) ?_
              refine V_iconst X (1 : Int32) dX7_verdictOf_96 (by decide) ?_
              refine V_icmp_ne X 104 dX7_verdictOf_97 (by decide) (fun c10 => ?_) (fun c10 => ?_)
              · replace hs := if_f hs c10
                refine V_iconst X (3 : Int32) dX7_verdictOf_104 (by decide) ?_
                obtain rfl := Option.some.inj hs; exact V_iret X hr dX7_verdictOf_105
              · replace hs := if_t hs c10
                refine V_iconst X (2 : Int32) dX7_verdictOf_100 (by decide) ?_
                refine V_goto X 105 dX7_verdictOf_101 (by decide) ?_
                obtain rfl := Option.some.inj hs; exact V_iret X hr dX7_verdictOf_105
            · replace hs := if_f hs c8
              refine V_aload_n X dX7_verdictOf_67 rfl 0 rfl ?_
              refine V_iload_n X dX7_verdictOf_68 rfl 3 rfl ?_
              refine V_iload X dX7_verdictOf_69 4 rfl ?_
              refine V_iconst X (3 : Int32) dX7_verdictOf_71 (by decide) ?_
              refine V_iload X dX7_verdictOf_72 5 rfl ?_
              refine V_iadd X dX7_verdictOf_74 ?_
              obtain ⟨q11, eq11, hs⟩ := bd_some hs
              refine V_callVs X [.int v3, .int v4, .int ((3 : Int32) + v5)] dX7_verdictOf_75 m_X7_144 v_X7_ofRule ⟨Nat.le_of_ble_eq_true rfl, Nat.le_of_ble_eq_true rfl⟩ ⟨Nat.zero_le _, Nat.zero_le _⟩ rfl (Nat.le_of_ble_eq_true rfl) (gm7 hM) rfl cl7 (c_X7_ofRule hM eq11) ?_
              refine V_iload_n X dX7_verdictOf_78 rfl 2 rfl ?_
              refine V_icmp_ne X 84 dX7_verdictOf_79 (by decide) (fun c12 => ?_) (fun c12 => ?_)
              · replace hs := if_f hs c12
                refine V_iinc X (v5 + (1 : Int32)) dX7_verdictOf_84 5 rfl rfl [(5, .int (v5 + (1 : Int32))), (0, .ref (ad 7 0 0)), (1, .int p1), (2, .int p2), (3, .int v3), (4, .int v4)] (by decide) rfl ?_
                refine V_goto X 49 dX7_verdictOf_87 (by decide) ?_
                refine V_sub [1, 2, 3, 4, 5, 0] rfl ?_
                exact ih49 _ _ _ hs
              · replace hs := if_t hs c12
                refine V_iconst X (0 : Int32) dX7_verdictOf_82 (by decide) ?_
                obtain rfl := Option.some.inj hs; exact V_iret X hr dX7_verdictOf_83
      refine V_sub [3, 4, 5, 2, 1, 0] rfl ?_
      exact L49 _ _ _ _ hs
    · refine V_if_ge X 33 dX7_verdictOf_26 (by decide) (fun c13 => ?_) (fun c13 => ?_)
      · replace hs := if_tB hs c13
        refine V_aload_n X dX7_verdictOf_33 rfl 1 rfl ?_
        refine V_iload_n X dX7_verdictOf_34 rfl 0 rfl ?_
        refine V_aload_n X dX7_verdictOf_35 rfl 1 rfl ?_
        refine V_iload_n X dX7_verdictOf_36 rfl 2 rfl ?_
        refine V_iconst X (0 : Int32) dX7_verdictOf_37 (by decide) ?_
        obtain ⟨q14, eq14, hs⟩ := bd_someB hs
        refine V_callVs X [.int p1, .int (0 : Int32)] dX7_verdictOf_38 m_X7_160 v_X7_ofParcel ⟨Nat.le_of_ble_eq_true rfl, Nat.le_of_ble_eq_true rfl⟩ ⟨Nat.zero_le _, Nat.zero_le _⟩ rfl (Nat.le_of_ble_eq_true rfl) (gm7 hM) rfl cl7 (c_X7_ofParcel hM eq14) ?_
        obtain ⟨q15, eq15, hs⟩ := bd_someB hs
        refine V_callVs X [.int q1, .int q14] dX7_verdictOf_41 m_X7_151 v_X7_ruleFor ⟨Nat.le_of_ble_eq_true rfl, Nat.le_of_ble_eq_true rfl⟩ ⟨Nat.zero_le _, Nat.zero_le _⟩ rfl (Nat.le_of_ble_eq_true rfl) (gm7 hM) rfl cl7 (c_X7_ruleFor hM eq15) ?_
        exact J44 _ (bs_some hs)
      · replace hs := if_fB hs c13
        refine V_iconst X (-1 : Int32) dX7_verdictOf_29 (by decide) ?_
        refine V_goto X 44 dX7_verdictOf_30 (by decide) ?_
        exact J44 _ (bs_some hs)
  · replace hs := if_f hs c2
    refine V_aload_n X dX7_verdictOf_13 rfl 1 rfl ?_
    refine V_iload_n X dX7_verdictOf_14 rfl 0 rfl ?_
    refine V_iconst X (2 : Int32) dX7_verdictOf_15 (by decide) ?_
    obtain ⟨q16, eq16, hs⟩ := bd_some hs
    refine V_callVs X [.int q1, .int (2 : Int32)] dX7_verdictOf_16 m_X7_141 v_X7_ofPlan ⟨Nat.le_of_ble_eq_true rfl, Nat.le_of_ble_eq_true rfl⟩ ⟨Nat.zero_le _, Nat.zero_le _⟩ rfl (Nat.le_of_ble_eq_true rfl) (gm7 hM) rfl cl7 (c_X7_ofPlan hM eq16) ?_
    refine V_iload_n X dX7_verdictOf_19 rfl 3 rfl ?_
    refine V_icmp_ne X 25 dX7_verdictOf_20 (by decide) (fun c17 => ?_) (fun c17 => ?_)
    · replace hs := if_f hs c17
      refine V_iload_n X dX7_verdictOf_25 rfl 0 rfl ?_
      refine jn (P := fun q => V D cA dm ad A 6 p l e ({ frames := 2, cells := 0, slots := 0, locals := 46 }) s m args below meth c 0 0 (MQ below (gQ D cA dm ad S (some (.int out)) A) args s 0 0 A) S 44 [(3, .int q1), (0, .ref (ad 7 0 0)), (1, .int p1), (2, .int p2)] [.int q]) hs (fun q18 hs => ?_) (fun J44 hs => ?_)
      · refine V_istore X dX7_verdictOf_44 [(4, .int q18), (3, .int q1), (0, .ref (ad 7 0 0)), (1, .int p1), (2, .int p2)] (by decide) rfl ?_
        refine V_iconst X (0 : Int32) dX7_verdictOf_46 (by decide) ?_
        refine V_istore X dX7_verdictOf_47 [(5, .int (0 : Int32)), (4, .int q18), (3, .int q1), (0, .ref (ad 7 0 0)), (1, .int p1), (2, .int p2)] (by decide) rfl ?_
        have L49 : ∀ (n : Nat) (v3 v4 v5 : Int32) , s_X7_verdictOf_L49 fu p1 p2 S n v3 v4 v5 = some out → V D cA dm ad A 6 p l e ({ frames := 2, cells := 0, slots := 0, locals := 46 }) s m args below meth c 0 0 (MQ below (gQ D cA dm ad S (some (.int out)) A) args s 0 0 A) S 49 [(0, .ref (ad 7 0 0)), (1, .int p1), (2, .int p2), (3, .int v3), (4, .int v4), (5, .int v5)] [] := by
          intro n
          induction n with
          | zero => intro v3 v4 v5 hs; rw [s_X7_verdictOf_L49] at hs; cases hs
          | succ f49 ih49 =>
            intro v3 v4 v5 hs
            rw [s_X7_verdictOf_L49] at hs
            refine V_iload X dX7_verdictOf_49 4 rfl ?_
            refine V_if_lt X 90 dX7_verdictOf_51 (by decide) (fun c19 => ?_) (fun c19 => ?_)
            · replace hs := if_t hs c19
              refine V_aload_n X dX7_verdictOf_90 rfl 0 rfl ?_
              refine V_iload_n X dX7_verdictOf_91 rfl 1 rfl ?_
              refine V_iconst X (3 : Int32) dX7_verdictOf_92 (by decide) ?_
              obtain ⟨q20, eq20, hs⟩ := bd_some hs
              refine V_callVs X [.int p1, .int (3 : Int32)] dX7_verdictOf_93 m_X7_160 v_X7_ofParcel ⟨Nat.le_of_ble_eq_true rfl, Nat.le_of_ble_eq_true rfl⟩ ⟨Nat.zero_le _, Nat.zero_le _⟩ rfl (Nat.le_of_ble_eq_true rfl) (gm7 hM) rfl cl7 (c_X7_ofParcel hM eq20) ?_
              refine V_iconst X (1 : Int32) dX7_verdictOf_96 (by decide) ?_
              refine V_icmp_ne X 104 dX7_verdictOf_97 (by decide) (fun c21 => ?_) (fun c21 => ?_)
              · replace hs := if_f hs c21
                refine V_iconst X (3 : Int32) dX7_verdictOf_104 (by decide) ?_
                obtain rfl := Option.some.inj hs; exact V_iret X hr dX7_verdictOf_105
              · replace hs := if_t hs c21
                refine V_iconst X (2 : Int32) dX7_verdictOf_100 (by decide) ?_
                refine V_goto X 105 dX7_verdictOf_101 (by decide) ?_
                obtain rfl := Option.some.inj hs; exact V_iret X hr dX7_verdictOf_105
            · replace hs := if_f hs c19
              refine V_iload X dX7_verdictOf_54 5 rfl ?_
              refine V_aload_n X dX7_verdictOf_56 rfl 0 rfl ?_
              refine V_iload_n X dX7_verdictOf_57 rfl 3 rfl ?_
              refine V_iload X dX7_verdictOf_58 4 rfl ?_
              refine V_iconst X (2 : Int32) dX7_verdictOf_60 (by decide) ?_
              obtain ⟨q22, eq22, hs⟩ := bd_some hs
              refine V_callVs X [.int v3, .int v4, .int (2 : Int32)] dX7_verdictOf_61 m_X7_144 v_X7_ofRule ⟨Nat.le_of_ble_eq_true rfl, Nat.le_of_ble_eq_true rfl⟩ ⟨Nat.zero_le _, Nat.zero_le _⟩ rfl (Nat.le_of_ble_eq_true rfl) (gm7 hM) rfl cl7 (c_X7_ofRule hM eq22) ?_
              refine V_icmp_ge X 90 dX7_verdictOf_64 (by decide) (fun c23 => ?_) (fun c23 => ?_)
              · replace hs := if_t hs c23
                refine V_aload_n X dX7_verdictOf_90 rfl 0 rfl ?_
                refine V_iload_n X dX7_verdictOf_91 rfl 1 rfl ?_
                refine V_iconst X (3 : Int32) dX7_verdictOf_92 (by decide) ?_
                obtain ⟨q24, eq24, hs⟩ := bd_some hs
                refine V_callVs X [.int p1, .int (3 : Int32)] dX7_verdictOf_93 m_X7_160 v_X7_ofParcel ⟨Nat.le_of_ble_eq_true rfl, Nat.le_of_ble_eq_true rfl⟩ ⟨Nat.zero_le _, Nat.zero_le _⟩ rfl (Nat.le_of_ble_eq_true rfl) (gm7 hM) rfl cl7 (c_X7_ofParcel hM eq24) ?_
                refine V_iconst X (1 : Int32) dX7_verdictOf_96 (by decide) ?_
                refine V_icmp_ne X 104 dX7_verdictOf_97 (by decide) (fun c25 => ?_) (fun c25 => ?_)
                · replace hs := if_f hs c25
                  refine V_iconst X (3 : Int32) dX7_verdictOf_104 (by decide) ?_
                  obtain rfl := Option.some.inj hs; exact V_iret X hr dX7_verdictOf_105
                · replace hs := if_t hs c25
                  refine V_iconst X (2 : Int32) dX7_verdictOf_100 (by decide) ?_
                  refine V_goto X 105 dX7_verdictOf_101 (by decide) ?_
                  obtain rfl := Option.some.inj hs; exact V_iret X hr dX7_verdictOf_105
              · replace hs := if_f hs c23
                refine V_aload_n X dX7_verdictOf_67 rfl 0 rfl ?_
                refine V_iload_n X dX7_verdictOf_68 rfl 3 rfl ?_
                refine V_iload X dX7_verdictOf_69 4 rfl ?_
                refine V_iconst X (3 : Int32) dX7_verdictOf_71 (by decide) ?_
                refine V_iload X dX7_verdictOf_72 5 rfl ?_
                refine V_iadd X dX7_verdictOf_74 ?_
                obtain ⟨q26, eq26, hs⟩ := bd_some hs
                refine V_callVs X [.int v3, .int v4, .int ((3 : Int32) + v5)] dX7_verdictOf_75 m_X7_144 v_X7_ofRule ⟨Nat.le_of_ble_eq_true rfl, Nat.le_of_ble_eq_true rfl⟩ ⟨Nat.zero_le _, Nat.zero_le _⟩ rfl (Nat.le_of_ble_eq_true rfl) (gm7 hM) rfl cl7 (c_X7_ofRule hM eq26) ?_
                refine V_iload_n X dX7_verdictOf_78 rfl 2 rfl ?_
                refine V_icmp_ne X 84 dX7_verdictOf_79 (by decide) (fun c27 => ?_) (fun c27 => ?_)
                · replace hs := if_f hs c27
                  refine V_iinc X (v5 + (1 : Int32)) dX7_verdictOf_84 5 rfl rfl [(5, .int (v5 + (1 : Int32))), (0, .ref (ad 7 0 0)), (1, .int p1), (2, .int p2), (3, .int v3), (4, .int v4)] (by decide) rfl ?_
                  refine V_goto X 49 dX7_verdictOf_87 (by decide) ?_
                  refine V_sub [1, 2, 3, 4, 5, 0] rfl ?_
                  exact ih49 _ _ _ hs
                · replace hs := if_t hs c27
                  refine V_iconst X (0 : Int32) dX7_verdictOf_82 (by decide) ?_
                  obtain rfl := Option.some.inj hs; exact V_iret X hr dX7_verdictOf_83
        refine V_sub [3, 4, 5, 2, 1, 0] rfl ?_
        exact L49 _ _ _ _ hs
      · refine V_if_ge X 33 dX7_verdictOf_26 (by decide) (fun c28 => ?_) (fun c28 => ?_)
        · replace hs := if_tB hs c28
          refine V_aload_n X dX7_verdictOf_33 rfl 1 rfl ?_
          refine V_iload_n X dX7_verdictOf_34 rfl 0 rfl ?_
          refine V_aload_n X dX7_verdictOf_35 rfl 1 rfl ?_
          refine V_iload_n X dX7_verdictOf_36 rfl 2 rfl ?_
          refine V_iconst X (0 : Int32) dX7_verdictOf_37 (by decide) ?_
          obtain ⟨q29, eq29, hs⟩ := bd_someB hs
          refine V_callVs X [.int p1, .int (0 : Int32)] dX7_verdictOf_38 m_X7_160 v_X7_ofParcel ⟨Nat.le_of_ble_eq_true rfl, Nat.le_of_ble_eq_true rfl⟩ ⟨Nat.zero_le _, Nat.zero_le _⟩ rfl (Nat.le_of_ble_eq_true rfl) (gm7 hM) rfl cl7 (c_X7_ofParcel hM eq29) ?_
          obtain ⟨q30, eq30, hs⟩ := bd_someB hs
          refine V_callVs X [.int q1, .int q29] dX7_verdictOf_41 m_X7_151 v_X7_ruleFor ⟨Nat.le_of_ble_eq_true rfl, Nat.le_of_ble_eq_true rfl⟩ ⟨Nat.zero_le _, Nat.zero_le _⟩ rfl (Nat.le_of_ble_eq_true rfl) (gm7 hM) rfl cl7 (c_X7_ruleFor hM eq30) ?_
          exact J44 _ (bs_some hs)
        · replace hs := if_fB hs c28
          refine V_iconst X (-1 : Int32) dX7_verdictOf_29 (by decide) ?_
          refine V_goto X 44 dX7_verdictOf_30 (by decide) ?_
          exact J44 _ (bs_some hs)
    · replace hs := if_t hs c17
      refine V_iconst X (1 : Int32) dX7_verdictOf_23 (by decide) ?_
      obtain rfl := Option.some.inj hs; exact V_iret X hr dX7_verdictOf_24

def s_X7_drops (fu : Nat) (p1 : Int32) (p2 : Int32) (S : S4) : Option S4 := (s_X7_ofParcel p1 (5 : Int32) S).bind fun q1 => gd (inb q1 30) (sv (u4 S 24 0 0 (q1.toNatClampNeg) (-1 : Int32)) fun Z3 => (s_X7_verdictOf fu p1 p2 Z3).bind fun q4 => (s_X7_setsParcel p1 (10 : Int32) q4 Z3).bind fun Z6 => (s_X7_setsParcel p1 (4 : Int32) (2 : Int32) Z6).bind fun Z8 => (s_X7_setsParcel p1 (5 : Int32) p2 Z8).bind fun Z10 => (s_X7_setsParcel p1 (7 : Int32) (-1 : Int32) Z10).bind fun Z12 => (s_X7_setsParcel p1 (9 : Int32) (Z12 7 0 0 13) Z12).bind fun Z14 => gd (inb (Z14 7 0 0 12) 60) (sv (u4 Z14 29 0 0 ((Z14 7 0 0 12).toNatClampNeg) p1) fun Z16 => sv (u4 Z16 7 0 0 12 ((Z16 7 0 0 12) + (1 : Int32))) fun Z17 => (s_X7_setsChute p2 (10 : Int32) (Z17 7 0 0 13) Z17).bind fun Z19 => (s_X7_addsChute p2 (11 : Int32) (1 : Int32) Z19).bind fun Z21 => (s_X7_addsChute p2 (6 : Int32) (1 : Int32) Z21).bind fun Z23 => (s_X7_ofChute p2 (6 : Int32) Z23).bind fun q24 => (s_X7_ofChute p2 (1 : Int32) Z23).bind fun q25 => (if q25 ≤ q24 then (s_X7_addsChute p2 (14 : Int32) (1 : Int32) Z23).bind fun Z28 => (s_X7_ofChute p2 (5 : Int32) Z28).bind fun q29 => (s_X7_setsChute p2 (8 : Int32) q29 Z28).bind fun Z31 => (s_X7_ofChute p2 (5 : Int32) Z31).bind fun q32 => (if q32 = 0 then (s_X7_setsChute p2 (6 : Int32) (0 : Int32) Z31).bind fun Z35 => some Z35 else some Z31) else some Z23)))
set_option maxRecDepth 100000 in
set_option maxHeartbeats 4000000 in
theorem c_X7_drops {l : Launch} {D : va_G} {cA : Nat → ClassId} {dm : Dm} {ad : Ad} {fu : Nat} {S : S4} {p1 : Int32} {p2 : Int32} (hM : DM dm) {out : S4} (hs : s_X7_drops fu p1 p2 S = some out) : Ct D cA dm ad l yX7_drops cX7_drops 3 none 3 71 S [.ref (ad 7 0 0), .int p1, .int p2] none out := by
  refine Ct.of (by decide +kernel) (Nat.le_of_ble_eq_true rfl) [(0, .ref (ad 7 0 0)), (1, .int p1), (2, .int p2)] rfl (fun p e s m args below meth c A X hr => ?_)
  unfold s_X7_drops at hs
  refine V_aload_n X dX7_drops_0 rfl 0 rfl ?_
  refine V_get X dX7_drops_1 r_X7_7 (gm7 hM) rfl rfl ?_
  refine V_aload_n X dX7_drops_4 rfl 0 rfl ?_
  refine V_iload_n X dX7_drops_5 rfl 1 rfl ?_
  refine V_iconst X (5 : Int32) dX7_drops_6 (by decide) ?_
  obtain ⟨q1, eq1, hs⟩ := bd_some hs
  refine V_callVs X [.int p1, .int (5 : Int32)] dX7_drops_7 m_X7_160 v_X7_ofParcel ⟨Nat.le_of_ble_eq_true rfl, Nat.le_of_ble_eq_true rfl⟩ ⟨Nat.zero_le _, Nat.zero_le _⟩ rfl (Nat.le_of_ble_eq_true rfl) (gm7 hM) rfl cl7 (c_X7_ofParcel hM eq1) ?_
  refine V_iconst X (-1 : Int32) dX7_drops_10 (by decide) ?_
  obtain ⟨h2, hs⟩ := gd_some hs
  refine V_iast X dX7_drops_11 (gm24 hM) (fun _ => rfl) h2 (fun Z3 eZ3 => ?_)
  replace hs := sv_some hs Z3 eZ3
  clear eZ3
  refine V_aload_n X dX7_drops_12 rfl 0 rfl ?_
  refine V_iload_n X dX7_drops_13 rfl 1 rfl ?_
  refine V_bipush X (10 : Int32) dX7_drops_14 (by decide) ?_
  refine V_aload_n X dX7_drops_16 rfl 0 rfl ?_
  refine V_iload_n X dX7_drops_17 rfl 1 rfl ?_
  refine V_iload_n X dX7_drops_18 rfl 2 rfl ?_
  obtain ⟨q4, eq4, hs⟩ := bd_some hs
  refine V_callVs X [.int p1, .int p2] dX7_drops_19 m_X7_191 v_X7_verdictOf ⟨Nat.le_of_ble_eq_true rfl, Nat.le_of_ble_eq_true rfl⟩ ⟨Nat.zero_le _, Nat.zero_le _⟩ rfl (Nat.le_of_ble_eq_true rfl) (gm7 hM) rfl cl7 (c_X7_verdictOf hM eq4) ?_
  obtain ⟨Z6, eZ6, hs⟩ := bd_some hs
  refine V_callVv X [.int p1, .int (10 : Int32), .int q4] dX7_drops_22 m_X7_163 v_X7_setsParcel ⟨Nat.le_of_ble_eq_true rfl, Nat.le_of_ble_eq_true rfl⟩ ⟨Nat.zero_le _, Nat.zero_le _⟩ rfl (Nat.le_of_ble_eq_true rfl) (gm7 hM) rfl cl7 (c_X7_setsParcel hM eZ6) ?_
  refine V_aload_n X dX7_drops_25 rfl 0 rfl ?_
  refine V_iload_n X dX7_drops_26 rfl 1 rfl ?_
  refine V_iconst X (4 : Int32) dX7_drops_27 (by decide) ?_
  refine V_iconst X (2 : Int32) dX7_drops_28 (by decide) ?_
  obtain ⟨Z8, eZ8, hs⟩ := bd_some hs
  refine V_callVv X [.int p1, .int (4 : Int32), .int (2 : Int32)] dX7_drops_29 m_X7_163 v_X7_setsParcel ⟨Nat.le_of_ble_eq_true rfl, Nat.le_of_ble_eq_true rfl⟩ ⟨Nat.zero_le _, Nat.zero_le _⟩ rfl (Nat.le_of_ble_eq_true rfl) (gm7 hM) rfl cl7 (c_X7_setsParcel hM eZ8) ?_
  refine V_aload_n X dX7_drops_32 rfl 0 rfl ?_
  refine V_iload_n X dX7_drops_33 rfl 1 rfl ?_
  refine V_iconst X (5 : Int32) dX7_drops_34 (by decide) ?_
  refine V_iload_n X dX7_drops_35 rfl 2 rfl ?_
  obtain ⟨Z10, eZ10, hs⟩ := bd_some hs
  refine V_callVv X [.int p1, .int (5 : Int32), .int p2] dX7_drops_36 m_X7_163 v_X7_setsParcel ⟨Nat.le_of_ble_eq_true rfl, Nat.le_of_ble_eq_true rfl⟩ ⟨Nat.zero_le _, Nat.zero_le _⟩ rfl (Nat.le_of_ble_eq_true rfl) (gm7 hM) rfl cl7 (c_X7_setsParcel hM eZ10) ?_
  refine V_aload_n X dX7_drops_39 rfl 0 rfl ?_
  refine V_iload_n X dX7_drops_40 rfl 1 rfl ?_
  refine V_bipush X (7 : Int32) dX7_drops_41 (by decide) ?_
  refine V_iconst X (-1 : Int32) dX7_drops_43 (by decide) ?_
  obtain ⟨Z12, eZ12, hs⟩ := bd_some hs
  refine V_callVv X [.int p1, .int (7 : Int32), .int (-1 : Int32)] dX7_drops_44 m_X7_163 v_X7_setsParcel ⟨Nat.le_of_ble_eq_true rfl, Nat.le_of_ble_eq_true rfl⟩ ⟨Nat.zero_le _, Nat.zero_le _⟩ rfl (Nat.le_of_ble_eq_true rfl) (gm7 hM) rfl cl7 (c_X7_setsParcel hM eZ12) ?_
  refine V_aload_n X dX7_drops_47 rfl 0 rfl ?_
  refine V_iload_n X dX7_drops_48 rfl 1 rfl ?_
  refine V_bipush X (9 : Int32) dX7_drops_49 (by decide) ?_
  refine V_aload_n X dX7_drops_51 rfl 0 rfl ?_
  refine V_get X dX7_drops_52 r_X7_72 (gm7 hM) rfl rfl ?_
  obtain ⟨Z14, eZ14, hs⟩ := bd_some hs
  refine V_callVv X [.int p1, .int (9 : Int32), .int (Z12 7 0 0 13)] dX7_drops_55 m_X7_163 v_X7_setsParcel ⟨Nat.le_of_ble_eq_true rfl, Nat.le_of_ble_eq_true rfl⟩ ⟨Nat.zero_le _, Nat.zero_le _⟩ rfl (Nat.le_of_ble_eq_true rfl) (gm7 hM) rfl cl7 (c_X7_setsParcel hM eZ14) ?_
  refine V_aload_n X dX7_drops_58 rfl 0 rfl ?_
  refine V_get X dX7_drops_59 r_X7_25 (gm7 hM) rfl rfl ?_
  refine V_aload_n X dX7_drops_62 rfl 0 rfl ?_
  refine V_get X dX7_drops_63 r_X7_69 (gm7 hM) rfl rfl ?_
  refine V_iload_n X dX7_drops_66 rfl 1 rfl ?_
  obtain ⟨h15, hs⟩ := gd_some hs
  refine V_iast X dX7_drops_67 (gm29 hM) (fun _ => rfl) h15 (fun Z16 eZ16 => ?_)
  replace hs := sv_some hs Z16 eZ16
  clear eZ16
  refine V_aload_n X dX7_drops_68 rfl 0 rfl ?_
  refine V_dup X dX7_drops_69 rfl ?_
  refine V_get X dX7_drops_70 r_X7_69 (gm7 hM) rfl rfl ?_
  refine V_iconst X (1 : Int32) dX7_drops_73 (by decide) ?_
  refine V_iadd X dX7_drops_74 ?_
  refine V_put X dX7_drops_75 f_X7_69 (gm7 hM) rfl (Nat.le_of_ble_eq_true rfl) rfl rfl rfl (fun Z17 eZ17 => ?_)
  replace hs := sv_some hs Z17 eZ17
  clear eZ17
  refine V_aload_n X dX7_drops_78 rfl 0 rfl ?_
  refine V_iload_n X dX7_drops_79 rfl 2 rfl ?_
  refine V_bipush X (10 : Int32) dX7_drops_80 (by decide) ?_
  refine V_aload_n X dX7_drops_82 rfl 0 rfl ?_
  refine V_get X dX7_drops_83 r_X7_72 (gm7 hM) rfl rfl ?_
  obtain ⟨Z19, eZ19, hs⟩ := bd_some hs
  refine V_callVv X [.int p2, .int (10 : Int32), .int (Z17 7 0 0 13)] dX7_drops_86 m_X7_100 v_X7_setsChute ⟨Nat.le_of_ble_eq_true rfl, Nat.le_of_ble_eq_true rfl⟩ ⟨Nat.zero_le _, Nat.zero_le _⟩ rfl (Nat.le_of_ble_eq_true rfl) (gm7 hM) rfl cl7 (c_X7_setsChute hM eZ19) ?_
  refine V_aload_n X dX7_drops_89 rfl 0 rfl ?_
  refine V_iload_n X dX7_drops_90 rfl 2 rfl ?_
  refine V_bipush X (11 : Int32) dX7_drops_91 (by decide) ?_
  refine V_iconst X (1 : Int32) dX7_drops_93 (by decide) ?_
  obtain ⟨Z21, eZ21, hs⟩ := bd_some hs
  refine V_callVv X [.int p2, .int (11 : Int32), .int (1 : Int32)] dX7_drops_94 m_X7_176 v_X7_addsChute ⟨Nat.le_of_ble_eq_true rfl, Nat.le_of_ble_eq_true rfl⟩ ⟨Nat.zero_le _, Nat.zero_le _⟩ rfl (Nat.le_of_ble_eq_true rfl) (gm7 hM) rfl cl7 (c_X7_addsChute hM eZ21) ?_
  refine V_aload_n X dX7_drops_97 rfl 0 rfl ?_
  refine V_iload_n X dX7_drops_98 rfl 2 rfl ?_
  refine V_bipush X (6 : Int32) dX7_drops_99 (by decide) ?_
  refine V_iconst X (1 : Int32) dX7_drops_101 (by decide) ?_
  obtain ⟨Z23, eZ23, hs⟩ := bd_some hs
  refine V_callVv X [.int p2, .int (6 : Int32), .int (1 : Int32)] dX7_drops_102 m_X7_176 v_X7_addsChute ⟨Nat.le_of_ble_eq_true rfl, Nat.le_of_ble_eq_true rfl⟩ ⟨Nat.zero_le _, Nat.zero_le _⟩ rfl (Nat.le_of_ble_eq_true rfl) (gm7 hM) rfl cl7 (c_X7_addsChute hM eZ23) ?_
  refine V_aload_n X dX7_drops_105 rfl 0 rfl ?_
  refine V_iload_n X dX7_drops_106 rfl 2 rfl ?_
  refine V_bipush X (6 : Int32) dX7_drops_107 (by decide) ?_
  obtain ⟨q24, eq24, hs⟩ := bd_some hs
  refine V_callVs X [.int p2, .int (6 : Int32)] dX7_drops_109 m_X7_90 v_X7_ofChute ⟨Nat.le_of_ble_eq_true rfl, Nat.le_of_ble_eq_true rfl⟩ ⟨Nat.zero_le _, Nat.zero_le _⟩ rfl (Nat.le_of_ble_eq_true rfl) (gm7 hM) rfl cl7 (c_X7_ofChute hM eq24) ?_
  refine V_aload_n X dX7_drops_112 rfl 0 rfl ?_
  refine V_iload_n X dX7_drops_113 rfl 2 rfl ?_
  refine V_iconst X (1 : Int32) dX7_drops_114 (by decide) ?_
  obtain ⟨q25, eq25, hs⟩ := bd_some hs
  refine V_callVs X [.int p2, .int (1 : Int32)] dX7_drops_115 m_X7_90 v_X7_ofChute ⟨Nat.le_of_ble_eq_true rfl, Nat.le_of_ble_eq_true rfl⟩ ⟨Nat.zero_le _, Nat.zero_le _⟩ rfl (Nat.le_of_ble_eq_true rfl) (gm7 hM) rfl cl7 (c_X7_ofChute hM eq25) ?_
  refine V_icmp_ge X 122 dX7_drops_118 (by decide) (fun c26 => ?_) (fun c26 => ?_)
  · replace hs := if_t hs c26
    refine V_aload_n X dX7_drops_122 rfl 0 rfl ?_
    refine V_iload_n X dX7_drops_123 rfl 2 rfl ?_
    refine V_bipush X (14 : Int32) dX7_drops_124 (by decide) ?_
    refine V_iconst X (1 : Int32) dX7_drops_126 (by decide) ?_
    obtain ⟨Z28, eZ28, hs⟩ := bd_some hs
    refine V_callVv X [.int p2, .int (14 : Int32), .int (1 : Int32)] dX7_drops_127 m_X7_176 v_X7_addsChute ⟨Nat.le_of_ble_eq_true rfl, Nat.le_of_ble_eq_true rfl⟩ ⟨Nat.zero_le _, Nat.zero_le _⟩ rfl (Nat.le_of_ble_eq_true rfl) (gm7 hM) rfl cl7 (c_X7_addsChute hM eZ28) ?_
    refine V_aload_n X dX7_drops_130 rfl 0 rfl ?_
    refine V_iload_n X dX7_drops_131 rfl 2 rfl ?_
    refine V_bipush X (8 : Int32) dX7_drops_132 (by decide) ?_
    refine V_aload_n X dX7_drops_134 rfl 0 rfl ?_
    refine V_iload_n X dX7_drops_135 rfl 2 rfl ?_
    refine V_iconst X (5 : Int32) dX7_drops_136 (by decide) ?_
    obtain ⟨q29, eq29, hs⟩ := bd_some hs
    refine V_callVs X [.int p2, .int (5 : Int32)] dX7_drops_137 m_X7_90 v_X7_ofChute ⟨Nat.le_of_ble_eq_true rfl, Nat.le_of_ble_eq_true rfl⟩ ⟨Nat.zero_le _, Nat.zero_le _⟩ rfl (Nat.le_of_ble_eq_true rfl) (gm7 hM) rfl cl7 (c_X7_ofChute hM eq29) ?_
    obtain ⟨Z31, eZ31, hs⟩ := bd_some hs
    refine V_callVv X [.int p2, .int (8 : Int32), .int q29] dX7_drops_140 m_X7_100 v_X7_setsChute ⟨Nat.le_of_ble_eq_true rfl, Nat.le_of_ble_eq_true rfl⟩ ⟨Nat.zero_le _, Nat.zero_le _⟩ rfl (Nat.le_of_ble_eq_true rfl) (gm7 hM) rfl cl7 (c_X7_setsChute hM eZ31) ?_
    refine V_aload_n X dX7_drops_143 rfl 0 rfl ?_
    refine V_iload_n X dX7_drops_144 rfl 2 rfl ?_
    refine V_iconst X (5 : Int32) dX7_drops_145 (by decide) ?_
    obtain ⟨q32, eq32, hs⟩ := bd_some hs
    refine V_callVs X [.int p2, .int (5 : Int32)] dX7_drops_146 m_X7_90 v_X7_ofChute ⟨Nat.le_of_ble_eq_true rfl, Nat.le_of_ble_eq_true rfl⟩ ⟨Nat.zero_le _, Nat.zero_le _⟩ rfl (Nat.le_of_ble_eq_true rfl) (gm7 hM) rfl cl7 (c_X7_ofChute hM eq32) ?_
    refine V_if_ne X 160 dX7_drops_149 (by decide) (fun c33 => ?_) (fun c33 => ?_)
    · replace hs := if_f hs c33
      obtain rfl := Option.some.inj hs; exact V_vret X hr dX7_drops_160
    · replace hs := if_t hs c33
      refine V_aload_n X dX7_drops_152 rfl 0 rfl ?_
      refine V_iload_n X dX7_drops_153 rfl 2 rfl ?_
      refine V_bipush X (6 : Int32) dX7_drops_154 (by decide) ?_
      refine V_iconst X (0 : Int32) dX7_drops_156 (by decide) ?_
      obtain ⟨Z35, eZ35, hs⟩ := bd_some hs
      refine V_callVv X [.int p2, .int (6 : Int32), .int (0 : Int32)] dX7_drops_157 m_X7_100 v_X7_setsChute ⟨Nat.le_of_ble_eq_true rfl, Nat.le_of_ble_eq_true rfl⟩ ⟨Nat.zero_le _, Nat.zero_le _⟩ rfl (Nat.le_of_ble_eq_true rfl) (gm7 hM) rfl cl7 (c_X7_setsChute hM eZ35) ?_
      obtain rfl := Option.some.inj hs; exact V_vret X hr dX7_drops_160
  · replace hs := if_f hs c26
    obtain rfl := Option.some.inj hs; exact V_vret X hr dX7_drops_121

def s_X7_tries (fu : Nat) (p1 : Int32) (p2 : Int32) (S : S4) : Option S4 := (s_X7_ofParcel p1 (2 : Int32) S).bind fun q1 => (s_X7_ofChute p2 (3 : Int32) S).bind fun q2 => ((if q1 ≤ q2 then some (0 : Int32) else some (1 : Int32))).bind fun q3 => (s_X7_ofChute p2 (10 : Int32) S).bind fun q4 => ((if q4 < 0 then some (0 : Int32) else (s_X7_ofChute p2 (10 : Int32) S).bind fun q73 => (s_X7_ofChute p2 (2 : Int32) S).bind fun q74 => (if q74 ≤ ((S 7 0 0 13) - q73) then some (0 : Int32) else some (1 : Int32)))).bind fun q5 => (s_X7_isUsable p2 S).bind fun q6 => (if q6 = 0 then (s_X7_setsParcel p1 (7 : Int32) (-1 : Int32) S).bind fun Z9 => (s_X7_isUsable p2 Z9).bind fun q10 => (if q10 = 0 then (s_X7_addsChute p2 (13 : Int32) (1 : Int32) Z9).bind fun Z27 => some Z27 else (if q3 = 0 then (s_X7_ofChute p2 (4 : Int32) Z9).bind fun q13 => (s_X7_setsChute p2 (7 : Int32) q13 Z9).bind fun Z15 => (s_X7_addsChute p2 (12 : Int32) (1 : Int32) Z15).bind fun Z17 => some Z17 else (s_X7_ofParcel p1 (11 : Int32) Z9).bind fun q18 => (s_X7_setsParcel p1 (11 : Int32) (q18 ||| ((1 : Int32) <<< (p2 &&& 31))) Z9).bind fun Z20 => (s_X7_ofChute p2 (4 : Int32) Z20).bind fun q21 => (s_X7_setsChute p2 (7 : Int32) q21 Z20).bind fun Z23 => (s_X7_addsChute p2 (12 : Int32) (1 : Int32) Z23).bind fun Z25 => some Z25)) else (if q3 = 0 then (if q5 = 0 then (s_X7_drops fu p1 p2 S).bind fun Z71 => some Z71 else (s_X7_setsParcel p1 (7 : Int32) (-1 : Int32) S).bind fun Z51 => (s_X7_isUsable p2 Z51).bind fun q52 => (if q52 = 0 then (s_X7_addsChute p2 (13 : Int32) (1 : Int32) Z51).bind fun Z69 => some Z69 else (if q3 = 0 then (s_X7_ofChute p2 (4 : Int32) Z51).bind fun q55 => (s_X7_setsChute p2 (7 : Int32) q55 Z51).bind fun Z57 => (s_X7_addsChute p2 (12 : Int32) (1 : Int32) Z57).bind fun Z59 => some Z59 else (s_X7_ofParcel p1 (11 : Int32) Z51).bind fun q60 => (s_X7_setsParcel p1 (11 : Int32) (q60 ||| ((1 : Int32) <<< (p2 &&& 31))) Z51).bind fun Z62 => (s_X7_ofChute p2 (4 : Int32) Z62).bind fun q63 => (s_X7_setsChute p2 (7 : Int32) q63 Z62).bind fun Z65 => (s_X7_addsChute p2 (12 : Int32) (1 : Int32) Z65).bind fun Z67 => some Z67))) else (s_X7_setsParcel p1 (7 : Int32) (-1 : Int32) S).bind fun Z30 => (s_X7_isUsable p2 Z30).bind fun q31 => (if q31 = 0 then (s_X7_addsChute p2 (13 : Int32) (1 : Int32) Z30).bind fun Z48 => some Z48 else (if q3 = 0 then (s_X7_ofChute p2 (4 : Int32) Z30).bind fun q34 => (s_X7_setsChute p2 (7 : Int32) q34 Z30).bind fun Z36 => (s_X7_addsChute p2 (12 : Int32) (1 : Int32) Z36).bind fun Z38 => some Z38 else (s_X7_ofParcel p1 (11 : Int32) Z30).bind fun q39 => (s_X7_setsParcel p1 (11 : Int32) (q39 ||| ((1 : Int32) <<< (p2 &&& 31))) Z30).bind fun Z41 => (s_X7_ofChute p2 (4 : Int32) Z41).bind fun q42 => (s_X7_setsChute p2 (7 : Int32) q42 Z41).bind fun Z44 => (s_X7_addsChute p2 (12 : Int32) (1 : Int32) Z44).bind fun Z46 => some Z46))))
set_option maxRecDepth 100000 in
set_option maxHeartbeats 4000000 in
theorem c_X7_tries {l : Launch} {D : va_G} {cA : Nat → ClassId} {dm : Dm} {ad : Ad} {fu : Nat} {S : S4} {p1 : Int32} {p2 : Int32} (hM : DM dm) {out : S4} (hs : s_X7_tries fu p1 p2 S = some out) : Ct D cA dm ad l yX7_tries cX7_tries 5 none 4 93 S [.ref (ad 7 0 0), .int p1, .int p2] none out := by
  refine Ct.of (by decide +kernel) (Nat.le_of_ble_eq_true rfl) [(0, .ref (ad 7 0 0)), (1, .int p1), (2, .int p2)] rfl (fun p e s m args below meth c A X hr => ?_)
  unfold s_X7_tries at hs
  refine V_aload_n X dX7_tries_0 rfl 0 rfl ?_
  refine V_iload_n X dX7_tries_1 rfl 1 rfl ?_
  refine V_iconst X (2 : Int32) dX7_tries_2 (by decide) ?_
  obtain ⟨q1, eq1, hs⟩ := bd_some hs
  refine V_callVs X [.int p1, .int (2 : Int32)] dX7_tries_3 m_X7_160 v_X7_ofParcel ⟨Nat.le_of_ble_eq_true rfl, Nat.le_of_ble_eq_true rfl⟩ ⟨Nat.zero_le _, Nat.zero_le _⟩ rfl (Nat.le_of_ble_eq_true rfl) (gm7 hM) rfl cl7 (c_X7_ofParcel hM eq1) ?_
  refine V_aload_n X dX7_tries_6 rfl 0 rfl ?_
  refine V_iload_n X dX7_tries_7 rfl 2 rfl ?_
  refine V_iconst X (3 : Int32) dX7_tries_8 (by decide) ?_
  obtain ⟨q2, eq2, hs⟩ := bd_some hs
  refine V_callVs X [.int p2, .int (3 : Int32)] dX7_tries_9 m_X7_90 v_X7_ofChute ⟨Nat.le_of_ble_eq_true rfl, Nat.le_of_ble_eq_true rfl⟩ ⟨Nat.zero_le _, Nat.zero_le _⟩ rfl (Nat.le_of_ble_eq_true rfl) (gm7 hM) rfl cl7 (c_X7_ofChute hM eq2) ?_
  refine jn (P := fun q => V D cA dm ad A 5 p l e ({ frames := 4, cells := 0, slots := 0, locals := 93 }) s m args below meth c 0 0 (MQ below (gQ D cA dm ad out none A) args s 0 0 A) S 20 [(0, .ref (ad 7 0 0)), (1, .int p1), (2, .int p2)] [.int q]) hs (fun q3 hs => ?_) (fun J20 hs => ?_)
  · refine V_istore_n X dX7_tries_20 rfl [(3, .int q3), (0, .ref (ad 7 0 0)), (1, .int p1), (2, .int p2)] (by decide) rfl ?_
    refine V_aload_n X dX7_tries_21 rfl 1 rfl ?_
    refine V_iload_n X dX7_tries_22 rfl 3 rfl ?_
    refine V_bipush X (10 : Int32) dX7_tries_23 (by decide) ?_
    obtain ⟨q4, eq4, hs⟩ := bd_some hs
    refine V_callVs X [.int p2, .int (10 : Int32)] dX7_tries_25 m_X7_90 v_X7_ofChute ⟨Nat.le_of_ble_eq_true rfl, Nat.le_of_ble_eq_true rfl⟩ ⟨Nat.zero_le _, Nat.zero_le _⟩ rfl (Nat.le_of_ble_eq_true rfl) (gm7 hM) rfl cl7 (c_X7_ofChute hM eq4) ?_
    refine jn (P := fun q => V D cA dm ad A 5 p l e ({ frames := 4, cells := 0, slots := 0, locals := 93 }) s m args below meth c 0 0 (MQ below (gQ D cA dm ad out none A) args s 0 0 A) S 57 [(3, .int q3), (0, .ref (ad 7 0 0)), (1, .int p1), (2, .int p2)] [.int q]) hs (fun q5 hs => ?_) (fun J57 hs => ?_)
    · refine V_istore X dX7_tries_57 [(4, .int q5), (3, .int q3), (0, .ref (ad 7 0 0)), (1, .int p1), (2, .int p2)] (by decide) rfl ?_
      refine V_aload_n X dX7_tries_59 rfl 2 rfl ?_
      refine V_iload_n X dX7_tries_60 rfl 4 rfl ?_
      obtain ⟨q6, eq6, hs⟩ := bd_some hs
      refine V_callVs X [.int p2] dX7_tries_61 m_X7_169 v_X7_isUsable ⟨Nat.le_of_ble_eq_true rfl, Nat.le_of_ble_eq_true rfl⟩ ⟨Nat.zero_le _, Nat.zero_le _⟩ rfl (Nat.le_of_ble_eq_true rfl) (gm7 hM) rfl cl7 (c_X7_isUsable hM eq6) ?_
      refine V_if_eq X 83 dX7_tries_64 (by decide) (fun c7 => ?_) (fun c7 => ?_)
      · replace hs := if_t hs c7
        refine V_aload_n X dX7_tries_83 rfl 2 rfl ?_
        refine V_iload_n X dX7_tries_84 rfl 3 rfl ?_
        refine V_bipush X (7 : Int32) dX7_tries_85 (by decide) ?_
        refine V_iconst X (-1 : Int32) dX7_tries_87 (by decide) ?_
        obtain ⟨Z9, eZ9, hs⟩ := bd_some hs
        refine V_callVv X [.int p1, .int (7 : Int32), .int (-1 : Int32)] dX7_tries_88 m_X7_163 v_X7_setsParcel ⟨Nat.le_of_ble_eq_true rfl, Nat.le_of_ble_eq_true rfl⟩ ⟨Nat.zero_le _, Nat.zero_le _⟩ rfl (Nat.le_of_ble_eq_true rfl) (gm7 hM) rfl cl7 (c_X7_setsParcel hM eZ9) ?_
        refine V_aload_n X dX7_tries_91 rfl 2 rfl ?_
        refine V_iload_n X dX7_tries_92 rfl 4 rfl ?_
        obtain ⟨q10, eq10, hs⟩ := bd_some hs
        refine V_callVs X [.int p2] dX7_tries_93 m_X7_169 v_X7_isUsable ⟨Nat.le_of_ble_eq_true rfl, Nat.le_of_ble_eq_true rfl⟩ ⟨Nat.zero_le _, Nat.zero_le _⟩ rfl (Nat.le_of_ble_eq_true rfl) (gm7 hM) rfl cl7 (c_X7_isUsable hM eq10) ?_
        refine V_if_ne X 108 dX7_tries_96 (by decide) (fun c11 => ?_) (fun c11 => ?_)
        · replace hs := if_f hs c11
          refine V_iload_n X dX7_tries_108 rfl 1 rfl ?_
          refine V_if_eq X 130 dX7_tries_109 (by decide) (fun c12 => ?_) (fun c12 => ?_)
          · replace hs := if_t hs c12
            refine V_aload_n X dX7_tries_130 rfl 2 rfl ?_
            refine V_iload_n X dX7_tries_131 rfl 4 rfl ?_
            refine V_bipush X (7 : Int32) dX7_tries_132 (by decide) ?_
            refine V_aload_n X dX7_tries_134 rfl 2 rfl ?_
            refine V_iload_n X dX7_tries_135 rfl 4 rfl ?_
            refine V_iconst X (4 : Int32) dX7_tries_136 (by decide) ?_
            obtain ⟨q13, eq13, hs⟩ := bd_some hs
            refine V_callVs X [.int p2, .int (4 : Int32)] dX7_tries_137 m_X7_90 v_X7_ofChute ⟨Nat.le_of_ble_eq_true rfl, Nat.le_of_ble_eq_true rfl⟩ ⟨Nat.zero_le _, Nat.zero_le _⟩ rfl (Nat.le_of_ble_eq_true rfl) (gm7 hM) rfl cl7 (c_X7_ofChute hM eq13) ?_
            obtain ⟨Z15, eZ15, hs⟩ := bd_some hs
            refine V_callVv X [.int p2, .int (7 : Int32), .int q13] dX7_tries_140 m_X7_100 v_X7_setsChute ⟨Nat.le_of_ble_eq_true rfl, Nat.le_of_ble_eq_true rfl⟩ ⟨Nat.zero_le _, Nat.zero_le _⟩ rfl (Nat.le_of_ble_eq_true rfl) (gm7 hM) rfl cl7 (c_X7_setsChute hM eZ15) ?_
            refine V_aload_n X dX7_tries_143 rfl 2 rfl ?_
            refine V_iload_n X dX7_tries_144 rfl 4 rfl ?_
            refine V_bipush X (12 : Int32) dX7_tries_145 (by decide) ?_
            refine V_iconst X (1 : Int32) dX7_tries_147 (by decide) ?_
            obtain ⟨Z17, eZ17, hs⟩ := bd_some hs
            refine V_callVv X [.int p2, .int (12 : Int32), .int (1 : Int32)] dX7_tries_148 m_X7_176 v_X7_addsChute ⟨Nat.le_of_ble_eq_true rfl, Nat.le_of_ble_eq_true rfl⟩ ⟨Nat.zero_le _, Nat.zero_le _⟩ rfl (Nat.le_of_ble_eq_true rfl) (gm7 hM) rfl cl7 (c_X7_addsChute hM eZ17) ?_
            obtain rfl := Option.some.inj hs; exact V_vret X hr dX7_tries_151
          · replace hs := if_f hs c12
            refine V_aload_n X dX7_tries_112 rfl 2 rfl ?_
            refine V_iload_n X dX7_tries_113 rfl 3 rfl ?_
            refine V_bipush X (11 : Int32) dX7_tries_114 (by decide) ?_
            refine V_aload_n X dX7_tries_116 rfl 2 rfl ?_
            refine V_iload_n X dX7_tries_117 rfl 3 rfl ?_
            refine V_bipush X (11 : Int32) dX7_tries_118 (by decide) ?_
            obtain ⟨q18, eq18, hs⟩ := bd_some hs
            refine V_callVs X [.int p1, .int (11 : Int32)] dX7_tries_120 m_X7_160 v_X7_ofParcel ⟨Nat.le_of_ble_eq_true rfl, Nat.le_of_ble_eq_true rfl⟩ ⟨Nat.zero_le _, Nat.zero_le _⟩ rfl (Nat.le_of_ble_eq_true rfl) (gm7 hM) rfl cl7 (c_X7_ofParcel hM eq18) ?_
            refine V_iconst X (1 : Int32) dX7_tries_123 (by decide) ?_
            refine V_iload_n X dX7_tries_124 rfl 4 rfl ?_
            refine V_ishl X dX7_tries_125 ?_
            refine V_ior X dX7_tries_126 ?_
            obtain ⟨Z20, eZ20, hs⟩ := bd_some hs
            refine V_callVv X [.int p1, .int (11 : Int32), .int (q18 ||| ((1 : Int32) <<< (p2 &&& 31)))] dX7_tries_127 m_X7_163 v_X7_setsParcel ⟨Nat.le_of_ble_eq_true rfl, Nat.le_of_ble_eq_true rfl⟩ ⟨Nat.zero_le _, Nat.zero_le _⟩ rfl (Nat.le_of_ble_eq_true rfl) (gm7 hM) rfl cl7 (c_X7_setsParcel hM eZ20) ?_
            refine V_aload_n X dX7_tries_130 rfl 2 rfl ?_
            refine V_iload_n X dX7_tries_131 rfl 4 rfl ?_
            refine V_bipush X (7 : Int32) dX7_tries_132 (by decide) ?_
            refine V_aload_n X dX7_tries_134 rfl 2 rfl ?_
            refine V_iload_n X dX7_tries_135 rfl 4 rfl ?_
            refine V_iconst X (4 : Int32) dX7_tries_136 (by decide) ?_
            obtain ⟨q21, eq21, hs⟩ := bd_some hs
            refine V_callVs X [.int p2, .int (4 : Int32)] dX7_tries_137 m_X7_90 v_X7_ofChute ⟨Nat.le_of_ble_eq_true rfl, Nat.le_of_ble_eq_true rfl⟩ ⟨Nat.zero_le _, Nat.zero_le _⟩ rfl (Nat.le_of_ble_eq_true rfl) (gm7 hM) rfl cl7 (c_X7_ofChute hM eq21) ?_
            obtain ⟨Z23, eZ23, hs⟩ := bd_some hs
            refine V_callVv X [.int p2, .int (7 : Int32), .int q21] dX7_tries_140 m_X7_100 v_X7_setsChute ⟨Nat.le_of_ble_eq_true rfl, Nat.le_of_ble_eq_true rfl⟩ ⟨Nat.zero_le _, Nat.zero_le _⟩ rfl (Nat.le_of_ble_eq_true rfl) (gm7 hM) rfl cl7 (c_X7_setsChute hM eZ23) ?_
            refine V_aload_n X dX7_tries_143 rfl 2 rfl ?_
            refine V_iload_n X dX7_tries_144 rfl 4 rfl ?_
            refine V_bipush X (12 : Int32) dX7_tries_145 (by decide) ?_
            refine V_iconst X (1 : Int32) dX7_tries_147 (by decide) ?_
            obtain ⟨Z25, eZ25, hs⟩ := bd_some hs
            refine V_callVv X [.int p2, .int (12 : Int32), .int (1 : Int32)] dX7_tries_148 m_X7_176 v_X7_addsChute ⟨Nat.le_of_ble_eq_true rfl, Nat.le_of_ble_eq_true rfl⟩ ⟨Nat.zero_le _, Nat.zero_le _⟩ rfl (Nat.le_of_ble_eq_true rfl) (gm7 hM) rfl cl7 (c_X7_addsChute hM eZ25) ?_
            obtain rfl := Option.some.inj hs; exact V_vret X hr dX7_tries_151
        · replace hs := if_t hs c11
          refine V_aload_n X dX7_tries_99 rfl 2 rfl ?_
          refine V_iload_n X dX7_tries_100 rfl 4 rfl ?_
          refine V_bipush X (13 : Int32) dX7_tries_101 (by decide) ?_
          refine V_iconst X (1 : Int32) dX7_tries_103 (by decide) ?_
          obtain ⟨Z27, eZ27, hs⟩ := bd_some hs
          refine V_callVv X [.int p2, .int (13 : Int32), .int (1 : Int32)] dX7_tries_104 m_X7_176 v_X7_addsChute ⟨Nat.le_of_ble_eq_true rfl, Nat.le_of_ble_eq_true rfl⟩ ⟨Nat.zero_le _, Nat.zero_le _⟩ rfl (Nat.le_of_ble_eq_true rfl) (gm7 hM) rfl cl7 (c_X7_addsChute hM eZ27) ?_
          obtain rfl := Option.some.inj hs; exact V_vret X hr dX7_tries_107
      · replace hs := if_f hs c7
        refine V_iload_n X dX7_tries_67 rfl 1 rfl ?_
        refine V_if_ne X 83 dX7_tries_68 (by decide) (fun c28 => ?_) (fun c28 => ?_)
        · replace hs := if_f hs c28
          refine V_aload_n X dX7_tries_83 rfl 2 rfl ?_
          refine V_iload_n X dX7_tries_84 rfl 3 rfl ?_
          refine V_bipush X (7 : Int32) dX7_tries_85 (by decide) ?_
          refine V_iconst X (-1 : Int32) dX7_tries_87 (by decide) ?_
          obtain ⟨Z30, eZ30, hs⟩ := bd_some hs
          refine V_callVv X [.int p1, .int (7 : Int32), .int (-1 : Int32)] dX7_tries_88 m_X7_163 v_X7_setsParcel ⟨Nat.le_of_ble_eq_true rfl, Nat.le_of_ble_eq_true rfl⟩ ⟨Nat.zero_le _, Nat.zero_le _⟩ rfl (Nat.le_of_ble_eq_true rfl) (gm7 hM) rfl cl7 (c_X7_setsParcel hM eZ30) ?_
          refine V_aload_n X dX7_tries_91 rfl 2 rfl ?_
          refine V_iload_n X dX7_tries_92 rfl 4 rfl ?_
          obtain ⟨q31, eq31, hs⟩ := bd_some hs
          refine V_callVs X [.int p2] dX7_tries_93 m_X7_169 v_X7_isUsable ⟨Nat.le_of_ble_eq_true rfl, Nat.le_of_ble_eq_true rfl⟩ ⟨Nat.zero_le _, Nat.zero_le _⟩ rfl (Nat.le_of_ble_eq_true rfl) (gm7 hM) rfl cl7 (c_X7_isUsable hM eq31) ?_
          refine V_if_ne X 108 dX7_tries_96 (by decide) (fun c32 => ?_) (fun c32 => ?_)
          · replace hs := if_f hs c32
            refine V_iload_n X dX7_tries_108 rfl 1 rfl ?_
            refine V_if_eq X 130 dX7_tries_109 (by decide) (fun c33 => ?_) (fun c33 => ?_)
            · replace hs := if_t hs c33
              refine V_aload_n X dX7_tries_130 rfl 2 rfl ?_
              refine V_iload_n X dX7_tries_131 rfl 4 rfl ?_
              refine V_bipush X (7 : Int32) dX7_tries_132 (by decide) ?_
              refine V_aload_n X dX7_tries_134 rfl 2 rfl ?_
              refine V_iload_n X dX7_tries_135 rfl 4 rfl ?_
              refine V_iconst X (4 : Int32) dX7_tries_136 (by decide) ?_
              obtain ⟨q34, eq34, hs⟩ := bd_some hs
              refine V_callVs X [.int p2, .int (4 : Int32)] dX7_tries_137 m_X7_90 v_X7_ofChute ⟨Nat.le_of_ble_eq_true rfl, Nat.le_of_ble_eq_true rfl⟩ ⟨Nat.zero_le _, Nat.zero_le _⟩ rfl (Nat.le_of_ble_eq_true rfl) (gm7 hM) rfl cl7 (c_X7_ofChute hM eq34) ?_
              obtain ⟨Z36, eZ36, hs⟩ := bd_some hs
              refine V_callVv X [.int p2, .int (7 : Int32), .int q34] dX7_tries_140 m_X7_100 v_X7_setsChute ⟨Nat.le_of_ble_eq_true rfl, Nat.le_of_ble_eq_true rfl⟩ ⟨Nat.zero_le _, Nat.zero_le _⟩ rfl (Nat.le_of_ble_eq_true rfl) (gm7 hM) rfl cl7 (c_X7_setsChute hM eZ36) ?_
              refine V_aload_n X dX7_tries_143 rfl 2 rfl ?_
              refine V_iload_n X dX7_tries_144 rfl 4 rfl ?_
              refine V_bipush X (12 : Int32) dX7_tries_145 (by decide) ?_
              refine V_iconst X (1 : Int32) dX7_tries_147 (by decide) ?_
              obtain ⟨Z38, eZ38, hs⟩ := bd_some hs
              refine V_callVv X [.int p2, .int (12 : Int32), .int (1 : Int32)] dX7_tries_148 m_X7_176 v_X7_addsChute ⟨Nat.le_of_ble_eq_true rfl, Nat.le_of_ble_eq_true rfl⟩ ⟨Nat.zero_le _, Nat.zero_le _⟩ rfl (Nat.le_of_ble_eq_true rfl) (gm7 hM) rfl cl7 (c_X7_addsChute hM eZ38) ?_
              obtain rfl := Option.some.inj hs; exact V_vret X hr dX7_tries_151
            · replace hs := if_f hs c33
              refine V_aload_n X dX7_tries_112 rfl 2 rfl ?_
              refine V_iload_n X dX7_tries_113 rfl 3 rfl ?_
              refine V_bipush X (11 : Int32) dX7_tries_114 (by decide) ?_
              refine V_aload_n X dX7_tries_116 rfl 2 rfl ?_
              refine V_iload_n X dX7_tries_117 rfl 3 rfl ?_
              refine V_bipush X (11 : Int32) dX7_tries_118 (by decide) ?_
              obtain ⟨q39, eq39, hs⟩ := bd_some hs
              refine V_callVs X [.int p1, .int (11 : Int32)] dX7_tries_120 m_X7_160 v_X7_ofParcel ⟨Nat.le_of_ble_eq_true rfl, Nat.le_of_ble_eq_true rfl⟩ ⟨Nat.zero_le _, Nat.zero_le _⟩ rfl (Nat.le_of_ble_eq_true rfl) (gm7 hM) rfl cl7 (c_X7_ofParcel hM eq39) ?_
              refine V_iconst X (1 : Int32) dX7_tries_123 (by decide) ?_
              refine V_iload_n X dX7_tries_124 rfl 4 rfl ?_
              refine V_ishl X dX7_tries_125 ?_
              refine V_ior X dX7_tries_126 ?_
              obtain ⟨Z41, eZ41, hs⟩ := bd_some hs
              refine V_callVv X [.int p1, .int (11 : Int32), .int (q39 ||| ((1 : Int32) <<< (p2 &&& 31)))] dX7_tries_127 m_X7_163 v_X7_setsParcel ⟨Nat.le_of_ble_eq_true rfl, Nat.le_of_ble_eq_true rfl⟩ ⟨Nat.zero_le _, Nat.zero_le _⟩ rfl (Nat.le_of_ble_eq_true rfl) (gm7 hM) rfl cl7 (c_X7_setsParcel hM eZ41) ?_
              refine V_aload_n X dX7_tries_130 rfl 2 rfl ?_
              refine V_iload_n X dX7_tries_131 rfl 4 rfl ?_
              refine V_bipush X (7 : Int32) dX7_tries_132 (by decide) ?_
              refine V_aload_n X dX7_tries_134 rfl 2 rfl ?_
              refine V_iload_n X dX7_tries_135 rfl 4 rfl ?_
              refine V_iconst X (4 : Int32) dX7_tries_136 (by decide) ?_
              obtain ⟨q42, eq42, hs⟩ := bd_some hs
              refine V_callVs X [.int p2, .int (4 : Int32)] dX7_tries_137 m_X7_90 v_X7_ofChute ⟨Nat.le_of_ble_eq_true rfl, Nat.le_of_ble_eq_true rfl⟩ ⟨Nat.zero_le _, Nat.zero_le _⟩ rfl (Nat.le_of_ble_eq_true rfl) (gm7 hM) rfl cl7 (c_X7_ofChute hM eq42) ?_
              obtain ⟨Z44, eZ44, hs⟩ := bd_some hs
              refine V_callVv X [.int p2, .int (7 : Int32), .int q42] dX7_tries_140 m_X7_100 v_X7_setsChute ⟨Nat.le_of_ble_eq_true rfl, Nat.le_of_ble_eq_true rfl⟩ ⟨Nat.zero_le _, Nat.zero_le _⟩ rfl (Nat.le_of_ble_eq_true rfl) (gm7 hM) rfl cl7 (c_X7_setsChute hM eZ44) ?_
              refine V_aload_n X dX7_tries_143 rfl 2 rfl ?_
              refine V_iload_n X dX7_tries_144 rfl 4 rfl ?_
              refine V_bipush X (12 : Int32) dX7_tries_145 (by decide) ?_
              refine V_iconst X (1 : Int32) dX7_tries_147 (by decide) ?_
              obtain ⟨Z46, eZ46, hs⟩ := bd_some hs
              refine V_callVv X [.int p2, .int (12 : Int32), .int (1 : Int32)] dX7_tries_148 m_X7_176 v_X7_addsChute ⟨Nat.le_of_ble_eq_true rfl, Nat.le_of_ble_eq_true rfl⟩ ⟨Nat.zero_le _, Nat.zero_le _⟩ rfl (Nat.le_of_ble_eq_true rfl) (gm7 hM) rfl cl7 (c_X7_addsChute hM eZ46) ?_
              obtain rfl := Option.some.inj hs; exact V_vret X hr dX7_tries_151
          · replace hs := if_t hs c32
            refine V_aload_n X dX7_tries_99 rfl 2 rfl ?_
            refine V_iload_n X dX7_tries_100 rfl 4 rfl ?_
            refine V_bipush X (13 : Int32) dX7_tries_101 (by decide) ?_
            refine V_iconst X (1 : Int32) dX7_tries_103 (by decide) ?_
            obtain ⟨Z48, eZ48, hs⟩ := bd_some hs
            refine V_callVv X [.int p2, .int (13 : Int32), .int (1 : Int32)] dX7_tries_104 m_X7_176 v_X7_addsChute ⟨Nat.le_of_ble_eq_true rfl, Nat.le_of_ble_eq_true rfl⟩ ⟨Nat.zero_le _, Nat.zero_le _⟩ rfl (Nat.le_of_ble_eq_true rfl) (gm7 hM) rfl cl7 (c_X7_addsChute hM eZ48) ?_
            obtain rfl := Option.some.inj hs; exact V_vret X hr dX7_tries_107
        · replace hs := if_t hs c28
          refine V_iload X dX7_tries_71 0 rfl ?_
          refine V_if_ne X 83 dX7_tries_73 (by decide) (fun c49 => ?_) (fun c49 => ?_)
          · replace hs := if_f hs c49
            refine V_aload_n X dX7_tries_83 rfl 2 rfl ?_
            refine V_iload_n X dX7_tries_84 rfl 3 rfl ?_
            refine V_bipush X (7 : Int32) dX7_tries_85 (by decide) ?_
            refine V_iconst X (-1 : Int32) dX7_tries_87 (by decide) ?_
            obtain ⟨Z51, eZ51, hs⟩ := bd_some hs
            refine V_callVv X [.int p1, .int (7 : Int32), .int (-1 : Int32)] dX7_tries_88 m_X7_163 v_X7_setsParcel ⟨Nat.le_of_ble_eq_true rfl, Nat.le_of_ble_eq_true rfl⟩ ⟨Nat.zero_le _, Nat.zero_le _⟩ rfl (Nat.le_of_ble_eq_true rfl) (gm7 hM) rfl cl7 (c_X7_setsParcel hM eZ51) ?_
            refine V_aload_n X dX7_tries_91 rfl 2 rfl ?_
            refine V_iload_n X dX7_tries_92 rfl 4 rfl ?_
            obtain ⟨q52, eq52, hs⟩ := bd_some hs
            refine V_callVs X [.int p2] dX7_tries_93 m_X7_169 v_X7_isUsable ⟨Nat.le_of_ble_eq_true rfl, Nat.le_of_ble_eq_true rfl⟩ ⟨Nat.zero_le _, Nat.zero_le _⟩ rfl (Nat.le_of_ble_eq_true rfl) (gm7 hM) rfl cl7 (c_X7_isUsable hM eq52) ?_
            refine V_if_ne X 108 dX7_tries_96 (by decide) (fun c53 => ?_) (fun c53 => ?_)
            · replace hs := if_f hs c53
              refine V_iload_n X dX7_tries_108 rfl 1 rfl ?_
              refine V_if_eq X 130 dX7_tries_109 (by decide) (fun c54 => ?_) (fun c54 => ?_)
              · replace hs := if_t hs c54
                refine V_aload_n X dX7_tries_130 rfl 2 rfl ?_
                refine V_iload_n X dX7_tries_131 rfl 4 rfl ?_
                refine V_bipush X (7 : Int32) dX7_tries_132 (by decide) ?_
                refine V_aload_n X dX7_tries_134 rfl 2 rfl ?_
                refine V_iload_n X dX7_tries_135 rfl 4 rfl ?_
                refine V_iconst X (4 : Int32) dX7_tries_136 (by decide) ?_
                obtain ⟨q55, eq55, hs⟩ := bd_some hs
                refine V_callVs X [.int p2, .int (4 : Int32)] dX7_tries_137 m_X7_90 v_X7_ofChute ⟨Nat.le_of_ble_eq_true rfl, Nat.le_of_ble_eq_true rfl⟩ ⟨Nat.zero_le _, Nat.zero_le _⟩ rfl (Nat.le_of_ble_eq_true rfl) (gm7 hM) rfl cl7 (c_X7_ofChute hM eq55) ?_
                obtain ⟨Z57, eZ57, hs⟩ := bd_some hs
                refine V_callVv X [.int p2, .int (7 : Int32), .int q55] dX7_tries_140 m_X7_100 v_X7_setsChute ⟨Nat.le_of_ble_eq_true rfl, Nat.le_of_ble_eq_true rfl⟩ ⟨Nat.zero_le _, Nat.zero_le _⟩ rfl (Nat.le_of_ble_eq_true rfl) (gm7 hM) rfl cl7 (c_X7_setsChute hM eZ57) ?_
                refine V_aload_n X dX7_tries_143 rfl 2 rfl ?_
                refine V_iload_n X dX7_tries_144 rfl 4 rfl ?_
                refine V_bipush X (12 : Int32) dX7_tries_145 (by decide) ?_
                refine V_iconst X (1 : Int32) dX7_tries_147 (by decide) ?_
                obtain ⟨Z59, eZ59, hs⟩ := bd_some hs
                refine V_callVv X [.int p2, .int (12 : Int32), .int (1 : Int32)] dX7_tries_148 m_X7_176 v_X7_addsChute ⟨Nat.le_of_ble_eq_true rfl, Nat.le_of_ble_eq_true rfl⟩ ⟨Nat.zero_le _, Nat.zero_le _⟩ rfl (Nat.le_of_ble_eq_true rfl) (gm7 hM) rfl cl7 (c_X7_addsChute hM eZ59) ?_
                obtain rfl := Option.some.inj hs; exact V_vret X hr dX7_tries_151
              · replace hs := if_f hs c54
                refine V_aload_n X dX7_tries_112 rfl 2 rfl ?_
                refine V_iload_n X dX7_tries_113 rfl 3 rfl ?_
                refine V_bipush X (11 : Int32) dX7_tries_114 (by decide) ?_
                refine V_aload_n X dX7_tries_116 rfl 2 rfl ?_
                refine V_iload_n X dX7_tries_117 rfl 3 rfl ?_
                refine V_bipush X (11 : Int32) dX7_tries_118 (by decide) ?_
                obtain ⟨q60, eq60, hs⟩ := bd_some hs
                refine V_callVs X [.int p1, .int (11 : Int32)] dX7_tries_120 m_X7_160 v_X7_ofParcel ⟨Nat.le_of_ble_eq_true rfl, Nat.le_of_ble_eq_true rfl⟩ ⟨Nat.zero_le _, Nat.zero_le _⟩ rfl (Nat.le_of_ble_eq_true rfl) (gm7 hM) rfl cl7 (c_X7_ofParcel hM eq60) ?_
                refine V_iconst X (1 : Int32) dX7_tries_123 (by decide) ?_
                refine V_iload_n X dX7_tries_124 rfl 4 rfl ?_
                refine V_ishl X dX7_tries_125 ?_
                refine V_ior X dX7_tries_126 ?_
                obtain ⟨Z62, eZ62, hs⟩ := bd_some hs
                refine V_callVv X [.int p1, .int (11 : Int32), .int (q60 ||| ((1 : Int32) <<< (p2 &&& 31)))] dX7_tries_127 m_X7_163 v_X7_setsParcel ⟨Nat.le_of_ble_eq_true rfl, Nat.le_of_ble_eq_true rfl⟩ ⟨Nat.zero_le _, Nat.zero_le _⟩ rfl (Nat.le_of_ble_eq_true rfl) (gm7 hM) rfl cl7 (c_X7_setsParcel hM eZ62) ?_
                refine V_aload_n X dX7_tries_130 rfl 2 rfl ?_
                refine V_iload_n X dX7_tries_131 rfl 4 rfl ?_
                refine V_bipush X (7 : Int32) dX7_tries_132 (by decide) ?_
                refine V_aload_n X dX7_tries_134 rfl 2 rfl ?_
                refine V_iload_n X dX7_tries_135 rfl 4 rfl ?_
                refine V_iconst X (4 : Int32) dX7_tries_136 (by decide) ?_
                obtain ⟨q63, eq63, hs⟩ := bd_some hs
                refine V_callVs X [.int p2, .int (4 : Int32)] dX7_tries_137 m_X7_90 v_X7_ofChute ⟨Nat.le_of_ble_eq_true rfl, Nat.le_of_ble_eq_true rfl⟩ ⟨Nat.zero_le _, Nat.zero_le _⟩ rfl (Nat.le_of_ble_eq_true rfl) (gm7 hM) rfl cl7 (c_X7_ofChute hM eq63) ?_
                obtain ⟨Z65, eZ65, hs⟩ := bd_some hs
                refine V_callVv X [.int p2, .int (7 : Int32), .int q63] dX7_tries_140 m_X7_100 v_X7_setsChute ⟨Nat.le_of_ble_eq_true rfl, Nat.le_of_ble_eq_true rfl⟩ ⟨Nat.zero_le _, Nat.zero_le _⟩ rfl (Nat.le_of_ble_eq_true rfl) (gm7 hM) rfl cl7 (c_X7_setsChute hM eZ65) ?_
                refine V_aload_n X dX7_tries_143 rfl 2 rfl ?_
                refine V_iload_n X dX7_tries_144 rfl 4 rfl ?_
                refine V_bipush X (12 : Int32) dX7_tries_145 (by decide) ?_
                refine V_iconst X (1 : Int32) dX7_tries_147 (by decide) ?_
                obtain ⟨Z67, eZ67, hs⟩ := bd_some hs
                refine V_callVv X [.int p2, .int (12 : Int32), .int (1 : Int32)] dX7_tries_148 m_X7_176 v_X7_addsChute ⟨Nat.le_of_ble_eq_true rfl, Nat.le_of_ble_eq_true rfl⟩ ⟨Nat.zero_le _, Nat.zero_le _⟩ rfl (Nat.le_of_ble_eq_true rfl) (gm7 hM) rfl cl7 (c_X7_addsChute hM eZ67) ?_
                obtain rfl := Option.some.inj hs; exact V_vret X hr dX7_tries_151
            · replace hs := if_t hs c53
              refine V_aload_n X dX7_tries_99 rfl 2 rfl ?_
              refine V_iload_n X dX7_tries_100 rfl 4 rfl ?_
              refine V_bipush X (13 : Int32) dX7_tries_101 (by decide) ?_
              refine V_iconst X (1 : Int32) dX7_tries_103 (by decide) ?_
              obtain ⟨Z69, eZ69, hs⟩ := bd_some hs
              refine V_callVv X [.int p2, .int (13 : Int32), .int (1 : Int32)] dX7_tries_104 m_X7_176 v_X7_addsChute ⟨Nat.le_of_ble_eq_true rfl, Nat.le_of_ble_eq_true rfl⟩ ⟨Nat.zero_le _, Nat.zero_le _⟩ rfl (Nat.le_of_ble_eq_true rfl) (gm7 hM) rfl cl7 (c_X7_addsChute hM eZ69) ?_
              obtain rfl := Option.some.inj hs; exact V_vret X hr dX7_tries_107
          · replace hs := if_t hs c49
            refine V_aload_n X dX7_tries_76 rfl 2 rfl ?_
            refine V_iload_n X dX7_tries_77 rfl 3 rfl ?_
            refine V_iload_n X dX7_tries_78 rfl 4 rfl ?_
            obtain ⟨Z71, eZ71, hs⟩ := bd_some hs
            refine V_callVv X [.int p1, .int p2] dX7_tries_79 m_X7_194 v_X7_drops ⟨Nat.le_of_ble_eq_true rfl, Nat.le_of_ble_eq_true rfl⟩ ⟨Nat.zero_le _, Nat.zero_le _⟩ rfl (Nat.le_of_ble_eq_true rfl) (gm7 hM) rfl cl7 (c_X7_drops hM eZ71) ?_
            obtain rfl := Option.some.inj hs; exact V_vret X hr dX7_tries_82
    · refine V_if_lt X 56 dX7_tries_28 (by decide) (fun c72 => ?_) (fun c72 => ?_)
      · replace hs := if_tB hs c72
        refine V_iconst X (0 : Int32) dX7_tries_56 (by decide) ?_
        exact J57 _ (bs_some hs)
      · replace hs := if_fB hs c72
        refine V_aload_n X dX7_tries_31 rfl 1 rfl ?_
        refine V_get X dX7_tries_32 r_X7_72 (gm7 hM) rfl rfl ?_
        refine V_aload_n X dX7_tries_35 rfl 1 rfl ?_
        refine V_iload_n X dX7_tries_36 rfl 3 rfl ?_
        refine V_bipush X (10 : Int32) dX7_tries_37 (by decide) ?_
        obtain ⟨q73, eq73, hs⟩ := bd_someB hs
        refine V_callVs X [.int p2, .int (10 : Int32)] dX7_tries_39 m_X7_90 v_X7_ofChute ⟨Nat.le_of_ble_eq_true rfl, Nat.le_of_ble_eq_true rfl⟩ ⟨Nat.zero_le _, Nat.zero_le _⟩ rfl (Nat.le_of_ble_eq_true rfl) (gm7 hM) rfl cl7 (c_X7_ofChute hM eq73) ?_
        refine V_isub X dX7_tries_42 ?_
        refine V_aload_n X dX7_tries_43 rfl 1 rfl ?_
        refine V_iload_n X dX7_tries_44 rfl 3 rfl ?_
        refine V_iconst X (2 : Int32) dX7_tries_45 (by decide) ?_
        obtain ⟨q74, eq74, hs⟩ := bd_someB hs
        refine V_callVs X [.int p2, .int (2 : Int32)] dX7_tries_46 m_X7_90 v_X7_ofChute ⟨Nat.le_of_ble_eq_true rfl, Nat.le_of_ble_eq_true rfl⟩ ⟨Nat.zero_le _, Nat.zero_le _⟩ rfl (Nat.le_of_ble_eq_true rfl) (gm7 hM) rfl cl7 (c_X7_ofChute hM eq74) ?_
        refine V_icmp_ge X 56 dX7_tries_49 (by decide) (fun c75 => ?_) (fun c75 => ?_)
        · replace hs := if_tB hs c75
          refine V_iconst X (0 : Int32) dX7_tries_56 (by decide) ?_
          exact J57 _ (bs_some hs)
        · replace hs := if_fB hs c75
          refine V_iconst X (1 : Int32) dX7_tries_52 (by decide) ?_
          refine V_goto X 57 dX7_tries_53 (by decide) ?_
          exact J57 _ (bs_some hs)
  · refine V_icmp_le X 19 dX7_tries_12 (by decide) (fun c76 => ?_) (fun c76 => ?_)
    · replace hs := if_tB hs c76
      refine V_iconst X (0 : Int32) dX7_tries_19 (by decide) ?_
      exact J20 _ (bs_some hs)
    · replace hs := if_fB hs c76
      refine V_iconst X (1 : Int32) dX7_tries_15 (by decide) ?_
      refine V_goto X 20 dX7_tries_16 (by decide) ?_
      exact J20 _ (bs_some hs)

def s_X7_sends_L39 (fu : Nat) (p1 : Int32) : Nat → Int32 → Int32 → Int32 → Int32 → S4 → Option S4
  | 0, _, _, _, _, _ => none
  | f39+1, v2, v3, v4, v5, Z7 => (if ((2 : Int32) + v3) ≤ v5 then gd (inb (((13 : Int32) * p1) + (1 : Int32)) 39) (gd (inb (((13 : Int32) * p1) + (1 : Int32)) 39) (sv (u4 Z7 25 0 0 ((((13 : Int32) * p1) + (1 : Int32)).toNatClampNeg) ((Z7 25 0 0 (((13 : Int32) * p1) + (1 : Int32)).toNatClampNeg) - (1 : Int32))) fun Z11 => gd (inb (((13 : Int32) * p1) + (2 : Int32)) 39) (gd (inb (((13 : Int32) * p1) + (2 : Int32)) 39) (sv (u4 Z11 25 0 0 ((((13 : Int32) * p1) + (2 : Int32)).toNatClampNeg) ((Z11 25 0 0 (((13 : Int32) * p1) + (2 : Int32)).toNatClampNeg) + (1 : Int32))) fun Z14 => gd (inb v2 30) (sv (u4 Z14 24 0 0 (v2.toNatClampNeg) v4) fun Z16 => (s_X7_setsParcel v4 (4 : Int32) (1 : Int32) Z16).bind fun Z18 => (s_X7_setsParcel v4 (5 : Int32) v2 Z18).bind fun Z20 => some Z20))))) else gd (inb ((((13 : Int32) * p1) + v5) + (1 : Int32)) 39) (gd (inb (((13 : Int32) * p1) + v5) 39) (sv (u4 Z7 25 0 0 ((((13 : Int32) * p1) + v5).toNatClampNeg) (Z7 25 0 0 ((((13 : Int32) * p1) + v5) + (1 : Int32)).toNatClampNeg)) fun Z23 => s_X7_sends_L39 fu p1 f39 v2 v3 v4 (v5 + (1 : Int32)) Z23)))
def s_X7_sends (fu : Nat) (p1 : Int32) (S : S4) : Option S4 := (s_X7_ofStation p1 (0 : Int32) S).bind fun q1 => (s_X7_ofStation p1 (1 : Int32) S).bind fun q2 => gd (inb q1 30) ((if 0 ≤ (S 24 0 0 q1.toNatClampNeg) then some S else (if q2 = 0 then some S else (s_X7_ofStation p1 (3 : Int32) S).bind fun q6 => s_X7_sends_L39 fu p1 fu q1 q2 q6 (3 : Int32) S)))
set_option maxRecDepth 100000 in
set_option maxHeartbeats 4000000 in
theorem c_X7_sends {l : Launch} {D : va_G} {cA : Nat → ClassId} {dm : Dm} {ad : Ad} {fu : Nat} {S : S4} {p1 : Int32} (hM : DM dm) {out : S4} (hs : s_X7_sends fu p1 S = some out) : Ct D cA dm ad l yX7_sends cX7_sends 6 none 1 23 S [.ref (ad 7 0 0), .int p1] none out := by
  refine Ct.of (by decide +kernel) (Nat.le_of_ble_eq_true rfl) [(0, .ref (ad 7 0 0)), (1, .int p1)] rfl (fun p e s m args below meth c A X hr => ?_)
  unfold s_X7_sends at hs
  refine V_aload_n X dX7_sends_0 rfl 0 rfl ?_
  refine V_iload_n X dX7_sends_1 rfl 1 rfl ?_
  refine V_iconst X (0 : Int32) dX7_sends_2 (by decide) ?_
  obtain ⟨q1, eq1, hs⟩ := bd_some hs
  refine V_callVs X [.int p1, .int (0 : Int32)] dX7_sends_3 m_X7_86 v_X7_ofStation ⟨Nat.le_of_ble_eq_true rfl, Nat.le_of_ble_eq_true rfl⟩ ⟨Nat.zero_le _, Nat.zero_le _⟩ rfl (Nat.le_of_ble_eq_true rfl) (gm7 hM) rfl cl7 (c_X7_ofStation hM eq1) ?_
  refine V_istore_n X dX7_sends_6 rfl [(2, .int q1), (0, .ref (ad 7 0 0)), (1, .int p1)] (by decide) rfl ?_
  refine V_aload_n X dX7_sends_7 rfl 1 rfl ?_
  refine V_iload_n X dX7_sends_8 rfl 2 rfl ?_
  refine V_iconst X (1 : Int32) dX7_sends_9 (by decide) ?_
  obtain ⟨q2, eq2, hs⟩ := bd_some hs
  refine V_callVs X [.int p1, .int (1 : Int32)] dX7_sends_10 m_X7_86 v_X7_ofStation ⟨Nat.le_of_ble_eq_true rfl, Nat.le_of_ble_eq_true rfl⟩ ⟨Nat.zero_le _, Nat.zero_le _⟩ rfl (Nat.le_of_ble_eq_true rfl) (gm7 hM) rfl cl7 (c_X7_ofStation hM eq2) ?_
  refine V_istore_n X dX7_sends_13 rfl [(3, .int q2), (2, .int q1), (0, .ref (ad 7 0 0)), (1, .int p1)] (by decide) rfl ?_
  refine V_aload_n X dX7_sends_14 rfl 2 rfl ?_
  refine V_get X dX7_sends_15 r_X7_7 (gm7 hM) rfl rfl ?_
  refine V_iload_n X dX7_sends_18 rfl 1 rfl ?_
  obtain ⟨h3, hs⟩ := gd_some hs
  refine V_iald X dX7_sends_19 (gm24 hM) rfl h3 ?_
  refine V_if_ge X 27 dX7_sends_20 (by decide) (fun c4 => ?_) (fun c4 => ?_)
  · replace hs := if_t hs c4
    obtain rfl := Option.some.inj hs; exact V_vret X hr dX7_sends_27
  · replace hs := if_f hs c4
    refine V_iload_n X dX7_sends_23 rfl 0 rfl ?_
    refine V_if_ne X 28 dX7_sends_24 (by decide) (fun c5 => ?_) (fun c5 => ?_)
    · replace hs := if_f hs c5
      refine V_aload_n X dX7_sends_28 rfl 2 rfl ?_
      refine V_iload_n X dX7_sends_29 rfl 3 rfl ?_
      refine V_iconst X (3 : Int32) dX7_sends_30 (by decide) ?_
      obtain ⟨q6, eq6, hs⟩ := bd_some hs
      refine V_callVs X [.int p1, .int (3 : Int32)] dX7_sends_31 m_X7_86 v_X7_ofStation ⟨Nat.le_of_ble_eq_true rfl, Nat.le_of_ble_eq_true rfl⟩ ⟨Nat.zero_le _, Nat.zero_le _⟩ rfl (Nat.le_of_ble_eq_true rfl) (gm7 hM) rfl cl7 (c_X7_ofStation hM eq6) ?_
      refine V_istore X dX7_sends_34 [(4, .int q6), (3, .int q2), (2, .int q1), (0, .ref (ad 7 0 0)), (1, .int p1)] (by decide) rfl ?_
      refine V_iconst X (3 : Int32) dX7_sends_36 (by decide) ?_
      refine V_istore X dX7_sends_37 [(5, .int (3 : Int32)), (4, .int q6), (3, .int q2), (2, .int q1), (0, .ref (ad 7 0 0)), (1, .int p1)] (by decide) rfl ?_
      have L39 : ∀ (n : Nat) (v2 v3 v4 v5 : Int32) (S1 : S4), s_X7_sends_L39 fu p1 n v2 v3 v4 v5 S1 = some out → V D cA dm ad A 6 p l e ({ frames := 1, cells := 0, slots := 0, locals := 23 }) s m args below meth c 0 0 (MQ below (gQ D cA dm ad out none A) args s 0 0 A) S1 39 [(0, .ref (ad 7 0 0)), (1, .int p1), (2, .int v2), (3, .int v3), (4, .int v4), (5, .int v5)] [] := by
        intro n
        induction n with
        | zero => intro v2 v3 v4 v5 S1 hs; rw [s_X7_sends_L39] at hs; cases hs
        | succ f39 ih39 =>
          intro v2 v3 v4 v5 Z7 hs
          rw [s_X7_sends_L39] at hs
          refine V_iload X dX7_sends_39 5 rfl ?_
          refine V_iconst X (2 : Int32) dX7_sends_41 (by decide) ?_
          refine V_iload_n X dX7_sends_42 rfl 3 rfl ?_
          refine V_iadd X dX7_sends_43 ?_
          refine V_icmp_ge X 79 dX7_sends_44 (by decide) (fun c8 => ?_) (fun c8 => ?_)
          · replace hs := if_t hs c8
            refine V_aload_n X dX7_sends_79 rfl 0 rfl ?_
            refine V_get X dX7_sends_80 r_X7_13 (gm7 hM) rfl rfl ?_
            refine V_bipush X (13 : Int32) dX7_sends_83 (by decide) ?_
            refine V_iload_n X dX7_sends_85 rfl 1 rfl ?_
            refine V_imul X dX7_sends_86 ?_
            refine V_iconst X (1 : Int32) dX7_sends_87 (by decide) ?_
            refine V_iadd X dX7_sends_88 ?_
            refine V_dup2 X dX7_sends_89 rfl rfl ?_
            obtain ⟨h9, hs⟩ := gd_some hs
            refine V_iald X dX7_sends_90 (gm25 hM) rfl h9 ?_
            refine V_iconst X (1 : Int32) dX7_sends_91 (by decide) ?_
            refine V_isub X dX7_sends_92 ?_
            obtain ⟨h10, hs⟩ := gd_some hs
            refine V_iast X dX7_sends_93 (gm25 hM) (fun _ => rfl) h10 (fun Z11 eZ11 => ?_)
            replace hs := sv_some hs Z11 eZ11
            clear eZ11
            refine V_aload_n X dX7_sends_94 rfl 0 rfl ?_
            refine V_get X dX7_sends_95 r_X7_13 (gm7 hM) rfl rfl ?_
            refine V_bipush X (13 : Int32) dX7_sends_98 (by decide) ?_
            refine V_iload_n X dX7_sends_100 rfl 1 rfl ?_
            refine V_imul X dX7_sends_101 ?_
            refine V_iconst X (2 : Int32) dX7_sends_102 (by decide) ?_
            refine V_iadd X dX7_sends_103 ?_
            refine V_dup2 X dX7_sends_104 rfl rfl ?_
            obtain ⟨h12, hs⟩ := gd_some hs
            refine V_iald X dX7_sends_105 (gm25 hM) rfl h12 ?_
            refine V_iconst X (1 : Int32) dX7_sends_106 (by decide) ?_
            refine V_iadd X dX7_sends_107 ?_
            obtain ⟨h13, hs⟩ := gd_some hs
            refine V_iast X dX7_sends_108 (gm25 hM) (fun _ => rfl) h13 (fun Z14 eZ14 => ?_)
            replace hs := sv_some hs Z14 eZ14
            clear eZ14
            refine V_aload_n X dX7_sends_109 rfl 0 rfl ?_
            refine V_get X dX7_sends_110 r_X7_7 (gm7 hM) rfl rfl ?_
            refine V_iload_n X dX7_sends_113 rfl 2 rfl ?_
            refine V_iload X dX7_sends_114 4 rfl ?_
            obtain ⟨h15, hs⟩ := gd_some hs
            refine V_iast X dX7_sends_116 (gm24 hM) (fun _ => rfl) h15 (fun Z16 eZ16 => ?_)
            replace hs := sv_some hs Z16 eZ16
            clear eZ16
            refine V_aload_n X dX7_sends_117 rfl 0 rfl ?_
            refine V_iload X dX7_sends_118 4 rfl ?_
            refine V_iconst X (4 : Int32) dX7_sends_120 (by decide) ?_
            refine V_iconst X (1 : Int32) dX7_sends_121 (by decide) ?_
            obtain ⟨Z18, eZ18, hs⟩ := bd_some hs
            refine V_callVv X [.int v4, .int (4 : Int32), .int (1 : Int32)] dX7_sends_122 m_X7_163 v_X7_setsParcel ⟨Nat.le_of_ble_eq_true rfl, Nat.le_of_ble_eq_true rfl⟩ ⟨Nat.zero_le _, Nat.zero_le _⟩ rfl (Nat.le_of_ble_eq_true rfl) (gm7 hM) rfl cl7 (c_X7_setsParcel hM eZ18) ?_
            refine V_aload_n X dX7_sends_125 rfl 0 rfl ?_
            refine V_iload X dX7_sends_126 4 rfl ?_
            refine V_iconst X (5 : Int32) dX7_sends_128 (by decide) ?_
            refine V_iload_n X dX7_sends_129 rfl 2 rfl ?_
            obtain ⟨Z20, eZ20, hs⟩ := bd_some hs
            refine V_callVv X [.int v4, .int (5 : Int32), .int v2] dX7_sends_130 m_X7_163 v_X7_setsParcel ⟨Nat.le_of_ble_eq_true rfl, Nat.le_of_ble_eq_true rfl⟩ ⟨Nat.zero_le _, Nat.zero_le _⟩ rfl (Nat.le_of_ble_eq_true rfl) (gm7 hM) rfl cl7 (c_X7_setsParcel hM eZ20) ?_
            obtain rfl := Option.some.inj hs; exact V_vret X hr dX7_sends_133
          · replace hs := if_f hs c8
            refine V_aload_n X dX7_sends_47 rfl 0 rfl ?_
            refine V_get X dX7_sends_48 r_X7_13 (gm7 hM) rfl rfl ?_
            refine V_bipush X (13 : Int32) dX7_sends_51 (by decide) ?_
            refine V_iload_n X dX7_sends_53 rfl 1 rfl ?_
            refine V_imul X dX7_sends_54 ?_
            refine V_iload X dX7_sends_55 5 rfl ?_
            refine V_iadd X dX7_sends_57 ?_
            refine V_aload_n X dX7_sends_58 rfl 0 rfl ?_
            refine V_get X dX7_sends_59 r_X7_13 (gm7 hM) rfl rfl ?_
            refine V_bipush X (13 : Int32) dX7_sends_62 (by decide) ?_
            refine V_iload_n X dX7_sends_64 rfl 1 rfl ?_
            refine V_imul X dX7_sends_65 ?_
            refine V_iload X dX7_sends_66 5 rfl ?_
            refine V_iadd X dX7_sends_68 ?_
            refine V_iconst X (1 : Int32) dX7_sends_69 (by decide) ?_
            refine V_iadd X dX7_sends_70 ?_
            obtain ⟨h21, hs⟩ := gd_some hs
            refine V_iald X dX7_sends_71 (gm25 hM) rfl h21 ?_
            obtain ⟨h22, hs⟩ := gd_some hs
            refine V_iast X dX7_sends_72 (gm25 hM) (fun _ => rfl) h22 (fun Z23 eZ23 => ?_)
            replace hs := sv_some hs Z23 eZ23
            clear eZ23
            refine V_iinc X (v5 + (1 : Int32)) dX7_sends_73 5 rfl rfl [(5, .int (v5 + (1 : Int32))), (0, .ref (ad 7 0 0)), (1, .int p1), (2, .int v2), (3, .int v3), (4, .int v4)] (by decide) rfl ?_
            refine V_goto X 39 dX7_sends_76 (by decide) ?_
            refine V_sub [1, 2, 3, 4, 5, 0] rfl ?_
            exact ih39 _ _ _ _ _ hs
      refine V_sub [4, 5, 3, 2, 1, 0] rfl ?_
      exact L39 _ _ _ _ _ _ hs
    · replace hs := if_t hs c5
      obtain rfl := Option.some.inj hs; exact V_vret X hr dX7_sends_27

def s_X7_ticks_L105 (fu : Nat)  : Nat → Int32 → S4 → Option S4
  | 0, _, _ => none
  | f105+1, v1, Z10 => (if (Z10 7 0 0 8) ≤ v1 then some Z10 else (s_X7_sends fu v1 Z10).bind fun Z13 => s_X7_ticks_L105 fu f105 (v1 + (1 : Int32)) Z13)
def s_X7_ticks_L56 (fu : Nat)  : Nat → Int32 → S4 → Option S4
  | 0, _, _ => none
  | f56+1, v1, Z8 => (if (Z8 7 0 0 9) ≤ v1 then s_X7_ticks_L105 fu fu (0 : Int32) Z8 else (s_X7_ofChute v1 (0 : Int32) Z8).bind fun q14 => gd (inb q14 30) ((if (Z8 24 0 0 q14.toNatClampNeg) < 0 then s_X7_ticks_L56 fu f56 (v1 + (1 : Int32)) Z8 else (s_X7_ofParcel (Z8 24 0 0 q14.toNatClampNeg) (7 : Int32) Z8).bind fun q17 => (if q17 = v1 then (s_X7_tries fu (Z8 24 0 0 q14.toNatClampNeg) v1 Z8).bind fun Z20 => s_X7_ticks_L56 fu f56 (v1 + (1 : Int32)) Z20 else s_X7_ticks_L56 fu f56 (v1 + (1 : Int32)) Z8))))
def s_X7_ticks_L12 (fu : Nat)  : Nat → Int32 → S4 → Option S4
  | 0, _, _ => none
  | f12+1, v1, Z2 => (if (Z2 7 0 0 9) ≤ v1 then (s_X7_turns fu Z2).bind fun Z5 => gd (inb (0 : Int32) 30) ((if (Z5 24 0 0 (0 : Int32).toNatClampNeg) < 0 then s_X7_ticks_L56 fu fu (0 : Int32) Z5 else gd (inb (0 : Int32) 30) ((s_X7_scans fu (Z5 24 0 0 (0 : Int32).toNatClampNeg) Z5).bind fun Z23 => s_X7_ticks_L56 fu fu (0 : Int32) Z23))) else (s_X7_waitsLess v1 Z2).bind fun Z38 => s_X7_ticks_L12 fu f12 (v1 + (1 : Int32)) Z38)
def s_X7_ticks (fu : Nat)  (S : S4) : Option S4 := sv (u4 S 7 0 0 13 ((S 7 0 0 13) + (1 : Int32))) fun Z1 => s_X7_ticks_L12 fu fu (0 : Int32) Z1
set_option maxRecDepth 100000 in
set_option maxHeartbeats 4000000 in
theorem c_X7_ticks {l : Launch} {D : va_G} {cA : Nat → ClassId} {dm : Dm} {ad : Ad} {fu : Nat} {S : S4} (hM : DM dm) {out : S4} (hs : s_X7_ticks fu S = some out) : Ct D cA dm ad l yX7_ticks cX7_ticks 3 none 5 117 S [.ref (ad 7 0 0)] none out := by
  refine Ct.of (by decide +kernel) (Nat.le_of_ble_eq_true rfl) [(0, .ref (ad 7 0 0))] rfl (fun p e s m args below meth c A X hr => ?_)
  unfold s_X7_ticks at hs
  refine V_aload_n X dX7_ticks_0 rfl 0 rfl ?_
  refine V_dup X dX7_ticks_1 rfl ?_
  refine V_get X dX7_ticks_2 r_X7_72 (gm7 hM) rfl rfl ?_
  refine V_iconst X (1 : Int32) dX7_ticks_5 (by decide) ?_
  refine V_iadd X dX7_ticks_6 ?_
  refine V_put X dX7_ticks_7 f_X7_72 (gm7 hM) rfl (Nat.le_of_ble_eq_true rfl) rfl rfl rfl (fun Z1 eZ1 => ?_)
  replace hs := sv_some hs Z1 eZ1
  clear eZ1
  refine V_iconst X (0 : Int32) dX7_ticks_10 (by decide) ?_
  refine V_istore_n X dX7_ticks_11 rfl [(1, .int (0 : Int32)), (0, .ref (ad 7 0 0))] (by decide) rfl ?_
  have L12 : ∀ (n : Nat) (v1 : Int32) (S1 : S4), s_X7_ticks_L12 fu n v1 S1 = some out → V D cA dm ad A 3 p l e ({ frames := 5, cells := 0, slots := 0, locals := 117 }) s m args below meth c 0 0 (MQ below (gQ D cA dm ad out none A) args s 0 0 A) S1 12 [(0, .ref (ad 7 0 0)), (1, .int v1)] [] := by
    intro n
    induction n with
    | zero => intro v1 S1 hs; rw [s_X7_ticks_L12] at hs; cases hs
    | succ f12 ih12 =>
      intro v1 Z2 hs
      rw [s_X7_ticks_L12] at hs
      refine V_iload_n X dX7_ticks_12 rfl 1 rfl ?_
      refine V_aload_n X dX7_ticks_13 rfl 0 rfl ?_
      refine V_get X dX7_ticks_14 r_X7_60 (gm7 hM) rfl rfl ?_
      refine V_icmp_ge X 31 dX7_ticks_17 (by decide) (fun c3 => ?_) (fun c3 => ?_)
      · replace hs := if_t hs c3
        refine V_aload_n X dX7_ticks_31 rfl 0 rfl ?_
        obtain ⟨Z5, eZ5, hs⟩ := bd_some hs
        refine V_callVv X [] dX7_ticks_32 m_X7_202 v_X7_turns ⟨Nat.le_of_ble_eq_true rfl, Nat.le_of_ble_eq_true rfl⟩ ⟨Nat.zero_le _, Nat.zero_le _⟩ rfl (Nat.le_of_ble_eq_true rfl) (gm7 hM) rfl cl7 (c_X7_turns hM eZ5) ?_
        refine V_aload_n X dX7_ticks_35 rfl 0 rfl ?_
        refine V_get X dX7_ticks_36 r_X7_7 (gm7 hM) rfl rfl ?_
        refine V_iconst X (0 : Int32) dX7_ticks_39 (by decide) ?_
        obtain ⟨h6, hs⟩ := gd_some hs
        refine V_iald X dX7_ticks_40 (gm24 hM) rfl h6 ?_
        refine V_if_lt X 54 dX7_ticks_41 (by decide) (fun c7 => ?_) (fun c7 => ?_)
        · replace hs := if_t hs c7
          refine V_iconst X (0 : Int32) dX7_ticks_54 (by decide) ?_
          refine V_istore_n X dX7_ticks_55 rfl [(1, .int (0 : Int32)), (0, .ref (ad 7 0 0))] (by decide) rfl ?_
          have L56 : ∀ (n : Nat) (v1 : Int32) (S1 : S4), s_X7_ticks_L56 fu n v1 S1 = some out → V D cA dm ad A 3 p l e ({ frames := 5, cells := 0, slots := 0, locals := 117 }) s m args below meth c 0 0 (MQ below (gQ D cA dm ad out none A) args s 0 0 A) S1 56 [(0, .ref (ad 7 0 0)), (1, .int v1)] [] := by
            intro n
            induction n with
            | zero => intro v1 S1 hs; rw [s_X7_ticks_L56] at hs; cases hs
            | succ f56 ih56 =>
              intro v1 Z8 hs
              rw [s_X7_ticks_L56] at hs
              refine V_iload_n X dX7_ticks_56 rfl 1 rfl ?_
              refine V_aload_n X dX7_ticks_57 rfl 0 rfl ?_
              refine V_get X dX7_ticks_58 r_X7_60 (gm7 hM) rfl rfl ?_
              refine V_icmp_ge X 103 dX7_ticks_61 (by decide) (fun c9 => ?_) (fun c9 => ?_)
              · replace hs := if_t hs c9
                refine V_iconst X (0 : Int32) dX7_ticks_103 (by decide) ?_
                refine V_istore_n X dX7_ticks_104 rfl [(1, .int (0 : Int32)), (0, .ref (ad 7 0 0))] (by decide) rfl ?_
                have L105 : ∀ (n : Nat) (v1 : Int32) (S1 : S4), s_X7_ticks_L105 fu n v1 S1 = some out → V D cA dm ad A 3 p l e ({ frames := 5, cells := 0, slots := 0, locals := 117 }) s m args below meth c 0 0 (MQ below (gQ D cA dm ad out none A) args s 0 0 A) S1 105 [(0, .ref (ad 7 0 0)), (1, .int v1)] [] := by
                  intro n
                  induction n with
                  | zero => intro v1 S1 hs; rw [s_X7_ticks_L105] at hs; cases hs
                  | succ f105 ih105 =>
                    intro v1 Z10 hs
                    rw [s_X7_ticks_L105] at hs
                    refine V_iload_n X dX7_ticks_105 rfl 1 rfl ?_
                    refine V_aload_n X dX7_ticks_106 rfl 0 rfl ?_
                    refine V_get X dX7_ticks_107 r_X7_57 (gm7 hM) rfl rfl ?_
                    refine V_icmp_ge X 124 dX7_ticks_110 (by decide) (fun c11 => ?_) (fun c11 => ?_)
                    · replace hs := if_t hs c11
                      obtain rfl := Option.some.inj hs; exact V_vret X hr dX7_ticks_124
                    · replace hs := if_f hs c11
                      refine V_aload_n X dX7_ticks_113 rfl 0 rfl ?_
                      refine V_iload_n X dX7_ticks_114 rfl 1 rfl ?_
                      obtain ⟨Z13, eZ13, hs⟩ := bd_some hs
                      refine V_callVv X [.int v1] dX7_ticks_115 m_X7_211 v_X7_sends ⟨Nat.le_of_ble_eq_true rfl, Nat.le_of_ble_eq_true rfl⟩ ⟨Nat.zero_le _, Nat.zero_le _⟩ rfl (Nat.le_of_ble_eq_true rfl) (gm7 hM) rfl cl7 (c_X7_sends hM eZ13) ?_
                      refine V_iinc X (v1 + (1 : Int32)) dX7_ticks_118 1 rfl rfl [(1, .int (v1 + (1 : Int32))), (0, .ref (ad 7 0 0))] (by decide) rfl ?_
                      refine V_goto X 105 dX7_ticks_121 (by decide) ?_
                      refine V_sub [1, 0] rfl ?_
                      exact ih105 _ _ hs
                refine V_sub [1, 0] rfl ?_
                exact L105 _ _ _ hs
              · replace hs := if_f hs c9
                refine V_aload_n X dX7_ticks_64 rfl 0 rfl ?_
                refine V_get X dX7_ticks_65 r_X7_7 (gm7 hM) rfl rfl ?_
                refine V_aload_n X dX7_ticks_68 rfl 0 rfl ?_
                refine V_iload_n X dX7_ticks_69 rfl 1 rfl ?_
                refine V_iconst X (0 : Int32) dX7_ticks_70 (by decide) ?_
                obtain ⟨q14, eq14, hs⟩ := bd_some hs
                refine V_callVs X [.int v1, .int (0 : Int32)] dX7_ticks_71 m_X7_90 v_X7_ofChute ⟨Nat.le_of_ble_eq_true rfl, Nat.le_of_ble_eq_true rfl⟩ ⟨Nat.zero_le _, Nat.zero_le _⟩ rfl (Nat.le_of_ble_eq_true rfl) (gm7 hM) rfl cl7 (c_X7_ofChute hM eq14) ?_
                obtain ⟨h15, hs⟩ := gd_some hs
                refine V_iald X dX7_ticks_74 (gm24 hM) rfl h15 ?_
                refine V_istore_n X dX7_ticks_75 rfl [(2, .int (Z8 24 0 0 q14.toNatClampNeg)), (0, .ref (ad 7 0 0)), (1, .int v1)] (by decide) rfl ?_
                refine V_iload_n X dX7_ticks_76 rfl 0 rfl ?_
                refine V_if_lt X 97 dX7_ticks_77 (by decide) (fun c16 => ?_) (fun c16 => ?_)
                · replace hs := if_t hs c16
                  refine V_iinc X (v1 + (1 : Int32)) dX7_ticks_97 2 rfl rfl [(1, .int (v1 + (1 : Int32))), (2, .int (Z8 24 0 0 q14.toNatClampNeg)), (0, .ref (ad 7 0 0))] (by decide) rfl ?_
                  refine V_goto X 56 dX7_ticks_100 (by decide) ?_
                  refine V_sub [2, 0] rfl ?_
                  exact ih56 _ _ hs
                · replace hs := if_f hs c16
                  refine V_aload_n X dX7_ticks_80 rfl 1 rfl ?_
                  refine V_iload_n X dX7_ticks_81 rfl 0 rfl ?_
                  refine V_bipush X (7 : Int32) dX7_ticks_82 (by decide) ?_
                  obtain ⟨q17, eq17, hs⟩ := bd_some hs
                  refine V_callVs X [.int (Z8 24 0 0 q14.toNatClampNeg), .int (7 : Int32)] dX7_ticks_84 m_X7_160 v_X7_ofParcel ⟨Nat.le_of_ble_eq_true rfl, Nat.le_of_ble_eq_true rfl⟩ ⟨Nat.zero_le _, Nat.zero_le _⟩ rfl (Nat.le_of_ble_eq_true rfl) (gm7 hM) rfl cl7 (c_X7_ofParcel hM eq17) ?_
                  refine V_iload_n X dX7_ticks_87 rfl 2 rfl ?_
                  refine V_icmp_ne X 97 dX7_ticks_88 (by decide) (fun c18 => ?_) (fun c18 => ?_)
                  · replace hs := if_f hs c18
                    refine V_iinc X (v1 + (1 : Int32)) dX7_ticks_97 2 rfl rfl [(1, .int (v1 + (1 : Int32))), (2, .int (Z8 24 0 0 q14.toNatClampNeg)), (0, .ref (ad 7 0 0))] (by decide) rfl ?_
                    refine V_goto X 56 dX7_ticks_100 (by decide) ?_
                    refine V_sub [2, 0] rfl ?_
                    exact ih56 _ _ hs
                  · replace hs := if_t hs c18
                    refine V_aload_n X dX7_ticks_91 rfl 1 rfl ?_
                    refine V_iload_n X dX7_ticks_92 rfl 0 rfl ?_
                    refine V_iload_n X dX7_ticks_93 rfl 2 rfl ?_
                    obtain ⟨Z20, eZ20, hs⟩ := bd_some hs
                    refine V_callVv X [.int (Z8 24 0 0 q14.toNatClampNeg), .int v1] dX7_ticks_94 m_X7_208 v_X7_tries ⟨Nat.le_of_ble_eq_true rfl, Nat.le_of_ble_eq_true rfl⟩ ⟨Nat.zero_le _, Nat.zero_le _⟩ rfl (Nat.le_of_ble_eq_true rfl) (gm7 hM) rfl cl7 (c_X7_tries hM eZ20) ?_
                    refine V_iinc X (v1 + (1 : Int32)) dX7_ticks_97 2 rfl rfl [(1, .int (v1 + (1 : Int32))), (2, .int (Z8 24 0 0 q14.toNatClampNeg)), (0, .ref (ad 7 0 0))] (by decide) rfl ?_
                    refine V_goto X 56 dX7_ticks_100 (by decide) ?_
                    refine V_sub [2, 0] rfl ?_
                    exact ih56 _ _ hs
          refine V_sub [1, 0] rfl ?_
          exact L56 _ _ _ hs
        · replace hs := if_f hs c7
          refine V_aload_n X dX7_ticks_44 rfl 0 rfl ?_
          refine V_aload_n X dX7_ticks_45 rfl 0 rfl ?_
          refine V_get X dX7_ticks_46 r_X7_7 (gm7 hM) rfl rfl ?_
          refine V_iconst X (0 : Int32) dX7_ticks_49 (by decide) ?_
          obtain ⟨h21, hs⟩ := gd_some hs
          refine V_iald X dX7_ticks_50 (gm24 hM) rfl h21 ?_
          obtain ⟨Z23, eZ23, hs⟩ := bd_some hs
          refine V_callVv X [.int (Z5 24 0 0 (0 : Int32).toNatClampNeg)] dX7_ticks_51 m_X7_205 v_X7_scans ⟨Nat.le_of_ble_eq_true rfl, Nat.le_of_ble_eq_true rfl⟩ ⟨Nat.zero_le _, Nat.zero_le _⟩ rfl (Nat.le_of_ble_eq_true rfl) (gm7 hM) rfl cl7 (c_X7_scans hM eZ23) ?_
          refine V_iconst X (0 : Int32) dX7_ticks_54 (by decide) ?_
          refine V_istore_n X dX7_ticks_55 rfl [(1, .int (0 : Int32)), (0, .ref (ad 7 0 0))] (by decide) rfl ?_
          have L56 : ∀ (n : Nat) (v1 : Int32) (S1 : S4), s_X7_ticks_L56 fu n v1 S1 = some out → V D cA dm ad A 3 p l e ({ frames := 5, cells := 0, slots := 0, locals := 117 }) s m args below meth c 0 0 (MQ below (gQ D cA dm ad out none A) args s 0 0 A) S1 56 [(0, .ref (ad 7 0 0)), (1, .int v1)] [] := by
            intro n
            induction n with
            | zero => intro v1 S1 hs; rw [s_X7_ticks_L56] at hs; cases hs
            | succ f56 ih56 =>
              intro v1 Z24 hs
              rw [s_X7_ticks_L56] at hs
              refine V_iload_n X dX7_ticks_56 rfl 1 rfl ?_
              refine V_aload_n X dX7_ticks_57 rfl 0 rfl ?_
              refine V_get X dX7_ticks_58 r_X7_60 (gm7 hM) rfl rfl ?_
              refine V_icmp_ge X 103 dX7_ticks_61 (by decide) (fun c25 => ?_) (fun c25 => ?_)
              · replace hs := if_t hs c25
                refine V_iconst X (0 : Int32) dX7_ticks_103 (by decide) ?_
                refine V_istore_n X dX7_ticks_104 rfl [(1, .int (0 : Int32)), (0, .ref (ad 7 0 0))] (by decide) rfl ?_
                have L105 : ∀ (n : Nat) (v1 : Int32) (S1 : S4), s_X7_ticks_L105 fu n v1 S1 = some out → V D cA dm ad A 3 p l e ({ frames := 5, cells := 0, slots := 0, locals := 117 }) s m args below meth c 0 0 (MQ below (gQ D cA dm ad out none A) args s 0 0 A) S1 105 [(0, .ref (ad 7 0 0)), (1, .int v1)] [] := by
                  intro n
                  induction n with
                  | zero => intro v1 S1 hs; rw [s_X7_ticks_L105] at hs; cases hs
                  | succ f105 ih105 =>
                    intro v1 Z26 hs
                    rw [s_X7_ticks_L105] at hs
                    refine V_iload_n X dX7_ticks_105 rfl 1 rfl ?_
                    refine V_aload_n X dX7_ticks_106 rfl 0 rfl ?_
                    refine V_get X dX7_ticks_107 r_X7_57 (gm7 hM) rfl rfl ?_
                    refine V_icmp_ge X 124 dX7_ticks_110 (by decide) (fun c27 => ?_) (fun c27 => ?_)
                    · replace hs := if_t hs c27
                      obtain rfl := Option.some.inj hs; exact V_vret X hr dX7_ticks_124
                    · replace hs := if_f hs c27
                      refine V_aload_n X dX7_ticks_113 rfl 0 rfl ?_
                      refine V_iload_n X dX7_ticks_114 rfl 1 rfl ?_
                      obtain ⟨Z29, eZ29, hs⟩ := bd_some hs
                      refine V_callVv X [.int v1] dX7_ticks_115 m_X7_211 v_X7_sends ⟨Nat.le_of_ble_eq_true rfl, Nat.le_of_ble_eq_true rfl⟩ ⟨Nat.zero_le _, Nat.zero_le _⟩ rfl (Nat.le_of_ble_eq_true rfl) (gm7 hM) rfl cl7 (c_X7_sends hM eZ29) ?_
                      refine V_iinc X (v1 + (1 : Int32)) dX7_ticks_118 1 rfl rfl [(1, .int (v1 + (1 : Int32))), (0, .ref (ad 7 0 0))] (by decide) rfl ?_
                      refine V_goto X 105 dX7_ticks_121 (by decide) ?_
                      refine V_sub [1, 0] rfl ?_
                      exact ih105 _ _ hs
                refine V_sub [1, 0] rfl ?_
                exact L105 _ _ _ hs
              · replace hs := if_f hs c25
                refine V_aload_n X dX7_ticks_64 rfl 0 rfl ?_
                refine V_get X dX7_ticks_65 r_X7_7 (gm7 hM) rfl rfl ?_
                refine V_aload_n X dX7_ticks_68 rfl 0 rfl ?_
                refine V_iload_n X dX7_ticks_69 rfl 1 rfl ?_
                refine V_iconst X (0 : Int32) dX7_ticks_70 (by decide) ?_
                obtain ⟨q30, eq30, hs⟩ := bd_some hs
                refine V_callVs X [.int v1, .int (0 : Int32)] dX7_ticks_71 m_X7_90 v_X7_ofChute ⟨Nat.le_of_ble_eq_true rfl, Nat.le_of_ble_eq_true rfl⟩ ⟨Nat.zero_le _, Nat.zero_le _⟩ rfl (Nat.le_of_ble_eq_true rfl) (gm7 hM) rfl cl7 (c_X7_ofChute hM eq30) ?_
                obtain ⟨h31, hs⟩ := gd_some hs
                refine V_iald X dX7_ticks_74 (gm24 hM) rfl h31 ?_
                refine V_istore_n X dX7_ticks_75 rfl [(2, .int (Z24 24 0 0 q30.toNatClampNeg)), (0, .ref (ad 7 0 0)), (1, .int v1)] (by decide) rfl ?_
                refine V_iload_n X dX7_ticks_76 rfl 0 rfl ?_
                refine V_if_lt X 97 dX7_ticks_77 (by decide) (fun c32 => ?_) (fun c32 => ?_)
                · replace hs := if_t hs c32
                  refine V_iinc X (v1 + (1 : Int32)) dX7_ticks_97 2 rfl rfl [(1, .int (v1 + (1 : Int32))), (2, .int (Z24 24 0 0 q30.toNatClampNeg)), (0, .ref (ad 7 0 0))] (by decide) rfl ?_
                  refine V_goto X 56 dX7_ticks_100 (by decide) ?_
                  refine V_sub [2, 0] rfl ?_
                  exact ih56 _ _ hs
                · replace hs := if_f hs c32
                  refine V_aload_n X dX7_ticks_80 rfl 1 rfl ?_
                  refine V_iload_n X dX7_ticks_81 rfl 0 rfl ?_
                  refine V_bipush X (7 : Int32) dX7_ticks_82 (by decide) ?_
                  obtain ⟨q33, eq33, hs⟩ := bd_some hs
                  refine V_callVs X [.int (Z24 24 0 0 q30.toNatClampNeg), .int (7 : Int32)] dX7_ticks_84 m_X7_160 v_X7_ofParcel ⟨Nat.le_of_ble_eq_true rfl, Nat.le_of_ble_eq_true rfl⟩ ⟨Nat.zero_le _, Nat.zero_le _⟩ rfl (Nat.le_of_ble_eq_true rfl) (gm7 hM) rfl cl7 (c_X7_ofParcel hM eq33) ?_
                  refine V_iload_n X dX7_ticks_87 rfl 2 rfl ?_
                  refine V_icmp_ne X 97 dX7_ticks_88 (by decide) (fun c34 => ?_) (fun c34 => ?_)
                  · replace hs := if_f hs c34
                    refine V_iinc X (v1 + (1 : Int32)) dX7_ticks_97 2 rfl rfl [(1, .int (v1 + (1 : Int32))), (2, .int (Z24 24 0 0 q30.toNatClampNeg)), (0, .ref (ad 7 0 0))] (by decide) rfl ?_
                    refine V_goto X 56 dX7_ticks_100 (by decide) ?_
                    refine V_sub [2, 0] rfl ?_
                    exact ih56 _ _ hs
                  · replace hs := if_t hs c34
                    refine V_aload_n X dX7_ticks_91 rfl 1 rfl ?_
                    refine V_iload_n X dX7_ticks_92 rfl 0 rfl ?_
                    refine V_iload_n X dX7_ticks_93 rfl 2 rfl ?_
                    obtain ⟨Z36, eZ36, hs⟩ := bd_some hs
                    refine V_callVv X [.int (Z24 24 0 0 q30.toNatClampNeg), .int v1] dX7_ticks_94 m_X7_208 v_X7_tries ⟨Nat.le_of_ble_eq_true rfl, Nat.le_of_ble_eq_true rfl⟩ ⟨Nat.zero_le _, Nat.zero_le _⟩ rfl (Nat.le_of_ble_eq_true rfl) (gm7 hM) rfl cl7 (c_X7_tries hM eZ36) ?_
                    refine V_iinc X (v1 + (1 : Int32)) dX7_ticks_97 2 rfl rfl [(1, .int (v1 + (1 : Int32))), (2, .int (Z24 24 0 0 q30.toNatClampNeg)), (0, .ref (ad 7 0 0))] (by decide) rfl ?_
                    refine V_goto X 56 dX7_ticks_100 (by decide) ?_
                    refine V_sub [2, 0] rfl ?_
                    exact ih56 _ _ hs
          refine V_sub [1, 0] rfl ?_
          exact L56 _ _ _ hs
      · replace hs := if_f hs c3
        refine V_aload_n X dX7_ticks_20 rfl 0 rfl ?_
        refine V_iload_n X dX7_ticks_21 rfl 1 rfl ?_
        obtain ⟨Z38, eZ38, hs⟩ := bd_some hs
        refine V_callVv X [.int v1] dX7_ticks_22 m_X7_198 v_X7_waitsLess ⟨Nat.le_of_ble_eq_true rfl, Nat.le_of_ble_eq_true rfl⟩ ⟨Nat.zero_le _, Nat.zero_le _⟩ rfl (Nat.le_of_ble_eq_true rfl) (gm7 hM) rfl cl7 (c_X7_waitsLess hM eZ38) ?_
        refine V_iinc X (v1 + (1 : Int32)) dX7_ticks_25 1 rfl rfl [(1, .int (v1 + (1 : Int32))), (0, .ref (ad 7 0 0))] (by decide) rfl ?_
        refine V_goto X 12 dX7_ticks_28 (by decide) ?_
        refine V_sub [1, 0] rfl ?_
        exact ih12 _ _ hs
  refine V_sub [1, 0] rfl ?_
  exact L12 _ _ _ hs

def s_X7_run_L32 (fu : Nat) (p1 : Int32) : Nat → Int32 → Int32 → S4 → Option (Int32 × S4)
  | 0, _, _, _ => none
  | f32+1, v2, v3, Z6 => (if p1 ≤ v3 then some (((Z6 7 0 0 12) - v2), Z6) else (s_X7_ticks fu Z6).bind fun Z9 => s_X7_run_L32 fu p1 f32 v2 (v3 + (1 : Int32)) Z9)
def s_X7_run (fu : Nat) (p1 : Int32) (S : S4) : Option (Int32 × S4) := (s_X7_isBetween p1 (1 : Int32) (100 : Int32) S).bind fun q1 => (if q1 = 0 then (s_X7_fails (1 : Int32) S).bind fun q10 => some (q10.1, q10.2) else sv (u4 S 7 0 0 0 (0 : Int32)) fun Z3 => (s_X7_remembers fu Z3).bind fun Z5 => s_X7_run_L32 fu p1 fu (Z5 7 0 0 12) (0 : Int32) Z5)
set_option maxRecDepth 100000 in
set_option maxHeartbeats 4000000 in
theorem c_X7_run {l : Launch} {D : va_G} {cA : Nat → ClassId} {dm : Dm} {ad : Ad} {fu : Nat} {S : S4} {p1 : Int32} (hM : DM dm) {out : (Int32 × S4)} (hs : s_X7_run fu p1 S = some out) : Ct D cA dm ad l yX7_run cX7_run 4 (some .int) 6 139 S [.ref (ad 7 0 0), .int p1] (some (.int out.1)) out.2 := by
  refine Ct.of (by decide +kernel) (Nat.le_of_ble_eq_true rfl) [(0, .ref (ad 7 0 0)), (1, .int p1)] rfl (fun p e s m args below meth c A X hr => ?_)
  unfold s_X7_run at hs
  refine V_iload_n X dX7_run_0 rfl 1 rfl ?_
  refine V_iconst X (1 : Int32) dX7_run_1 (by decide) ?_
  refine V_bipush X (100 : Int32) dX7_run_2 (by decide) ?_
  obtain ⟨q1, eq1, hs⟩ := bd_some hs
  refine V_callSs X [.int p1, .int (1 : Int32), .int (100 : Int32)] dX7_run_4 m_X7_75 t_X7_isBetween ⟨Nat.le_of_ble_eq_true rfl, Nat.le_of_ble_eq_true rfl⟩ ⟨Nat.zero_le _, Nat.zero_le _⟩ rfl (Nat.le_of_ble_eq_true rfl) (c_X7_isBetween  eq1) ?_
  refine V_if_ne X 16 dX7_run_7 (by decide) (fun c2 => ?_) (fun c2 => ?_)
  · replace hs := if_f hs c2
    refine V_aload_n X dX7_run_16 rfl 0 rfl ?_
    refine V_iconst X (0 : Int32) dX7_run_17 (by decide) ?_
    refine V_put X dX7_run_18 f_X7_54 (gm7 hM) rfl (Nat.le_of_ble_eq_true rfl) rfl rfl rfl (fun Z3 eZ3 => ?_)
    replace hs := sv_some hs Z3 eZ3
    clear eZ3
    refine V_aload_n X dX7_run_21 rfl 0 rfl ?_
    obtain ⟨Z5, eZ5, hs⟩ := bd_some hs
    refine V_callVv X [] dX7_run_22 m_X7_97 v_X7_remembers ⟨Nat.le_of_ble_eq_true rfl, Nat.le_of_ble_eq_true rfl⟩ ⟨Nat.zero_le _, Nat.zero_le _⟩ rfl (Nat.le_of_ble_eq_true rfl) (gm7 hM) rfl cl7 (c_X7_remembers hM eZ5) ?_
    refine V_aload_n X dX7_run_25 rfl 0 rfl ?_
    refine V_get X dX7_run_26 r_X7_69 (gm7 hM) rfl rfl ?_
    refine V_istore_n X dX7_run_29 rfl [(2, .int (Z5 7 0 0 12)), (0, .ref (ad 7 0 0)), (1, .int p1)] (by decide) rfl ?_
    refine V_iconst X (0 : Int32) dX7_run_30 (by decide) ?_
    refine V_istore_n X dX7_run_31 rfl [(3, .int (0 : Int32)), (2, .int (Z5 7 0 0 12)), (0, .ref (ad 7 0 0)), (1, .int p1)] (by decide) rfl ?_
    have L32 : ∀ (n : Nat) (v2 v3 : Int32) (S1 : S4), s_X7_run_L32 fu p1 n v2 v3 S1 = some out → V D cA dm ad A 4 p l e ({ frames := 6, cells := 0, slots := 0, locals := 139 }) s m args below meth c 0 0 (MQ below (gQ D cA dm ad out.2 (some (.int out.1)) A) args s 0 0 A) S1 32 [(0, .ref (ad 7 0 0)), (1, .int p1), (2, .int v2), (3, .int v3)] [] := by
      intro n
      induction n with
      | zero => intro v2 v3 S1 hs; rw [s_X7_run_L32] at hs; cases hs
      | succ f32 ih32 =>
        intro v2 v3 Z6 hs
        rw [s_X7_run_L32] at hs
        refine V_iload_n X dX7_run_32 rfl 3 rfl ?_
        refine V_iload_n X dX7_run_33 rfl 1 rfl ?_
        refine V_icmp_ge X 47 dX7_run_34 (by decide) (fun c7 => ?_) (fun c7 => ?_)
        · replace hs := if_t hs c7
          refine V_aload_n X dX7_run_47 rfl 0 rfl ?_
          refine V_get X dX7_run_48 r_X7_69 (gm7 hM) rfl rfl ?_
          refine V_iload_n X dX7_run_51 rfl 2 rfl ?_
          refine V_isub X dX7_run_52 ?_
          obtain rfl := Option.some.inj hs; exact V_iret X hr dX7_run_53
        · replace hs := if_f hs c7
          refine V_aload_n X dX7_run_37 rfl 0 rfl ?_
          obtain ⟨Z9, eZ9, hs⟩ := bd_some hs
          refine V_callVv X [] dX7_run_38 m_X7_214 v_X7_ticks ⟨Nat.le_of_ble_eq_true rfl, Nat.le_of_ble_eq_true rfl⟩ ⟨Nat.zero_le _, Nat.zero_le _⟩ rfl (Nat.le_of_ble_eq_true rfl) (gm7 hM) rfl cl7 (c_X7_ticks hM eZ9) ?_
          refine V_iinc X (v3 + (1 : Int32)) dX7_run_41 3 rfl rfl [(3, .int (v3 + (1 : Int32))), (0, .ref (ad 7 0 0)), (1, .int p1), (2, .int v2)] (by decide) rfl ?_
          refine V_goto X 32 dX7_run_44 (by decide) ?_
          refine V_sub [1, 2, 3, 0] rfl ?_
          exact ih32 _ _ _ hs
    refine V_sub [2, 3, 1, 0] rfl ?_
    exact L32 _ _ _ _ hs
  · replace hs := if_t hs c2
    refine V_aload_n X dX7_run_10 rfl 0 rfl ?_
    refine V_iconst X (1 : Int32) dX7_run_11 (by decide) ?_
    obtain ⟨q10, eq10, hs⟩ := bd_some hs
    refine V_callVs X [.int (1 : Int32)] dX7_run_12 m_X7_79 v_X7_fails ⟨Nat.le_of_ble_eq_true rfl, Nat.le_of_ble_eq_true rfl⟩ ⟨Nat.zero_le _, Nat.zero_le _⟩ rfl (Nat.le_of_ble_eq_true rfl) (gm7 hM) rfl cl7 (c_X7_fails hM eq10) ?_
    obtain rfl := Option.some.inj hs; exact V_iret X hr dX7_run_15

def s_X7_setClosed (fu : Nat) (p1 : Int32) (p2 : Int32) (S : S4) : Option (Int32 × S4) := (s_X7_isChute p1 S).bind fun q1 => ((if q1 = 0 then some (1 : Int32) else some (0 : Int32))).bind fun q2 => sv (u4 S 7 0 0 0 q2) fun Z3 => (if (Z3 7 0 0 0) ≤ 0 then (s_X7_remembers fu Z3).bind fun Z6 => (s_X7_ofChute p1 (9 : Int32) Z6).bind fun q7 => ((if q7 = (1 : Int32) then some (1 : Int32) else some (0 : Int32))).bind fun q8 => ((if p2 = 0 then some (0 : Int32) else some (1 : Int32))).bind fun q9 => (s_X7_setsChute p1 (9 : Int32) q9 Z6).bind fun Z11 => gd (isB q8) (some (q8, Z11)) else some ((0 : Int32), Z3))
set_option maxRecDepth 100000 in
set_option maxHeartbeats 4000000 in
theorem c_X7_setClosed {l : Launch} {D : va_G} {cA : Nat → ClassId} {dm : Dm} {ad : Ad} {fu : Nat} {S : S4} {p1 : Int32} {p2 : Int32} (hM : DM dm) {out : (Int32 × S4)} (hs : s_X7_setClosed fu p1 p2 S = some out) : Ct D cA dm ad l yX7_setClosed cX7_setClosed 4 (some .boolean) 3 67 S [.ref (ad 7 0 0), .int p1, .int p2] (some (.int out.1)) out.2 := by
  refine Ct.of (by decide +kernel) (Nat.le_of_ble_eq_true rfl) [(0, .ref (ad 7 0 0)), (1, .int p1), (2, .int p2)] rfl (fun p e s m args below meth c A X hr => ?_)
  unfold s_X7_setClosed at hs
  refine V_aload_n X dX7_setClosed_0 rfl 0 rfl ?_
  refine V_aload_n X dX7_setClosed_1 rfl 0 rfl ?_
  refine V_iload_n X dX7_setClosed_2 rfl 1 rfl ?_
  obtain ⟨q1, eq1, hs⟩ := bd_some hs
  refine V_callVs X [.int p1] dX7_setClosed_3 m_X7_132 v_X7_isChute ⟨Nat.le_of_ble_eq_true rfl, Nat.le_of_ble_eq_true rfl⟩ ⟨Nat.zero_le _, Nat.zero_le _⟩ rfl (Nat.le_of_ble_eq_true rfl) (gm7 hM) rfl cl7 (c_X7_isChute hM eq1) ?_
  refine jn (P := fun q => V D cA dm ad A 4 p l e ({ frames := 3, cells := 0, slots := 0, locals := 67 }) s m args below meth c 0 0 (MQ below (gQ D cA dm ad out.2 (some (.int out.1)) A) args s 0 0 A) S 14 [(0, .ref (ad 7 0 0)), (1, .int p1), (2, .int p2)] [.int q, .ref (ad 7 0 0)]) hs (fun q2 hs => ?_) (fun J14 hs => ?_)
  · refine V_put X dX7_setClosed_14 f_X7_54 (gm7 hM) rfl (Nat.le_of_ble_eq_true rfl) rfl rfl rfl (fun Z3 eZ3 => ?_)
    replace hs := sv_some hs Z3 eZ3
    clear eZ3
    refine V_aload_n X dX7_setClosed_17 rfl 0 rfl ?_
    refine V_get X dX7_setClosed_18 r_X7_54 (gm7 hM) rfl rfl ?_
    refine V_if_le X 26 dX7_setClosed_21 (by decide) (fun c4 => ?_) (fun c4 => ?_)
    · replace hs := if_t hs c4
      refine V_aload_n X dX7_setClosed_26 rfl 0 rfl ?_
      obtain ⟨Z6, eZ6, hs⟩ := bd_some hs
      refine V_callVv X [] dX7_setClosed_27 m_X7_97 v_X7_remembers ⟨Nat.le_of_ble_eq_true rfl, Nat.le_of_ble_eq_true rfl⟩ ⟨Nat.zero_le _, Nat.zero_le _⟩ rfl (Nat.le_of_ble_eq_true rfl) (gm7 hM) rfl cl7 (c_X7_remembers hM eZ6) ?_
      refine V_aload_n X dX7_setClosed_30 rfl 0 rfl ?_
      refine V_iload_n X dX7_setClosed_31 rfl 1 rfl ?_
      refine V_bipush X (9 : Int32) dX7_setClosed_32 (by decide) ?_
      obtain ⟨q7, eq7, hs⟩ := bd_some hs
      refine V_callVs X [.int p1, .int (9 : Int32)] dX7_setClosed_34 m_X7_90 v_X7_ofChute ⟨Nat.le_of_ble_eq_true rfl, Nat.le_of_ble_eq_true rfl⟩ ⟨Nat.zero_le _, Nat.zero_le _⟩ rfl (Nat.le_of_ble_eq_true rfl) (gm7 hM) rfl cl7 (c_X7_ofChute hM eq7) ?_
      refine V_iconst X (1 : Int32) dX7_setClosed_37 (by decide) ?_
      refine jn (P := fun q => V D cA dm ad A 4 p l e ({ frames := 3, cells := 0, slots := 0, locals := 67 }) s m args below meth c 0 0 (MQ below (gQ D cA dm ad out.2 (some (.int out.1)) A) args s 0 0 A) Z6 46 [(0, .ref (ad 7 0 0)), (1, .int p1), (2, .int p2)] [.int q]) hs (fun q8 hs => ?_) (fun J46 hs => ?_)
      · refine V_istore_n X dX7_setClosed_46 rfl [(3, .int q8), (0, .ref (ad 7 0 0)), (1, .int p1), (2, .int p2)] (by decide) rfl ?_
        refine V_aload_n X dX7_setClosed_47 rfl 1 rfl ?_
        refine V_iload_n X dX7_setClosed_48 rfl 2 rfl ?_
        refine V_bipush X (9 : Int32) dX7_setClosed_49 (by decide) ?_
        refine V_iload_n X dX7_setClosed_51 rfl 3 rfl ?_
        refine jn (P := fun q => V D cA dm ad A 4 p l e ({ frames := 3, cells := 0, slots := 0, locals := 67 }) s m args below meth c 0 0 (MQ below (gQ D cA dm ad out.2 (some (.int out.1)) A) args s 0 0 A) Z6 60 [(3, .int q8), (0, .ref (ad 7 0 0)), (1, .int p1), (2, .int p2)] [.int q, .int (9 : Int32), .int p1, .ref (ad 7 0 0)]) hs (fun q9 hs => ?_) (fun J60 hs => ?_)
        · obtain ⟨Z11, eZ11, hs⟩ := bd_some hs
          refine V_callVv X [.int p1, .int (9 : Int32), .int q9] dX7_setClosed_60 m_X7_100 v_X7_setsChute ⟨Nat.le_of_ble_eq_true rfl, Nat.le_of_ble_eq_true rfl⟩ ⟨Nat.zero_le _, Nat.zero_le _⟩ rfl (Nat.le_of_ble_eq_true rfl) (gm7 hM) rfl cl7 (c_X7_setsChute hM eZ11) ?_
          refine V_iload_n X dX7_setClosed_63 rfl 0 rfl ?_
          obtain ⟨h12, hs⟩ := gd_some hs
          obtain rfl := Option.some.inj hs; exact V_zret X hr (bnar h12) dX7_setClosed_64
        · refine V_if_eq X 59 dX7_setClosed_52 (by decide) (fun c13 => ?_) (fun c13 => ?_)
          · replace hs := if_tB hs c13
            refine V_iconst X (0 : Int32) dX7_setClosed_59 (by decide) ?_
            exact J60 _ (bs_some hs)
          · replace hs := if_fB hs c13
            refine V_iconst X (1 : Int32) dX7_setClosed_55 (by decide) ?_
            refine V_goto X 60 dX7_setClosed_56 (by decide) ?_
            exact J60 _ (bs_some hs)
      · refine V_icmp_ne X 45 dX7_setClosed_38 (by decide) (fun c14 => ?_) (fun c14 => ?_)
        · replace hs := if_fB hs c14
          refine V_iconst X (0 : Int32) dX7_setClosed_45 (by decide) ?_
          exact J46 _ (bs_some hs)
        · replace hs := if_tB hs c14
          refine V_iconst X (1 : Int32) dX7_setClosed_41 (by decide) ?_
          refine V_goto X 46 dX7_setClosed_42 (by decide) ?_
          exact J46 _ (bs_some hs)
    · replace hs := if_f hs c4
      refine V_iconst X (0 : Int32) dX7_setClosed_24 (by decide) ?_
      obtain rfl := Option.some.inj hs; exact V_zret X hr nb0 dX7_setClosed_25
  · refine V_if_eq X 13 dX7_setClosed_6 (by decide) (fun c15 => ?_) (fun c15 => ?_)
    · replace hs := if_tB hs c15
      refine V_iconst X (1 : Int32) dX7_setClosed_13 (by decide) ?_
      exact J14 _ (bs_some hs)
    · replace hs := if_fB hs c15
      refine V_iconst X (0 : Int32) dX7_setClosed_9 (by decide) ?_
      refine V_goto X 14 dX7_setClosed_10 (by decide) ?_
      exact J14 _ (bs_some hs)

def s_X7_clear (fu : Nat) (p1 : Int32) (S : S4) : Option (Int32 × S4) := (s_X7_isChute p1 S).bind fun q1 => (if q1 = 0 then (s_X7_fails (1 : Int32) S).bind fun q12 => some (q12.1, q12.2) else (s_X7_ofChute p1 (7 : Int32) S).bind fun q3 => (if q3 = 0 then (s_X7_fails (2 : Int32) S).bind fun q11 => some (q11.1, q11.2) else sv (u4 S 7 0 0 0 (0 : Int32)) fun Z5 => (s_X7_remembers fu Z5).bind fun Z7 => (s_X7_ofChute p1 (7 : Int32) Z7).bind fun q8 => (s_X7_setsChute p1 (7 : Int32) (0 : Int32) Z7).bind fun Z10 => some (q8, Z10)))
set_option maxRecDepth 100000 in
set_option maxHeartbeats 4000000 in
theorem c_X7_clear {l : Launch} {D : va_G} {cA : Nat → ClassId} {dm : Dm} {ad : Ad} {fu : Nat} {S : S4} {p1 : Int32} (hM : DM dm) {out : (Int32 × S4)} (hs : s_X7_clear fu p1 S = some out) : Ct D cA dm ad l yX7_clear cX7_clear 3 (some .int) 3 67 S [.ref (ad 7 0 0), .int p1] (some (.int out.1)) out.2 := by
  refine Ct.of (by decide +kernel) (Nat.le_of_ble_eq_true rfl) [(0, .ref (ad 7 0 0)), (1, .int p1)] rfl (fun p e s m args below meth c A X hr => ?_)
  unfold s_X7_clear at hs
  refine V_aload_n X dX7_clear_0 rfl 0 rfl ?_
  refine V_iload_n X dX7_clear_1 rfl 1 rfl ?_
  obtain ⟨q1, eq1, hs⟩ := bd_some hs
  refine V_callVs X [.int p1] dX7_clear_2 m_X7_132 v_X7_isChute ⟨Nat.le_of_ble_eq_true rfl, Nat.le_of_ble_eq_true rfl⟩ ⟨Nat.zero_le _, Nat.zero_le _⟩ rfl (Nat.le_of_ble_eq_true rfl) (gm7 hM) rfl cl7 (c_X7_isChute hM eq1) ?_
  refine V_if_ne X 14 dX7_clear_5 (by decide) (fun c2 => ?_) (fun c2 => ?_)
  · replace hs := if_f hs c2
    refine V_aload_n X dX7_clear_14 rfl 0 rfl ?_
    refine V_iload_n X dX7_clear_15 rfl 1 rfl ?_
    refine V_bipush X (7 : Int32) dX7_clear_16 (by decide) ?_
    obtain ⟨q3, eq3, hs⟩ := bd_some hs
    refine V_callVs X [.int p1, .int (7 : Int32)] dX7_clear_18 m_X7_90 v_X7_ofChute ⟨Nat.le_of_ble_eq_true rfl, Nat.le_of_ble_eq_true rfl⟩ ⟨Nat.zero_le _, Nat.zero_le _⟩ rfl (Nat.le_of_ble_eq_true rfl) (gm7 hM) rfl cl7 (c_X7_ofChute hM eq3) ?_
    refine V_if_ne X 30 dX7_clear_21 (by decide) (fun c4 => ?_) (fun c4 => ?_)
    · replace hs := if_f hs c4
      refine V_aload_n X dX7_clear_30 rfl 0 rfl ?_
      refine V_iconst X (0 : Int32) dX7_clear_31 (by decide) ?_
      refine V_put X dX7_clear_32 f_X7_54 (gm7 hM) rfl (Nat.le_of_ble_eq_true rfl) rfl rfl rfl (fun Z5 eZ5 => ?_)
      replace hs := sv_some hs Z5 eZ5
      clear eZ5
      refine V_aload_n X dX7_clear_35 rfl 0 rfl ?_
      obtain ⟨Z7, eZ7, hs⟩ := bd_some hs
      refine V_callVv X [] dX7_clear_36 m_X7_97 v_X7_remembers ⟨Nat.le_of_ble_eq_true rfl, Nat.le_of_ble_eq_true rfl⟩ ⟨Nat.zero_le _, Nat.zero_le _⟩ rfl (Nat.le_of_ble_eq_true rfl) (gm7 hM) rfl cl7 (c_X7_remembers hM eZ7) ?_
      refine V_aload_n X dX7_clear_39 rfl 0 rfl ?_
      refine V_iload_n X dX7_clear_40 rfl 1 rfl ?_
      refine V_bipush X (7 : Int32) dX7_clear_41 (by decide) ?_
      obtain ⟨q8, eq8, hs⟩ := bd_some hs
      refine V_callVs X [.int p1, .int (7 : Int32)] dX7_clear_43 m_X7_90 v_X7_ofChute ⟨Nat.le_of_ble_eq_true rfl, Nat.le_of_ble_eq_true rfl⟩ ⟨Nat.zero_le _, Nat.zero_le _⟩ rfl (Nat.le_of_ble_eq_true rfl) (gm7 hM) rfl cl7 (c_X7_ofChute hM eq8) ?_
      refine V_istore_n X dX7_clear_46 rfl [(2, .int q8), (0, .ref (ad 7 0 0)), (1, .int p1)] (by decide) rfl ?_
      refine V_aload_n X dX7_clear_47 rfl 1 rfl ?_
      refine V_iload_n X dX7_clear_48 rfl 2 rfl ?_
      refine V_bipush X (7 : Int32) dX7_clear_49 (by decide) ?_
      refine V_iconst X (0 : Int32) dX7_clear_51 (by decide) ?_
      obtain ⟨Z10, eZ10, hs⟩ := bd_some hs
      refine V_callVv X [.int p1, .int (7 : Int32), .int (0 : Int32)] dX7_clear_52 m_X7_100 v_X7_setsChute ⟨Nat.le_of_ble_eq_true rfl, Nat.le_of_ble_eq_true rfl⟩ ⟨Nat.zero_le _, Nat.zero_le _⟩ rfl (Nat.le_of_ble_eq_true rfl) (gm7 hM) rfl cl7 (c_X7_setsChute hM eZ10) ?_
      refine V_iload_n X dX7_clear_55 rfl 0 rfl ?_
      obtain rfl := Option.some.inj hs; exact V_iret X hr dX7_clear_56
    · replace hs := if_t hs c4
      refine V_aload_n X dX7_clear_24 rfl 0 rfl ?_
      refine V_iconst X (2 : Int32) dX7_clear_25 (by decide) ?_
      obtain ⟨q11, eq11, hs⟩ := bd_some hs
      refine V_callVs X [.int (2 : Int32)] dX7_clear_26 m_X7_79 v_X7_fails ⟨Nat.le_of_ble_eq_true rfl, Nat.le_of_ble_eq_true rfl⟩ ⟨Nat.zero_le _, Nat.zero_le _⟩ rfl (Nat.le_of_ble_eq_true rfl) (gm7 hM) rfl cl7 (c_X7_fails hM eq11) ?_
      obtain rfl := Option.some.inj hs; exact V_iret X hr dX7_clear_29
  · replace hs := if_t hs c2
    refine V_aload_n X dX7_clear_8 rfl 0 rfl ?_
    refine V_iconst X (1 : Int32) dX7_clear_9 (by decide) ?_
    obtain ⟨q12, eq12, hs⟩ := bd_some hs
    refine V_callVs X [.int (1 : Int32)] dX7_clear_10 m_X7_79 v_X7_fails ⟨Nat.le_of_ble_eq_true rfl, Nat.le_of_ble_eq_true rfl⟩ ⟨Nat.zero_le _, Nat.zero_le _⟩ rfl (Nat.le_of_ble_eq_true rfl) (gm7 hM) rfl cl7 (c_X7_fails hM eq12) ?_
    obtain rfl := Option.some.inj hs; exact V_iret X hr dX7_clear_13

def s_X7_aimedAt_L4 (fu : Nat) (p1 : Int32) (S : S4) : Nat → Int32 → Int32 → Option Int32
  | 0, _, _ => none
  | f4+1, v2, v3 => (if (S 7 0 0 11) ≤ v3 then some v2 else (s_X7_ofParcel v3 (7 : Int32) S).bind fun q2 => ((if q2 = p1 then some (1 : Int32) else some (0 : Int32))).bind fun q3 => s_X7_aimedAt_L4 fu p1 S f4 (v2 + q3) (v3 + (1 : Int32)))
def s_X7_aimedAt (fu : Nat) (p1 : Int32) (S : S4) : Option Int32 := s_X7_aimedAt_L4 fu p1 S fu (0 : Int32) (0 : Int32)
set_option maxRecDepth 100000 in
set_option maxHeartbeats 4000000 in
theorem c_X7_aimedAt {l : Launch} {D : va_G} {cA : Nat → ClassId} {dm : Dm} {ad : Ad} {fu : Nat} {S : S4} {p1 : Int32} (hM : DM dm) {out : Int32} (hs : s_X7_aimedAt fu p1 S = some out) : Ct D cA dm ad l yX7_aimedAt cX7_aimedAt 4 (some .int) 1 22 S [.ref (ad 7 0 0), .int p1] (some (.int out)) S := by
  refine Ct.of (by decide +kernel) (Nat.le_of_ble_eq_true rfl) [(0, .ref (ad 7 0 0)), (1, .int p1)] rfl (fun p e s m args below meth c A X hr => ?_)
  unfold s_X7_aimedAt at hs
  refine V_iconst X (0 : Int32) dX7_aimedAt_0 (by decide) ?_
  refine V_istore_n X dX7_aimedAt_1 rfl [(2, .int (0 : Int32)), (0, .ref (ad 7 0 0)), (1, .int p1)] (by decide) rfl ?_
  refine V_iconst X (0 : Int32) dX7_aimedAt_2 (by decide) ?_
  refine V_istore_n X dX7_aimedAt_3 rfl [(3, .int (0 : Int32)), (2, .int (0 : Int32)), (0, .ref (ad 7 0 0)), (1, .int p1)] (by decide) rfl ?_
  have L4 : ∀ (n : Nat) (v2 v3 : Int32) , s_X7_aimedAt_L4 fu p1 S n v2 v3 = some out → V D cA dm ad A 4 p l e ({ frames := 1, cells := 0, slots := 0, locals := 22 }) s m args below meth c 0 0 (MQ below (gQ D cA dm ad S (some (.int out)) A) args s 0 0 A) S 4 [(0, .ref (ad 7 0 0)), (1, .int p1), (2, .int v2), (3, .int v3)] [] := by
    intro n
    induction n with
    | zero => intro v2 v3 hs; rw [s_X7_aimedAt_L4] at hs; cases hs
    | succ f4 ih4 =>
      intro v2 v3 hs
      rw [s_X7_aimedAt_L4] at hs
      refine V_iload_n X dX7_aimedAt_4 rfl 3 rfl ?_
      refine V_aload_n X dX7_aimedAt_5 rfl 0 rfl ?_
      refine V_get X dX7_aimedAt_6 r_X7_63 (gm7 hM) rfl rfl ?_
      refine V_icmp_ge X 37 dX7_aimedAt_9 (by decide) (fun c1 => ?_) (fun c1 => ?_)
      · replace hs := if_t hs c1
        refine V_iload_n X dX7_aimedAt_37 rfl 2 rfl ?_
        obtain rfl := Option.some.inj hs; exact V_iret X hr dX7_aimedAt_38
      · replace hs := if_f hs c1
        refine V_iload_n X dX7_aimedAt_12 rfl 2 rfl ?_
        refine V_aload_n X dX7_aimedAt_13 rfl 0 rfl ?_
        refine V_iload_n X dX7_aimedAt_14 rfl 3 rfl ?_
        refine V_bipush X (7 : Int32) dX7_aimedAt_15 (by decide) ?_
        obtain ⟨q2, eq2, hs⟩ := bd_some hs
        refine V_callVs X [.int v3, .int (7 : Int32)] dX7_aimedAt_17 m_X7_160 v_X7_ofParcel ⟨Nat.le_of_ble_eq_true rfl, Nat.le_of_ble_eq_true rfl⟩ ⟨Nat.zero_le _, Nat.zero_le _⟩ rfl (Nat.le_of_ble_eq_true rfl) (gm7 hM) rfl cl7 (c_X7_ofParcel hM eq2) ?_
        refine V_iload_n X dX7_aimedAt_20 rfl 1 rfl ?_
        refine jn (P := fun q => V D cA dm ad A 4 p l e ({ frames := 1, cells := 0, slots := 0, locals := 22 }) s m args below meth c 0 0 (MQ below (gQ D cA dm ad S (some (.int out)) A) args s 0 0 A) S 29 [(0, .ref (ad 7 0 0)), (1, .int p1), (2, .int v2), (3, .int v3)] [.int q, .int v2]) hs (fun q3 hs => ?_) (fun J29 hs => ?_)
        · refine V_iadd X dX7_aimedAt_29 ?_
          refine V_istore_n X dX7_aimedAt_30 rfl [(2, .int (v2 + q3)), (0, .ref (ad 7 0 0)), (1, .int p1), (3, .int v3)] (by decide) rfl ?_
          refine V_iinc X (v3 + (1 : Int32)) dX7_aimedAt_31 3 rfl rfl [(3, .int (v3 + (1 : Int32))), (2, .int (v2 + q3)), (0, .ref (ad 7 0 0)), (1, .int p1)] (by decide) rfl ?_
          refine V_goto X 4 dX7_aimedAt_34 (by decide) ?_
          refine V_sub [2, 3, 1, 0] rfl ?_
          exact ih4 _ _ hs
        · refine V_icmp_ne X 28 dX7_aimedAt_21 (by decide) (fun c4 => ?_) (fun c4 => ?_)
          · replace hs := if_fB hs c4
            refine V_iconst X (0 : Int32) dX7_aimedAt_28 (by decide) ?_
            exact J29 _ (bs_some hs)
          · replace hs := if_tB hs c4
            refine V_iconst X (1 : Int32) dX7_aimedAt_24 (by decide) ?_
            refine V_goto X 29 dX7_aimedAt_25 (by decide) ?_
            exact J29 _ (bs_some hs)
  refine V_sub [2, 3, 1, 0] rfl ?_
  exact L4 _ _ _ hs

def s_X7_chute (fu : Nat) (p1 : Int32) (p2 : Int32) (S : S4) : Option (Int32 × S4) := (s_X7_isChute p1 S).bind fun q1 => (if q1 = 0 then (s_X7_fails (1 : Int32) S).bind fun q33 => some (q33.1, q33.2) else (s_X7_isBetween p2 (0 : Int32) (11 : Int32) S).bind fun q3 => (if q3 = 0 then (s_X7_fails (2 : Int32) S).bind fun q32 => some (q32.1, q32.2) else sv (u4 S 7 0 0 0 (0 : Int32)) fun Z5 => (if p2 = (0 : Int32) then (s_X7_ofChute p1 (0 : Int32) Z5).bind fun q7 => some (q7, Z5) else if p2 = (1 : Int32) then (s_X7_ofChute p1 (6 : Int32) Z5).bind fun q9 => some (q9, Z5) else if p2 = (2 : Int32) then (s_X7_ofChute p1 (7 : Int32) Z5).bind fun q11 => some (q11, Z5) else if p2 = (3 : Int32) then (s_X7_ofChute p1 (8 : Int32) Z5).bind fun q13 => some (q13, Z5) else if p2 = (4 : Int32) then (s_X7_ofChute p1 (9 : Int32) Z5).bind fun q15 => some (q15, Z5) else if p2 = (5 : Int32) then (s_X7_isUsable p1 Z5).bind fun q17 => (if q17 = 0 then some ((0 : Int32), Z5) else some ((1 : Int32), Z5)) else if p2 = (6 : Int32) then (s_X7_ofChute p1 (p2 + (4 : Int32)) Z5).bind fun q20 => some (q20, Z5) else if p2 = (7 : Int32) then (s_X7_ofChute p1 (p2 + (4 : Int32)) Z5).bind fun q22 => some (q22, Z5) else if p2 = (8 : Int32) then (s_X7_ofChute p1 (p2 + (4 : Int32)) Z5).bind fun q24 => some (q24, Z5) else if p2 = (9 : Int32) then (s_X7_ofChute p1 (p2 + (4 : Int32)) Z5).bind fun q26 => some (q26, Z5) else if p2 = (10 : Int32) then (s_X7_ofChute p1 (p2 + (4 : Int32)) Z5).bind fun q28 => some (q28, Z5) else if p2 = (11 : Int32) then (s_X7_aimedAt fu p1 Z5).bind fun q30 => some (q30, Z5) else (s_X7_ofChute p1 (p2 + (4 : Int32)) Z5).bind fun q31 => some (q31, Z5))))
set_option maxRecDepth 100000 in
set_option maxHeartbeats 4000000 in
theorem c_X7_chute {l : Launch} {D : va_G} {cA : Nat → ClassId} {dm : Dm} {ad : Ad} {fu : Nat} {S : S4} {p1 : Int32} {p2 : Int32} (hM : DM dm) {out : (Int32 × S4)} (hs : s_X7_chute fu p1 p2 S = some out) : Ct D cA dm ad l yX7_chute cX7_chute 3 (some .int) 2 45 S [.ref (ad 7 0 0), .int p1, .int p2] (some (.int out.1)) out.2 := by
  refine Ct.of (by decide +kernel) (Nat.le_of_ble_eq_true rfl) [(0, .ref (ad 7 0 0)), (1, .int p1), (2, .int p2)] rfl (fun p e s m args below meth c A X hr => ?_)
  unfold s_X7_chute at hs
  refine V_aload_n X dX7_chute_0 rfl 0 rfl ?_
  refine V_iload_n X dX7_chute_1 rfl 1 rfl ?_
  obtain ⟨q1, eq1, hs⟩ := bd_some hs
  refine V_callVs X [.int p1] dX7_chute_2 m_X7_132 v_X7_isChute ⟨Nat.le_of_ble_eq_true rfl, Nat.le_of_ble_eq_true rfl⟩ ⟨Nat.zero_le _, Nat.zero_le _⟩ rfl (Nat.le_of_ble_eq_true rfl) (gm7 hM) rfl cl7 (c_X7_isChute hM eq1) ?_
  refine V_if_ne X 14 dX7_chute_5 (by decide) (fun c2 => ?_) (fun c2 => ?_)
  · replace hs := if_f hs c2
    refine V_iload_n X dX7_chute_14 rfl 2 rfl ?_
    refine V_iconst X (0 : Int32) dX7_chute_15 (by decide) ?_
    refine V_bipush X (11 : Int32) dX7_chute_16 (by decide) ?_
    obtain ⟨q3, eq3, hs⟩ := bd_some hs
    refine V_callSs X [.int p2, .int (0 : Int32), .int (11 : Int32)] dX7_chute_18 m_X7_75 t_X7_isBetween ⟨Nat.le_of_ble_eq_true rfl, Nat.le_of_ble_eq_true rfl⟩ ⟨Nat.zero_le _, Nat.zero_le _⟩ rfl (Nat.le_of_ble_eq_true rfl) (c_X7_isBetween  eq3) ?_
    refine V_if_ne X 30 dX7_chute_21 (by decide) (fun c4 => ?_) (fun c4 => ?_)
    · replace hs := if_f hs c4
      refine V_aload_n X dX7_chute_30 rfl 0 rfl ?_
      refine V_iconst X (0 : Int32) dX7_chute_31 (by decide) ?_
      refine V_put X dX7_chute_32 f_X7_54 (gm7 hM) rfl (Nat.le_of_ble_eq_true rfl) rfl rfl rfl (fun Z5 eZ5 => ?_)
      replace hs := sv_some hs Z5 eZ5
      clear eZ5
      refine V_iload_n X dX7_chute_35 rfl 2 rfl ?_
      by_cases c6 : p2 = (0 : Int32)
      · replace hs := if_t hs c6
        refine V_tsw X 100 dX7_chute_36 (0) (by rw [c6]; rfl) (by decide) (by decide) rfl (by decide) ?_
        refine V_aload_n X dX7_chute_100 rfl 0 rfl ?_
        refine V_iload_n X dX7_chute_101 rfl 1 rfl ?_
        refine V_iconst X (0 : Int32) dX7_chute_102 (by decide) ?_
        obtain ⟨q7, eq7, hs⟩ := bd_some hs
        refine V_callVs X [.int p1, .int (0 : Int32)] dX7_chute_103 m_X7_90 v_X7_ofChute ⟨Nat.le_of_ble_eq_true rfl, Nat.le_of_ble_eq_true rfl⟩ ⟨Nat.zero_le _, Nat.zero_le _⟩ rfl (Nat.le_of_ble_eq_true rfl) (gm7 hM) rfl cl7 (c_X7_ofChute hM eq7) ?_
        obtain rfl := Option.some.inj hs; exact V_iret X hr dX7_chute_106
      replace hs := if_f hs c6
      by_cases c8 : p2 = (1 : Int32)
      · replace hs := if_t hs c8
        refine V_tsw X 107 dX7_chute_36 (1) (by rw [c8]; rfl) (by decide) (by decide) rfl (by decide) ?_
        refine V_aload_n X dX7_chute_107 rfl 0 rfl ?_
        refine V_iload_n X dX7_chute_108 rfl 1 rfl ?_
        refine V_bipush X (6 : Int32) dX7_chute_109 (by decide) ?_
        obtain ⟨q9, eq9, hs⟩ := bd_some hs
        refine V_callVs X [.int p1, .int (6 : Int32)] dX7_chute_111 m_X7_90 v_X7_ofChute ⟨Nat.le_of_ble_eq_true rfl, Nat.le_of_ble_eq_true rfl⟩ ⟨Nat.zero_le _, Nat.zero_le _⟩ rfl (Nat.le_of_ble_eq_true rfl) (gm7 hM) rfl cl7 (c_X7_ofChute hM eq9) ?_
        obtain rfl := Option.some.inj hs; exact V_iret X hr dX7_chute_114
      replace hs := if_f hs c8
      by_cases c10 : p2 = (2 : Int32)
      · replace hs := if_t hs c10
        refine V_tsw X 115 dX7_chute_36 (2) (by rw [c10]; rfl) (by decide) (by decide) rfl (by decide) ?_
        refine V_aload_n X dX7_chute_115 rfl 0 rfl ?_
        refine V_iload_n X dX7_chute_116 rfl 1 rfl ?_
        refine V_bipush X (7 : Int32) dX7_chute_117 (by decide) ?_
        obtain ⟨q11, eq11, hs⟩ := bd_some hs
        refine V_callVs X [.int p1, .int (7 : Int32)] dX7_chute_119 m_X7_90 v_X7_ofChute ⟨Nat.le_of_ble_eq_true rfl, Nat.le_of_ble_eq_true rfl⟩ ⟨Nat.zero_le _, Nat.zero_le _⟩ rfl (Nat.le_of_ble_eq_true rfl) (gm7 hM) rfl cl7 (c_X7_ofChute hM eq11) ?_
        obtain rfl := Option.some.inj hs; exact V_iret X hr dX7_chute_122
      replace hs := if_f hs c10
      by_cases c12 : p2 = (3 : Int32)
      · replace hs := if_t hs c12
        refine V_tsw X 123 dX7_chute_36 (3) (by rw [c12]; rfl) (by decide) (by decide) rfl (by decide) ?_
        refine V_aload_n X dX7_chute_123 rfl 0 rfl ?_
        refine V_iload_n X dX7_chute_124 rfl 1 rfl ?_
        refine V_bipush X (8 : Int32) dX7_chute_125 (by decide) ?_
        obtain ⟨q13, eq13, hs⟩ := bd_some hs
        refine V_callVs X [.int p1, .int (8 : Int32)] dX7_chute_127 m_X7_90 v_X7_ofChute ⟨Nat.le_of_ble_eq_true rfl, Nat.le_of_ble_eq_true rfl⟩ ⟨Nat.zero_le _, Nat.zero_le _⟩ rfl (Nat.le_of_ble_eq_true rfl) (gm7 hM) rfl cl7 (c_X7_ofChute hM eq13) ?_
        obtain rfl := Option.some.inj hs; exact V_iret X hr dX7_chute_130
      replace hs := if_f hs c12
      by_cases c14 : p2 = (4 : Int32)
      · replace hs := if_t hs c14
        refine V_tsw X 131 dX7_chute_36 (4) (by rw [c14]; rfl) (by decide) (by decide) rfl (by decide) ?_
        refine V_aload_n X dX7_chute_131 rfl 0 rfl ?_
        refine V_iload_n X dX7_chute_132 rfl 1 rfl ?_
        refine V_bipush X (9 : Int32) dX7_chute_133 (by decide) ?_
        obtain ⟨q15, eq15, hs⟩ := bd_some hs
        refine V_callVs X [.int p1, .int (9 : Int32)] dX7_chute_135 m_X7_90 v_X7_ofChute ⟨Nat.le_of_ble_eq_true rfl, Nat.le_of_ble_eq_true rfl⟩ ⟨Nat.zero_le _, Nat.zero_le _⟩ rfl (Nat.le_of_ble_eq_true rfl) (gm7 hM) rfl cl7 (c_X7_ofChute hM eq15) ?_
        obtain rfl := Option.some.inj hs; exact V_iret X hr dX7_chute_138
      replace hs := if_f hs c14
      by_cases c16 : p2 = (5 : Int32)
      · replace hs := if_t hs c16
        refine V_tsw X 139 dX7_chute_36 (5) (by rw [c16]; rfl) (by decide) (by decide) rfl (by decide) ?_
        refine V_aload_n X dX7_chute_139 rfl 0 rfl ?_
        refine V_iload_n X dX7_chute_140 rfl 1 rfl ?_
        obtain ⟨q17, eq17, hs⟩ := bd_some hs
        refine V_callVs X [.int p1] dX7_chute_141 m_X7_169 v_X7_isUsable ⟨Nat.le_of_ble_eq_true rfl, Nat.le_of_ble_eq_true rfl⟩ ⟨Nat.zero_le _, Nat.zero_le _⟩ rfl (Nat.le_of_ble_eq_true rfl) (gm7 hM) rfl cl7 (c_X7_isUsable hM eq17) ?_
        refine V_if_eq X 151 dX7_chute_144 (by decide) (fun c18 => ?_) (fun c18 => ?_)
        · replace hs := if_t hs c18
          refine V_iconst X (0 : Int32) dX7_chute_151 (by decide) ?_
          obtain rfl := Option.some.inj hs; exact V_iret X hr dX7_chute_152
        · replace hs := if_f hs c18
          refine V_iconst X (1 : Int32) dX7_chute_147 (by decide) ?_
          refine V_goto X 152 dX7_chute_148 (by decide) ?_
          obtain rfl := Option.some.inj hs; exact V_iret X hr dX7_chute_152
      replace hs := if_f hs c16
      by_cases c19 : p2 = (6 : Int32)
      · replace hs := if_t hs c19
        refine V_tsw X 159 dX7_chute_36 (6) (by rw [c19]; rfl) (by decide) (by decide) rfl (by decide) ?_
        refine V_aload_n X dX7_chute_159 rfl 0 rfl ?_
        refine V_iload_n X dX7_chute_160 rfl 1 rfl ?_
        refine V_iload_n X dX7_chute_161 rfl 2 rfl ?_
        refine V_iconst X (4 : Int32) dX7_chute_162 (by decide) ?_
        refine V_iadd X dX7_chute_163 ?_
        obtain ⟨q20, eq20, hs⟩ := bd_some hs
        refine V_callVs X [.int p1, .int (p2 + (4 : Int32))] dX7_chute_164 m_X7_90 v_X7_ofChute ⟨Nat.le_of_ble_eq_true rfl, Nat.le_of_ble_eq_true rfl⟩ ⟨Nat.zero_le _, Nat.zero_le _⟩ rfl (Nat.le_of_ble_eq_true rfl) (gm7 hM) rfl cl7 (c_X7_ofChute hM eq20) ?_
        obtain rfl := Option.some.inj hs; exact V_iret X hr dX7_chute_167
      replace hs := if_f hs c19
      by_cases c21 : p2 = (7 : Int32)
      · replace hs := if_t hs c21
        refine V_tsw X 159 dX7_chute_36 (7) (by rw [c21]; rfl) (by decide) (by decide) rfl (by decide) ?_
        refine V_aload_n X dX7_chute_159 rfl 0 rfl ?_
        refine V_iload_n X dX7_chute_160 rfl 1 rfl ?_
        refine V_iload_n X dX7_chute_161 rfl 2 rfl ?_
        refine V_iconst X (4 : Int32) dX7_chute_162 (by decide) ?_
        refine V_iadd X dX7_chute_163 ?_
        obtain ⟨q22, eq22, hs⟩ := bd_some hs
        refine V_callVs X [.int p1, .int (p2 + (4 : Int32))] dX7_chute_164 m_X7_90 v_X7_ofChute ⟨Nat.le_of_ble_eq_true rfl, Nat.le_of_ble_eq_true rfl⟩ ⟨Nat.zero_le _, Nat.zero_le _⟩ rfl (Nat.le_of_ble_eq_true rfl) (gm7 hM) rfl cl7 (c_X7_ofChute hM eq22) ?_
        obtain rfl := Option.some.inj hs; exact V_iret X hr dX7_chute_167
      replace hs := if_f hs c21
      by_cases c23 : p2 = (8 : Int32)
      · replace hs := if_t hs c23
        refine V_tsw X 159 dX7_chute_36 (8) (by rw [c23]; rfl) (by decide) (by decide) rfl (by decide) ?_
        refine V_aload_n X dX7_chute_159 rfl 0 rfl ?_
        refine V_iload_n X dX7_chute_160 rfl 1 rfl ?_
        refine V_iload_n X dX7_chute_161 rfl 2 rfl ?_
        refine V_iconst X (4 : Int32) dX7_chute_162 (by decide) ?_
        refine V_iadd X dX7_chute_163 ?_
        obtain ⟨q24, eq24, hs⟩ := bd_some hs
        refine V_callVs X [.int p1, .int (p2 + (4 : Int32))] dX7_chute_164 m_X7_90 v_X7_ofChute ⟨Nat.le_of_ble_eq_true rfl, Nat.le_of_ble_eq_true rfl⟩ ⟨Nat.zero_le _, Nat.zero_le _⟩ rfl (Nat.le_of_ble_eq_true rfl) (gm7 hM) rfl cl7 (c_X7_ofChute hM eq24) ?_
        obtain rfl := Option.some.inj hs; exact V_iret X hr dX7_chute_167
      replace hs := if_f hs c23
      by_cases c25 : p2 = (9 : Int32)
      · replace hs := if_t hs c25
        refine V_tsw X 159 dX7_chute_36 (9) (by rw [c25]; rfl) (by decide) (by decide) rfl (by decide) ?_
        refine V_aload_n X dX7_chute_159 rfl 0 rfl ?_
        refine V_iload_n X dX7_chute_160 rfl 1 rfl ?_
        refine V_iload_n X dX7_chute_161 rfl 2 rfl ?_
        refine V_iconst X (4 : Int32) dX7_chute_162 (by decide) ?_
        refine V_iadd X dX7_chute_163 ?_
        obtain ⟨q26, eq26, hs⟩ := bd_some hs
        refine V_callVs X [.int p1, .int (p2 + (4 : Int32))] dX7_chute_164 m_X7_90 v_X7_ofChute ⟨Nat.le_of_ble_eq_true rfl, Nat.le_of_ble_eq_true rfl⟩ ⟨Nat.zero_le _, Nat.zero_le _⟩ rfl (Nat.le_of_ble_eq_true rfl) (gm7 hM) rfl cl7 (c_X7_ofChute hM eq26) ?_
        obtain rfl := Option.some.inj hs; exact V_iret X hr dX7_chute_167
      replace hs := if_f hs c25
      by_cases c27 : p2 = (10 : Int32)
      · replace hs := if_t hs c27
        refine V_tsw X 159 dX7_chute_36 (10) (by rw [c27]; rfl) (by decide) (by decide) rfl (by decide) ?_
        refine V_aload_n X dX7_chute_159 rfl 0 rfl ?_
        refine V_iload_n X dX7_chute_160 rfl 1 rfl ?_
        refine V_iload_n X dX7_chute_161 rfl 2 rfl ?_
        refine V_iconst X (4 : Int32) dX7_chute_162 (by decide) ?_
        refine V_iadd X dX7_chute_163 ?_
        obtain ⟨q28, eq28, hs⟩ := bd_some hs
        refine V_callVs X [.int p1, .int (p2 + (4 : Int32))] dX7_chute_164 m_X7_90 v_X7_ofChute ⟨Nat.le_of_ble_eq_true rfl, Nat.le_of_ble_eq_true rfl⟩ ⟨Nat.zero_le _, Nat.zero_le _⟩ rfl (Nat.le_of_ble_eq_true rfl) (gm7 hM) rfl cl7 (c_X7_ofChute hM eq28) ?_
        obtain rfl := Option.some.inj hs; exact V_iret X hr dX7_chute_167
      replace hs := if_f hs c27
      by_cases c29 : p2 = (11 : Int32)
      · replace hs := if_t hs c29
        refine V_tsw X 153 dX7_chute_36 (11) (by rw [c29]; rfl) (by decide) (by decide) rfl (by decide) ?_
        refine V_aload_n X dX7_chute_153 rfl 0 rfl ?_
        refine V_iload_n X dX7_chute_154 rfl 1 rfl ?_
        obtain ⟨q30, eq30, hs⟩ := bd_some hs
        refine V_callVs X [.int p1] dX7_chute_155 m_X7_217 v_X7_aimedAt ⟨Nat.le_of_ble_eq_true rfl, Nat.le_of_ble_eq_true rfl⟩ ⟨Nat.zero_le _, Nat.zero_le _⟩ rfl (Nat.le_of_ble_eq_true rfl) (gm7 hM) rfl cl7 (c_X7_aimedAt hM eq30) ?_
        obtain rfl := Option.some.inj hs; exact V_iret X hr dX7_chute_158
      replace hs := if_f hs c29
      refine V_tswD X 159 dX7_chute_36 (by have ec6 := sw_ne c6 (0) (by rfl); have ec8 := sw_ne c8 (1) (by rfl); have ec10 := sw_ne c10 (2) (by rfl); have ec12 := sw_ne c12 (3) (by rfl); have ec14 := sw_ne c14 (4) (by rfl); have ec16 := sw_ne c16 (5) (by rfl); have ec19 := sw_ne c19 (6) (by rfl); have ec21 := sw_ne c21 (7) (by rfl); have ec23 := sw_ne c23 (8) (by rfl); have ec25 := sw_ne c25 (9) (by rfl); have ec27 := sw_ne c27 (10) (by rfl); have ec29 := sw_ne c29 (11) (by rfl); omega) (by decide) ?_
      refine V_aload_n X dX7_chute_159 rfl 0 rfl ?_
      refine V_iload_n X dX7_chute_160 rfl 1 rfl ?_
      refine V_iload_n X dX7_chute_161 rfl 2 rfl ?_
      refine V_iconst X (4 : Int32) dX7_chute_162 (by decide) ?_
      refine V_iadd X dX7_chute_163 ?_
      obtain ⟨q31, eq31, hs⟩ := bd_some hs
      refine V_callVs X [.int p1, .int (p2 + (4 : Int32))] dX7_chute_164 m_X7_90 v_X7_ofChute ⟨Nat.le_of_ble_eq_true rfl, Nat.le_of_ble_eq_true rfl⟩ ⟨Nat.zero_le _, Nat.zero_le _⟩ rfl (Nat.le_of_ble_eq_true rfl) (gm7 hM) rfl cl7 (c_X7_ofChute hM eq31) ?_
      obtain rfl := Option.some.inj hs; exact V_iret X hr dX7_chute_167
    · replace hs := if_t hs c4
      refine V_aload_n X dX7_chute_24 rfl 0 rfl ?_
      refine V_iconst X (2 : Int32) dX7_chute_25 (by decide) ?_
      obtain ⟨q32, eq32, hs⟩ := bd_some hs
      refine V_callVs X [.int (2 : Int32)] dX7_chute_26 m_X7_79 v_X7_fails ⟨Nat.le_of_ble_eq_true rfl, Nat.le_of_ble_eq_true rfl⟩ ⟨Nat.zero_le _, Nat.zero_le _⟩ rfl (Nat.le_of_ble_eq_true rfl) (gm7 hM) rfl cl7 (c_X7_fails hM eq32) ?_
      obtain rfl := Option.some.inj hs; exact V_iret X hr dX7_chute_29
  · replace hs := if_t hs c2
    refine V_aload_n X dX7_chute_8 rfl 0 rfl ?_
    refine V_iconst X (1 : Int32) dX7_chute_9 (by decide) ?_
    obtain ⟨q33, eq33, hs⟩ := bd_some hs
    refine V_callVs X [.int (1 : Int32)] dX7_chute_10 m_X7_79 v_X7_fails ⟨Nat.le_of_ble_eq_true rfl, Nat.le_of_ble_eq_true rfl⟩ ⟨Nat.zero_le _, Nat.zero_le _⟩ rfl (Nat.le_of_ble_eq_true rfl) (gm7 hM) rfl cl7 (c_X7_fails hM eq33) ?_
    obtain rfl := Option.some.inj hs; exact V_iret X hr dX7_chute_13

def s_X7_station (p1 : Int32) (p2 : Int32) (S : S4) : Option (Int32 × S4) := (s_X7_isStation p1 S).bind fun q1 => (if q1 = 0 then (s_X7_fails (1 : Int32) S).bind fun q14 => some (q14.1, q14.2) else (s_X7_isBetween p2 (0 : Int32) (3 : Int32) S).bind fun q3 => (if q3 = 0 then (s_X7_fails (2 : Int32) S).bind fun q13 => some (q13.1, q13.2) else sv (u4 S 7 0 0 0 (0 : Int32)) fun Z5 => (if p2 = (2 : Int32) then (s_X7_ofStation p1 (1 : Int32) Z5).bind fun q10 => (if q10 = 0 then some ((-1 : Int32), Z5) else (s_X7_ofStation p1 (3 : Int32) Z5).bind fun q12 => some (q12, Z5)) else ((if p2 = (3 : Int32) then some (2 : Int32) else some p2)).bind fun q7 => (s_X7_ofStation p1 q7 Z5).bind fun q8 => some (q8, Z5))))
set_option maxRecDepth 100000 in
set_option maxHeartbeats 4000000 in
theorem c_X7_station {l : Launch} {D : va_G} {cA : Nat → ClassId} {dm : Dm} {ad : Ad} {S : S4} {p1 : Int32} {p2 : Int32} (hM : DM dm) {out : (Int32 × S4)} (hs : s_X7_station p1 p2 S = some out) : Ct D cA dm ad l yX7_station cX7_station 3 (some .int) 1 22 S [.ref (ad 7 0 0), .int p1, .int p2] (some (.int out.1)) out.2 := by
  refine Ct.of (by decide +kernel) (Nat.le_of_ble_eq_true rfl) [(0, .ref (ad 7 0 0)), (1, .int p1), (2, .int p2)] rfl (fun p e s m args below meth c A X hr => ?_)
  unfold s_X7_station at hs
  refine V_aload_n X dX7_station_0 rfl 0 rfl ?_
  refine V_iload_n X dX7_station_1 rfl 1 rfl ?_
  obtain ⟨q1, eq1, hs⟩ := bd_some hs
  refine V_callVs X [.int p1] dX7_station_2 m_X7_157 v_X7_isStation ⟨Nat.le_of_ble_eq_true rfl, Nat.le_of_ble_eq_true rfl⟩ ⟨Nat.zero_le _, Nat.zero_le _⟩ rfl (Nat.le_of_ble_eq_true rfl) (gm7 hM) rfl cl7 (c_X7_isStation hM eq1) ?_
  refine V_if_ne X 14 dX7_station_5 (by decide) (fun c2 => ?_) (fun c2 => ?_)
  · replace hs := if_f hs c2
    refine V_iload_n X dX7_station_14 rfl 2 rfl ?_
    refine V_iconst X (0 : Int32) dX7_station_15 (by decide) ?_
    refine V_iconst X (3 : Int32) dX7_station_16 (by decide) ?_
    obtain ⟨q3, eq3, hs⟩ := bd_some hs
    refine V_callSs X [.int p2, .int (0 : Int32), .int (3 : Int32)] dX7_station_17 m_X7_75 t_X7_isBetween ⟨Nat.le_of_ble_eq_true rfl, Nat.le_of_ble_eq_true rfl⟩ ⟨Nat.zero_le _, Nat.zero_le _⟩ rfl (Nat.le_of_ble_eq_true rfl) (c_X7_isBetween  eq3) ?_
    refine V_if_ne X 29 dX7_station_20 (by decide) (fun c4 => ?_) (fun c4 => ?_)
    · replace hs := if_f hs c4
      refine V_aload_n X dX7_station_29 rfl 0 rfl ?_
      refine V_iconst X (0 : Int32) dX7_station_30 (by decide) ?_
      refine V_put X dX7_station_31 f_X7_54 (gm7 hM) rfl (Nat.le_of_ble_eq_true rfl) rfl rfl rfl (fun Z5 eZ5 => ?_)
      replace hs := sv_some hs Z5 eZ5
      clear eZ5
      refine V_iload_n X dX7_station_34 rfl 2 rfl ?_
      refine V_iconst X (2 : Int32) dX7_station_35 (by decide) ?_
      refine V_icmp_ne X 59 dX7_station_36 (by decide) (fun c6 => ?_) (fun c6 => ?_)
      · replace hs := if_f hs c6
        refine V_aload_n X dX7_station_59 rfl 0 rfl ?_
        refine V_iload_n X dX7_station_60 rfl 1 rfl ?_
        refine V_iload_n X dX7_station_61 rfl 2 rfl ?_
        refine V_iconst X (3 : Int32) dX7_station_62 (by decide) ?_
        refine jn (P := fun q => V D cA dm ad A 3 p l e ({ frames := 1, cells := 0, slots := 0, locals := 22 }) s m args below meth c 0 0 (MQ below (gQ D cA dm ad out.2 (some (.int out.1)) A) args s 0 0 A) Z5 71 [(0, .ref (ad 7 0 0)), (1, .int p1), (2, .int p2)] [.int q, .int p1, .ref (ad 7 0 0)]) hs (fun q7 hs => ?_) (fun J71 hs => ?_)
        · obtain ⟨q8, eq8, hs⟩ := bd_some hs
          refine V_callVs X [.int p1, .int q7] dX7_station_71 m_X7_86 v_X7_ofStation ⟨Nat.le_of_ble_eq_true rfl, Nat.le_of_ble_eq_true rfl⟩ ⟨Nat.zero_le _, Nat.zero_le _⟩ rfl (Nat.le_of_ble_eq_true rfl) (gm7 hM) rfl cl7 (c_X7_ofStation hM eq8) ?_
          obtain rfl := Option.some.inj hs; exact V_iret X hr dX7_station_74
        · refine V_icmp_ne X 70 dX7_station_63 (by decide) (fun c9 => ?_) (fun c9 => ?_)
          · replace hs := if_fB hs c9
            refine V_iload_n X dX7_station_70 rfl 2 rfl ?_
            exact J71 _ (bs_some hs)
          · replace hs := if_tB hs c9
            refine V_iconst X (2 : Int32) dX7_station_66 (by decide) ?_
            refine V_goto X 71 dX7_station_67 (by decide) ?_
            exact J71 _ (bs_some hs)
      · replace hs := if_t hs c6
        refine V_aload_n X dX7_station_39 rfl 0 rfl ?_
        refine V_iload_n X dX7_station_40 rfl 1 rfl ?_
        refine V_iconst X (1 : Int32) dX7_station_41 (by decide) ?_
        obtain ⟨q10, eq10, hs⟩ := bd_some hs
        refine V_callVs X [.int p1, .int (1 : Int32)] dX7_station_42 m_X7_86 v_X7_ofStation ⟨Nat.le_of_ble_eq_true rfl, Nat.le_of_ble_eq_true rfl⟩ ⟨Nat.zero_le _, Nat.zero_le _⟩ rfl (Nat.le_of_ble_eq_true rfl) (gm7 hM) rfl cl7 (c_X7_ofStation hM eq10) ?_
        refine V_if_ne X 52 dX7_station_45 (by decide) (fun c11 => ?_) (fun c11 => ?_)
        · replace hs := if_f hs c11
          refine V_aload_n X dX7_station_52 rfl 0 rfl ?_
          refine V_iload_n X dX7_station_53 rfl 1 rfl ?_
          refine V_iconst X (3 : Int32) dX7_station_54 (by decide) ?_
          obtain ⟨q12, eq12, hs⟩ := bd_some hs
          refine V_callVs X [.int p1, .int (3 : Int32)] dX7_station_55 m_X7_86 v_X7_ofStation ⟨Nat.le_of_ble_eq_true rfl, Nat.le_of_ble_eq_true rfl⟩ ⟨Nat.zero_le _, Nat.zero_le _⟩ rfl (Nat.le_of_ble_eq_true rfl) (gm7 hM) rfl cl7 (c_X7_ofStation hM eq12) ?_
          obtain rfl := Option.some.inj hs; exact V_iret X hr dX7_station_58
        · replace hs := if_t hs c11
          refine V_iconst X (-1 : Int32) dX7_station_48 (by decide) ?_
          refine V_goto X 58 dX7_station_49 (by decide) ?_
          obtain rfl := Option.some.inj hs; exact V_iret X hr dX7_station_58
    · replace hs := if_t hs c4
      refine V_aload_n X dX7_station_23 rfl 0 rfl ?_
      refine V_iconst X (2 : Int32) dX7_station_24 (by decide) ?_
      obtain ⟨q13, eq13, hs⟩ := bd_some hs
      refine V_callVs X [.int (2 : Int32)] dX7_station_25 m_X7_79 v_X7_fails ⟨Nat.le_of_ble_eq_true rfl, Nat.le_of_ble_eq_true rfl⟩ ⟨Nat.zero_le _, Nat.zero_le _⟩ rfl (Nat.le_of_ble_eq_true rfl) (gm7 hM) rfl cl7 (c_X7_fails hM eq13) ?_
      obtain rfl := Option.some.inj hs; exact V_iret X hr dX7_station_28
  · replace hs := if_t hs c2
    refine V_aload_n X dX7_station_8 rfl 0 rfl ?_
    refine V_iconst X (1 : Int32) dX7_station_9 (by decide) ?_
    obtain ⟨q14, eq14, hs⟩ := bd_some hs
    refine V_callVs X [.int (1 : Int32)] dX7_station_10 m_X7_79 v_X7_fails ⟨Nat.le_of_ble_eq_true rfl, Nat.le_of_ble_eq_true rfl⟩ ⟨Nat.zero_le _, Nat.zero_le _⟩ rfl (Nat.le_of_ble_eq_true rfl) (gm7 hM) rfl cl7 (c_X7_fails hM eq14) ?_
    obtain rfl := Option.some.inj hs; exact V_iret X hr dX7_station_13

def s_X7_parcelsWith_L5 (fu : Nat) (p1 : Int32) (p2 : Int32) (S : S4) : Nat → Int32 → Int32 → Option Int32
  | 0, _, _ => none
  | f5+1, v3, v4 => (if (S 7 0 0 11) ≤ v4 then some v3 else (s_X7_ofParcel v4 p1 S).bind fun q2 => ((if q2 = p2 then some (1 : Int32) else some (0 : Int32))).bind fun q3 => s_X7_parcelsWith_L5 fu p1 p2 S f5 (v3 + q3) (v4 + (1 : Int32)))
def s_X7_parcelsWith (fu : Nat) (p1 : Int32) (p2 : Int32) (S : S4) : Option Int32 := s_X7_parcelsWith_L5 fu p1 p2 S fu (0 : Int32) (0 : Int32)
set_option maxRecDepth 100000 in
set_option maxHeartbeats 4000000 in
theorem c_X7_parcelsWith {l : Launch} {D : va_G} {cA : Nat → ClassId} {dm : Dm} {ad : Ad} {fu : Nat} {S : S4} {p1 : Int32} {p2 : Int32} (hM : DM dm) {out : Int32} (hs : s_X7_parcelsWith fu p1 p2 S = some out) : Ct D cA dm ad l yX7_parcelsWith cX7_parcelsWith 5 (some .int) 1 22 S [.ref (ad 7 0 0), .int p1, .int p2] (some (.int out)) S := by
  refine Ct.of (by decide +kernel) (Nat.le_of_ble_eq_true rfl) [(0, .ref (ad 7 0 0)), (1, .int p1), (2, .int p2)] rfl (fun p e s m args below meth c A X hr => ?_)
  unfold s_X7_parcelsWith at hs
  refine V_iconst X (0 : Int32) dX7_parcelsWith_0 (by decide) ?_
  refine V_istore_n X dX7_parcelsWith_1 rfl [(3, .int (0 : Int32)), (0, .ref (ad 7 0 0)), (1, .int p1), (2, .int p2)] (by decide) rfl ?_
  refine V_iconst X (0 : Int32) dX7_parcelsWith_2 (by decide) ?_
  refine V_istore X dX7_parcelsWith_3 [(4, .int (0 : Int32)), (3, .int (0 : Int32)), (0, .ref (ad 7 0 0)), (1, .int p1), (2, .int p2)] (by decide) rfl ?_
  have L5 : ∀ (n : Nat) (v3 v4 : Int32) , s_X7_parcelsWith_L5 fu p1 p2 S n v3 v4 = some out → V D cA dm ad A 5 p l e ({ frames := 1, cells := 0, slots := 0, locals := 22 }) s m args below meth c 0 0 (MQ below (gQ D cA dm ad S (some (.int out)) A) args s 0 0 A) S 5 [(0, .ref (ad 7 0 0)), (1, .int p1), (2, .int p2), (3, .int v3), (4, .int v4)] [] := by
    intro n
    induction n with
    | zero => intro v3 v4 hs; rw [s_X7_parcelsWith_L5] at hs; cases hs
    | succ f5 ih5 =>
      intro v3 v4 hs
      rw [s_X7_parcelsWith_L5] at hs
      refine V_iload X dX7_parcelsWith_5 4 rfl ?_
      refine V_aload_n X dX7_parcelsWith_7 rfl 0 rfl ?_
      refine V_get X dX7_parcelsWith_8 r_X7_63 (gm7 hM) rfl rfl ?_
      refine V_icmp_ge X 39 dX7_parcelsWith_11 (by decide) (fun c1 => ?_) (fun c1 => ?_)
      · replace hs := if_t hs c1
        refine V_iload_n X dX7_parcelsWith_39 rfl 3 rfl ?_
        obtain rfl := Option.some.inj hs; exact V_iret X hr dX7_parcelsWith_40
      · replace hs := if_f hs c1
        refine V_iload_n X dX7_parcelsWith_14 rfl 3 rfl ?_
        refine V_aload_n X dX7_parcelsWith_15 rfl 0 rfl ?_
        refine V_iload X dX7_parcelsWith_16 4 rfl ?_
        refine V_iload_n X dX7_parcelsWith_18 rfl 1 rfl ?_
        obtain ⟨q2, eq2, hs⟩ := bd_some hs
        refine V_callVs X [.int v4, .int p1] dX7_parcelsWith_19 m_X7_160 v_X7_ofParcel ⟨Nat.le_of_ble_eq_true rfl, Nat.le_of_ble_eq_true rfl⟩ ⟨Nat.zero_le _, Nat.zero_le _⟩ rfl (Nat.le_of_ble_eq_true rfl) (gm7 hM) rfl cl7 (c_X7_ofParcel hM eq2) ?_
        refine V_iload_n X dX7_parcelsWith_22 rfl 2 rfl ?_
        refine jn (P := fun q => V D cA dm ad A 5 p l e ({ frames := 1, cells := 0, slots := 0, locals := 22 }) s m args below meth c 0 0 (MQ below (gQ D cA dm ad S (some (.int out)) A) args s 0 0 A) S 31 [(0, .ref (ad 7 0 0)), (1, .int p1), (2, .int p2), (3, .int v3), (4, .int v4)] [.int q, .int v3]) hs (fun q3 hs => ?_) (fun J31 hs => ?_)
        · refine V_iadd X dX7_parcelsWith_31 ?_
          refine V_istore_n X dX7_parcelsWith_32 rfl [(3, .int (v3 + q3)), (0, .ref (ad 7 0 0)), (1, .int p1), (2, .int p2), (4, .int v4)] (by decide) rfl ?_
          refine V_iinc X (v4 + (1 : Int32)) dX7_parcelsWith_33 4 rfl rfl [(4, .int (v4 + (1 : Int32))), (3, .int (v3 + q3)), (0, .ref (ad 7 0 0)), (1, .int p1), (2, .int p2)] (by decide) rfl ?_
          refine V_goto X 5 dX7_parcelsWith_36 (by decide) ?_
          refine V_sub [2, 3, 4, 1, 0] rfl ?_
          exact ih5 _ _ hs
        · refine V_icmp_ne X 30 dX7_parcelsWith_23 (by decide) (fun c4 => ?_) (fun c4 => ?_)
          · replace hs := if_fB hs c4
            refine V_iconst X (0 : Int32) dX7_parcelsWith_30 (by decide) ?_
            exact J31 _ (bs_some hs)
          · replace hs := if_tB hs c4
            refine V_iconst X (1 : Int32) dX7_parcelsWith_26 (by decide) ?_
            refine V_goto X 31 dX7_parcelsWith_27 (by decide) ?_
            exact J31 _ (bs_some hs)
  refine V_sub [2, 3, 4, 1, 0] rfl ?_
  exact L5 _ _ _ hs

def s_X7_rounds (p1 : Int32) (S : S4) : Option Int32 := (s_X7_ofParcel p1 (6 : Int32) S).bind fun q1 => (if q1 = 0 then some (0 : Int32) else (s_X7_ofParcel p1 (6 : Int32) S).bind fun q3 => some (q3 - (1 : Int32)))
set_option maxRecDepth 100000 in
set_option maxHeartbeats 4000000 in
theorem c_X7_rounds {l : Launch} {D : va_G} {cA : Nat → ClassId} {dm : Dm} {ad : Ad} {S : S4} {p1 : Int32} (hM : DM dm) {out : Int32} (hs : s_X7_rounds p1 S = some out) : Ct D cA dm ad l yX7_rounds cX7_rounds 2 (some .int) 1 22 S [.ref (ad 7 0 0), .int p1] (some (.int out)) S := by
  refine Ct.of (by decide +kernel) (Nat.le_of_ble_eq_true rfl) [(0, .ref (ad 7 0 0)), (1, .int p1)] rfl (fun p e s m args below meth c A X hr => ?_)
  unfold s_X7_rounds at hs
  refine V_aload_n X dX7_rounds_0 rfl 0 rfl ?_
  refine V_iload_n X dX7_rounds_1 rfl 1 rfl ?_
  refine V_bipush X (6 : Int32) dX7_rounds_2 (by decide) ?_
  obtain ⟨q1, eq1, hs⟩ := bd_some hs
  refine V_callVs X [.int p1, .int (6 : Int32)] dX7_rounds_4 m_X7_160 v_X7_ofParcel ⟨Nat.le_of_ble_eq_true rfl, Nat.le_of_ble_eq_true rfl⟩ ⟨Nat.zero_le _, Nat.zero_le _⟩ rfl (Nat.le_of_ble_eq_true rfl) (gm7 hM) rfl cl7 (c_X7_ofParcel hM eq1) ?_
  refine V_if_ne X 14 dX7_rounds_7 (by decide) (fun c2 => ?_) (fun c2 => ?_)
  · replace hs := if_f hs c2
    refine V_aload_n X dX7_rounds_14 rfl 0 rfl ?_
    refine V_iload_n X dX7_rounds_15 rfl 1 rfl ?_
    refine V_bipush X (6 : Int32) dX7_rounds_16 (by decide) ?_
    obtain ⟨q3, eq3, hs⟩ := bd_some hs
    refine V_callVs X [.int p1, .int (6 : Int32)] dX7_rounds_18 m_X7_160 v_X7_ofParcel ⟨Nat.le_of_ble_eq_true rfl, Nat.le_of_ble_eq_true rfl⟩ ⟨Nat.zero_le _, Nat.zero_le _⟩ rfl (Nat.le_of_ble_eq_true rfl) (gm7 hM) rfl cl7 (c_X7_ofParcel hM eq3) ?_
    refine V_iconst X (1 : Int32) dX7_rounds_21 (by decide) ?_
    refine V_isub X dX7_rounds_22 ?_
    obtain rfl := Option.some.inj hs; exact V_iret X hr dX7_rounds_23
  · replace hs := if_t hs c2
    refine V_iconst X (0 : Int32) dX7_rounds_10 (by decide) ?_
    refine V_goto X 23 dX7_rounds_11 (by decide) ?_
    obtain rfl := Option.some.inj hs; exact V_iret X hr dX7_rounds_23

def s_X7_roundsOf_L4 (fu : Nat) (p1 : Int32) (S : S4) : Nat → Int32 → Int32 → Option Int32
  | 0, _, _ => none
  | f4+1, v2, v3 => (if (S 7 0 0 11) ≤ v3 then some v2 else ((if p1 = 0 then (s_X7_rounds v3 S).bind fun q7 => some (v2 + q7) else (s_X7_rounds v3 S).bind fun q4 => (if q4 ≤ v2 then some v2 else (s_X7_rounds v3 S).bind fun q6 => some q6))).bind fun q2 => s_X7_roundsOf_L4 fu p1 S f4 q2 (v3 + (1 : Int32)))
def s_X7_roundsOf (fu : Nat) (p1 : Int32) (S : S4) : Option Int32 := s_X7_roundsOf_L4 fu p1 S fu (0 : Int32) (0 : Int32)
set_option maxRecDepth 100000 in
set_option maxHeartbeats 4000000 in
theorem c_X7_roundsOf {l : Launch} {D : va_G} {cA : Nat → ClassId} {dm : Dm} {ad : Ad} {fu : Nat} {S : S4} {p1 : Int32} (hM : DM dm) {out : Int32} (hs : s_X7_roundsOf fu p1 S = some out) : Ct D cA dm ad l yX7_roundsOf cX7_roundsOf 4 (some .int) 2 43 S [.ref (ad 7 0 0), .int p1] (some (.int out)) S := by
  refine Ct.of (by decide +kernel) (Nat.le_of_ble_eq_true rfl) [(0, .ref (ad 7 0 0)), (1, .int p1)] rfl (fun p e s m args below meth c A X hr => ?_)
  unfold s_X7_roundsOf at hs
  refine V_iconst X (0 : Int32) dX7_roundsOf_0 (by decide) ?_
  refine V_istore_n X dX7_roundsOf_1 rfl [(2, .int (0 : Int32)), (0, .ref (ad 7 0 0)), (1, .int p1)] (by decide) rfl ?_
  refine V_iconst X (0 : Int32) dX7_roundsOf_2 (by decide) ?_
  refine V_istore_n X dX7_roundsOf_3 rfl [(3, .int (0 : Int32)), (2, .int (0 : Int32)), (0, .ref (ad 7 0 0)), (1, .int p1)] (by decide) rfl ?_
  have L4 : ∀ (n : Nat) (v2 v3 : Int32) , s_X7_roundsOf_L4 fu p1 S n v2 v3 = some out → V D cA dm ad A 4 p l e ({ frames := 2, cells := 0, slots := 0, locals := 43 }) s m args below meth c 0 0 (MQ below (gQ D cA dm ad S (some (.int out)) A) args s 0 0 A) S 4 [(0, .ref (ad 7 0 0)), (1, .int p1), (2, .int v2), (3, .int v3)] [] := by
    intro n
    induction n with
    | zero => intro v2 v3 hs; rw [s_X7_roundsOf_L4] at hs; cases hs
    | succ f4 ih4 =>
      intro v2 v3 hs
      rw [s_X7_roundsOf_L4] at hs
      refine V_iload_n X dX7_roundsOf_4 rfl 3 rfl ?_
      refine V_aload_n X dX7_roundsOf_5 rfl 0 rfl ?_
      refine V_get X dX7_roundsOf_6 r_X7_63 (gm7 hM) rfl rfl ?_
      refine V_icmp_ge X 51 dX7_roundsOf_9 (by decide) (fun c1 => ?_) (fun c1 => ?_)
      · replace hs := if_t hs c1
        refine V_iload_n X dX7_roundsOf_51 rfl 2 rfl ?_
        obtain rfl := Option.some.inj hs; exact V_iret X hr dX7_roundsOf_52
      · replace hs := if_f hs c1
        refine V_iload_n X dX7_roundsOf_12 rfl 1 rfl ?_
        refine jn (P := fun q => V D cA dm ad A 4 p l e ({ frames := 2, cells := 0, slots := 0, locals := 43 }) s m args below meth c 0 0 (MQ below (gQ D cA dm ad S (some (.int out)) A) args s 0 0 A) S 44 [(0, .ref (ad 7 0 0)), (1, .int p1), (2, .int v2), (3, .int v3)] [.int q]) hs (fun q2 hs => ?_) (fun J44 hs => ?_)
        · refine V_istore_n X dX7_roundsOf_44 rfl [(2, .int q2), (0, .ref (ad 7 0 0)), (1, .int p1), (3, .int v3)] (by decide) rfl ?_
          refine V_iinc X (v3 + (1 : Int32)) dX7_roundsOf_45 3 rfl rfl [(3, .int (v3 + (1 : Int32))), (2, .int q2), (0, .ref (ad 7 0 0)), (1, .int p1)] (by decide) rfl ?_
          refine V_goto X 4 dX7_roundsOf_48 (by decide) ?_
          refine V_sub [2, 3, 1, 0] rfl ?_
          exact ih4 _ _ hs
        · refine V_if_ne X 26 dX7_roundsOf_13 (by decide) (fun c3 => ?_) (fun c3 => ?_)
          · replace hs := if_fB hs c3
            refine V_aload_n X dX7_roundsOf_26 rfl 0 rfl ?_
            refine V_iload_n X dX7_roundsOf_27 rfl 3 rfl ?_
            obtain ⟨q4, eq4, hs⟩ := bd_someB hs
            refine V_callVs X [.int v3] dX7_roundsOf_28 m_X7_220 v_X7_rounds ⟨Nat.le_of_ble_eq_true rfl, Nat.le_of_ble_eq_true rfl⟩ ⟨Nat.zero_le _, Nat.zero_le _⟩ rfl (Nat.le_of_ble_eq_true rfl) (gm7 hM) rfl cl7 (c_X7_rounds hM eq4) ?_
            refine V_iload_n X dX7_roundsOf_31 rfl 2 rfl ?_
            refine V_icmp_le X 43 dX7_roundsOf_32 (by decide) (fun c5 => ?_) (fun c5 => ?_)
            · replace hs := if_tB hs c5
              refine V_iload_n X dX7_roundsOf_43 rfl 2 rfl ?_
              exact J44 _ (bs_some hs)
            · replace hs := if_fB hs c5
              refine V_aload_n X dX7_roundsOf_35 rfl 0 rfl ?_
              refine V_iload_n X dX7_roundsOf_36 rfl 3 rfl ?_
              obtain ⟨q6, eq6, hs⟩ := bd_someB hs
              refine V_callVs X [.int v3] dX7_roundsOf_37 m_X7_220 v_X7_rounds ⟨Nat.le_of_ble_eq_true rfl, Nat.le_of_ble_eq_true rfl⟩ ⟨Nat.zero_le _, Nat.zero_le _⟩ rfl (Nat.le_of_ble_eq_true rfl) (gm7 hM) rfl cl7 (c_X7_rounds hM eq6) ?_
              refine V_goto X 44 dX7_roundsOf_40 (by decide) ?_
              exact J44 _ (bs_some hs)
          · replace hs := if_tB hs c3
            refine V_iload_n X dX7_roundsOf_16 rfl 2 rfl ?_
            refine V_aload_n X dX7_roundsOf_17 rfl 0 rfl ?_
            refine V_iload_n X dX7_roundsOf_18 rfl 3 rfl ?_
            obtain ⟨q7, eq7, hs⟩ := bd_someB hs
            refine V_callVs X [.int v3] dX7_roundsOf_19 m_X7_220 v_X7_rounds ⟨Nat.le_of_ble_eq_true rfl, Nat.le_of_ble_eq_true rfl⟩ ⟨Nat.zero_le _, Nat.zero_le _⟩ rfl (Nat.le_of_ble_eq_true rfl) (gm7 hM) rfl cl7 (c_X7_rounds hM eq7) ?_
            refine V_iadd X dX7_roundsOf_22 ?_
            refine V_goto X 44 dX7_roundsOf_23 (by decide) ?_
            exact J44 _ (bs_some hs)
  refine V_sub [2, 3, 1, 0] rfl ?_
  exact L4 _ _ _ hs

def s_X7_sumOfChutes_L4 (fu : Nat) (p1 : Int32) (S : S4) : Nat → Int32 → Int32 → Option Int32
  | 0, _, _ => none
  | f4+1, v2, v3 => (if (S 7 0 0 9) ≤ v3 then some v2 else (s_X7_ofChute v3 p1 S).bind fun q2 => s_X7_sumOfChutes_L4 fu p1 S f4 (v2 + q2) (v3 + (1 : Int32)))
def s_X7_sumOfChutes (fu : Nat) (p1 : Int32) (S : S4) : Option Int32 := s_X7_sumOfChutes_L4 fu p1 S fu (0 : Int32) (0 : Int32)
set_option maxRecDepth 100000 in
set_option maxHeartbeats 4000000 in
theorem c_X7_sumOfChutes {l : Launch} {D : va_G} {cA : Nat → ClassId} {dm : Dm} {ad : Ad} {fu : Nat} {S : S4} {p1 : Int32} (hM : DM dm) {out : Int32} (hs : s_X7_sumOfChutes fu p1 S = some out) : Ct D cA dm ad l yX7_sumOfChutes cX7_sumOfChutes 4 (some .int) 1 22 S [.ref (ad 7 0 0), .int p1] (some (.int out)) S := by
  refine Ct.of (by decide +kernel) (Nat.le_of_ble_eq_true rfl) [(0, .ref (ad 7 0 0)), (1, .int p1)] rfl (fun p e s m args below meth c A X hr => ?_)
  unfold s_X7_sumOfChutes at hs
  refine V_iconst X (0 : Int32) dX7_sumOfChutes_0 (by decide) ?_
  refine V_istore_n X dX7_sumOfChutes_1 rfl [(2, .int (0 : Int32)), (0, .ref (ad 7 0 0)), (1, .int p1)] (by decide) rfl ?_
  refine V_iconst X (0 : Int32) dX7_sumOfChutes_2 (by decide) ?_
  refine V_istore_n X dX7_sumOfChutes_3 rfl [(3, .int (0 : Int32)), (2, .int (0 : Int32)), (0, .ref (ad 7 0 0)), (1, .int p1)] (by decide) rfl ?_
  have L4 : ∀ (n : Nat) (v2 v3 : Int32) , s_X7_sumOfChutes_L4 fu p1 S n v2 v3 = some out → V D cA dm ad A 4 p l e ({ frames := 1, cells := 0, slots := 0, locals := 22 }) s m args below meth c 0 0 (MQ below (gQ D cA dm ad S (some (.int out)) A) args s 0 0 A) S 4 [(0, .ref (ad 7 0 0)), (1, .int p1), (2, .int v2), (3, .int v3)] [] := by
    intro n
    induction n with
    | zero => intro v2 v3 hs; rw [s_X7_sumOfChutes_L4] at hs; cases hs
    | succ f4 ih4 =>
      intro v2 v3 hs
      rw [s_X7_sumOfChutes_L4] at hs
      refine V_iload_n X dX7_sumOfChutes_4 rfl 3 rfl ?_
      refine V_aload_n X dX7_sumOfChutes_5 rfl 0 rfl ?_
      refine V_get X dX7_sumOfChutes_6 r_X7_60 (gm7 hM) rfl rfl ?_
      refine V_icmp_ge X 27 dX7_sumOfChutes_9 (by decide) (fun c1 => ?_) (fun c1 => ?_)
      · replace hs := if_t hs c1
        refine V_iload_n X dX7_sumOfChutes_27 rfl 2 rfl ?_
        obtain rfl := Option.some.inj hs; exact V_iret X hr dX7_sumOfChutes_28
      · replace hs := if_f hs c1
        refine V_iload_n X dX7_sumOfChutes_12 rfl 2 rfl ?_
        refine V_aload_n X dX7_sumOfChutes_13 rfl 0 rfl ?_
        refine V_iload_n X dX7_sumOfChutes_14 rfl 3 rfl ?_
        refine V_iload_n X dX7_sumOfChutes_15 rfl 1 rfl ?_
        obtain ⟨q2, eq2, hs⟩ := bd_some hs
        refine V_callVs X [.int v3, .int p1] dX7_sumOfChutes_16 m_X7_90 v_X7_ofChute ⟨Nat.le_of_ble_eq_true rfl, Nat.le_of_ble_eq_true rfl⟩ ⟨Nat.zero_le _, Nat.zero_le _⟩ rfl (Nat.le_of_ble_eq_true rfl) (gm7 hM) rfl cl7 (c_X7_ofChute hM eq2) ?_
        refine V_iadd X dX7_sumOfChutes_19 ?_
        refine V_istore_n X dX7_sumOfChutes_20 rfl [(2, .int (v2 + q2)), (0, .ref (ad 7 0 0)), (1, .int p1), (3, .int v3)] (by decide) rfl ?_
        refine V_iinc X (v3 + (1 : Int32)) dX7_sumOfChutes_21 3 rfl rfl [(3, .int (v3 + (1 : Int32))), (2, .int (v2 + q2)), (0, .ref (ad 7 0 0)), (1, .int p1)] (by decide) rfl ?_
        refine V_goto X 4 dX7_sumOfChutes_24 (by decide) ?_
        refine V_sub [2, 3, 1, 0] rfl ?_
        exact ih4 _ _ hs
  refine V_sub [2, 3, 1, 0] rfl ?_
  exact L4 _ _ _ hs

def s_X7_count (fu : Nat) (p1 : Int32) (S : S4) : Option (Int32 × S4) := (s_X7_isBetween p1 (0 : Int32) (16 : Int32) S).bind fun q1 => (if q1 = 0 then (s_X7_fails (1 : Int32) S).bind fun q37 => some (q37.1, q37.2) else sv (u4 S 7 0 0 0 (0 : Int32)) fun Z3 => (if p1 = (0 : Int32) then some ((Z3 7 0 0 13), Z3) else if p1 = (1 : Int32) then some ((Z3 7 0 0 7), Z3) else if p1 = (2 : Int32) then some ((Z3 7 0 0 8), Z3) else if p1 = (3 : Int32) then some ((Z3 7 0 0 9), Z3) else if p1 = (4 : Int32) then some ((Z3 7 0 0 10), Z3) else if p1 = (5 : Int32) then some ((Z3 7 0 0 11), Z3) else if p1 = (6 : Int32) then (s_X7_parcelsWith fu (4 : Int32) (p1 - (6 : Int32)) Z3).bind fun q11 => some (q11, Z3) else if p1 = (7 : Int32) then (s_X7_parcelsWith fu (4 : Int32) (p1 - (6 : Int32)) Z3).bind fun q13 => some (q13, Z3) else if p1 = (8 : Int32) then (s_X7_parcelsWith fu (4 : Int32) (p1 - (6 : Int32)) Z3).bind fun q15 => some (q15, Z3) else if p1 = (9 : Int32) then (s_X7_parcelsWith fu (10 : Int32) (p1 - (9 : Int32)) Z3).bind fun q17 => some (q17, Z3) else if p1 = (10 : Int32) then (s_X7_parcelsWith fu (10 : Int32) (p1 - (9 : Int32)) Z3).bind fun q19 => some (q19, Z3) else if p1 = (11 : Int32) then (s_X7_parcelsWith fu (10 : Int32) (p1 - (9 : Int32)) Z3).bind fun q21 => some (q21, Z3) else if p1 = (12 : Int32) then (s_X7_parcelsWith fu (10 : Int32) (p1 - (9 : Int32)) Z3).bind fun q23 => some (q23, Z3) else if p1 = (13 : Int32) then ((if p1 = (16 : Int32) then some (1 : Int32) else some (0 : Int32))).bind fun q25 => (s_X7_roundsOf fu q25 Z3).bind fun q26 => some (q26, Z3) else if p1 = (14 : Int32) then (s_X7_sumOfChutes fu (12 : Int32) Z3).bind fun q29 => some (q29, Z3) else if p1 = (15 : Int32) then (s_X7_sumOfChutes fu (14 : Int32) Z3).bind fun q31 => some (q31, Z3) else if p1 = (16 : Int32) then ((if p1 = (16 : Int32) then some (1 : Int32) else some (0 : Int32))).bind fun q33 => (s_X7_roundsOf fu q33 Z3).bind fun q34 => some (q34, Z3) else (s_X7_parcelsWith fu (10 : Int32) (p1 - (9 : Int32)) Z3).bind fun q36 => some (q36, Z3)))
set_option maxRecDepth 100000 in
set_option maxHeartbeats 4000000 in
theorem c_X7_count {l : Launch} {D : va_G} {cA : Nat → ClassId} {dm : Dm} {ad : Ad} {fu : Nat} {S : S4} {p1 : Int32} (hM : DM dm) {out : (Int32 × S4)} (hs : s_X7_count fu p1 S = some out) : Ct D cA dm ad l yX7_count cX7_count 2 (some .int) 3 66 S [.ref (ad 7 0 0), .int p1] (some (.int out.1)) out.2 := by
  refine Ct.of (by decide +kernel) (Nat.le_of_ble_eq_true rfl) [(0, .ref (ad 7 0 0)), (1, .int p1)] rfl (fun p e s m args below meth c A X hr => ?_)
  unfold s_X7_count at hs
  refine V_iload_n X dX7_count_0 rfl 1 rfl ?_
  refine V_iconst X (0 : Int32) dX7_count_1 (by decide) ?_
  refine V_bipush X (16 : Int32) dX7_count_2 (by decide) ?_
  obtain ⟨q1, eq1, hs⟩ := bd_some hs
  refine V_callSs X [.int p1, .int (0 : Int32), .int (16 : Int32)] dX7_count_4 m_X7_75 t_X7_isBetween ⟨Nat.le_of_ble_eq_true rfl, Nat.le_of_ble_eq_true rfl⟩ ⟨Nat.zero_le _, Nat.zero_le _⟩ rfl (Nat.le_of_ble_eq_true rfl) (c_X7_isBetween  eq1) ?_
  refine V_if_ne X 16 dX7_count_7 (by decide) (fun c2 => ?_) (fun c2 => ?_)
  · replace hs := if_f hs c2
    refine V_aload_n X dX7_count_16 rfl 0 rfl ?_
    refine V_iconst X (0 : Int32) dX7_count_17 (by decide) ?_
    refine V_put X dX7_count_18 f_X7_54 (gm7 hM) rfl (Nat.le_of_ble_eq_true rfl) rfl rfl rfl (fun Z3 eZ3 => ?_)
    replace hs := sv_some hs Z3 eZ3
    clear eZ3
    refine V_iload_n X dX7_count_21 rfl 1 rfl ?_
    by_cases c4 : p1 = (0 : Int32)
    · replace hs := if_t hs c4
      refine V_tsw X 104 dX7_count_22 (0) (by rw [c4]; rfl) (by decide) (by decide) rfl (by decide) ?_
      refine V_aload_n X dX7_count_104 rfl 0 rfl ?_
      refine V_get X dX7_count_105 r_X7_72 (gm7 hM) rfl rfl ?_
      obtain rfl := Option.some.inj hs; exact V_iret X hr dX7_count_108
    replace hs := if_f hs c4
    by_cases c5 : p1 = (1 : Int32)
    · replace hs := if_t hs c5
      refine V_tsw X 109 dX7_count_22 (1) (by rw [c5]; rfl) (by decide) (by decide) rfl (by decide) ?_
      refine V_aload_n X dX7_count_109 rfl 0 rfl ?_
      refine V_get X dX7_count_110 r_X7_28 (gm7 hM) rfl rfl ?_
      obtain rfl := Option.some.inj hs; exact V_iret X hr dX7_count_113
    replace hs := if_f hs c5
    by_cases c6 : p1 = (2 : Int32)
    · replace hs := if_t hs c6
      refine V_tsw X 114 dX7_count_22 (2) (by rw [c6]; rfl) (by decide) (by decide) rfl (by decide) ?_
      refine V_aload_n X dX7_count_114 rfl 0 rfl ?_
      refine V_get X dX7_count_115 r_X7_57 (gm7 hM) rfl rfl ?_
      obtain rfl := Option.some.inj hs; exact V_iret X hr dX7_count_118
    replace hs := if_f hs c6
    by_cases c7 : p1 = (3 : Int32)
    · replace hs := if_t hs c7
      refine V_tsw X 119 dX7_count_22 (3) (by rw [c7]; rfl) (by decide) (by decide) rfl (by decide) ?_
      refine V_aload_n X dX7_count_119 rfl 0 rfl ?_
      refine V_get X dX7_count_120 r_X7_60 (gm7 hM) rfl rfl ?_
      obtain rfl := Option.some.inj hs; exact V_iret X hr dX7_count_123
    replace hs := if_f hs c7
    by_cases c8 : p1 = (4 : Int32)
    · replace hs := if_t hs c8
      refine V_tsw X 124 dX7_count_22 (4) (by rw [c8]; rfl) (by decide) (by decide) rfl (by decide) ?_
      refine V_aload_n X dX7_count_124 rfl 0 rfl ?_
      refine V_get X dX7_count_125 r_X7_66 (gm7 hM) rfl rfl ?_
      obtain rfl := Option.some.inj hs; exact V_iret X hr dX7_count_128
    replace hs := if_f hs c8
    by_cases c9 : p1 = (5 : Int32)
    · replace hs := if_t hs c9
      refine V_tsw X 129 dX7_count_22 (5) (by rw [c9]; rfl) (by decide) (by decide) rfl (by decide) ?_
      refine V_aload_n X dX7_count_129 rfl 0 rfl ?_
      refine V_get X dX7_count_130 r_X7_63 (gm7 hM) rfl rfl ?_
      obtain rfl := Option.some.inj hs; exact V_iret X hr dX7_count_133
    replace hs := if_f hs c9
    by_cases c10 : p1 = (6 : Int32)
    · replace hs := if_t hs c10
      refine V_tsw X 134 dX7_count_22 (6) (by rw [c10]; rfl) (by decide) (by decide) rfl (by decide) ?_
      refine V_aload_n X dX7_count_134 rfl 0 rfl ?_
      refine V_iconst X (4 : Int32) dX7_count_135 (by decide) ?_
      refine V_iload_n X dX7_count_136 rfl 1 rfl ?_
      refine V_bipush X (6 : Int32) dX7_count_137 (by decide) ?_
      refine V_isub X dX7_count_139 ?_
      obtain ⟨q11, eq11, hs⟩ := bd_some hs
      refine V_callVs X [.int (4 : Int32), .int (p1 - (6 : Int32))] dX7_count_140 m_X7_223 v_X7_parcelsWith ⟨Nat.le_of_ble_eq_true rfl, Nat.le_of_ble_eq_true rfl⟩ ⟨Nat.zero_le _, Nat.zero_le _⟩ rfl (Nat.le_of_ble_eq_true rfl) (gm7 hM) rfl cl7 (c_X7_parcelsWith hM eq11) ?_
      obtain rfl := Option.some.inj hs; exact V_iret X hr dX7_count_143
    replace hs := if_f hs c10
    by_cases c12 : p1 = (7 : Int32)
    · replace hs := if_t hs c12
      refine V_tsw X 134 dX7_count_22 (7) (by rw [c12]; rfl) (by decide) (by decide) rfl (by decide) ?_
      refine V_aload_n X dX7_count_134 rfl 0 rfl ?_
      refine V_iconst X (4 : Int32) dX7_count_135 (by decide) ?_
      refine V_iload_n X dX7_count_136 rfl 1 rfl ?_
      refine V_bipush X (6 : Int32) dX7_count_137 (by decide) ?_
      refine V_isub X dX7_count_139 ?_
      obtain ⟨q13, eq13, hs⟩ := bd_some hs
      refine V_callVs X [.int (4 : Int32), .int (p1 - (6 : Int32))] dX7_count_140 m_X7_223 v_X7_parcelsWith ⟨Nat.le_of_ble_eq_true rfl, Nat.le_of_ble_eq_true rfl⟩ ⟨Nat.zero_le _, Nat.zero_le _⟩ rfl (Nat.le_of_ble_eq_true rfl) (gm7 hM) rfl cl7 (c_X7_parcelsWith hM eq13) ?_
      obtain rfl := Option.some.inj hs; exact V_iret X hr dX7_count_143
    replace hs := if_f hs c12
    by_cases c14 : p1 = (8 : Int32)
    · replace hs := if_t hs c14
      refine V_tsw X 134 dX7_count_22 (8) (by rw [c14]; rfl) (by decide) (by decide) rfl (by decide) ?_
      refine V_aload_n X dX7_count_134 rfl 0 rfl ?_
      refine V_iconst X (4 : Int32) dX7_count_135 (by decide) ?_
      refine V_iload_n X dX7_count_136 rfl 1 rfl ?_
      refine V_bipush X (6 : Int32) dX7_count_137 (by decide) ?_
      refine V_isub X dX7_count_139 ?_
      obtain ⟨q15, eq15, hs⟩ := bd_some hs
      refine V_callVs X [.int (4 : Int32), .int (p1 - (6 : Int32))] dX7_count_140 m_X7_223 v_X7_parcelsWith ⟨Nat.le_of_ble_eq_true rfl, Nat.le_of_ble_eq_true rfl⟩ ⟨Nat.zero_le _, Nat.zero_le _⟩ rfl (Nat.le_of_ble_eq_true rfl) (gm7 hM) rfl cl7 (c_X7_parcelsWith hM eq15) ?_
      obtain rfl := Option.some.inj hs; exact V_iret X hr dX7_count_143
    replace hs := if_f hs c14
    by_cases c16 : p1 = (9 : Int32)
    · replace hs := if_t hs c16
      refine V_tsw X 174 dX7_count_22 (9) (by rw [c16]; rfl) (by decide) (by decide) rfl (by decide) ?_
      refine V_aload_n X dX7_count_174 rfl 0 rfl ?_
      refine V_bipush X (10 : Int32) dX7_count_175 (by decide) ?_
      refine V_iload_n X dX7_count_177 rfl 1 rfl ?_
      refine V_bipush X (9 : Int32) dX7_count_178 (by decide) ?_
      refine V_isub X dX7_count_180 ?_
      obtain ⟨q17, eq17, hs⟩ := bd_some hs
      refine V_callVs X [.int (10 : Int32), .int (p1 - (9 : Int32))] dX7_count_181 m_X7_223 v_X7_parcelsWith ⟨Nat.le_of_ble_eq_true rfl, Nat.le_of_ble_eq_true rfl⟩ ⟨Nat.zero_le _, Nat.zero_le _⟩ rfl (Nat.le_of_ble_eq_true rfl) (gm7 hM) rfl cl7 (c_X7_parcelsWith hM eq17) ?_
      obtain rfl := Option.some.inj hs; exact V_iret X hr dX7_count_184
    replace hs := if_f hs c16
    by_cases c18 : p1 = (10 : Int32)
    · replace hs := if_t hs c18
      refine V_tsw X 174 dX7_count_22 (10) (by rw [c18]; rfl) (by decide) (by decide) rfl (by decide) ?_
      refine V_aload_n X dX7_count_174 rfl 0 rfl ?_
      refine V_bipush X (10 : Int32) dX7_count_175 (by decide) ?_
      refine V_iload_n X dX7_count_177 rfl 1 rfl ?_
      refine V_bipush X (9 : Int32) dX7_count_178 (by decide) ?_
      refine V_isub X dX7_count_180 ?_
      obtain ⟨q19, eq19, hs⟩ := bd_some hs
      refine V_callVs X [.int (10 : Int32), .int (p1 - (9 : Int32))] dX7_count_181 m_X7_223 v_X7_parcelsWith ⟨Nat.le_of_ble_eq_true rfl, Nat.le_of_ble_eq_true rfl⟩ ⟨Nat.zero_le _, Nat.zero_le _⟩ rfl (Nat.le_of_ble_eq_true rfl) (gm7 hM) rfl cl7 (c_X7_parcelsWith hM eq19) ?_
      obtain rfl := Option.some.inj hs; exact V_iret X hr dX7_count_184
    replace hs := if_f hs c18
    by_cases c20 : p1 = (11 : Int32)
    · replace hs := if_t hs c20
      refine V_tsw X 174 dX7_count_22 (11) (by rw [c20]; rfl) (by decide) (by decide) rfl (by decide) ?_
      refine V_aload_n X dX7_count_174 rfl 0 rfl ?_
      refine V_bipush X (10 : Int32) dX7_count_175 (by decide) ?_
      refine V_iload_n X dX7_count_177 rfl 1 rfl ?_
      refine V_bipush X (9 : Int32) dX7_count_178 (by decide) ?_
      refine V_isub X dX7_count_180 ?_
      obtain ⟨q21, eq21, hs⟩ := bd_some hs
      refine V_callVs X [.int (10 : Int32), .int (p1 - (9 : Int32))] dX7_count_181 m_X7_223 v_X7_parcelsWith ⟨Nat.le_of_ble_eq_true rfl, Nat.le_of_ble_eq_true rfl⟩ ⟨Nat.zero_le _, Nat.zero_le _⟩ rfl (Nat.le_of_ble_eq_true rfl) (gm7 hM) rfl cl7 (c_X7_parcelsWith hM eq21) ?_
      obtain rfl := Option.some.inj hs; exact V_iret X hr dX7_count_184
    replace hs := if_f hs c20
    by_cases c22 : p1 = (12 : Int32)
    · replace hs := if_t hs c22
      refine V_tsw X 174 dX7_count_22 (12) (by rw [c22]; rfl) (by decide) (by decide) rfl (by decide) ?_
      refine V_aload_n X dX7_count_174 rfl 0 rfl ?_
      refine V_bipush X (10 : Int32) dX7_count_175 (by decide) ?_
      refine V_iload_n X dX7_count_177 rfl 1 rfl ?_
      refine V_bipush X (9 : Int32) dX7_count_178 (by decide) ?_
      refine V_isub X dX7_count_180 ?_
      obtain ⟨q23, eq23, hs⟩ := bd_some hs
      refine V_callVs X [.int (10 : Int32), .int (p1 - (9 : Int32))] dX7_count_181 m_X7_223 v_X7_parcelsWith ⟨Nat.le_of_ble_eq_true rfl, Nat.le_of_ble_eq_true rfl⟩ ⟨Nat.zero_le _, Nat.zero_le _⟩ rfl (Nat.le_of_ble_eq_true rfl) (gm7 hM) rfl cl7 (c_X7_parcelsWith hM eq23) ?_
      obtain rfl := Option.some.inj hs; exact V_iret X hr dX7_count_184
    replace hs := if_f hs c22
    by_cases c24 : p1 = (13 : Int32)
    · replace hs := if_t hs c24
      refine V_tsw X 144 dX7_count_22 (13) (by rw [c24]; rfl) (by decide) (by decide) rfl (by decide) ?_
      refine V_aload_n X dX7_count_144 rfl 0 rfl ?_
      refine V_iload_n X dX7_count_145 rfl 1 rfl ?_
      refine V_bipush X (16 : Int32) dX7_count_146 (by decide) ?_
      refine jn (P := fun q => V D cA dm ad A 2 p l e ({ frames := 3, cells := 0, slots := 0, locals := 66 }) s m args below meth c 0 0 (MQ below (gQ D cA dm ad out.2 (some (.int out.1)) A) args s 0 0 A) Z3 156 [(0, .ref (ad 7 0 0)), (1, .int p1)] [.int q, .ref (ad 7 0 0)]) hs (fun q25 hs => ?_) (fun J156 hs => ?_)
      · obtain ⟨q26, eq26, hs⟩ := bd_some hs
        refine V_callVs X [.int q25] dX7_count_156 m_X7_226 v_X7_roundsOf ⟨Nat.le_of_ble_eq_true rfl, Nat.le_of_ble_eq_true rfl⟩ ⟨Nat.zero_le _, Nat.zero_le _⟩ rfl (Nat.le_of_ble_eq_true rfl) (gm7 hM) rfl cl7 (c_X7_roundsOf hM eq26) ?_
        obtain rfl := Option.some.inj hs; exact V_iret X hr dX7_count_159
      · refine V_icmp_ne X 155 dX7_count_148 (by decide) (fun c27 => ?_) (fun c27 => ?_)
        · replace hs := if_fB hs c27
          refine V_iconst X (0 : Int32) dX7_count_155 (by decide) ?_
          exact J156 _ (bs_some hs)
        · replace hs := if_tB hs c27
          refine V_iconst X (1 : Int32) dX7_count_151 (by decide) ?_
          refine V_goto X 156 dX7_count_152 (by decide) ?_
          exact J156 _ (bs_some hs)
    replace hs := if_f hs c24
    by_cases c28 : p1 = (14 : Int32)
    · replace hs := if_t hs c28
      refine V_tsw X 160 dX7_count_22 (14) (by rw [c28]; rfl) (by decide) (by decide) rfl (by decide) ?_
      refine V_aload_n X dX7_count_160 rfl 0 rfl ?_
      refine V_bipush X (12 : Int32) dX7_count_161 (by decide) ?_
      obtain ⟨q29, eq29, hs⟩ := bd_some hs
      refine V_callVs X [.int (12 : Int32)] dX7_count_163 m_X7_230 v_X7_sumOfChutes ⟨Nat.le_of_ble_eq_true rfl, Nat.le_of_ble_eq_true rfl⟩ ⟨Nat.zero_le _, Nat.zero_le _⟩ rfl (Nat.le_of_ble_eq_true rfl) (gm7 hM) rfl cl7 (c_X7_sumOfChutes hM eq29) ?_
      obtain rfl := Option.some.inj hs; exact V_iret X hr dX7_count_166
    replace hs := if_f hs c28
    by_cases c30 : p1 = (15 : Int32)
    · replace hs := if_t hs c30
      refine V_tsw X 167 dX7_count_22 (15) (by rw [c30]; rfl) (by decide) (by decide) rfl (by decide) ?_
      refine V_aload_n X dX7_count_167 rfl 0 rfl ?_
      refine V_bipush X (14 : Int32) dX7_count_168 (by decide) ?_
      obtain ⟨q31, eq31, hs⟩ := bd_some hs
      refine V_callVs X [.int (14 : Int32)] dX7_count_170 m_X7_230 v_X7_sumOfChutes ⟨Nat.le_of_ble_eq_true rfl, Nat.le_of_ble_eq_true rfl⟩ ⟨Nat.zero_le _, Nat.zero_le _⟩ rfl (Nat.le_of_ble_eq_true rfl) (gm7 hM) rfl cl7 (c_X7_sumOfChutes hM eq31) ?_
      obtain rfl := Option.some.inj hs; exact V_iret X hr dX7_count_173
    replace hs := if_f hs c30
    by_cases c32 : p1 = (16 : Int32)
    · replace hs := if_t hs c32
      refine V_tsw X 144 dX7_count_22 (16) (by rw [c32]; rfl) (by decide) (by decide) rfl (by decide) ?_
      refine V_aload_n X dX7_count_144 rfl 0 rfl ?_
      refine V_iload_n X dX7_count_145 rfl 1 rfl ?_
      refine V_bipush X (16 : Int32) dX7_count_146 (by decide) ?_
      refine jn (P := fun q => V D cA dm ad A 2 p l e ({ frames := 3, cells := 0, slots := 0, locals := 66 }) s m args below meth c 0 0 (MQ below (gQ D cA dm ad out.2 (some (.int out.1)) A) args s 0 0 A) Z3 156 [(0, .ref (ad 7 0 0)), (1, .int p1)] [.int q, .ref (ad 7 0 0)]) hs (fun q33 hs => ?_) (fun J156 hs => ?_)
      · obtain ⟨q34, eq34, hs⟩ := bd_some hs
        refine V_callVs X [.int q33] dX7_count_156 m_X7_226 v_X7_roundsOf ⟨Nat.le_of_ble_eq_true rfl, Nat.le_of_ble_eq_true rfl⟩ ⟨Nat.zero_le _, Nat.zero_le _⟩ rfl (Nat.le_of_ble_eq_true rfl) (gm7 hM) rfl cl7 (c_X7_roundsOf hM eq34) ?_
        obtain rfl := Option.some.inj hs; exact V_iret X hr dX7_count_159
      · refine V_icmp_ne X 155 dX7_count_148 (by decide) (fun c35 => ?_) (fun c35 => ?_)
        · replace hs := if_fB hs c35
          refine V_iconst X (0 : Int32) dX7_count_155 (by decide) ?_
          exact J156 _ (bs_some hs)
        · replace hs := if_tB hs c35
          refine V_iconst X (1 : Int32) dX7_count_151 (by decide) ?_
          refine V_goto X 156 dX7_count_152 (by decide) ?_
          exact J156 _ (bs_some hs)
    replace hs := if_f hs c32
    refine V_tswD X 174 dX7_count_22 (by have ec4 := sw_ne c4 (0) (by rfl); have ec5 := sw_ne c5 (1) (by rfl); have ec6 := sw_ne c6 (2) (by rfl); have ec7 := sw_ne c7 (3) (by rfl); have ec8 := sw_ne c8 (4) (by rfl); have ec9 := sw_ne c9 (5) (by rfl); have ec10 := sw_ne c10 (6) (by rfl); have ec12 := sw_ne c12 (7) (by rfl); have ec14 := sw_ne c14 (8) (by rfl); have ec16 := sw_ne c16 (9) (by rfl); have ec18 := sw_ne c18 (10) (by rfl); have ec20 := sw_ne c20 (11) (by rfl); have ec22 := sw_ne c22 (12) (by rfl); have ec24 := sw_ne c24 (13) (by rfl); have ec28 := sw_ne c28 (14) (by rfl); have ec30 := sw_ne c30 (15) (by rfl); have ec32 := sw_ne c32 (16) (by rfl); omega) (by decide) ?_
    refine V_aload_n X dX7_count_174 rfl 0 rfl ?_
    refine V_bipush X (10 : Int32) dX7_count_175 (by decide) ?_
    refine V_iload_n X dX7_count_177 rfl 1 rfl ?_
    refine V_bipush X (9 : Int32) dX7_count_178 (by decide) ?_
    refine V_isub X dX7_count_180 ?_
    obtain ⟨q36, eq36, hs⟩ := bd_some hs
    refine V_callVs X [.int (10 : Int32), .int (p1 - (9 : Int32))] dX7_count_181 m_X7_223 v_X7_parcelsWith ⟨Nat.le_of_ble_eq_true rfl, Nat.le_of_ble_eq_true rfl⟩ ⟨Nat.zero_le _, Nat.zero_le _⟩ rfl (Nat.le_of_ble_eq_true rfl) (gm7 hM) rfl cl7 (c_X7_parcelsWith hM eq36) ?_
    obtain rfl := Option.some.inj hs; exact V_iret X hr dX7_count_184
  · replace hs := if_t hs c2
    refine V_aload_n X dX7_count_10 rfl 0 rfl ?_
    refine V_iconst X (1 : Int32) dX7_count_11 (by decide) ?_
    obtain ⟨q37, eq37, hs⟩ := bd_some hs
    refine V_callVs X [.int (1 : Int32)] dX7_count_12 m_X7_79 v_X7_fails ⟨Nat.le_of_ble_eq_true rfl, Nat.le_of_ble_eq_true rfl⟩ ⟨Nat.zero_le _, Nat.zero_le _⟩ rfl (Nat.le_of_ble_eq_true rfl) (gm7 hM) rfl cl7 (c_X7_fails hM eq37) ?_
    obtain rfl := Option.some.inj hs; exact V_iret X hr dX7_count_15

def s_X7_meanRounds_L23 (fu : Nat)  : Nat → Int32 → Int32 → S4 → Option ((Int32 × Int32) × S4)
  | 0, _, _, _ => none
  | f23+1, v1, v2, Z3 => (if (Z3 7 0 0 12) ≤ v2 then gd (¬ (Z3 7 0 0 12) = 0) (some ((v1, (Z3 7 0 0 12)), Z3)) else gd (inb v2 60) ((s_X7_rounds (Z3 29 0 0 v2.toNatClampNeg) Z3).bind fun q7 => s_X7_meanRounds_L23 fu f23 (v1 + q7) (v2 + (1 : Int32)) Z3))
def s_X7_meanRounds (fu : Nat)  (S : S4) : Option ((Int32 × Int32) × S4) := (if (S 7 0 0 12) = 0 then (s_X7_fails (1 : Int32) S).bind fun q8 => some ((q8.1, (0 : Int32)), q8.2) else sv (u4 S 7 0 0 0 (0 : Int32)) fun Z2 => s_X7_meanRounds_L23 fu fu (0 : Int32) (0 : Int32) Z2)
set_option maxRecDepth 100000 in
set_option maxHeartbeats 4000000 in
theorem c_X7_meanRounds {l : Launch} {D : va_G} {cA : Nat → ClassId} {dm : Dm} {ad : Ad} {fu : Nat} {S : S4} (hM : DM dm) {out : ((Int32 × Int32) × S4)} (hs : s_X7_meanRounds fu S = some out) : Ct D cA dm ad l yX7_meanRounds cX7_meanRounds 3 (some .double) 2 43 S [.ref (ad 7 0 0)] (some (.double (dv out.1.1 out.1.2))) out.2 := by
  refine Ct.of (by decide +kernel) (Nat.le_of_ble_eq_true rfl) [(0, .ref (ad 7 0 0))] rfl (fun p e s m args below meth c A X hr => ?_)
  unfold s_X7_meanRounds at hs
  refine V_aload_n X dX7_meanRounds_0 rfl 0 rfl ?_
  refine V_get X dX7_meanRounds_1 r_X7_69 (gm7 hM) rfl rfl ?_
  refine V_if_ne X 14 dX7_meanRounds_4 (by decide) (fun c1 => ?_) (fun c1 => ?_)
  · replace hs := if_f hs c1
    refine V_aload_n X dX7_meanRounds_14 rfl 0 rfl ?_
    refine V_iconst X (0 : Int32) dX7_meanRounds_15 (by decide) ?_
    refine V_put X dX7_meanRounds_16 f_X7_54 (gm7 hM) rfl (Nat.le_of_ble_eq_true rfl) rfl rfl rfl (fun Z2 eZ2 => ?_)
    replace hs := sv_some hs Z2 eZ2
    clear eZ2
    refine V_iconst X (0 : Int32) dX7_meanRounds_19 (by decide) ?_
    refine V_istore_n X dX7_meanRounds_20 rfl [(1, .int (0 : Int32)), (0, .ref (ad 7 0 0))] (by decide) rfl ?_
    refine V_iconst X (0 : Int32) dX7_meanRounds_21 (by decide) ?_
    refine V_istore_n X dX7_meanRounds_22 rfl [(2, .int (0 : Int32)), (1, .int (0 : Int32)), (0, .ref (ad 7 0 0))] (by decide) rfl ?_
    have L23 : ∀ (n : Nat) (v1 v2 : Int32) (S1 : S4), s_X7_meanRounds_L23 fu n v1 v2 S1 = some out → V D cA dm ad A 3 p l e ({ frames := 2, cells := 0, slots := 0, locals := 43 }) s m args below meth c 0 0 (MQ below (gQ D cA dm ad out.2 (some (.double (dv out.1.1 out.1.2))) A) args s 0 0 A) S1 23 [(0, .ref (ad 7 0 0)), (1, .int v1), (2, .int v2)] [] := by
      intro n
      induction n with
      | zero => intro v1 v2 S1 hs; rw [s_X7_meanRounds_L23] at hs; cases hs
      | succ f23 ih23 =>
        intro v1 v2 Z3 hs
        rw [s_X7_meanRounds_L23] at hs
        refine V_iload_n X dX7_meanRounds_23 rfl 2 rfl ?_
        refine V_aload_n X dX7_meanRounds_24 rfl 0 rfl ?_
        refine V_get X dX7_meanRounds_25 r_X7_69 (gm7 hM) rfl rfl ?_
        refine V_icmp_ge X 50 dX7_meanRounds_28 (by decide) (fun c4 => ?_) (fun c4 => ?_)
        · replace hs := if_t hs c4
          refine V_iload_n X dX7_meanRounds_50 rfl 1 rfl ?_
          refine V_i2d X dX7_meanRounds_51 ?_
          refine V_aload_n X dX7_meanRounds_52 rfl 0 rfl ?_
          refine V_get X dX7_meanRounds_53 r_X7_69 (gm7 hM) rfl rfl ?_
          refine V_i2d X dX7_meanRounds_56 ?_
          obtain ⟨h5, hs⟩ := gd_some hs
          refine V_ddiv X h5 dX7_meanRounds_57 ?_
          obtain rfl := Option.some.inj hs; exact V_dret X hr (dv_q h5) dX7_meanRounds_58
        · replace hs := if_f hs c4
          refine V_iload_n X dX7_meanRounds_31 rfl 1 rfl ?_
          refine V_aload_n X dX7_meanRounds_32 rfl 0 rfl ?_
          refine V_aload_n X dX7_meanRounds_33 rfl 0 rfl ?_
          refine V_get X dX7_meanRounds_34 r_X7_25 (gm7 hM) rfl rfl ?_
          refine V_iload_n X dX7_meanRounds_37 rfl 2 rfl ?_
          obtain ⟨h6, hs⟩ := gd_some hs
          refine V_iald X dX7_meanRounds_38 (gm29 hM) rfl h6 ?_
          obtain ⟨q7, eq7, hs⟩ := bd_some hs
          refine V_callVs X [.int (Z3 29 0 0 v2.toNatClampNeg)] dX7_meanRounds_39 m_X7_220 v_X7_rounds ⟨Nat.le_of_ble_eq_true rfl, Nat.le_of_ble_eq_true rfl⟩ ⟨Nat.zero_le _, Nat.zero_le _⟩ rfl (Nat.le_of_ble_eq_true rfl) (gm7 hM) rfl cl7 (c_X7_rounds hM eq7) ?_
          refine V_iadd X dX7_meanRounds_42 ?_
          refine V_istore_n X dX7_meanRounds_43 rfl [(1, .int (v1 + q7)), (0, .ref (ad 7 0 0)), (2, .int v2)] (by decide) rfl ?_
          refine V_iinc X (v2 + (1 : Int32)) dX7_meanRounds_44 2 rfl rfl [(2, .int (v2 + (1 : Int32))), (1, .int (v1 + q7)), (0, .ref (ad 7 0 0))] (by decide) rfl ?_
          refine V_goto X 23 dX7_meanRounds_47 (by decide) ?_
          refine V_sub [2, 1, 0] rfl ?_
          exact ih23 _ _ _ hs
    refine V_sub [2, 1, 0] rfl ?_
    exact L23 _ _ _ _ hs
  · replace hs := if_t hs c1
    refine V_aload_n X dX7_meanRounds_7 rfl 0 rfl ?_
    refine V_iconst X (1 : Int32) dX7_meanRounds_8 (by decide) ?_
    obtain ⟨q8, eq8, hs⟩ := bd_some hs
    refine V_callVs X [.int (1 : Int32)] dX7_meanRounds_9 m_X7_79 v_X7_fails ⟨Nat.le_of_ble_eq_true rfl, Nat.le_of_ble_eq_true rfl⟩ ⟨Nat.zero_le _, Nat.zero_le _⟩ rfl (Nat.le_of_ble_eq_true rfl) (gm7 hM) rfl cl7 (c_X7_fails hM eq8) ?_
    refine V_i2d X dX7_meanRounds_12 ?_
    obtain rfl := Option.some.inj hs; exact V_dret X hr (dv_i _) dX7_meanRounds_13

def s_X7_foresee_L44 (fu : Nat) (p1 : Int32) (p2 : Int32) (p3 : Int32) : Nat → Int32 → S4 → Option (Int32 × S4)
  | 0, _, _ => none
  | f44+1, v4, Z7 => (if p2 ≤ v4 then (s_X7_ofParcel p1 (4 : Int32) Z7).bind fun q9 => ((if q9 = (2 : Int32) then some (0 : Int32) else some (3 : Int32))).bind fun q10 => sv (u4 Z7 7 0 0 0 q10) fun Z11 => ((if (Z11 7 0 0 0) ≤ 0 then (if p3 = 0 then (s_X7_ofParcel p1 (5 : Int32) Z11).bind fun q17 => some q17 else (s_X7_ofParcel p1 (9 : Int32) Z11).bind fun q18 => some q18) else some (0 : Int32))).bind fun q12 => (s_X7_handsAll fu 32 0 0 1360 (0 : Int32) (0 : Int32) Z11).bind fun Z14 => some (q12, Z14) else (s_X7_ofParcel p1 (4 : Int32) Z7).bind fun q20 => (if q20 = (2 : Int32) then (s_X7_ofParcel p1 (4 : Int32) Z7).bind fun q22 => ((if q22 = (2 : Int32) then some (0 : Int32) else some (3 : Int32))).bind fun q23 => sv (u4 Z7 7 0 0 0 q23) fun Z24 => ((if (Z24 7 0 0 0) ≤ 0 then (if p3 = 0 then (s_X7_ofParcel p1 (5 : Int32) Z24).bind fun q30 => some q30 else (s_X7_ofParcel p1 (9 : Int32) Z24).bind fun q31 => some q31) else some (0 : Int32))).bind fun q25 => (s_X7_handsAll fu 32 0 0 1360 (0 : Int32) (0 : Int32) Z24).bind fun Z27 => some (q25, Z27) else (s_X7_ticks fu Z7).bind fun Z34 => s_X7_foresee_L44 fu p1 p2 p3 f44 (v4 + (1 : Int32)) Z34))
def s_X7_foresee (fu : Nat) (p1 : Int32) (p2 : Int32) (p3 : Int32) (S : S4) : Option (Int32 × S4) := (s_X7_isParcel p1 S).bind fun q1 => (if q1 = 0 then (s_X7_fails (1 : Int32) S).bind fun q36 => some (q36.1, q36.2) else (s_X7_isBetween p2 (1 : Int32) (200 : Int32) S).bind fun q3 => (if q3 = 0 then (s_X7_fails (2 : Int32) S).bind fun q35 => some (q35.1, q35.2) else (s_X7_handsAll fu 32 0 0 1360 (0 : Int32) (1 : Int32) S).bind fun Z6 => s_X7_foresee_L44 fu p1 p2 p3 fu (0 : Int32) Z6))
set_option maxRecDepth 100000 in
set_option maxHeartbeats 4000000 in
theorem c_X7_foresee {l : Launch} {D : va_G} {cA : Nat → ClassId} {dm : Dm} {ad : Ad} {fu : Nat} {S : S4} {p1 : Int32} {p2 : Int32} {p3 : Int32} (hM : DM dm) {out : (Int32 × S4)} (hs : s_X7_foresee fu p1 p2 p3 S = some out) : Ct D cA dm ad l yX7_foresee cX7_foresee 5 (some .int) 6 139 S [.ref (ad 7 0 0), .int p1, .int p2, .int p3] (some (.int out.1)) out.2 := by
  refine Ct.of (by decide +kernel) (Nat.le_of_ble_eq_true rfl) [(0, .ref (ad 7 0 0)), (1, .int p1), (2, .int p2), (3, .int p3)] rfl (fun p e s m args below meth c A X hr => ?_)
  unfold s_X7_foresee at hs
  refine V_aload_n X dX7_foresee_0 rfl 0 rfl ?_
  refine V_iload_n X dX7_foresee_1 rfl 1 rfl ?_
  obtain ⟨q1, eq1, hs⟩ := bd_some hs
  refine V_callVs X [.int p1] dX7_foresee_2 m_X7_166 v_X7_isParcel ⟨Nat.le_of_ble_eq_true rfl, Nat.le_of_ble_eq_true rfl⟩ ⟨Nat.zero_le _, Nat.zero_le _⟩ rfl (Nat.le_of_ble_eq_true rfl) (gm7 hM) rfl cl7 (c_X7_isParcel hM eq1) ?_
  refine V_if_ne X 14 dX7_foresee_5 (by decide) (fun c2 => ?_) (fun c2 => ?_)
  · replace hs := if_f hs c2
    refine V_iload_n X dX7_foresee_14 rfl 2 rfl ?_
    refine V_iconst X (1 : Int32) dX7_foresee_15 (by decide) ?_
    refine V_sipush X (200 : Int32) dX7_foresee_16 (by decide) ?_
    obtain ⟨q3, eq3, hs⟩ := bd_some hs
    refine V_callSs X [.int p2, .int (1 : Int32), .int (200 : Int32)] dX7_foresee_19 m_X7_75 t_X7_isBetween ⟨Nat.le_of_ble_eq_true rfl, Nat.le_of_ble_eq_true rfl⟩ ⟨Nat.zero_le _, Nat.zero_le _⟩ rfl (Nat.le_of_ble_eq_true rfl) (c_X7_isBetween  eq3) ?_
    refine V_if_ne X 31 dX7_foresee_22 (by decide) (fun c4 => ?_) (fun c4 => ?_)
    · replace hs := if_f hs c4
      refine V_aload_n X dX7_foresee_31 rfl 0 rfl ?_
      refine V_aload_n X dX7_foresee_32 rfl 0 rfl ?_
      refine V_get X dX7_foresee_33 r_X7_39 (gm7 hM) rfl rfl ?_
      refine V_iconst X (0 : Int32) dX7_foresee_36 (by decide) ?_
      refine V_iconst X (1 : Int32) dX7_foresee_37 (by decide) ?_
      obtain ⟨Z6, eZ6, hs⟩ := bd_some hs
      refine V_callVv X [.ref (ad 32 0 0), .int (0 : Int32), .int (1 : Int32)] dX7_foresee_38 m_X7_248 v_X7_handsAll ⟨Nat.le_of_ble_eq_true rfl, Nat.le_of_ble_eq_true rfl⟩ ⟨Nat.zero_le _, Nat.zero_le _⟩ rfl (Nat.le_of_ble_eq_true rfl) (gm7 hM) rfl cl7 (c_X7_handsAll hM (ia32 hM) eZ6) ?_
      refine V_iconst X (0 : Int32) dX7_foresee_41 (by decide) ?_
      refine V_istore X dX7_foresee_42 [(4, .int (0 : Int32)), (0, .ref (ad 7 0 0)), (1, .int p1), (2, .int p2), (3, .int p3)] (by decide) rfl ?_
      have L44 : ∀ (n : Nat) (v4 : Int32) (S1 : S4), s_X7_foresee_L44 fu p1 p2 p3 n v4 S1 = some out → V D cA dm ad A 5 p l e ({ frames := 6, cells := 0, slots := 0, locals := 139 }) s m args below meth c 0 0 (MQ below (gQ D cA dm ad out.2 (some (.int out.1)) A) args s 0 0 A) S1 44 [(0, .ref (ad 7 0 0)), (1, .int p1), (2, .int p2), (3, .int p3), (4, .int v4)] [] := by
        intro n
        induction n with
        | zero => intro v4 S1 hs; rw [s_X7_foresee_L44] at hs; cases hs
        | succ f44 ih44 =>
          intro v4 Z7 hs
          rw [s_X7_foresee_L44] at hs
          refine V_iload X dX7_foresee_44 4 rfl ?_
          refine V_iload_n X dX7_foresee_46 rfl 2 rfl ?_
          refine V_icmp_ge X 70 dX7_foresee_47 (by decide) (fun c8 => ?_) (fun c8 => ?_)
          · replace hs := if_t hs c8
            refine V_aload_n X dX7_foresee_70 rfl 0 rfl ?_
            refine V_aload_n X dX7_foresee_71 rfl 0 rfl ?_
            refine V_iload_n X dX7_foresee_72 rfl 1 rfl ?_
            refine V_iconst X (4 : Int32) dX7_foresee_73 (by decide) ?_
            obtain ⟨q9, eq9, hs⟩ := bd_some hs
            refine V_callVs X [.int p1, .int (4 : Int32)] dX7_foresee_74 m_X7_160 v_X7_ofParcel ⟨Nat.le_of_ble_eq_true rfl, Nat.le_of_ble_eq_true rfl⟩ ⟨Nat.zero_le _, Nat.zero_le _⟩ rfl (Nat.le_of_ble_eq_true rfl) (gm7 hM) rfl cl7 (c_X7_ofParcel hM eq9) ?_
            refine V_iconst X (2 : Int32) dX7_foresee_77 (by decide) ?_
            refine jn (P := fun q => V D cA dm ad A 5 p l e ({ frames := 6, cells := 0, slots := 0, locals := 139 }) s m args below meth c 0 0 (MQ below (gQ D cA dm ad out.2 (some (.int out.1)) A) args s 0 0 A) Z7 86 [(0, .ref (ad 7 0 0)), (1, .int p1), (2, .int p2), (3, .int p3), (4, .int v4)] [.int q, .ref (ad 7 0 0)]) hs (fun q10 hs => ?_) (fun J86 hs => ?_)
            · refine V_put X dX7_foresee_86 f_X7_54 (gm7 hM) rfl (Nat.le_of_ble_eq_true rfl) rfl rfl rfl (fun Z11 eZ11 => ?_)
              replace hs := sv_some hs Z11 eZ11
              clear eZ11
              refine V_aload_n X dX7_foresee_89 rfl 0 rfl ?_
              refine V_get X dX7_foresee_90 r_X7_54 (gm7 hM) rfl rfl ?_
              refine jn (P := fun q => V D cA dm ad A 5 p l e ({ frames := 6, cells := 0, slots := 0, locals := 139 }) s m args below meth c 0 0 (MQ below (gQ D cA dm ad out.2 (some (.int out.1)) A) args s 0 0 A) Z11 115 [(0, .ref (ad 7 0 0)), (1, .int p1), (2, .int p2), (3, .int p3), (4, .int v4)] [.int q]) hs (fun q12 hs => ?_) (fun J115 hs => ?_)
              · refine V_istore X dX7_foresee_115 [(4, .int q12), (0, .ref (ad 7 0 0)), (1, .int p1), (2, .int p2), (3, .int p3)] (by decide) rfl ?_
                refine V_aload_n X dX7_foresee_117 rfl 1 rfl ?_
                refine V_aload_n X dX7_foresee_118 rfl 1 rfl ?_
                refine V_get X dX7_foresee_119 r_X7_39 (gm7 hM) rfl rfl ?_
                refine V_iconst X (0 : Int32) dX7_foresee_122 (by decide) ?_
                refine V_iconst X (0 : Int32) dX7_foresee_123 (by decide) ?_
                obtain ⟨Z14, eZ14, hs⟩ := bd_some hs
                refine V_callVv X [.ref (ad 32 0 0), .int (0 : Int32), .int (0 : Int32)] dX7_foresee_124 m_X7_248 v_X7_handsAll ⟨Nat.le_of_ble_eq_true rfl, Nat.le_of_ble_eq_true rfl⟩ ⟨Nat.zero_le _, Nat.zero_le _⟩ rfl (Nat.le_of_ble_eq_true rfl) (gm7 hM) rfl cl7 (c_X7_handsAll hM (ia32 hM) eZ14) ?_
                refine V_iload X dX7_foresee_127 0 rfl ?_
                obtain rfl := Option.some.inj hs; exact V_iret X hr dX7_foresee_129
              · refine V_if_le X 100 dX7_foresee_93 (by decide) (fun c15 => ?_) (fun c15 => ?_)
                · replace hs := if_tB hs c15
                  refine V_aload_n X dX7_foresee_100 rfl 0 rfl ?_
                  refine V_iload_n X dX7_foresee_101 rfl 1 rfl ?_
                  refine V_iload_n X dX7_foresee_102 rfl 3 rfl ?_
                  refine V_if_eq X 111 dX7_foresee_103 (by decide) (fun c16 => ?_) (fun c16 => ?_)
                  · replace hs := if_tB hs c16
                    refine V_iconst X (5 : Int32) dX7_foresee_111 (by decide) ?_
                    obtain ⟨q17, eq17, hs⟩ := bd_someB hs
                    refine V_callVs X [.int p1, .int (5 : Int32)] dX7_foresee_112 m_X7_160 v_X7_ofParcel ⟨Nat.le_of_ble_eq_true rfl, Nat.le_of_ble_eq_true rfl⟩ ⟨Nat.zero_le _, Nat.zero_le _⟩ rfl (Nat.le_of_ble_eq_true rfl) (gm7 hM) rfl cl7 (c_X7_ofParcel hM eq17) ?_
                    exact J115 _ (bs_some hs)
                  · replace hs := if_fB hs c16
                    refine V_bipush X (9 : Int32) dX7_foresee_106 (by decide) ?_
                    refine V_goto X 112 dX7_foresee_108 (by decide) ?_
                    obtain ⟨q18, eq18, hs⟩ := bd_someB hs
                    refine V_callVs X [.int p1, .int (9 : Int32)] dX7_foresee_112 m_X7_160 v_X7_ofParcel ⟨Nat.le_of_ble_eq_true rfl, Nat.le_of_ble_eq_true rfl⟩ ⟨Nat.zero_le _, Nat.zero_le _⟩ rfl (Nat.le_of_ble_eq_true rfl) (gm7 hM) rfl cl7 (c_X7_ofParcel hM eq18) ?_
                    exact J115 _ (bs_some hs)
                · replace hs := if_fB hs c15
                  refine V_iconst X (0 : Int32) dX7_foresee_96 (by decide) ?_
                  refine V_goto X 115 dX7_foresee_97 (by decide) ?_
                  exact J115 _ (bs_some hs)
            · refine V_icmp_ne X 85 dX7_foresee_78 (by decide) (fun c19 => ?_) (fun c19 => ?_)
              · replace hs := if_fB hs c19
                refine V_iconst X (3 : Int32) dX7_foresee_85 (by decide) ?_
                exact J86 _ (bs_some hs)
              · replace hs := if_tB hs c19
                refine V_iconst X (0 : Int32) dX7_foresee_81 (by decide) ?_
                refine V_goto X 86 dX7_foresee_82 (by decide) ?_
                exact J86 _ (bs_some hs)
          · replace hs := if_f hs c8
            refine V_aload_n X dX7_foresee_50 rfl 0 rfl ?_
            refine V_iload_n X dX7_foresee_51 rfl 1 rfl ?_
            refine V_iconst X (4 : Int32) dX7_foresee_52 (by decide) ?_
            obtain ⟨q20, eq20, hs⟩ := bd_some hs
            refine V_callVs X [.int p1, .int (4 : Int32)] dX7_foresee_53 m_X7_160 v_X7_ofParcel ⟨Nat.le_of_ble_eq_true rfl, Nat.le_of_ble_eq_true rfl⟩ ⟨Nat.zero_le _, Nat.zero_le _⟩ rfl (Nat.le_of_ble_eq_true rfl) (gm7 hM) rfl cl7 (c_X7_ofParcel hM eq20) ?_
            refine V_iconst X (2 : Int32) dX7_foresee_56 (by decide) ?_
            refine V_icmp_eq X 70 dX7_foresee_57 (by decide) (fun c21 => ?_) (fun c21 => ?_)
            · replace hs := if_t hs c21
              refine V_aload_n X dX7_foresee_70 rfl 0 rfl ?_
              refine V_aload_n X dX7_foresee_71 rfl 0 rfl ?_
              refine V_iload_n X dX7_foresee_72 rfl 1 rfl ?_
              refine V_iconst X (4 : Int32) dX7_foresee_73 (by decide) ?_
              obtain ⟨q22, eq22, hs⟩ := bd_some hs
              refine V_callVs X [.int p1, .int (4 : Int32)] dX7_foresee_74 m_X7_160 v_X7_ofParcel ⟨Nat.le_of_ble_eq_true rfl, Nat.le_of_ble_eq_true rfl⟩ ⟨Nat.zero_le _, Nat.zero_le _⟩ rfl (Nat.le_of_ble_eq_true rfl) (gm7 hM) rfl cl7 (c_X7_ofParcel hM eq22) ?_
              refine V_iconst X (2 : Int32) dX7_foresee_77 (by decide) ?_
              refine jn (P := fun q => V D cA dm ad A 5 p l e ({ frames := 6, cells := 0, slots := 0, locals := 139 }) s m args below meth c 0 0 (MQ below (gQ D cA dm ad out.2 (some (.int out.1)) A) args s 0 0 A) Z7 86 [(0, .ref (ad 7 0 0)), (1, .int p1), (2, .int p2), (3, .int p3), (4, .int v4)] [.int q, .ref (ad 7 0 0)]) hs (fun q23 hs => ?_) (fun J86 hs => ?_)
              · refine V_put X dX7_foresee_86 f_X7_54 (gm7 hM) rfl (Nat.le_of_ble_eq_true rfl) rfl rfl rfl (fun Z24 eZ24 => ?_)
                replace hs := sv_some hs Z24 eZ24
                clear eZ24
                refine V_aload_n X dX7_foresee_89 rfl 0 rfl ?_
                refine V_get X dX7_foresee_90 r_X7_54 (gm7 hM) rfl rfl ?_
                refine jn (P := fun q => V D cA dm ad A 5 p l e ({ frames := 6, cells := 0, slots := 0, locals := 139 }) s m args below meth c 0 0 (MQ below (gQ D cA dm ad out.2 (some (.int out.1)) A) args s 0 0 A) Z24 115 [(0, .ref (ad 7 0 0)), (1, .int p1), (2, .int p2), (3, .int p3), (4, .int v4)] [.int q]) hs (fun q25 hs => ?_) (fun J115 hs => ?_)
                · refine V_istore X dX7_foresee_115 [(4, .int q25), (0, .ref (ad 7 0 0)), (1, .int p1), (2, .int p2), (3, .int p3)] (by decide) rfl ?_
                  refine V_aload_n X dX7_foresee_117 rfl 1 rfl ?_
                  refine V_aload_n X dX7_foresee_118 rfl 1 rfl ?_
                  refine V_get X dX7_foresee_119 r_X7_39 (gm7 hM) rfl rfl ?_
                  refine V_iconst X (0 : Int32) dX7_foresee_122 (by decide) ?_
                  refine V_iconst X (0 : Int32) dX7_foresee_123 (by decide) ?_
                  obtain ⟨Z27, eZ27, hs⟩ := bd_some hs
                  refine V_callVv X [.ref (ad 32 0 0), .int (0 : Int32), .int (0 : Int32)] dX7_foresee_124 m_X7_248 v_X7_handsAll ⟨Nat.le_of_ble_eq_true rfl, Nat.le_of_ble_eq_true rfl⟩ ⟨Nat.zero_le _, Nat.zero_le _⟩ rfl (Nat.le_of_ble_eq_true rfl) (gm7 hM) rfl cl7 (c_X7_handsAll hM (ia32 hM) eZ27) ?_
                  refine V_iload X dX7_foresee_127 0 rfl ?_
                  obtain rfl := Option.some.inj hs; exact V_iret X hr dX7_foresee_129
                · refine V_if_le X 100 dX7_foresee_93 (by decide) (fun c28 => ?_) (fun c28 => ?_)
                  · replace hs := if_tB hs c28
                    refine V_aload_n X dX7_foresee_100 rfl 0 rfl ?_
                    refine V_iload_n X dX7_foresee_101 rfl 1 rfl ?_
                    refine V_iload_n X dX7_foresee_102 rfl 3 rfl ?_
                    refine V_if_eq X 111 dX7_foresee_103 (by decide) (fun c29 => ?_) (fun c29 => ?_)
                    · replace hs := if_tB hs c29
                      refine V_iconst X (5 : Int32) dX7_foresee_111 (by decide) ?_
                      obtain ⟨q30, eq30, hs⟩ := bd_someB hs
                      refine V_callVs X [.int p1, .int (5 : Int32)] dX7_foresee_112 m_X7_160 v_X7_ofParcel ⟨Nat.le_of_ble_eq_true rfl, Nat.le_of_ble_eq_true rfl⟩ ⟨Nat.zero_le _, Nat.zero_le _⟩ rfl (Nat.le_of_ble_eq_true rfl) (gm7 hM) rfl cl7 (c_X7_ofParcel hM eq30) ?_
                      exact J115 _ (bs_some hs)
                    · replace hs := if_fB hs c29
                      refine V_bipush X (9 : Int32) dX7_foresee_106 (by decide) ?_
                      refine V_goto X 112 dX7_foresee_108 (by decide) ?_
                      obtain ⟨q31, eq31, hs⟩ := bd_someB hs
                      refine V_callVs X [.int p1, .int (9 : Int32)] dX7_foresee_112 m_X7_160 v_X7_ofParcel ⟨Nat.le_of_ble_eq_true rfl, Nat.le_of_ble_eq_true rfl⟩ ⟨Nat.zero_le _, Nat.zero_le _⟩ rfl (Nat.le_of_ble_eq_true rfl) (gm7 hM) rfl cl7 (c_X7_ofParcel hM eq31) ?_
                      exact J115 _ (bs_some hs)
                  · replace hs := if_fB hs c28
                    refine V_iconst X (0 : Int32) dX7_foresee_96 (by decide) ?_
                    refine V_goto X 115 dX7_foresee_97 (by decide) ?_
                    exact J115 _ (bs_some hs)
              · refine V_icmp_ne X 85 dX7_foresee_78 (by decide) (fun c32 => ?_) (fun c32 => ?_)
                · replace hs := if_fB hs c32
                  refine V_iconst X (3 : Int32) dX7_foresee_85 (by decide) ?_
                  exact J86 _ (bs_some hs)
                · replace hs := if_tB hs c32
                  refine V_iconst X (0 : Int32) dX7_foresee_81 (by decide) ?_
                  refine V_goto X 86 dX7_foresee_82 (by decide) ?_
                  exact J86 _ (bs_some hs)
            · replace hs := if_f hs c21
              refine V_aload_n X dX7_foresee_60 rfl 0 rfl ?_
              obtain ⟨Z34, eZ34, hs⟩ := bd_some hs
              refine V_callVv X [] dX7_foresee_61 m_X7_214 v_X7_ticks ⟨Nat.le_of_ble_eq_true rfl, Nat.le_of_ble_eq_true rfl⟩ ⟨Nat.zero_le _, Nat.zero_le _⟩ rfl (Nat.le_of_ble_eq_true rfl) (gm7 hM) rfl cl7 (c_X7_ticks hM eZ34) ?_
              refine V_iinc X (v4 + (1 : Int32)) dX7_foresee_64 4 rfl rfl [(4, .int (v4 + (1 : Int32))), (0, .ref (ad 7 0 0)), (1, .int p1), (2, .int p2), (3, .int p3)] (by decide) rfl ?_
              refine V_goto X 44 dX7_foresee_67 (by decide) ?_
              refine V_sub [1, 2, 3, 4, 0] rfl ?_
              exact ih44 _ _ hs
      refine V_sub [1, 2, 3, 4, 0] rfl ?_
      exact L44 _ _ _ hs
    · replace hs := if_t hs c4
      refine V_aload_n X dX7_foresee_25 rfl 0 rfl ?_
      refine V_iconst X (2 : Int32) dX7_foresee_26 (by decide) ?_
      obtain ⟨q35, eq35, hs⟩ := bd_some hs
      refine V_callVs X [.int (2 : Int32)] dX7_foresee_27 m_X7_79 v_X7_fails ⟨Nat.le_of_ble_eq_true rfl, Nat.le_of_ble_eq_true rfl⟩ ⟨Nat.zero_le _, Nat.zero_le _⟩ rfl (Nat.le_of_ble_eq_true rfl) (gm7 hM) rfl cl7 (c_X7_fails hM eq35) ?_
      obtain rfl := Option.some.inj hs; exact V_iret X hr dX7_foresee_30
  · replace hs := if_t hs c2
    refine V_aload_n X dX7_foresee_8 rfl 0 rfl ?_
    refine V_iconst X (1 : Int32) dX7_foresee_9 (by decide) ?_
    obtain ⟨q36, eq36, hs⟩ := bd_some hs
    refine V_callVs X [.int (1 : Int32)] dX7_foresee_10 m_X7_79 v_X7_fails ⟨Nat.le_of_ble_eq_true rfl, Nat.le_of_ble_eq_true rfl⟩ ⟨Nat.zero_le _, Nat.zero_le _⟩ rfl (Nat.le_of_ble_eq_true rfl) (gm7 hM) rfl cl7 (c_X7_fails hM eq36) ?_
    obtain rfl := Option.some.inj hs; exact V_iret X hr dX7_foresee_13

def s_X7_untilEmpty_L29 (fu : Nat) (p1 : Int32) : Nat → Int32 → S4 → Option (Int32 × S4)
  | 0, _, _ => none
  | f29+1, v2, Z5 => (if p1 ≤ v2 then ((if (Z5 7 0 0 12) = (Z5 7 0 0 11) then some (0 : Int32) else some (2 : Int32))).bind fun q7 => sv (u4 Z5 7 0 0 0 q7) fun Z8 => (s_X7_handsAll fu 32 0 0 1360 (0 : Int32) (0 : Int32) Z8).bind fun Z10 => (if (Z10 7 0 0 0) ≤ 0 then some (v2, Z10) else some ((0 : Int32), Z10)) else (if (Z5 7 0 0 11) ≤ (Z5 7 0 0 12) then ((if (Z5 7 0 0 12) = (Z5 7 0 0 11) then some (0 : Int32) else some (2 : Int32))).bind fun q14 => sv (u4 Z5 7 0 0 0 q14) fun Z15 => (s_X7_handsAll fu 32 0 0 1360 (0 : Int32) (0 : Int32) Z15).bind fun Z17 => (if (Z17 7 0 0 0) ≤ 0 then some (v2, Z17) else some ((0 : Int32), Z17)) else (s_X7_ticks fu Z5).bind fun Z21 => s_X7_untilEmpty_L29 fu p1 f29 (v2 + (1 : Int32)) Z21))
def s_X7_untilEmpty (fu : Nat) (p1 : Int32) (S : S4) : Option (Int32 × S4) := (s_X7_isBetween p1 (1 : Int32) (200 : Int32) S).bind fun q1 => (if q1 = 0 then (s_X7_fails (1 : Int32) S).bind fun q22 => some (q22.1, q22.2) else (s_X7_handsAll fu 32 0 0 1360 (0 : Int32) (1 : Int32) S).bind fun Z4 => s_X7_untilEmpty_L29 fu p1 fu (0 : Int32) Z4)
set_option maxRecDepth 100000 in
set_option maxHeartbeats 4000000 in
theorem c_X7_untilEmpty {l : Launch} {D : va_G} {cA : Nat → ClassId} {dm : Dm} {ad : Ad} {fu : Nat} {S : S4} {p1 : Int32} (hM : DM dm) {out : (Int32 × S4)} (hs : s_X7_untilEmpty fu p1 S = some out) : Ct D cA dm ad l yX7_untilEmpty cX7_untilEmpty 3 (some .int) 6 139 S [.ref (ad 7 0 0), .int p1] (some (.int out.1)) out.2 := by
  refine Ct.of (by decide +kernel) (Nat.le_of_ble_eq_true rfl) [(0, .ref (ad 7 0 0)), (1, .int p1)] rfl (fun p e s m args below meth c A X hr => ?_)
  unfold s_X7_untilEmpty at hs
  refine V_iload_n X dX7_untilEmpty_0 rfl 1 rfl ?_
  refine V_iconst X (1 : Int32) dX7_untilEmpty_1 (by decide) ?_
  refine V_sipush X (200 : Int32) dX7_untilEmpty_2 (by decide) ?_
  obtain ⟨q1, eq1, hs⟩ := bd_some hs
  refine V_callSs X [.int p1, .int (1 : Int32), .int (200 : Int32)] dX7_untilEmpty_5 m_X7_75 t_X7_isBetween ⟨Nat.le_of_ble_eq_true rfl, Nat.le_of_ble_eq_true rfl⟩ ⟨Nat.zero_le _, Nat.zero_le _⟩ rfl (Nat.le_of_ble_eq_true rfl) (c_X7_isBetween  eq1) ?_
  refine V_if_ne X 17 dX7_untilEmpty_8 (by decide) (fun c2 => ?_) (fun c2 => ?_)
  · replace hs := if_f hs c2
    refine V_aload_n X dX7_untilEmpty_17 rfl 0 rfl ?_
    refine V_aload_n X dX7_untilEmpty_18 rfl 0 rfl ?_
    refine V_get X dX7_untilEmpty_19 r_X7_39 (gm7 hM) rfl rfl ?_
    refine V_iconst X (0 : Int32) dX7_untilEmpty_22 (by decide) ?_
    refine V_iconst X (1 : Int32) dX7_untilEmpty_23 (by decide) ?_
    obtain ⟨Z4, eZ4, hs⟩ := bd_some hs
    refine V_callVv X [.ref (ad 32 0 0), .int (0 : Int32), .int (1 : Int32)] dX7_untilEmpty_24 m_X7_248 v_X7_handsAll ⟨Nat.le_of_ble_eq_true rfl, Nat.le_of_ble_eq_true rfl⟩ ⟨Nat.zero_le _, Nat.zero_le _⟩ rfl (Nat.le_of_ble_eq_true rfl) (gm7 hM) rfl cl7 (c_X7_handsAll hM (ia32 hM) eZ4) ?_
    refine V_iconst X (0 : Int32) dX7_untilEmpty_27 (by decide) ?_
    refine V_istore_n X dX7_untilEmpty_28 rfl [(2, .int (0 : Int32)), (0, .ref (ad 7 0 0)), (1, .int p1)] (by decide) rfl ?_
    have L29 : ∀ (n : Nat) (v2 : Int32) (S1 : S4), s_X7_untilEmpty_L29 fu p1 n v2 S1 = some out → V D cA dm ad A 3 p l e ({ frames := 6, cells := 0, slots := 0, locals := 139 }) s m args below meth c 0 0 (MQ below (gQ D cA dm ad out.2 (some (.int out.1)) A) args s 0 0 A) S1 29 [(0, .ref (ad 7 0 0)), (1, .int p1), (2, .int v2)] [] := by
      intro n
      induction n with
      | zero => intro v2 S1 hs; rw [s_X7_untilEmpty_L29] at hs; cases hs
      | succ f29 ih29 =>
        intro v2 Z5 hs
        rw [s_X7_untilEmpty_L29] at hs
        refine V_iload_n X dX7_untilEmpty_29 rfl 2 rfl ?_
        refine V_iload_n X dX7_untilEmpty_30 rfl 1 rfl ?_
        refine V_icmp_ge X 55 dX7_untilEmpty_31 (by decide) (fun c6 => ?_) (fun c6 => ?_)
        · replace hs := if_t hs c6
          refine V_aload_n X dX7_untilEmpty_55 rfl 0 rfl ?_
          refine V_aload_n X dX7_untilEmpty_56 rfl 0 rfl ?_
          refine V_get X dX7_untilEmpty_57 r_X7_69 (gm7 hM) rfl rfl ?_
          refine V_aload_n X dX7_untilEmpty_60 rfl 0 rfl ?_
          refine V_get X dX7_untilEmpty_61 r_X7_63 (gm7 hM) rfl rfl ?_
          refine jn (P := fun q => V D cA dm ad A 3 p l e ({ frames := 6, cells := 0, slots := 0, locals := 139 }) s m args below meth c 0 0 (MQ below (gQ D cA dm ad out.2 (some (.int out.1)) A) args s 0 0 A) Z5 72 [(0, .ref (ad 7 0 0)), (1, .int p1), (2, .int v2)] [.int q, .ref (ad 7 0 0)]) hs (fun q7 hs => ?_) (fun J72 hs => ?_)
          · refine V_put X dX7_untilEmpty_72 f_X7_54 (gm7 hM) rfl (Nat.le_of_ble_eq_true rfl) rfl rfl rfl (fun Z8 eZ8 => ?_)
            replace hs := sv_some hs Z8 eZ8
            clear eZ8
            refine V_aload_n X dX7_untilEmpty_75 rfl 0 rfl ?_
            refine V_aload_n X dX7_untilEmpty_76 rfl 0 rfl ?_
            refine V_get X dX7_untilEmpty_77 r_X7_39 (gm7 hM) rfl rfl ?_
            refine V_iconst X (0 : Int32) dX7_untilEmpty_80 (by decide) ?_
            refine V_iconst X (0 : Int32) dX7_untilEmpty_81 (by decide) ?_
            obtain ⟨Z10, eZ10, hs⟩ := bd_some hs
            refine V_callVv X [.ref (ad 32 0 0), .int (0 : Int32), .int (0 : Int32)] dX7_untilEmpty_82 m_X7_248 v_X7_handsAll ⟨Nat.le_of_ble_eq_true rfl, Nat.le_of_ble_eq_true rfl⟩ ⟨Nat.zero_le _, Nat.zero_le _⟩ rfl (Nat.le_of_ble_eq_true rfl) (gm7 hM) rfl cl7 (c_X7_handsAll hM (ia32 hM) eZ10) ?_
            refine V_aload_n X dX7_untilEmpty_85 rfl 0 rfl ?_
            refine V_get X dX7_untilEmpty_86 r_X7_54 (gm7 hM) rfl rfl ?_
            refine V_if_le X 96 dX7_untilEmpty_89 (by decide) (fun c11 => ?_) (fun c11 => ?_)
            · replace hs := if_t hs c11
              refine V_iload_n X dX7_untilEmpty_96 rfl 2 rfl ?_
              obtain rfl := Option.some.inj hs; exact V_iret X hr dX7_untilEmpty_97
            · replace hs := if_f hs c11
              refine V_iconst X (0 : Int32) dX7_untilEmpty_92 (by decide) ?_
              refine V_goto X 97 dX7_untilEmpty_93 (by decide) ?_
              obtain rfl := Option.some.inj hs; exact V_iret X hr dX7_untilEmpty_97
          · refine V_icmp_ne X 71 dX7_untilEmpty_64 (by decide) (fun c12 => ?_) (fun c12 => ?_)
            · replace hs := if_fB hs c12
              refine V_iconst X (2 : Int32) dX7_untilEmpty_71 (by decide) ?_
              exact J72 _ (bs_some hs)
            · replace hs := if_tB hs c12
              refine V_iconst X (0 : Int32) dX7_untilEmpty_67 (by decide) ?_
              refine V_goto X 72 dX7_untilEmpty_68 (by decide) ?_
              exact J72 _ (bs_some hs)
        · replace hs := if_f hs c6
          refine V_aload_n X dX7_untilEmpty_34 rfl 0 rfl ?_
          refine V_get X dX7_untilEmpty_35 r_X7_69 (gm7 hM) rfl rfl ?_
          refine V_aload_n X dX7_untilEmpty_38 rfl 0 rfl ?_
          refine V_get X dX7_untilEmpty_39 r_X7_63 (gm7 hM) rfl rfl ?_
          refine V_icmp_ge X 55 dX7_untilEmpty_42 (by decide) (fun c13 => ?_) (fun c13 => ?_)
          · replace hs := if_t hs c13
            refine V_aload_n X dX7_untilEmpty_55 rfl 0 rfl ?_
            refine V_aload_n X dX7_untilEmpty_56 rfl 0 rfl ?_
            refine V_get X dX7_untilEmpty_57 r_X7_69 (gm7 hM) rfl rfl ?_
            refine V_aload_n X dX7_untilEmpty_60 rfl 0 rfl ?_
            refine V_get X dX7_untilEmpty_61 r_X7_63 (gm7 hM) rfl rfl ?_
            refine jn (P := fun q => V D cA dm ad A 3 p l e ({ frames := 6, cells := 0, slots := 0, locals := 139 }) s m args below meth c 0 0 (MQ below (gQ D cA dm ad out.2 (some (.int out.1)) A) args s 0 0 A) Z5 72 [(0, .ref (ad 7 0 0)), (1, .int p1), (2, .int v2)] [.int q, .ref (ad 7 0 0)]) hs (fun q14 hs => ?_) (fun J72 hs => ?_)
            · refine V_put X dX7_untilEmpty_72 f_X7_54 (gm7 hM) rfl (Nat.le_of_ble_eq_true rfl) rfl rfl rfl (fun Z15 eZ15 => ?_)
              replace hs := sv_some hs Z15 eZ15
              clear eZ15
              refine V_aload_n X dX7_untilEmpty_75 rfl 0 rfl ?_
              refine V_aload_n X dX7_untilEmpty_76 rfl 0 rfl ?_
              refine V_get X dX7_untilEmpty_77 r_X7_39 (gm7 hM) rfl rfl ?_
              refine V_iconst X (0 : Int32) dX7_untilEmpty_80 (by decide) ?_
              refine V_iconst X (0 : Int32) dX7_untilEmpty_81 (by decide) ?_
              obtain ⟨Z17, eZ17, hs⟩ := bd_some hs
              refine V_callVv X [.ref (ad 32 0 0), .int (0 : Int32), .int (0 : Int32)] dX7_untilEmpty_82 m_X7_248 v_X7_handsAll ⟨Nat.le_of_ble_eq_true rfl, Nat.le_of_ble_eq_true rfl⟩ ⟨Nat.zero_le _, Nat.zero_le _⟩ rfl (Nat.le_of_ble_eq_true rfl) (gm7 hM) rfl cl7 (c_X7_handsAll hM (ia32 hM) eZ17) ?_
              refine V_aload_n X dX7_untilEmpty_85 rfl 0 rfl ?_
              refine V_get X dX7_untilEmpty_86 r_X7_54 (gm7 hM) rfl rfl ?_
              refine V_if_le X 96 dX7_untilEmpty_89 (by decide) (fun c18 => ?_) (fun c18 => ?_)
              · replace hs := if_t hs c18
                refine V_iload_n X dX7_untilEmpty_96 rfl 2 rfl ?_
                obtain rfl := Option.some.inj hs; exact V_iret X hr dX7_untilEmpty_97
              · replace hs := if_f hs c18
                refine V_iconst X (0 : Int32) dX7_untilEmpty_92 (by decide) ?_
                refine V_goto X 97 dX7_untilEmpty_93 (by decide) ?_
                obtain rfl := Option.some.inj hs; exact V_iret X hr dX7_untilEmpty_97
            · refine V_icmp_ne X 71 dX7_untilEmpty_64 (by decide) (fun c19 => ?_) (fun c19 => ?_)
              · replace hs := if_fB hs c19
                refine V_iconst X (2 : Int32) dX7_untilEmpty_71 (by decide) ?_
                exact J72 _ (bs_some hs)
              · replace hs := if_tB hs c19
                refine V_iconst X (0 : Int32) dX7_untilEmpty_67 (by decide) ?_
                refine V_goto X 72 dX7_untilEmpty_68 (by decide) ?_
                exact J72 _ (bs_some hs)
          · replace hs := if_f hs c13
            refine V_aload_n X dX7_untilEmpty_45 rfl 0 rfl ?_
            obtain ⟨Z21, eZ21, hs⟩ := bd_some hs
            refine V_callVv X [] dX7_untilEmpty_46 m_X7_214 v_X7_ticks ⟨Nat.le_of_ble_eq_true rfl, Nat.le_of_ble_eq_true rfl⟩ ⟨Nat.zero_le _, Nat.zero_le _⟩ rfl (Nat.le_of_ble_eq_true rfl) (gm7 hM) rfl cl7 (c_X7_ticks hM eZ21) ?_
            refine V_iinc X (v2 + (1 : Int32)) dX7_untilEmpty_49 2 rfl rfl [(2, .int (v2 + (1 : Int32))), (0, .ref (ad 7 0 0)), (1, .int p1)] (by decide) rfl ?_
            refine V_goto X 29 dX7_untilEmpty_52 (by decide) ?_
            refine V_sub [1, 2, 0] rfl ?_
            exact ih29 _ _ hs
    refine V_sub [1, 2, 0] rfl ?_
    exact L29 _ _ _ hs
  · replace hs := if_t hs c2
    refine V_aload_n X dX7_untilEmpty_11 rfl 0 rfl ?_
    refine V_iconst X (1 : Int32) dX7_untilEmpty_12 (by decide) ?_
    obtain ⟨q22, eq22, hs⟩ := bd_some hs
    refine V_callVs X [.int (1 : Int32)] dX7_untilEmpty_13 m_X7_79 v_X7_fails ⟨Nat.le_of_ble_eq_true rfl, Nat.le_of_ble_eq_true rfl⟩ ⟨Nat.zero_le _, Nat.zero_le _⟩ rfl (Nat.le_of_ble_eq_true rfl) (gm7 hM) rfl cl7 (c_X7_fails hM eq22) ?_
    obtain rfl := Option.some.inj hs; exact V_iret X hr dX7_untilEmpty_16

def s_X7_audit_L19 (fu : Nat)  (k7 : Int32 → S4 → Option (Int32 × S4)) : Nat → Int32 → Int32 → Int32 → S4 → Option (Int32 × S4)
  | 0, _, _, _, _ => none
  | f19+1, v1, v2, v3, Z10 => (if (Z10 7 0 0 11) ≤ v3 then (s_X7_ofChute v1 (11 : Int32) Z10).bind fun q12 => (if v2 = q12 then k7 (v1 + (1 : Int32)) Z10 else some ((0 : Int32), Z10)) else (s_X7_ofParcel v3 (4 : Int32) Z10).bind fun q14 => ((if q14 = (2 : Int32) then (s_X7_ofParcel v3 (5 : Int32) Z10).bind fun q17 => (if q17 = v1 then some (1 : Int32) else some (0 : Int32)) else some (0 : Int32))).bind fun q15 => s_X7_audit_L19 fu k7 f19 v1 (v2 + q15) (v3 + (1 : Int32)) Z10)
def s_X7_audit_L7 (fu : Nat)  : Nat → Int32 → S4 → Option (Int32 × S4)
  | 0, _, _ => none
  | f7+1, v1, Z2 => (if (Z2 7 0 0 9) ≤ v1 then (s_X7_sumOfChutes fu (11 : Int32) Z2).bind fun q4 => (if q4 = (Z2 7 0 0 12) then (s_X7_parcelsWith fu (4 : Int32) (0 : Int32) Z2).bind fun q6 => (s_X7_parcelsWith fu (4 : Int32) (1 : Int32) Z2).bind fun q7 => (s_X7_parcelsWith fu (4 : Int32) (2 : Int32) Z2).bind fun q8 => (if ((q6 + q7) + q8) = (Z2 7 0 0 11) then some ((1 : Int32), Z2) else some ((0 : Int32), Z2)) else some ((0 : Int32), Z2)) else s_X7_audit_L19 fu (fun a1 a => s_X7_audit_L7 fu f7 a1 a) fu v1 (0 : Int32) (0 : Int32) Z2)
def s_X7_audit (fu : Nat)  (S : S4) : Option (Int32 × S4) := sv (u4 S 7 0 0 0 (0 : Int32)) fun Z1 => s_X7_audit_L7 fu fu (0 : Int32) Z1
set_option maxRecDepth 100000 in
set_option maxHeartbeats 4000000 in
theorem c_X7_audit {l : Launch} {D : va_G} {cA : Nat → ClassId} {dm : Dm} {ad : Ad} {fu : Nat} {S : S4} (hM : DM dm) {out : (Int32 × S4)} (hs : s_X7_audit fu S = some out) : Ct D cA dm ad l yX7_audit cX7_audit 4 (some .boolean) 2 46 S [.ref (ad 7 0 0)] (some (.int out.1)) out.2 := by
  refine Ct.of (by decide +kernel) (Nat.le_of_ble_eq_true rfl) [(0, .ref (ad 7 0 0))] rfl (fun p e s m args below meth c A X hr => ?_)
  unfold s_X7_audit at hs
  refine V_aload_n X dX7_audit_0 rfl 0 rfl ?_
  refine V_iconst X (0 : Int32) dX7_audit_1 (by decide) ?_
  refine V_put X dX7_audit_2 f_X7_54 (gm7 hM) rfl (Nat.le_of_ble_eq_true rfl) rfl rfl rfl (fun Z1 eZ1 => ?_)
  replace hs := sv_some hs Z1 eZ1
  clear eZ1
  refine V_iconst X (0 : Int32) dX7_audit_5 (by decide) ?_
  refine V_istore_n X dX7_audit_6 rfl [(1, .int (0 : Int32)), (0, .ref (ad 7 0 0))] (by decide) rfl ?_
  have L7 : ∀ (n : Nat) (v1 : Int32) (S1 : S4), s_X7_audit_L7 fu n v1 S1 = some out → V D cA dm ad A 4 p l e ({ frames := 2, cells := 0, slots := 0, locals := 46 }) s m args below meth c 0 0 (MQ below (gQ D cA dm ad out.2 (some (.int out.1)) A) args s 0 0 A) S1 7 [(0, .ref (ad 7 0 0)), (1, .int v1)] [] := by
    intro n
    induction n with
    | zero => intro v1 S1 hs; rw [s_X7_audit_L7] at hs; cases hs
    | succ f7 ih7 =>
      intro v1 Z2 hs
      rw [s_X7_audit_L7] at hs
      refine V_iload_n X dX7_audit_7 rfl 1 rfl ?_
      refine V_aload_n X dX7_audit_8 rfl 0 rfl ?_
      refine V_get X dX7_audit_9 r_X7_60 (gm7 hM) rfl rfl ?_
      refine V_icmp_ge X 80 dX7_audit_12 (by decide) (fun c3 => ?_) (fun c3 => ?_)
      · replace hs := if_t hs c3
        refine V_aload_n X dX7_audit_80 rfl 0 rfl ?_
        refine V_bipush X (11 : Int32) dX7_audit_81 (by decide) ?_
        obtain ⟨q4, eq4, hs⟩ := bd_some hs
        refine V_callVs X [.int (11 : Int32)] dX7_audit_83 m_X7_230 v_X7_sumOfChutes ⟨Nat.le_of_ble_eq_true rfl, Nat.le_of_ble_eq_true rfl⟩ ⟨Nat.zero_le _, Nat.zero_le _⟩ rfl (Nat.le_of_ble_eq_true rfl) (gm7 hM) rfl cl7 (c_X7_sumOfChutes hM eq4) ?_
        refine V_aload_n X dX7_audit_86 rfl 0 rfl ?_
        refine V_get X dX7_audit_87 r_X7_69 (gm7 hM) rfl rfl ?_
        refine V_icmp_ne X 124 dX7_audit_90 (by decide) (fun c5 => ?_) (fun c5 => ?_)
        · replace hs := if_f hs c5
          refine V_iconst X (0 : Int32) dX7_audit_124 (by decide) ?_
          obtain rfl := Option.some.inj hs; exact V_zret X hr nb0 dX7_audit_125
        · replace hs := if_t hs c5
          refine V_aload_n X dX7_audit_93 rfl 0 rfl ?_
          refine V_iconst X (4 : Int32) dX7_audit_94 (by decide) ?_
          refine V_iconst X (0 : Int32) dX7_audit_95 (by decide) ?_
          obtain ⟨q6, eq6, hs⟩ := bd_some hs
          refine V_callVs X [.int (4 : Int32), .int (0 : Int32)] dX7_audit_96 m_X7_223 v_X7_parcelsWith ⟨Nat.le_of_ble_eq_true rfl, Nat.le_of_ble_eq_true rfl⟩ ⟨Nat.zero_le _, Nat.zero_le _⟩ rfl (Nat.le_of_ble_eq_true rfl) (gm7 hM) rfl cl7 (c_X7_parcelsWith hM eq6) ?_
          refine V_aload_n X dX7_audit_99 rfl 0 rfl ?_
          refine V_iconst X (4 : Int32) dX7_audit_100 (by decide) ?_
          refine V_iconst X (1 : Int32) dX7_audit_101 (by decide) ?_
          obtain ⟨q7, eq7, hs⟩ := bd_some hs
          refine V_callVs X [.int (4 : Int32), .int (1 : Int32)] dX7_audit_102 m_X7_223 v_X7_parcelsWith ⟨Nat.le_of_ble_eq_true rfl, Nat.le_of_ble_eq_true rfl⟩ ⟨Nat.zero_le _, Nat.zero_le _⟩ rfl (Nat.le_of_ble_eq_true rfl) (gm7 hM) rfl cl7 (c_X7_parcelsWith hM eq7) ?_
          refine V_iadd X dX7_audit_105 ?_
          refine V_aload_n X dX7_audit_106 rfl 0 rfl ?_
          refine V_iconst X (4 : Int32) dX7_audit_107 (by decide) ?_
          refine V_iconst X (2 : Int32) dX7_audit_108 (by decide) ?_
          obtain ⟨q8, eq8, hs⟩ := bd_some hs
          refine V_callVs X [.int (4 : Int32), .int (2 : Int32)] dX7_audit_109 m_X7_223 v_X7_parcelsWith ⟨Nat.le_of_ble_eq_true rfl, Nat.le_of_ble_eq_true rfl⟩ ⟨Nat.zero_le _, Nat.zero_le _⟩ rfl (Nat.le_of_ble_eq_true rfl) (gm7 hM) rfl cl7 (c_X7_parcelsWith hM eq8) ?_
          refine V_iadd X dX7_audit_112 ?_
          refine V_aload_n X dX7_audit_113 rfl 0 rfl ?_
          refine V_get X dX7_audit_114 r_X7_63 (gm7 hM) rfl rfl ?_
          refine V_icmp_ne X 124 dX7_audit_117 (by decide) (fun c9 => ?_) (fun c9 => ?_)
          · replace hs := if_f hs c9
            refine V_iconst X (0 : Int32) dX7_audit_124 (by decide) ?_
            obtain rfl := Option.some.inj hs; exact V_zret X hr nb0 dX7_audit_125
          · replace hs := if_t hs c9
            refine V_iconst X (1 : Int32) dX7_audit_120 (by decide) ?_
            refine V_goto X 125 dX7_audit_121 (by decide) ?_
            obtain rfl := Option.some.inj hs; exact V_zret X hr nb1 dX7_audit_125
      · replace hs := if_f hs c3
        refine V_iconst X (0 : Int32) dX7_audit_15 (by decide) ?_
        refine V_istore_n X dX7_audit_16 rfl [(2, .int (0 : Int32)), (0, .ref (ad 7 0 0)), (1, .int v1)] (by decide) rfl ?_
        refine V_iconst X (0 : Int32) dX7_audit_17 (by decide) ?_
        refine V_istore_n X dX7_audit_18 rfl [(3, .int (0 : Int32)), (2, .int (0 : Int32)), (0, .ref (ad 7 0 0)), (1, .int v1)] (by decide) rfl ?_
        have L19 : ∀ (n : Nat) (v1 v2 v3 : Int32) (S1 : S4), s_X7_audit_L19 fu (fun a1 a => s_X7_audit_L7 fu f7 a1 a) n v1 v2 v3 S1 = some out → V D cA dm ad A 4 p l e ({ frames := 2, cells := 0, slots := 0, locals := 46 }) s m args below meth c 0 0 (MQ below (gQ D cA dm ad out.2 (some (.int out.1)) A) args s 0 0 A) S1 19 [(0, .ref (ad 7 0 0)), (1, .int v1), (2, .int v2), (3, .int v3)] [] := by
          intro n
          induction n with
          | zero => intro v1 v2 v3 S1 hs; rw [s_X7_audit_L19] at hs; cases hs
          | succ f19 ih19 =>
            intro v1 v2 v3 Z10 hs
            rw [s_X7_audit_L19] at hs
            refine V_iload_n X dX7_audit_19 rfl 3 rfl ?_
            refine V_aload_n X dX7_audit_20 rfl 0 rfl ?_
            refine V_get X dX7_audit_21 r_X7_63 (gm7 hM) rfl rfl ?_
            refine V_icmp_ge X 61 dX7_audit_24 (by decide) (fun c11 => ?_) (fun c11 => ?_)
            · replace hs := if_t hs c11
              refine V_iload_n X dX7_audit_61 rfl 2 rfl ?_
              refine V_aload_n X dX7_audit_62 rfl 0 rfl ?_
              refine V_iload_n X dX7_audit_63 rfl 1 rfl ?_
              refine V_bipush X (11 : Int32) dX7_audit_64 (by decide) ?_
              obtain ⟨q12, eq12, hs⟩ := bd_some hs
              refine V_callVs X [.int v1, .int (11 : Int32)] dX7_audit_66 m_X7_90 v_X7_ofChute ⟨Nat.le_of_ble_eq_true rfl, Nat.le_of_ble_eq_true rfl⟩ ⟨Nat.zero_le _, Nat.zero_le _⟩ rfl (Nat.le_of_ble_eq_true rfl) (gm7 hM) rfl cl7 (c_X7_ofChute hM eq12) ?_
              refine V_icmp_eq X 74 dX7_audit_69 (by decide) (fun c13 => ?_) (fun c13 => ?_)
              · replace hs := if_t hs c13
                refine V_iinc X (v1 + (1 : Int32)) dX7_audit_74 1 rfl rfl [(1, .int (v1 + (1 : Int32))), (0, .ref (ad 7 0 0)), (2, .int v2), (3, .int v3)] (by decide) rfl ?_
                refine V_goto X 7 dX7_audit_77 (by decide) ?_
                refine V_sub [1, 0] rfl ?_
                exact ih7 _ _ hs
              · replace hs := if_f hs c13
                refine V_iconst X (0 : Int32) dX7_audit_72 (by decide) ?_
                obtain rfl := Option.some.inj hs; exact V_zret X hr nb0 dX7_audit_73
            · replace hs := if_f hs c11
              refine V_iload_n X dX7_audit_27 rfl 2 rfl ?_
              refine V_aload_n X dX7_audit_28 rfl 0 rfl ?_
              refine V_iload_n X dX7_audit_29 rfl 3 rfl ?_
              refine V_iconst X (4 : Int32) dX7_audit_30 (by decide) ?_
              obtain ⟨q14, eq14, hs⟩ := bd_some hs
              refine V_callVs X [.int v3, .int (4 : Int32)] dX7_audit_31 m_X7_160 v_X7_ofParcel ⟨Nat.le_of_ble_eq_true rfl, Nat.le_of_ble_eq_true rfl⟩ ⟨Nat.zero_le _, Nat.zero_le _⟩ rfl (Nat.le_of_ble_eq_true rfl) (gm7 hM) rfl cl7 (c_X7_ofParcel hM eq14) ?_
              refine V_iconst X (2 : Int32) dX7_audit_34 (by decide) ?_
              refine jn (P := fun q => V D cA dm ad A 4 p l e ({ frames := 2, cells := 0, slots := 0, locals := 46 }) s m args below meth c 0 0 (MQ below (gQ D cA dm ad out.2 (some (.int out.1)) A) args s 0 0 A) Z10 53 [(0, .ref (ad 7 0 0)), (1, .int v1), (2, .int v2), (3, .int v3)] [.int q, .int v2]) hs (fun q15 hs => ?_) (fun J53 hs => ?_)
              · refine V_iadd X dX7_audit_53 ?_
                refine V_istore_n X dX7_audit_54 rfl [(2, .int (v2 + q15)), (0, .ref (ad 7 0 0)), (1, .int v1), (3, .int v3)] (by decide) rfl ?_
                refine V_iinc X (v3 + (1 : Int32)) dX7_audit_55 3 rfl rfl [(3, .int (v3 + (1 : Int32))), (2, .int (v2 + q15)), (0, .ref (ad 7 0 0)), (1, .int v1)] (by decide) rfl ?_
                refine V_goto X 19 dX7_audit_58 (by decide) ?_
                refine V_sub [2, 3, 1, 0] rfl ?_
                exact ih19 _ _ _ _ hs
              · refine V_icmp_ne X 52 dX7_audit_35 (by decide) (fun c16 => ?_) (fun c16 => ?_)
                · replace hs := if_fB hs c16
                  refine V_iconst X (0 : Int32) dX7_audit_52 (by decide) ?_
                  exact J53 _ (bs_some hs)
                · replace hs := if_tB hs c16
                  refine V_aload_n X dX7_audit_38 rfl 0 rfl ?_
                  refine V_iload_n X dX7_audit_39 rfl 3 rfl ?_
                  refine V_iconst X (5 : Int32) dX7_audit_40 (by decide) ?_
                  obtain ⟨q17, eq17, hs⟩ := bd_someB hs
                  refine V_callVs X [.int v3, .int (5 : Int32)] dX7_audit_41 m_X7_160 v_X7_ofParcel ⟨Nat.le_of_ble_eq_true rfl, Nat.le_of_ble_eq_true rfl⟩ ⟨Nat.zero_le _, Nat.zero_le _⟩ rfl (Nat.le_of_ble_eq_true rfl) (gm7 hM) rfl cl7 (c_X7_ofParcel hM eq17) ?_
                  refine V_iload_n X dX7_audit_44 rfl 1 rfl ?_
                  refine V_icmp_ne X 52 dX7_audit_45 (by decide) (fun c18 => ?_) (fun c18 => ?_)
                  · replace hs := if_fB hs c18
                    refine V_iconst X (0 : Int32) dX7_audit_52 (by decide) ?_
                    exact J53 _ (bs_some hs)
                  · replace hs := if_tB hs c18
                    refine V_iconst X (1 : Int32) dX7_audit_48 (by decide) ?_
                    refine V_goto X 53 dX7_audit_49 (by decide) ?_
                    exact J53 _ (bs_some hs)
        refine V_sub [2, 3, 1, 0] rfl ?_
        exact L19 _ _ _ _ _ hs
  refine V_sub [1, 0] rfl ?_
  exact L7 _ _ _ hs

def s_X7_ledger (p1 : Int32) (p2 : Int32) (S : S4) : Option (Int32 × S4) := (s_X7_isBetween p1 (0 : Int32) ((S 7 0 0 12) - (1 : Int32)) S).bind fun q1 => (if q1 = 0 then (s_X7_fails (1 : Int32) S).bind fun q13 => some (q13.1, q13.2) else (s_X7_isBetween p2 (0 : Int32) (3 : Int32) S).bind fun q3 => (if q3 = 0 then (s_X7_fails (2 : Int32) S).bind fun q12 => some (q12.1, q12.2) else sv (u4 S 7 0 0 0 (0 : Int32)) fun Z5 => gd (inb p1 60) ((if p2 = 0 then some ((Z5 29 0 0 p1.toNatClampNeg), Z5) else ((if p2 = (1 : Int32) then some (5 : Int32) else (if p2 = (2 : Int32) then some (9 : Int32) else some (10 : Int32)))).bind fun q8 => (s_X7_ofParcel (Z5 29 0 0 p1.toNatClampNeg) q8 Z5).bind fun q9 => some (q9, Z5)))))
set_option maxRecDepth 100000 in
set_option maxHeartbeats 4000000 in
theorem c_X7_ledger {l : Launch} {D : va_G} {cA : Nat → ClassId} {dm : Dm} {ad : Ad} {S : S4} {p1 : Int32} {p2 : Int32} (hM : DM dm) {out : (Int32 × S4)} (hs : s_X7_ledger p1 p2 S = some out) : Ct D cA dm ad l yX7_ledger cX7_ledger 4 (some .int) 1 22 S [.ref (ad 7 0 0), .int p1, .int p2] (some (.int out.1)) out.2 := by
  refine Ct.of (by decide +kernel) (Nat.le_of_ble_eq_true rfl) [(0, .ref (ad 7 0 0)), (1, .int p1), (2, .int p2)] rfl (fun p e s m args below meth c A X hr => ?_)
  unfold s_X7_ledger at hs
  refine V_iload_n X dX7_ledger_0 rfl 1 rfl ?_
  refine V_iconst X (0 : Int32) dX7_ledger_1 (by decide) ?_
  refine V_aload_n X dX7_ledger_2 rfl 0 rfl ?_
  refine V_get X dX7_ledger_3 r_X7_69 (gm7 hM) rfl rfl ?_
  refine V_iconst X (1 : Int32) dX7_ledger_6 (by decide) ?_
  refine V_isub X dX7_ledger_7 ?_
  obtain ⟨q1, eq1, hs⟩ := bd_some hs
  refine V_callSs X [.int p1, .int (0 : Int32), .int ((S 7 0 0 12) - (1 : Int32))] dX7_ledger_8 m_X7_75 t_X7_isBetween ⟨Nat.le_of_ble_eq_true rfl, Nat.le_of_ble_eq_true rfl⟩ ⟨Nat.zero_le _, Nat.zero_le _⟩ rfl (Nat.le_of_ble_eq_true rfl) (c_X7_isBetween  eq1) ?_
  refine V_if_ne X 20 dX7_ledger_11 (by decide) (fun c2 => ?_) (fun c2 => ?_)
  · replace hs := if_f hs c2
    refine V_iload_n X dX7_ledger_20 rfl 2 rfl ?_
    refine V_iconst X (0 : Int32) dX7_ledger_21 (by decide) ?_
    refine V_iconst X (3 : Int32) dX7_ledger_22 (by decide) ?_
    obtain ⟨q3, eq3, hs⟩ := bd_some hs
    refine V_callSs X [.int p2, .int (0 : Int32), .int (3 : Int32)] dX7_ledger_23 m_X7_75 t_X7_isBetween ⟨Nat.le_of_ble_eq_true rfl, Nat.le_of_ble_eq_true rfl⟩ ⟨Nat.zero_le _, Nat.zero_le _⟩ rfl (Nat.le_of_ble_eq_true rfl) (c_X7_isBetween  eq3) ?_
    refine V_if_ne X 35 dX7_ledger_26 (by decide) (fun c4 => ?_) (fun c4 => ?_)
    · replace hs := if_f hs c4
      refine V_aload_n X dX7_ledger_35 rfl 0 rfl ?_
      refine V_iconst X (0 : Int32) dX7_ledger_36 (by decide) ?_
      refine V_put X dX7_ledger_37 f_X7_54 (gm7 hM) rfl (Nat.le_of_ble_eq_true rfl) rfl rfl rfl (fun Z5 eZ5 => ?_)
      replace hs := sv_some hs Z5 eZ5
      clear eZ5
      refine V_aload_n X dX7_ledger_40 rfl 0 rfl ?_
      refine V_get X dX7_ledger_41 r_X7_25 (gm7 hM) rfl rfl ?_
      refine V_iload_n X dX7_ledger_44 rfl 1 rfl ?_
      obtain ⟨h6, hs⟩ := gd_some hs
      refine V_iald X dX7_ledger_45 (gm29 hM) rfl h6 ?_
      refine V_istore_n X dX7_ledger_46 rfl [(3, .int (Z5 29 0 0 p1.toNatClampNeg)), (0, .ref (ad 7 0 0)), (1, .int p1), (2, .int p2)] (by decide) rfl ?_
      refine V_iload_n X dX7_ledger_47 rfl 3 rfl ?_
      refine V_if_ne X 55 dX7_ledger_48 (by decide) (fun c7 => ?_) (fun c7 => ?_)
      · replace hs := if_f hs c7
        refine V_aload_n X dX7_ledger_55 rfl 1 rfl ?_
        refine V_iload_n X dX7_ledger_56 rfl 0 rfl ?_
        refine V_iload_n X dX7_ledger_57 rfl 3 rfl ?_
        refine V_iconst X (1 : Int32) dX7_ledger_58 (by decide) ?_
        refine jn (P := fun q => V D cA dm ad A 4 p l e ({ frames := 1, cells := 0, slots := 0, locals := 22 }) s m args below meth c 0 0 (MQ below (gQ D cA dm ad out.2 (some (.int out.1)) A) args s 0 0 A) Z5 78 [(3, .int (Z5 29 0 0 p1.toNatClampNeg)), (0, .ref (ad 7 0 0)), (1, .int p1), (2, .int p2)] [.int q, .int (Z5 29 0 0 p1.toNatClampNeg), .ref (ad 7 0 0)]) hs (fun q8 hs => ?_) (fun J78 hs => ?_)
        · obtain ⟨q9, eq9, hs⟩ := bd_some hs
          refine V_callVs X [.int (Z5 29 0 0 p1.toNatClampNeg), .int q8] dX7_ledger_78 m_X7_160 v_X7_ofParcel ⟨Nat.le_of_ble_eq_true rfl, Nat.le_of_ble_eq_true rfl⟩ ⟨Nat.zero_le _, Nat.zero_le _⟩ rfl (Nat.le_of_ble_eq_true rfl) (gm7 hM) rfl cl7 (c_X7_ofParcel hM eq9) ?_
          obtain rfl := Option.some.inj hs; exact V_iret X hr dX7_ledger_81
        · refine V_icmp_ne X 66 dX7_ledger_59 (by decide) (fun c10 => ?_) (fun c10 => ?_)
          · replace hs := if_fB hs c10
            refine V_iload_n X dX7_ledger_66 rfl 3 rfl ?_
            refine V_iconst X (2 : Int32) dX7_ledger_67 (by decide) ?_
            refine V_icmp_ne X 76 dX7_ledger_68 (by decide) (fun c11 => ?_) (fun c11 => ?_)
            · replace hs := if_fB hs c11
              refine V_bipush X (10 : Int32) dX7_ledger_76 (by decide) ?_
              exact J78 _ (bs_some hs)
            · replace hs := if_tB hs c11
              refine V_bipush X (9 : Int32) dX7_ledger_71 (by decide) ?_
              refine V_goto X 78 dX7_ledger_73 (by decide) ?_
              exact J78 _ (bs_some hs)
          · replace hs := if_tB hs c10
            refine V_iconst X (5 : Int32) dX7_ledger_62 (by decide) ?_
            refine V_goto X 78 dX7_ledger_63 (by decide) ?_
            exact J78 _ (bs_some hs)
      · replace hs := if_t hs c7
        refine V_iload_n X dX7_ledger_51 rfl 0 rfl ?_
        refine V_goto X 81 dX7_ledger_52 (by decide) ?_
        obtain rfl := Option.some.inj hs; exact V_iret X hr dX7_ledger_81
    · replace hs := if_t hs c4
      refine V_aload_n X dX7_ledger_29 rfl 0 rfl ?_
      refine V_iconst X (2 : Int32) dX7_ledger_30 (by decide) ?_
      obtain ⟨q12, eq12, hs⟩ := bd_some hs
      refine V_callVs X [.int (2 : Int32)] dX7_ledger_31 m_X7_79 v_X7_fails ⟨Nat.le_of_ble_eq_true rfl, Nat.le_of_ble_eq_true rfl⟩ ⟨Nat.zero_le _, Nat.zero_le _⟩ rfl (Nat.le_of_ble_eq_true rfl) (gm7 hM) rfl cl7 (c_X7_fails hM eq12) ?_
      obtain rfl := Option.some.inj hs; exact V_iret X hr dX7_ledger_34
  · replace hs := if_t hs c2
    refine V_aload_n X dX7_ledger_14 rfl 0 rfl ?_
    refine V_iconst X (1 : Int32) dX7_ledger_15 (by decide) ?_
    obtain ⟨q13, eq13, hs⟩ := bd_some hs
    refine V_callVs X [.int (1 : Int32)] dX7_ledger_16 m_X7_79 v_X7_fails ⟨Nat.le_of_ble_eq_true rfl, Nat.le_of_ble_eq_true rfl⟩ ⟨Nat.zero_le _, Nat.zero_le _⟩ rfl (Nat.le_of_ble_eq_true rfl) (gm7 hM) rfl cl7 (c_X7_fails hM eq13) ?_
    obtain rfl := Option.some.inj hs; exact V_iret X hr dX7_ledger_19

def s_X7_undo (fu : Nat)  (S : S4) : Option (Int32 × S4) := (if (S 7 0 0 21) = 0 then (s_X7_fails (1 : Int32) S).bind fun q6 => some (q6.1, q6.2) else sv (u4 S 7 0 0 0 (0 : Int32)) fun Z2 => sv (u4 Z2 7 0 0 21 ((Z2 7 0 0 21) - (1 : Int32))) fun Z3 => (s_X7_handsAll fu 33 0 0 10880 ((1360 : Int32) * (Z3 7 0 0 21)) (0 : Int32) Z3).bind fun Z5 => some ((Z5 7 0 0 21), Z5))
set_option maxRecDepth 100000 in
set_option maxHeartbeats 4000000 in
theorem c_X7_undo {l : Launch} {D : va_G} {cA : Nat → ClassId} {dm : Dm} {ad : Ad} {fu : Nat} {S : S4} (hM : DM dm) {out : (Int32 × S4)} (hs : s_X7_undo fu S = some out) : Ct D cA dm ad l yX7_undo cX7_undo 1 (some .int) 2 46 S [.ref (ad 7 0 0)] (some (.int out.1)) out.2 := by
  refine Ct.of (by decide +kernel) (Nat.le_of_ble_eq_true rfl) [(0, .ref (ad 7 0 0))] rfl (fun p e s m args below meth c A X hr => ?_)
  unfold s_X7_undo at hs
  refine V_aload_n X dX7_undo_0 rfl 0 rfl ?_
  refine V_get X dX7_undo_1 r_X7_83 (gm7 hM) rfl rfl ?_
  refine V_if_ne X 13 dX7_undo_4 (by decide) (fun c1 => ?_) (fun c1 => ?_)
  · replace hs := if_f hs c1
    refine V_aload_n X dX7_undo_13 rfl 0 rfl ?_
    refine V_iconst X (0 : Int32) dX7_undo_14 (by decide) ?_
    refine V_put X dX7_undo_15 f_X7_54 (gm7 hM) rfl (Nat.le_of_ble_eq_true rfl) rfl rfl rfl (fun Z2 eZ2 => ?_)
    replace hs := sv_some hs Z2 eZ2
    clear eZ2
    refine V_aload_n X dX7_undo_18 rfl 0 rfl ?_
    refine V_dup X dX7_undo_19 rfl ?_
    refine V_get X dX7_undo_20 r_X7_83 (gm7 hM) rfl rfl ?_
    refine V_iconst X (1 : Int32) dX7_undo_23 (by decide) ?_
    refine V_isub X dX7_undo_24 ?_
    refine V_put X dX7_undo_25 f_X7_83 (gm7 hM) rfl (Nat.le_of_ble_eq_true rfl) rfl rfl rfl (fun Z3 eZ3 => ?_)
    replace hs := sv_some hs Z3 eZ3
    clear eZ3
    refine V_aload_n X dX7_undo_28 rfl 0 rfl ?_
    refine V_aload_n X dX7_undo_29 rfl 0 rfl ?_
    refine V_get X dX7_undo_30 r_X7_42 (gm7 hM) rfl rfl ?_
    refine V_sipush X (1360 : Int32) dX7_undo_33 (by decide) ?_
    refine V_aload_n X dX7_undo_36 rfl 0 rfl ?_
    refine V_get X dX7_undo_37 r_X7_83 (gm7 hM) rfl rfl ?_
    refine V_imul X dX7_undo_40 ?_
    refine V_iconst X (0 : Int32) dX7_undo_41 (by decide) ?_
    obtain ⟨Z5, eZ5, hs⟩ := bd_some hs
    refine V_callVv X [.ref (ad 33 0 0), .int ((1360 : Int32) * (Z3 7 0 0 21)), .int (0 : Int32)] dX7_undo_42 m_X7_248 v_X7_handsAll ⟨Nat.le_of_ble_eq_true rfl, Nat.le_of_ble_eq_true rfl⟩ ⟨Nat.zero_le _, Nat.zero_le _⟩ rfl (Nat.le_of_ble_eq_true rfl) (gm7 hM) rfl cl7 (c_X7_handsAll hM (ia33 hM) eZ5) ?_
    refine V_aload_n X dX7_undo_45 rfl 0 rfl ?_
    refine V_get X dX7_undo_46 r_X7_83 (gm7 hM) rfl rfl ?_
    obtain rfl := Option.some.inj hs; exact V_iret X hr dX7_undo_49
  · replace hs := if_t hs c1
    refine V_aload_n X dX7_undo_7 rfl 0 rfl ?_
    refine V_iconst X (1 : Int32) dX7_undo_8 (by decide) ?_
    obtain ⟨q6, eq6, hs⟩ := bd_some hs
    refine V_callVs X [.int (1 : Int32)] dX7_undo_9 m_X7_79 v_X7_fails ⟨Nat.le_of_ble_eq_true rfl, Nat.le_of_ble_eq_true rfl⟩ ⟨Nat.zero_le _, Nat.zero_le _⟩ rfl (Nat.le_of_ble_eq_true rfl) (gm7 hM) rfl cl7 (c_X7_fails hM eq6) ?_
    obtain rfl := Option.some.inj hs; exact V_iret X hr dX7_undo_12

def s_X7_saveSnapshot (fu : Nat)  (S : S4) : Option (Int32 × S4) := sv (u4 S 7 0 0 0 (0 : Int32)) fun Z1 => sv (u4 Z1 7 0 0 24 (1 : Int32)) fun Z2 => (s_X7_handsAll fu 34 0 0 1360 (0 : Int32) (1 : Int32) Z2).bind fun Z4 => some ((Z4 7 0 0 13), Z4)
set_option maxRecDepth 100000 in
set_option maxHeartbeats 4000000 in
theorem c_X7_saveSnapshot {l : Launch} {D : va_G} {cA : Nat → ClassId} {dm : Dm} {ad : Ad} {fu : Nat} {S : S4} (hM : DM dm) {out : (Int32 × S4)} (hs : s_X7_saveSnapshot fu S = some out) : Ct D cA dm ad l yX7_saveSnapshot cX7_saveSnapshot 1 (some .int) 2 46 S [.ref (ad 7 0 0)] (some (.int out.1)) out.2 := by
  refine Ct.of (by decide +kernel) (Nat.le_of_ble_eq_true rfl) [(0, .ref (ad 7 0 0))] rfl (fun p e s m args below meth c A X hr => ?_)
  unfold s_X7_saveSnapshot at hs
  refine V_aload_n X dX7_saveSnapshot_0 rfl 0 rfl ?_
  refine V_iconst X (0 : Int32) dX7_saveSnapshot_1 (by decide) ?_
  refine V_put X dX7_saveSnapshot_2 f_X7_54 (gm7 hM) rfl (Nat.le_of_ble_eq_true rfl) rfl rfl rfl (fun Z1 eZ1 => ?_)
  replace hs := sv_some hs Z1 eZ1
  clear eZ1
  refine V_aload_n X dX7_saveSnapshot_5 rfl 0 rfl ?_
  refine V_iconst X (1 : Int32) dX7_saveSnapshot_6 (by decide) ?_
  refine V_put X dX7_saveSnapshot_7 f_X7_252 (gm7 hM) rfl (Nat.le_of_ble_eq_true rfl) rfl rfl rfl (fun Z2 eZ2 => ?_)
  replace hs := sv_some hs Z2 eZ2
  clear eZ2
  refine V_aload_n X dX7_saveSnapshot_10 rfl 0 rfl ?_
  refine V_aload_n X dX7_saveSnapshot_11 rfl 0 rfl ?_
  refine V_get X dX7_saveSnapshot_12 r_X7_45 (gm7 hM) rfl rfl ?_
  refine V_iconst X (0 : Int32) dX7_saveSnapshot_15 (by decide) ?_
  refine V_iconst X (1 : Int32) dX7_saveSnapshot_16 (by decide) ?_
  obtain ⟨Z4, eZ4, hs⟩ := bd_some hs
  refine V_callVv X [.ref (ad 34 0 0), .int (0 : Int32), .int (1 : Int32)] dX7_saveSnapshot_17 m_X7_248 v_X7_handsAll ⟨Nat.le_of_ble_eq_true rfl, Nat.le_of_ble_eq_true rfl⟩ ⟨Nat.zero_le _, Nat.zero_le _⟩ rfl (Nat.le_of_ble_eq_true rfl) (gm7 hM) rfl cl7 (c_X7_handsAll hM (ia34 hM) eZ4) ?_
  refine V_aload_n X dX7_saveSnapshot_20 rfl 0 rfl ?_
  refine V_get X dX7_saveSnapshot_21 r_X7_72 (gm7 hM) rfl rfl ?_
  obtain rfl := Option.some.inj hs; exact V_iret X hr dX7_saveSnapshot_24

def s_X7_restoreSnapshot (fu : Nat)  (S : S4) : Option (Int32 × S4) := (if (S 7 0 0 24) = 0 then (s_X7_fails (1 : Int32) S).bind fun q6 => some (q6.1, q6.2) else sv (u4 S 7 0 0 0 (0 : Int32)) fun Z2 => (s_X7_handsAll fu 34 0 0 1360 (0 : Int32) (0 : Int32) Z2).bind fun Z4 => sv (u4 Z4 7 0 0 21 (0 : Int32)) fun Z5 => some ((Z5 7 0 0 13), Z5))
set_option maxRecDepth 100000 in
set_option maxHeartbeats 4000000 in
theorem c_X7_restoreSnapshot {l : Launch} {D : va_G} {cA : Nat → ClassId} {dm : Dm} {ad : Ad} {fu : Nat} {S : S4} (hM : DM dm) {out : (Int32 × S4)} (hs : s_X7_restoreSnapshot fu S = some out) : Ct D cA dm ad l yX7_restoreSnapshot cX7_restoreSnapshot 1 (some .int) 2 46 S [.ref (ad 7 0 0)] (some (.int out.1)) out.2 := by
  refine Ct.of (by decide +kernel) (Nat.le_of_ble_eq_true rfl) [(0, .ref (ad 7 0 0))] rfl (fun p e s m args below meth c A X hr => ?_)
  unfold s_X7_restoreSnapshot at hs
  refine V_aload_n X dX7_restoreSnapshot_0 rfl 0 rfl ?_
  refine V_get X dX7_restoreSnapshot_1 r_X7_252 (gm7 hM) rfl rfl ?_
  refine V_if_ne X 13 dX7_restoreSnapshot_4 (by decide) (fun c1 => ?_) (fun c1 => ?_)
  · replace hs := if_f hs c1
    refine V_aload_n X dX7_restoreSnapshot_13 rfl 0 rfl ?_
    refine V_iconst X (0 : Int32) dX7_restoreSnapshot_14 (by decide) ?_
    refine V_put X dX7_restoreSnapshot_15 f_X7_54 (gm7 hM) rfl (Nat.le_of_ble_eq_true rfl) rfl rfl rfl (fun Z2 eZ2 => ?_)
    replace hs := sv_some hs Z2 eZ2
    clear eZ2
    refine V_aload_n X dX7_restoreSnapshot_18 rfl 0 rfl ?_
    refine V_aload_n X dX7_restoreSnapshot_19 rfl 0 rfl ?_
    refine V_get X dX7_restoreSnapshot_20 r_X7_45 (gm7 hM) rfl rfl ?_
    refine V_iconst X (0 : Int32) dX7_restoreSnapshot_23 (by decide) ?_
    refine V_iconst X (0 : Int32) dX7_restoreSnapshot_24 (by decide) ?_
    obtain ⟨Z4, eZ4, hs⟩ := bd_some hs
    refine V_callVv X [.ref (ad 34 0 0), .int (0 : Int32), .int (0 : Int32)] dX7_restoreSnapshot_25 m_X7_248 v_X7_handsAll ⟨Nat.le_of_ble_eq_true rfl, Nat.le_of_ble_eq_true rfl⟩ ⟨Nat.zero_le _, Nat.zero_le _⟩ rfl (Nat.le_of_ble_eq_true rfl) (gm7 hM) rfl cl7 (c_X7_handsAll hM (ia34 hM) eZ4) ?_
    refine V_aload_n X dX7_restoreSnapshot_28 rfl 0 rfl ?_
    refine V_iconst X (0 : Int32) dX7_restoreSnapshot_29 (by decide) ?_
    refine V_put X dX7_restoreSnapshot_30 f_X7_83 (gm7 hM) rfl (Nat.le_of_ble_eq_true rfl) rfl rfl rfl (fun Z5 eZ5 => ?_)
    replace hs := sv_some hs Z5 eZ5
    clear eZ5
    refine V_aload_n X dX7_restoreSnapshot_33 rfl 0 rfl ?_
    refine V_get X dX7_restoreSnapshot_34 r_X7_72 (gm7 hM) rfl rfl ?_
    obtain rfl := Option.some.inj hs; exact V_iret X hr dX7_restoreSnapshot_37
  · replace hs := if_t hs c1
    refine V_aload_n X dX7_restoreSnapshot_7 rfl 0 rfl ?_
    refine V_iconst X (1 : Int32) dX7_restoreSnapshot_8 (by decide) ?_
    obtain ⟨q6, eq6, hs⟩ := bd_some hs
    refine V_callVs X [.int (1 : Int32)] dX7_restoreSnapshot_9 m_X7_79 v_X7_fails ⟨Nat.le_of_ble_eq_true rfl, Nat.le_of_ble_eq_true rfl⟩ ⟨Nat.zero_le _, Nat.zero_le _⟩ rfl (Nat.le_of_ble_eq_true rfl) (gm7 hM) rfl cl7 (c_X7_fails hM eq6) ?_
    obtain rfl := Option.some.inj hs; exact V_iret X hr dX7_restoreSnapshot_12

def s_X7_prints (p1 : Int32) (S : S4) : Option S4 := gd (inb (S 7 0 0 26) 140) (sv (u4 S 35 0 0 ((S 7 0 0 26).toNatClampNeg) p1) fun Z2 => sv (u4 Z2 7 0 0 26 ((Z2 7 0 0 26) + (1 : Int32))) fun Z3 => some Z3)
set_option maxRecDepth 100000 in
set_option maxHeartbeats 4000000 in
theorem c_X7_prints {l : Launch} {D : va_G} {cA : Nat → ClassId} {dm : Dm} {ad : Ad} {S : S4} {p1 : Int32} (hM : DM dm) {out : S4} (hs : s_X7_prints p1 S = some out) : Ct D cA dm ad l yX7_prints cX7_prints 2 none 0 0 S [.ref (ad 7 0 0), .int p1] none out := by
  refine Ct.of (by decide +kernel) (Nat.le_of_ble_eq_true rfl) [(0, .ref (ad 7 0 0)), (1, .int p1)] rfl (fun p e s m args below meth c A X hr => ?_)
  unfold s_X7_prints at hs
  refine V_aload_n X dX7_prints_0 rfl 0 rfl ?_
  refine V_get X dX7_prints_1 r_X7_48 (gm7 hM) rfl rfl ?_
  refine V_aload_n X dX7_prints_4 rfl 0 rfl ?_
  refine V_get X dX7_prints_5 r_X7_255 (gm7 hM) rfl rfl ?_
  refine V_iload_n X dX7_prints_8 rfl 1 rfl ?_
  obtain ⟨h1, hs⟩ := gd_some hs
  refine V_iast X dX7_prints_9 (gm35 hM) (fun _ => rfl) h1 (fun Z2 eZ2 => ?_)
  replace hs := sv_some hs Z2 eZ2
  clear eZ2
  refine V_aload_n X dX7_prints_10 rfl 0 rfl ?_
  refine V_dup X dX7_prints_11 rfl ?_
  refine V_get X dX7_prints_12 r_X7_255 (gm7 hM) rfl rfl ?_
  refine V_iconst X (1 : Int32) dX7_prints_15 (by decide) ?_
  refine V_iadd X dX7_prints_16 ?_
  refine V_put X dX7_prints_17 f_X7_255 (gm7 hM) rfl (Nat.le_of_ble_eq_true rfl) rfl rfl rfl (fun Z3 eZ3 => ?_)
  replace hs := sv_some hs Z3 eZ3
  clear eZ3
  obtain rfl := Option.some.inj hs; exact V_vret X hr dX7_prints_20

def s_X7_printsNumber_L18 (fu : Nat) (p1 : Int32) : Nat → Int32 → S4 → Option S4
  | 0, _, _ => none
  | f18+1, v2, Z4 => (if v2 ≤ 0 then some Z4 else gd (¬ v2 = 0) ((s_X7_prints ((((48 : Int32) + ((p1 / v2) - (p1 / v2) / (10 : Int32) * (10 : Int32))).toUInt32 % 65536).toInt32) Z4).bind fun Z8 => s_X7_printsNumber_L18 fu p1 f18 (v2 / (10 : Int32)) Z8))
def s_X7_printsNumber_L2 (fu : Nat) (p1 : Int32) : Nat → Int32 → S4 → Option S4
  | 0, _, _ => none
  | f2+1, v2, Z1 => gd (¬ v2 = 0) ((if (p1 / v2) ≤ (9 : Int32) then s_X7_printsNumber_L18 fu p1 fu v2 Z1 else s_X7_printsNumber_L2 fu p1 f2 (v2 * (10 : Int32)) Z1))
def s_X7_printsNumber (fu : Nat) (p1 : Int32) (S : S4) : Option S4 := s_X7_printsNumber_L2 fu p1 fu (1 : Int32) S
set_option maxRecDepth 100000 in
set_option maxHeartbeats 4000000 in
theorem c_X7_printsNumber {l : Launch} {D : va_G} {cA : Nat → ClassId} {dm : Dm} {ad : Ad} {fu : Nat} {S : S4} {p1 : Int32} (hM : DM dm) {out : S4} (hs : s_X7_printsNumber fu p1 S = some out) : Ct D cA dm ad l yX7_printsNumber cX7_printsNumber 3 none 1 21 S [.ref (ad 7 0 0), .int p1] none out := by
  refine Ct.of (by decide +kernel) (Nat.le_of_ble_eq_true rfl) [(0, .ref (ad 7 0 0)), (1, .int p1)] rfl (fun p e s m args below meth c A X hr => ?_)
  unfold s_X7_printsNumber at hs
  refine V_iconst X (1 : Int32) dX7_printsNumber_0 (by decide) ?_
  refine V_istore_n X dX7_printsNumber_1 rfl [(2, .int (1 : Int32)), (0, .ref (ad 7 0 0)), (1, .int p1)] (by decide) rfl ?_
  have L2 : ∀ (n : Nat) (v2 : Int32) (S1 : S4), s_X7_printsNumber_L2 fu p1 n v2 S1 = some out → V D cA dm ad A 3 p l e ({ frames := 1, cells := 0, slots := 0, locals := 21 }) s m args below meth c 0 0 (MQ below (gQ D cA dm ad out none A) args s 0 0 A) S1 2 [(0, .ref (ad 7 0 0)), (1, .int p1), (2, .int v2)] [] := by
    intro n
    induction n with
    | zero => intro v2 S1 hs; rw [s_X7_printsNumber_L2] at hs; cases hs
    | succ f2 ih2 =>
      intro v2 Z1 hs
      rw [s_X7_printsNumber_L2] at hs
      refine V_iload_n X dX7_printsNumber_2 rfl 1 rfl ?_
      refine V_iload_n X dX7_printsNumber_3 rfl 2 rfl ?_
      obtain ⟨h2, hs⟩ := gd_some hs
      refine V_idiv X dX7_printsNumber_4 h2 ?_
      refine V_bipush X (9 : Int32) dX7_printsNumber_5 (by decide) ?_
      refine V_icmp_le X 18 dX7_printsNumber_7 (by decide) (fun c3 => ?_) (fun c3 => ?_)
      · replace hs := if_t hs c3
        have L18 : ∀ (n : Nat) (v2 : Int32) (S1 : S4), s_X7_printsNumber_L18 fu p1 n v2 S1 = some out → V D cA dm ad A 3 p l e ({ frames := 1, cells := 0, slots := 0, locals := 21 }) s m args below meth c 0 0 (MQ below (gQ D cA dm ad out none A) args s 0 0 A) S1 18 [(0, .ref (ad 7 0 0)), (1, .int p1), (2, .int v2)] [] := by
          intro n
          induction n with
          | zero => intro v2 S1 hs; rw [s_X7_printsNumber_L18] at hs; cases hs
          | succ f18 ih18 =>
            intro v2 Z4 hs
            rw [s_X7_printsNumber_L18] at hs
            refine V_iload_n X dX7_printsNumber_18 rfl 2 rfl ?_
            refine V_if_le X 44 dX7_printsNumber_19 (by decide) (fun c5 => ?_) (fun c5 => ?_)
            · replace hs := if_t hs c5
              obtain rfl := Option.some.inj hs; exact V_vret X hr dX7_printsNumber_44
            · replace hs := if_f hs c5
              refine V_aload_n X dX7_printsNumber_22 rfl 0 rfl ?_
              refine V_bipush X (48 : Int32) dX7_printsNumber_23 (by decide) ?_
              refine V_iload_n X dX7_printsNumber_25 rfl 1 rfl ?_
              refine V_iload_n X dX7_printsNumber_26 rfl 2 rfl ?_
              obtain ⟨h6, hs⟩ := gd_some hs
              refine V_idiv X dX7_printsNumber_27 h6 ?_
              refine V_bipush X (10 : Int32) dX7_printsNumber_28 (by decide) ?_
              refine V_irem X dX7_printsNumber_30 (by decide) ?_
              refine V_iadd X dX7_printsNumber_31 ?_
              refine V_i2c X dX7_printsNumber_32 ?_
              obtain ⟨Z8, eZ8, hs⟩ := bd_some hs
              refine V_callVv X [.int (((48 : Int32) + ((p1 / v2) - (p1 / v2) / (10 : Int32) * (10 : Int32))).toUInt32 % 65536).toInt32] dX7_printsNumber_33 m_X7_258 v_X7_prints ⟨Nat.le_of_ble_eq_true rfl, Nat.le_of_ble_eq_true rfl⟩ ⟨Nat.zero_le _, Nat.zero_le _⟩ rfl (Nat.le_of_ble_eq_true rfl) (gm7 hM) rfl cl7 (c_X7_prints hM eZ8) ?_
              refine V_iload_n X dX7_printsNumber_36 rfl 2 rfl ?_
              refine V_bipush X (10 : Int32) dX7_printsNumber_37 (by decide) ?_
              refine V_idiv X dX7_printsNumber_39 (by decide) ?_
              refine V_istore_n X dX7_printsNumber_40 rfl [(2, .int (v2 / (10 : Int32))), (0, .ref (ad 7 0 0)), (1, .int p1)] (by decide) rfl ?_
              refine V_goto X 18 dX7_printsNumber_41 (by decide) ?_
              refine V_sub [1, 2, 0] rfl ?_
              exact ih18 _ _ hs
        refine V_sub [0, 1, 2] rfl ?_
        exact L18 _ _ _ hs
      · replace hs := if_f hs c3
        refine V_iload_n X dX7_printsNumber_10 rfl 2 rfl ?_
        refine V_bipush X (10 : Int32) dX7_printsNumber_11 (by decide) ?_
        refine V_imul X dX7_printsNumber_13 ?_
        refine V_istore_n X dX7_printsNumber_14 rfl [(2, .int (v2 * (10 : Int32))), (0, .ref (ad 7 0 0)), (1, .int p1)] (by decide) rfl ?_
        refine V_goto X 2 dX7_printsNumber_15 (by decide) ?_
        refine V_sub [1, 2, 0] rfl ?_
        exact ih2 _ _ hs
  refine V_sub [1, 2, 0] rfl ?_
  exact L2 _ _ _ hs

def s_X7_printsRule_L47 (fu : Nat) (p1 : Int32) (p2 : Int32) : Nat → Int32 → S4 → Option S4
  | 0, _, _ => none
  | f47+1, v3, Z7 => (s_X7_ofRule p1 p2 (2 : Int32) Z7).bind fun q8 => (if q8 ≤ v3 then some Z7 else ((if v3 = 0 then some (61 : Int32) else some (44 : Int32))).bind fun q10 => (s_X7_prints q10 Z7).bind fun Z12 => (s_X7_ofRule p1 p2 ((3 : Int32) + v3) Z12).bind fun q13 => (s_X7_printsNumber fu q13 Z12).bind fun Z15 => s_X7_printsRule_L47 fu p1 p2 f47 (v3 + (1 : Int32)) Z15)
def s_X7_printsRule (fu : Nat) (p1 : Int32) (p2 : Int32) (S : S4) : Option S4 := (s_X7_ofRule p1 p2 (0 : Int32) S).bind fun q1 => (s_X7_printsNumber fu q1 S).bind fun Z3 => (s_X7_ofRule p1 p2 (1 : Int32) Z3).bind fun q4 => (s_X7_ofRule p1 p2 (0 : Int32) Z3).bind fun q5 => (if q4 ≤ q5 then s_X7_printsRule_L47 fu p1 p2 fu (0 : Int32) Z3 else (s_X7_prints (45 : Int32) Z3).bind fun Z18 => (s_X7_ofRule p1 p2 (1 : Int32) Z18).bind fun q19 => (s_X7_printsNumber fu q19 Z18).bind fun Z21 => s_X7_printsRule_L47 fu p1 p2 fu (0 : Int32) Z21)
set_option maxRecDepth 100000 in
set_option maxHeartbeats 4000000 in
theorem c_X7_printsRule {l : Launch} {D : va_G} {cA : Nat → ClassId} {dm : Dm} {ad : Ad} {fu : Nat} {S : S4} {p1 : Int32} {p2 : Int32} (hM : DM dm) {out : S4} (hs : s_X7_printsRule fu p1 p2 S = some out) : Ct D cA dm ad l yX7_printsRule cX7_printsRule 4 none 2 43 S [.ref (ad 7 0 0), .int p1, .int p2] none out := by
  refine Ct.of (by decide +kernel) (Nat.le_of_ble_eq_true rfl) [(0, .ref (ad 7 0 0)), (1, .int p1), (2, .int p2)] rfl (fun p e s m args below meth c A X hr => ?_)
  unfold s_X7_printsRule at hs
  refine V_aload_n X dX7_printsRule_0 rfl 0 rfl ?_
  refine V_aload_n X dX7_printsRule_1 rfl 0 rfl ?_
  refine V_iload_n X dX7_printsRule_2 rfl 1 rfl ?_
  refine V_iload_n X dX7_printsRule_3 rfl 2 rfl ?_
  refine V_iconst X (0 : Int32) dX7_printsRule_4 (by decide) ?_
  obtain ⟨q1, eq1, hs⟩ := bd_some hs
  refine V_callVs X [.int p1, .int p2, .int (0 : Int32)] dX7_printsRule_5 m_X7_144 v_X7_ofRule ⟨Nat.le_of_ble_eq_true rfl, Nat.le_of_ble_eq_true rfl⟩ ⟨Nat.zero_le _, Nat.zero_le _⟩ rfl (Nat.le_of_ble_eq_true rfl) (gm7 hM) rfl cl7 (c_X7_ofRule hM eq1) ?_
  obtain ⟨Z3, eZ3, hs⟩ := bd_some hs
  refine V_callVv X [.int q1] dX7_printsRule_8 m_X7_262 v_X7_printsNumber ⟨Nat.le_of_ble_eq_true rfl, Nat.le_of_ble_eq_true rfl⟩ ⟨Nat.zero_le _, Nat.zero_le _⟩ rfl (Nat.le_of_ble_eq_true rfl) (gm7 hM) rfl cl7 (c_X7_printsNumber hM eZ3) ?_
  refine V_aload_n X dX7_printsRule_11 rfl 0 rfl ?_
  refine V_iload_n X dX7_printsRule_12 rfl 1 rfl ?_
  refine V_iload_n X dX7_printsRule_13 rfl 2 rfl ?_
  refine V_iconst X (1 : Int32) dX7_printsRule_14 (by decide) ?_
  obtain ⟨q4, eq4, hs⟩ := bd_some hs
  refine V_callVs X [.int p1, .int p2, .int (1 : Int32)] dX7_printsRule_15 m_X7_144 v_X7_ofRule ⟨Nat.le_of_ble_eq_true rfl, Nat.le_of_ble_eq_true rfl⟩ ⟨Nat.zero_le _, Nat.zero_le _⟩ rfl (Nat.le_of_ble_eq_true rfl) (gm7 hM) rfl cl7 (c_X7_ofRule hM eq4) ?_
  refine V_aload_n X dX7_printsRule_18 rfl 0 rfl ?_
  refine V_iload_n X dX7_printsRule_19 rfl 1 rfl ?_
  refine V_iload_n X dX7_printsRule_20 rfl 2 rfl ?_
  refine V_iconst X (0 : Int32) dX7_printsRule_21 (by decide) ?_
  obtain ⟨q5, eq5, hs⟩ := bd_some hs
  refine V_callVs X [.int p1, .int p2, .int (0 : Int32)] dX7_printsRule_22 m_X7_144 v_X7_ofRule ⟨Nat.le_of_ble_eq_true rfl, Nat.le_of_ble_eq_true rfl⟩ ⟨Nat.zero_le _, Nat.zero_le _⟩ rfl (Nat.le_of_ble_eq_true rfl) (gm7 hM) rfl cl7 (c_X7_ofRule hM eq5) ?_
  refine V_icmp_le X 45 dX7_printsRule_25 (by decide) (fun c6 => ?_) (fun c6 => ?_)
  · replace hs := if_t hs c6
    refine V_iconst X (0 : Int32) dX7_printsRule_45 (by decide) ?_
    refine V_istore_n X dX7_printsRule_46 rfl [(3, .int (0 : Int32)), (0, .ref (ad 7 0 0)), (1, .int p1), (2, .int p2)] (by decide) rfl ?_
    have L47 : ∀ (n : Nat) (v3 : Int32) (S1 : S4), s_X7_printsRule_L47 fu p1 p2 n v3 S1 = some out → V D cA dm ad A 4 p l e ({ frames := 2, cells := 0, slots := 0, locals := 43 }) s m args below meth c 0 0 (MQ below (gQ D cA dm ad out none A) args s 0 0 A) S1 47 [(0, .ref (ad 7 0 0)), (1, .int p1), (2, .int p2), (3, .int v3)] [] := by
      intro n
      induction n with
      | zero => intro v3 S1 hs; rw [s_X7_printsRule_L47] at hs; cases hs
      | succ f47 ih47 =>
        intro v3 Z7 hs
        rw [s_X7_printsRule_L47] at hs
        refine V_iload_n X dX7_printsRule_47 rfl 3 rfl ?_
        refine V_aload_n X dX7_printsRule_48 rfl 0 rfl ?_
        refine V_iload_n X dX7_printsRule_49 rfl 1 rfl ?_
        refine V_iload_n X dX7_printsRule_50 rfl 2 rfl ?_
        refine V_iconst X (2 : Int32) dX7_printsRule_51 (by decide) ?_
        obtain ⟨q8, eq8, hs⟩ := bd_some hs
        refine V_callVs X [.int p1, .int p2, .int (2 : Int32)] dX7_printsRule_52 m_X7_144 v_X7_ofRule ⟨Nat.le_of_ble_eq_true rfl, Nat.le_of_ble_eq_true rfl⟩ ⟨Nat.zero_le _, Nat.zero_le _⟩ rfl (Nat.le_of_ble_eq_true rfl) (gm7 hM) rfl cl7 (c_X7_ofRule hM eq8) ?_
        refine V_icmp_ge X 92 dX7_printsRule_55 (by decide) (fun c9 => ?_) (fun c9 => ?_)
        · replace hs := if_t hs c9
          obtain rfl := Option.some.inj hs; exact V_vret X hr dX7_printsRule_92
        · replace hs := if_f hs c9
          refine V_aload_n X dX7_printsRule_58 rfl 0 rfl ?_
          refine V_iload_n X dX7_printsRule_59 rfl 3 rfl ?_
          refine jn (P := fun q => V D cA dm ad A 4 p l e ({ frames := 2, cells := 0, slots := 0, locals := 43 }) s m args below meth c 0 0 (MQ below (gQ D cA dm ad out none A) args s 0 0 A) Z7 70 [(0, .ref (ad 7 0 0)), (1, .int p1), (2, .int p2), (3, .int v3)] [.int q, .ref (ad 7 0 0)]) hs (fun q10 hs => ?_) (fun J70 hs => ?_)
          · obtain ⟨Z12, eZ12, hs⟩ := bd_some hs
            refine V_callVv X [.int q10] dX7_printsRule_70 m_X7_258 v_X7_prints ⟨Nat.le_of_ble_eq_true rfl, Nat.le_of_ble_eq_true rfl⟩ ⟨Nat.zero_le _, Nat.zero_le _⟩ rfl (Nat.le_of_ble_eq_true rfl) (gm7 hM) rfl cl7 (c_X7_prints hM eZ12) ?_
            refine V_aload_n X dX7_printsRule_73 rfl 0 rfl ?_
            refine V_aload_n X dX7_printsRule_74 rfl 0 rfl ?_
            refine V_iload_n X dX7_printsRule_75 rfl 1 rfl ?_
            refine V_iload_n X dX7_printsRule_76 rfl 2 rfl ?_
            refine V_iconst X (3 : Int32) dX7_printsRule_77 (by decide) ?_
            refine V_iload_n X dX7_printsRule_78 rfl 3 rfl ?_
            refine V_iadd X dX7_printsRule_79 ?_
            obtain ⟨q13, eq13, hs⟩ := bd_some hs
            refine V_callVs X [.int p1, .int p2, .int ((3 : Int32) + v3)] dX7_printsRule_80 m_X7_144 v_X7_ofRule ⟨Nat.le_of_ble_eq_true rfl, Nat.le_of_ble_eq_true rfl⟩ ⟨Nat.zero_le _, Nat.zero_le _⟩ rfl (Nat.le_of_ble_eq_true rfl) (gm7 hM) rfl cl7 (c_X7_ofRule hM eq13) ?_
            obtain ⟨Z15, eZ15, hs⟩ := bd_some hs
            refine V_callVv X [.int q13] dX7_printsRule_83 m_X7_262 v_X7_printsNumber ⟨Nat.le_of_ble_eq_true rfl, Nat.le_of_ble_eq_true rfl⟩ ⟨Nat.zero_le _, Nat.zero_le _⟩ rfl (Nat.le_of_ble_eq_true rfl) (gm7 hM) rfl cl7 (c_X7_printsNumber hM eZ15) ?_
            refine V_iinc X (v3 + (1 : Int32)) dX7_printsRule_86 3 rfl rfl [(3, .int (v3 + (1 : Int32))), (0, .ref (ad 7 0 0)), (1, .int p1), (2, .int p2)] (by decide) rfl ?_
            refine V_goto X 47 dX7_printsRule_89 (by decide) ?_
            refine V_sub [1, 2, 3, 0] rfl ?_
            exact ih47 _ _ hs
          · refine V_if_ne X 68 dX7_printsRule_60 (by decide) (fun c16 => ?_) (fun c16 => ?_)
            · replace hs := if_fB hs c16
              refine V_bipush X (44 : Int32) dX7_printsRule_68 (by decide) ?_
              exact J70 _ (bs_some hs)
            · replace hs := if_tB hs c16
              refine V_bipush X (61 : Int32) dX7_printsRule_63 (by decide) ?_
              refine V_goto X 70 dX7_printsRule_65 (by decide) ?_
              exact J70 _ (bs_some hs)
    refine V_sub [1, 2, 3, 0] rfl ?_
    exact L47 _ _ _ hs
  · replace hs := if_f hs c6
    refine V_aload_n X dX7_printsRule_28 rfl 0 rfl ?_
    refine V_bipush X (45 : Int32) dX7_printsRule_29 (by decide) ?_
    obtain ⟨Z18, eZ18, hs⟩ := bd_some hs
    refine V_callVv X [.int (45 : Int32)] dX7_printsRule_31 m_X7_258 v_X7_prints ⟨Nat.le_of_ble_eq_true rfl, Nat.le_of_ble_eq_true rfl⟩ ⟨Nat.zero_le _, Nat.zero_le _⟩ rfl (Nat.le_of_ble_eq_true rfl) (gm7 hM) rfl cl7 (c_X7_prints hM eZ18) ?_
    refine V_aload_n X dX7_printsRule_34 rfl 0 rfl ?_
    refine V_aload_n X dX7_printsRule_35 rfl 0 rfl ?_
    refine V_iload_n X dX7_printsRule_36 rfl 1 rfl ?_
    refine V_iload_n X dX7_printsRule_37 rfl 2 rfl ?_
    refine V_iconst X (1 : Int32) dX7_printsRule_38 (by decide) ?_
    obtain ⟨q19, eq19, hs⟩ := bd_some hs
    refine V_callVs X [.int p1, .int p2, .int (1 : Int32)] dX7_printsRule_39 m_X7_144 v_X7_ofRule ⟨Nat.le_of_ble_eq_true rfl, Nat.le_of_ble_eq_true rfl⟩ ⟨Nat.zero_le _, Nat.zero_le _⟩ rfl (Nat.le_of_ble_eq_true rfl) (gm7 hM) rfl cl7 (c_X7_ofRule hM eq19) ?_
    obtain ⟨Z21, eZ21, hs⟩ := bd_some hs
    refine V_callVv X [.int q19] dX7_printsRule_42 m_X7_262 v_X7_printsNumber ⟨Nat.le_of_ble_eq_true rfl, Nat.le_of_ble_eq_true rfl⟩ ⟨Nat.zero_le _, Nat.zero_le _⟩ rfl (Nat.le_of_ble_eq_true rfl) (gm7 hM) rfl cl7 (c_X7_printsNumber hM eZ21) ?_
    refine V_iconst X (0 : Int32) dX7_printsRule_45 (by decide) ?_
    refine V_istore_n X dX7_printsRule_46 rfl [(3, .int (0 : Int32)), (0, .ref (ad 7 0 0)), (1, .int p1), (2, .int p2)] (by decide) rfl ?_
    have L47 : ∀ (n : Nat) (v3 : Int32) (S1 : S4), s_X7_printsRule_L47 fu p1 p2 n v3 S1 = some out → V D cA dm ad A 4 p l e ({ frames := 2, cells := 0, slots := 0, locals := 43 }) s m args below meth c 0 0 (MQ below (gQ D cA dm ad out none A) args s 0 0 A) S1 47 [(0, .ref (ad 7 0 0)), (1, .int p1), (2, .int p2), (3, .int v3)] [] := by
      intro n
      induction n with
      | zero => intro v3 S1 hs; rw [s_X7_printsRule_L47] at hs; cases hs
      | succ f47 ih47 =>
        intro v3 Z22 hs
        rw [s_X7_printsRule_L47] at hs
        refine V_iload_n X dX7_printsRule_47 rfl 3 rfl ?_
        refine V_aload_n X dX7_printsRule_48 rfl 0 rfl ?_
        refine V_iload_n X dX7_printsRule_49 rfl 1 rfl ?_
        refine V_iload_n X dX7_printsRule_50 rfl 2 rfl ?_
        refine V_iconst X (2 : Int32) dX7_printsRule_51 (by decide) ?_
        obtain ⟨q23, eq23, hs⟩ := bd_some hs
        refine V_callVs X [.int p1, .int p2, .int (2 : Int32)] dX7_printsRule_52 m_X7_144 v_X7_ofRule ⟨Nat.le_of_ble_eq_true rfl, Nat.le_of_ble_eq_true rfl⟩ ⟨Nat.zero_le _, Nat.zero_le _⟩ rfl (Nat.le_of_ble_eq_true rfl) (gm7 hM) rfl cl7 (c_X7_ofRule hM eq23) ?_
        refine V_icmp_ge X 92 dX7_printsRule_55 (by decide) (fun c24 => ?_) (fun c24 => ?_)
        · replace hs := if_t hs c24
          obtain rfl := Option.some.inj hs; exact V_vret X hr dX7_printsRule_92
        · replace hs := if_f hs c24
          refine V_aload_n X dX7_printsRule_58 rfl 0 rfl ?_
          refine V_iload_n X dX7_printsRule_59 rfl 3 rfl ?_
          refine jn (P := fun q => V D cA dm ad A 4 p l e ({ frames := 2, cells := 0, slots := 0, locals := 43 }) s m args below meth c 0 0 (MQ below (gQ D cA dm ad out none A) args s 0 0 A) Z22 70 [(0, .ref (ad 7 0 0)), (1, .int p1), (2, .int p2), (3, .int v3)] [.int q, .ref (ad 7 0 0)]) hs (fun q25 hs => ?_) (fun J70 hs => ?_)
          · obtain ⟨Z27, eZ27, hs⟩ := bd_some hs
            refine V_callVv X [.int q25] dX7_printsRule_70 m_X7_258 v_X7_prints ⟨Nat.le_of_ble_eq_true rfl, Nat.le_of_ble_eq_true rfl⟩ ⟨Nat.zero_le _, Nat.zero_le _⟩ rfl (Nat.le_of_ble_eq_true rfl) (gm7 hM) rfl cl7 (c_X7_prints hM eZ27) ?_
            refine V_aload_n X dX7_printsRule_73 rfl 0 rfl ?_
            refine V_aload_n X dX7_printsRule_74 rfl 0 rfl ?_
            refine V_iload_n X dX7_printsRule_75 rfl 1 rfl ?_
            refine V_iload_n X dX7_printsRule_76 rfl 2 rfl ?_
            refine V_iconst X (3 : Int32) dX7_printsRule_77 (by decide) ?_
            refine V_iload_n X dX7_printsRule_78 rfl 3 rfl ?_
            refine V_iadd X dX7_printsRule_79 ?_
            obtain ⟨q28, eq28, hs⟩ := bd_some hs
            refine V_callVs X [.int p1, .int p2, .int ((3 : Int32) + v3)] dX7_printsRule_80 m_X7_144 v_X7_ofRule ⟨Nat.le_of_ble_eq_true rfl, Nat.le_of_ble_eq_true rfl⟩ ⟨Nat.zero_le _, Nat.zero_le _⟩ rfl (Nat.le_of_ble_eq_true rfl) (gm7 hM) rfl cl7 (c_X7_ofRule hM eq28) ?_
            obtain ⟨Z30, eZ30, hs⟩ := bd_some hs
            refine V_callVv X [.int q28] dX7_printsRule_83 m_X7_262 v_X7_printsNumber ⟨Nat.le_of_ble_eq_true rfl, Nat.le_of_ble_eq_true rfl⟩ ⟨Nat.zero_le _, Nat.zero_le _⟩ rfl (Nat.le_of_ble_eq_true rfl) (gm7 hM) rfl cl7 (c_X7_printsNumber hM eZ30) ?_
            refine V_iinc X (v3 + (1 : Int32)) dX7_printsRule_86 3 rfl rfl [(3, .int (v3 + (1 : Int32))), (0, .ref (ad 7 0 0)), (1, .int p1), (2, .int p2)] (by decide) rfl ?_
            refine V_goto X 47 dX7_printsRule_89 (by decide) ?_
            refine V_sub [1, 2, 3, 0] rfl ?_
            exact ih47 _ _ hs
          · refine V_if_ne X 68 dX7_printsRule_60 (by decide) (fun c31 => ?_) (fun c31 => ?_)
            · replace hs := if_fB hs c31
              refine V_bipush X (44 : Int32) dX7_printsRule_68 (by decide) ?_
              exact J70 _ (bs_some hs)
            · replace hs := if_tB hs c31
              refine V_bipush X (61 : Int32) dX7_printsRule_63 (by decide) ?_
              refine V_goto X 70 dX7_printsRule_65 (by decide) ?_
              exact J70 _ (bs_some hs)
    refine V_sub [1, 2, 3, 0] rfl ?_
    exact L47 _ _ _ hs

def s_X7_write_L42 (fu : Nat) (p1 : Int32) : Nat → Int32 → S4 → Option (Int32 × S4)
  | 0, _, _ => none
  | f42+1, v2, Z10 => (s_X7_ofPlan p1 (1 : Int32) Z10).bind fun q11 => (if q11 ≤ v2 then (s_X7_prints (120 : Int32) Z10).bind fun Z14 => (s_X7_ofPlan p1 (2 : Int32) Z14).bind fun q15 => (s_X7_printsNumber fu q15 Z14).bind fun Z17 => (s_X7_ofPlan p1 (3 : Int32) Z17).bind fun q18 => (if q18 = (3 : Int32) then some ((Z17 7 0 0 26), Z17) else (s_X7_prints (42 : Int32) Z17).bind fun Z21 => (s_X7_ofPlan p1 (3 : Int32) Z21).bind fun q22 => (s_X7_printsNumber fu q22 Z21).bind fun Z24 => some ((Z24 7 0 0 26), Z24)) else ((if v2 = 0 then some (58 : Int32) else some (59 : Int32))).bind fun q25 => (s_X7_prints q25 Z10).bind fun Z27 => (s_X7_printsRule fu p1 v2 Z27).bind fun Z29 => s_X7_write_L42 fu p1 f42 (v2 + (1 : Int32)) Z29)
def s_X7_write (fu : Nat) (p1 : Int32) (S : S4) : Option (Int32 × S4) := (s_X7_isPlan p1 S).bind fun q1 => (if q1 = 0 then (s_X7_fails (1 : Int32) S).bind fun q31 => some (q31.1, q31.2) else sv (u4 S 7 0 0 0 (0 : Int32)) fun Z3 => sv (u4 Z3 7 0 0 26 (0 : Int32)) fun Z4 => (s_X7_prints (64 : Int32) Z4).bind fun Z6 => (s_X7_ofPlan p1 (0 : Int32) Z6).bind fun q7 => (s_X7_printsNumber fu q7 Z6).bind fun Z9 => s_X7_write_L42 fu p1 fu (0 : Int32) Z9)
set_option maxRecDepth 100000 in
set_option maxHeartbeats 4000000 in
theorem c_X7_write {l : Launch} {D : va_G} {cA : Nat → ClassId} {dm : Dm} {ad : Ad} {fu : Nat} {S : S4} {p1 : Int32} (hM : DM dm) {out : (Int32 × S4)} (hs : s_X7_write fu p1 S = some out) : Ct D cA dm ad l yX7_write cX7_write 3 (some .int) 3 66 S [.ref (ad 7 0 0), .int p1] (some (.int out.1)) out.2 := by
  refine Ct.of (by decide +kernel) (Nat.le_of_ble_eq_true rfl) [(0, .ref (ad 7 0 0)), (1, .int p1)] rfl (fun p e s m args below meth c A X hr => ?_)
  unfold s_X7_write at hs
  refine V_aload_n X dX7_write_0 rfl 0 rfl ?_
  refine V_iload_n X dX7_write_1 rfl 1 rfl ?_
  obtain ⟨q1, eq1, hs⟩ := bd_some hs
  refine V_callVs X [.int p1] dX7_write_2 m_X7_148 v_X7_isPlan ⟨Nat.le_of_ble_eq_true rfl, Nat.le_of_ble_eq_true rfl⟩ ⟨Nat.zero_le _, Nat.zero_le _⟩ rfl (Nat.le_of_ble_eq_true rfl) (gm7 hM) rfl cl7 (c_X7_isPlan hM eq1) ?_
  refine V_if_ne X 14 dX7_write_5 (by decide) (fun c2 => ?_) (fun c2 => ?_)
  · replace hs := if_f hs c2
    refine V_aload_n X dX7_write_14 rfl 0 rfl ?_
    refine V_iconst X (0 : Int32) dX7_write_15 (by decide) ?_
    refine V_put X dX7_write_16 f_X7_54 (gm7 hM) rfl (Nat.le_of_ble_eq_true rfl) rfl rfl rfl (fun Z3 eZ3 => ?_)
    replace hs := sv_some hs Z3 eZ3
    clear eZ3
    refine V_aload_n X dX7_write_19 rfl 0 rfl ?_
    refine V_iconst X (0 : Int32) dX7_write_20 (by decide) ?_
    refine V_put X dX7_write_21 f_X7_255 (gm7 hM) rfl (Nat.le_of_ble_eq_true rfl) rfl rfl rfl (fun Z4 eZ4 => ?_)
    replace hs := sv_some hs Z4 eZ4
    clear eZ4
    refine V_aload_n X dX7_write_24 rfl 0 rfl ?_
    refine V_bipush X (64 : Int32) dX7_write_25 (by decide) ?_
    obtain ⟨Z6, eZ6, hs⟩ := bd_some hs
    refine V_callVv X [.int (64 : Int32)] dX7_write_27 m_X7_258 v_X7_prints ⟨Nat.le_of_ble_eq_true rfl, Nat.le_of_ble_eq_true rfl⟩ ⟨Nat.zero_le _, Nat.zero_le _⟩ rfl (Nat.le_of_ble_eq_true rfl) (gm7 hM) rfl cl7 (c_X7_prints hM eZ6) ?_
    refine V_aload_n X dX7_write_30 rfl 0 rfl ?_
    refine V_aload_n X dX7_write_31 rfl 0 rfl ?_
    refine V_iload_n X dX7_write_32 rfl 1 rfl ?_
    refine V_iconst X (0 : Int32) dX7_write_33 (by decide) ?_
    obtain ⟨q7, eq7, hs⟩ := bd_some hs
    refine V_callVs X [.int p1, .int (0 : Int32)] dX7_write_34 m_X7_141 v_X7_ofPlan ⟨Nat.le_of_ble_eq_true rfl, Nat.le_of_ble_eq_true rfl⟩ ⟨Nat.zero_le _, Nat.zero_le _⟩ rfl (Nat.le_of_ble_eq_true rfl) (gm7 hM) rfl cl7 (c_X7_ofPlan hM eq7) ?_
    obtain ⟨Z9, eZ9, hs⟩ := bd_some hs
    refine V_callVv X [.int q7] dX7_write_37 m_X7_262 v_X7_printsNumber ⟨Nat.le_of_ble_eq_true rfl, Nat.le_of_ble_eq_true rfl⟩ ⟨Nat.zero_le _, Nat.zero_le _⟩ rfl (Nat.le_of_ble_eq_true rfl) (gm7 hM) rfl cl7 (c_X7_printsNumber hM eZ9) ?_
    refine V_iconst X (0 : Int32) dX7_write_40 (by decide) ?_
    refine V_istore_n X dX7_write_41 rfl [(2, .int (0 : Int32)), (0, .ref (ad 7 0 0)), (1, .int p1)] (by decide) rfl ?_
    have L42 : ∀ (n : Nat) (v2 : Int32) (S1 : S4), s_X7_write_L42 fu p1 n v2 S1 = some out → V D cA dm ad A 3 p l e ({ frames := 3, cells := 0, slots := 0, locals := 66 }) s m args below meth c 0 0 (MQ below (gQ D cA dm ad out.2 (some (.int out.1)) A) args s 0 0 A) S1 42 [(0, .ref (ad 7 0 0)), (1, .int p1), (2, .int v2)] [] := by
      intro n
      induction n with
      | zero => intro v2 S1 hs; rw [s_X7_write_L42] at hs; cases hs
      | succ f42 ih42 =>
        intro v2 Z10 hs
        rw [s_X7_write_L42] at hs
        refine V_iload_n X dX7_write_42 rfl 2 rfl ?_
        refine V_aload_n X dX7_write_43 rfl 0 rfl ?_
        refine V_iload_n X dX7_write_44 rfl 1 rfl ?_
        refine V_iconst X (1 : Int32) dX7_write_45 (by decide) ?_
        obtain ⟨q11, eq11, hs⟩ := bd_some hs
        refine V_callVs X [.int p1, .int (1 : Int32)] dX7_write_46 m_X7_141 v_X7_ofPlan ⟨Nat.le_of_ble_eq_true rfl, Nat.le_of_ble_eq_true rfl⟩ ⟨Nat.zero_le _, Nat.zero_le _⟩ rfl (Nat.le_of_ble_eq_true rfl) (gm7 hM) rfl cl7 (c_X7_ofPlan hM eq11) ?_
        refine V_icmp_ge X 79 dX7_write_49 (by decide) (fun c12 => ?_) (fun c12 => ?_)
        · replace hs := if_t hs c12
          refine V_aload_n X dX7_write_79 rfl 0 rfl ?_
          refine V_bipush X (120 : Int32) dX7_write_80 (by decide) ?_
          obtain ⟨Z14, eZ14, hs⟩ := bd_some hs
          refine V_callVv X [.int (120 : Int32)] dX7_write_82 m_X7_258 v_X7_prints ⟨Nat.le_of_ble_eq_true rfl, Nat.le_of_ble_eq_true rfl⟩ ⟨Nat.zero_le _, Nat.zero_le _⟩ rfl (Nat.le_of_ble_eq_true rfl) (gm7 hM) rfl cl7 (c_X7_prints hM eZ14) ?_
          refine V_aload_n X dX7_write_85 rfl 0 rfl ?_
          refine V_aload_n X dX7_write_86 rfl 0 rfl ?_
          refine V_iload_n X dX7_write_87 rfl 1 rfl ?_
          refine V_iconst X (2 : Int32) dX7_write_88 (by decide) ?_
          obtain ⟨q15, eq15, hs⟩ := bd_some hs
          refine V_callVs X [.int p1, .int (2 : Int32)] dX7_write_89 m_X7_141 v_X7_ofPlan ⟨Nat.le_of_ble_eq_true rfl, Nat.le_of_ble_eq_true rfl⟩ ⟨Nat.zero_le _, Nat.zero_le _⟩ rfl (Nat.le_of_ble_eq_true rfl) (gm7 hM) rfl cl7 (c_X7_ofPlan hM eq15) ?_
          obtain ⟨Z17, eZ17, hs⟩ := bd_some hs
          refine V_callVv X [.int q15] dX7_write_92 m_X7_262 v_X7_printsNumber ⟨Nat.le_of_ble_eq_true rfl, Nat.le_of_ble_eq_true rfl⟩ ⟨Nat.zero_le _, Nat.zero_le _⟩ rfl (Nat.le_of_ble_eq_true rfl) (gm7 hM) rfl cl7 (c_X7_printsNumber hM eZ17) ?_
          refine V_aload_n X dX7_write_95 rfl 0 rfl ?_
          refine V_iload_n X dX7_write_96 rfl 1 rfl ?_
          refine V_iconst X (3 : Int32) dX7_write_97 (by decide) ?_
          obtain ⟨q18, eq18, hs⟩ := bd_some hs
          refine V_callVs X [.int p1, .int (3 : Int32)] dX7_write_98 m_X7_141 v_X7_ofPlan ⟨Nat.le_of_ble_eq_true rfl, Nat.le_of_ble_eq_true rfl⟩ ⟨Nat.zero_le _, Nat.zero_le _⟩ rfl (Nat.le_of_ble_eq_true rfl) (gm7 hM) rfl cl7 (c_X7_ofPlan hM eq18) ?_
          refine V_iconst X (3 : Int32) dX7_write_101 (by decide) ?_
          refine V_icmp_eq X 121 dX7_write_102 (by decide) (fun c19 => ?_) (fun c19 => ?_)
          · replace hs := if_t hs c19
            refine V_aload_n X dX7_write_121 rfl 0 rfl ?_
            refine V_get X dX7_write_122 r_X7_255 (gm7 hM) rfl rfl ?_
            obtain rfl := Option.some.inj hs; exact V_iret X hr dX7_write_125
          · replace hs := if_f hs c19
            refine V_aload_n X dX7_write_105 rfl 0 rfl ?_
            refine V_bipush X (42 : Int32) dX7_write_106 (by decide) ?_
            obtain ⟨Z21, eZ21, hs⟩ := bd_some hs
            refine V_callVv X [.int (42 : Int32)] dX7_write_108 m_X7_258 v_X7_prints ⟨Nat.le_of_ble_eq_true rfl, Nat.le_of_ble_eq_true rfl⟩ ⟨Nat.zero_le _, Nat.zero_le _⟩ rfl (Nat.le_of_ble_eq_true rfl) (gm7 hM) rfl cl7 (c_X7_prints hM eZ21) ?_
            refine V_aload_n X dX7_write_111 rfl 0 rfl ?_
            refine V_aload_n X dX7_write_112 rfl 0 rfl ?_
            refine V_iload_n X dX7_write_113 rfl 1 rfl ?_
            refine V_iconst X (3 : Int32) dX7_write_114 (by decide) ?_
            obtain ⟨q22, eq22, hs⟩ := bd_some hs
            refine V_callVs X [.int p1, .int (3 : Int32)] dX7_write_115 m_X7_141 v_X7_ofPlan ⟨Nat.le_of_ble_eq_true rfl, Nat.le_of_ble_eq_true rfl⟩ ⟨Nat.zero_le _, Nat.zero_le _⟩ rfl (Nat.le_of_ble_eq_true rfl) (gm7 hM) rfl cl7 (c_X7_ofPlan hM eq22) ?_
            obtain ⟨Z24, eZ24, hs⟩ := bd_some hs
            refine V_callVv X [.int q22] dX7_write_118 m_X7_262 v_X7_printsNumber ⟨Nat.le_of_ble_eq_true rfl, Nat.le_of_ble_eq_true rfl⟩ ⟨Nat.zero_le _, Nat.zero_le _⟩ rfl (Nat.le_of_ble_eq_true rfl) (gm7 hM) rfl cl7 (c_X7_printsNumber hM eZ24) ?_
            refine V_aload_n X dX7_write_121 rfl 0 rfl ?_
            refine V_get X dX7_write_122 r_X7_255 (gm7 hM) rfl rfl ?_
            obtain rfl := Option.some.inj hs; exact V_iret X hr dX7_write_125
        · replace hs := if_f hs c12
          refine V_aload_n X dX7_write_52 rfl 0 rfl ?_
          refine V_iload_n X dX7_write_53 rfl 2 rfl ?_
          refine jn (P := fun q => V D cA dm ad A 3 p l e ({ frames := 3, cells := 0, slots := 0, locals := 66 }) s m args below meth c 0 0 (MQ below (gQ D cA dm ad out.2 (some (.int out.1)) A) args s 0 0 A) Z10 64 [(0, .ref (ad 7 0 0)), (1, .int p1), (2, .int v2)] [.int q, .ref (ad 7 0 0)]) hs (fun q25 hs => ?_) (fun J64 hs => ?_)
          · obtain ⟨Z27, eZ27, hs⟩ := bd_some hs
            refine V_callVv X [.int q25] dX7_write_64 m_X7_258 v_X7_prints ⟨Nat.le_of_ble_eq_true rfl, Nat.le_of_ble_eq_true rfl⟩ ⟨Nat.zero_le _, Nat.zero_le _⟩ rfl (Nat.le_of_ble_eq_true rfl) (gm7 hM) rfl cl7 (c_X7_prints hM eZ27) ?_
            refine V_aload_n X dX7_write_67 rfl 0 rfl ?_
            refine V_iload_n X dX7_write_68 rfl 1 rfl ?_
            refine V_iload_n X dX7_write_69 rfl 2 rfl ?_
            obtain ⟨Z29, eZ29, hs⟩ := bd_some hs
            refine V_callVv X [.int p1, .int v2] dX7_write_70 m_X7_265 v_X7_printsRule ⟨Nat.le_of_ble_eq_true rfl, Nat.le_of_ble_eq_true rfl⟩ ⟨Nat.zero_le _, Nat.zero_le _⟩ rfl (Nat.le_of_ble_eq_true rfl) (gm7 hM) rfl cl7 (c_X7_printsRule hM eZ29) ?_
            refine V_iinc X (v2 + (1 : Int32)) dX7_write_73 2 rfl rfl [(2, .int (v2 + (1 : Int32))), (0, .ref (ad 7 0 0)), (1, .int p1)] (by decide) rfl ?_
            refine V_goto X 42 dX7_write_76 (by decide) ?_
            refine V_sub [1, 2, 0] rfl ?_
            exact ih42 _ _ hs
          · refine V_if_ne X 62 dX7_write_54 (by decide) (fun c30 => ?_) (fun c30 => ?_)
            · replace hs := if_fB hs c30
              refine V_bipush X (59 : Int32) dX7_write_62 (by decide) ?_
              exact J64 _ (bs_some hs)
            · replace hs := if_tB hs c30
              refine V_bipush X (58 : Int32) dX7_write_57 (by decide) ?_
              refine V_goto X 64 dX7_write_59 (by decide) ?_
              exact J64 _ (bs_some hs)
    refine V_sub [1, 2, 0] rfl ?_
    exact L42 _ _ _ hs
  · replace hs := if_t hs c2
    refine V_aload_n X dX7_write_8 rfl 0 rfl ?_
    refine V_iconst X (1 : Int32) dX7_write_9 (by decide) ?_
    obtain ⟨q31, eq31, hs⟩ := bd_some hs
    refine V_callVs X [.int (1 : Int32)] dX7_write_10 m_X7_79 v_X7_fails ⟨Nat.le_of_ble_eq_true rfl, Nat.le_of_ble_eq_true rfl⟩ ⟨Nat.zero_le _, Nat.zero_le _⟩ rfl (Nat.le_of_ble_eq_true rfl) (gm7 hM) rfl cl7 (c_X7_fails hM eq31) ?_
    obtain rfl := Option.some.inj hs; exact V_iret X hr dX7_write_13

def s_X7_paper (p1 : Int32) (S : S4) : Option (Int32 × S4) := (s_X7_isBetween p1 (0 : Int32) ((S 7 0 0 26) - (1 : Int32)) S).bind fun q1 => ((if q1 = 0 then some (1 : Int32) else some (0 : Int32))).bind fun q2 => sv (u4 S 7 0 0 0 q2) fun Z3 => (if (Z3 7 0 0 0) = 0 then gd (inb p1 140) (gd (narrow .char (.int ((Z3 35 0 0 p1.toNatClampNeg).toUInt32 % 65536).toInt32) = .int ((Z3 35 0 0 p1.toNatClampNeg).toUInt32 % 65536).toInt32) (some (((Z3 35 0 0 p1.toNatClampNeg).toUInt32 % 65536).toInt32, Z3))) else some ((0 : Int32), Z3))
set_option maxRecDepth 100000 in
set_option maxHeartbeats 4000000 in
theorem c_X7_paper {l : Launch} {D : va_G} {cA : Nat → ClassId} {dm : Dm} {ad : Ad} {S : S4} {p1 : Int32} (hM : DM dm) {out : (Int32 × S4)} (hs : s_X7_paper p1 S = some out) : Ct D cA dm ad l yX7_paper cX7_paper 2 (some .char) 1 22 S [.ref (ad 7 0 0), .int p1] (some (.int out.1)) out.2 := by
  refine Ct.of (by decide +kernel) (Nat.le_of_ble_eq_true rfl) [(0, .ref (ad 7 0 0)), (1, .int p1)] rfl (fun p e s m args below meth c A X hr => ?_)
  unfold s_X7_paper at hs
  refine V_aload_n X dX7_paper_0 rfl 0 rfl ?_
  refine V_iload_n X dX7_paper_1 rfl 1 rfl ?_
  refine V_iconst X (0 : Int32) dX7_paper_2 (by decide) ?_
  refine V_aload_n X dX7_paper_3 rfl 0 rfl ?_
  refine V_get X dX7_paper_4 r_X7_255 (gm7 hM) rfl rfl ?_
  refine V_iconst X (1 : Int32) dX7_paper_7 (by decide) ?_
  refine V_isub X dX7_paper_8 ?_
  obtain ⟨q1, eq1, hs⟩ := bd_some hs
  refine V_callSs X [.int p1, .int (0 : Int32), .int ((S 7 0 0 26) - (1 : Int32))] dX7_paper_9 m_X7_75 t_X7_isBetween ⟨Nat.le_of_ble_eq_true rfl, Nat.le_of_ble_eq_true rfl⟩ ⟨Nat.zero_le _, Nat.zero_le _⟩ rfl (Nat.le_of_ble_eq_true rfl) (c_X7_isBetween  eq1) ?_
  refine jn (P := fun q => V D cA dm ad A 2 p l e ({ frames := 1, cells := 0, slots := 0, locals := 22 }) s m args below meth c 0 0 (MQ below (gQ D cA dm ad out.2 (some (.int out.1)) A) args s 0 0 A) S 20 [(0, .ref (ad 7 0 0)), (1, .int p1)] [.int q, .ref (ad 7 0 0)]) hs (fun q2 hs => ?_) (fun J20 hs => ?_)
  · refine V_put X dX7_paper_20 f_X7_54 (gm7 hM) rfl (Nat.le_of_ble_eq_true rfl) rfl rfl rfl (fun Z3 eZ3 => ?_)
    replace hs := sv_some hs Z3 eZ3
    clear eZ3
    refine V_aload_n X dX7_paper_23 rfl 0 rfl ?_
    refine V_get X dX7_paper_24 r_X7_54 (gm7 hM) rfl rfl ?_
    refine V_if_ne X 40 dX7_paper_27 (by decide) (fun c4 => ?_) (fun c4 => ?_)
    · replace hs := if_f hs c4
      refine V_iconst X (0 : Int32) dX7_paper_40 (by decide) ?_
      obtain rfl := Option.some.inj hs; exact V_zret X hr nch0 dX7_paper_41
    · replace hs := if_t hs c4
      refine V_aload_n X dX7_paper_30 rfl 0 rfl ?_
      refine V_get X dX7_paper_31 r_X7_48 (gm7 hM) rfl rfl ?_
      refine V_iload_n X dX7_paper_34 rfl 1 rfl ?_
      obtain ⟨h5, hs⟩ := gd_some hs
      refine V_iald X dX7_paper_35 (gm35 hM) rfl h5 ?_
      refine V_i2c X dX7_paper_36 ?_
      refine V_goto X 41 dX7_paper_37 (by decide) ?_
      obtain ⟨h6, hs⟩ := gd_some hs
      obtain rfl := Option.some.inj hs; exact V_zret X hr h6 dX7_paper_41
  · refine V_if_eq X 19 dX7_paper_12 (by decide) (fun c7 => ?_) (fun c7 => ?_)
    · replace hs := if_tB hs c7
      refine V_iconst X (1 : Int32) dX7_paper_19 (by decide) ?_
      exact J20 _ (bs_some hs)
    · replace hs := if_fB hs c7
      refine V_iconst X (0 : Int32) dX7_paper_15 (by decide) ?_
      refine V_goto X 20 dX7_paper_16 (by decide) ?_
      exact J20 _ (bs_some hs)
