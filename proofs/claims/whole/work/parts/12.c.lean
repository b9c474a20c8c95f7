def s_X3_skip (i : Nat) (p1 : Int32) (S : S4) : Option (Int32 × S4) := ((if (S 3 0 i 3) ≤ (S 3 0 i 1) then some (0 : Int32) else gd (inb (S 3 0 i 1) 80) ((if (S 23 0 0 (S 3 0 i 1).toNatClampNeg) = p1 then some (1 : Int32) else some (0 : Int32))))).bind fun q1 => (if q1 = 0 then gd (isB q1) (some (q1, S)) else sv (u4 S 3 0 i 1 ((S 3 0 i 1) + (1 : Int32))) fun Z4 => gd (isB q1) (some (q1, Z4)))
set_option maxRecDepth 100000 in
set_option maxHeartbeats 4000000 in
theorem c_X3_skip {l : Launch} {D : va_G} {cA : Nat → ClassId} {dm : Dm} {ad : Ad} {S : S4} {i : Nat} {p1 : Int32} (hi : DR dm i) {out : (Int32 × S4)} (hs : s_X3_skip i p1 S = some out) : Ct D cA dm ad l yX3_skip cX3_skip 3 (some .boolean) 0 0 S [.ref (ad 3 0 i), .int p1] (some (.int out.1)) out.2 := by
  refine Ct.of (by decide +kernel) (Nat.le_of_ble_eq_true rfl) [(0, .ref (ad 3 0 i)), (1, .int p1)] rfl (fun p e s m args below meth c A X hr => ?_)
  unfold s_X3_skip at hs
  refine V_aload_n X dX3_skip_0 rfl 0 rfl ?_
  refine V_get X dX3_skip_1 r_X3_57 (gm3 hi) rfl rfl ?_
  refine V_aload_n X dX3_skip_4 rfl 0 rfl ?_
  refine V_get X dX3_skip_5 r_X3_28 (gm3 hi) rfl rfl ?_
  refine jn (P := fun q => V D cA dm ad A 3 p l e ({ frames := 0, cells := 0, slots := 0, locals := 0 }) s m args below meth c 0 0 (MQ below (gQ D cA dm ad out.2 (some (.int out.1)) A) args s 0 0 A) S 29 [(0, .ref (ad 3 0 i)), (1, .int p1)] [.int q]) hs (fun q1 hs => ?_) (fun J29 hs => ?_)
  · refine V_istore_n X dX3_skip_29 rfl [(2, .int q1), (0, .ref (ad 3 0 i)), (1, .int p1)] (by decide) rfl ?_
    refine V_iload_n X dX3_skip_30 rfl 0 rfl ?_
    refine V_if_eq X 44 dX3_skip_31 (by decide) (fun c2 => ?_) (fun c2 => ?_)
    · replace hs := if_t hs c2
      refine V_iload_n X dX3_skip_44 rfl 0 rfl ?_
      obtain ⟨h3, hs⟩ := gd_some hs
      obtain rfl := Option.some.inj hs; exact V_zret X hr (bnar h3) dX3_skip_45
    · replace hs := if_f hs c2
      refine V_aload_n X dX3_skip_34 rfl 1 rfl ?_
      refine V_dup X dX3_skip_35 rfl ?_
      refine V_get X dX3_skip_36 r_X3_57 (gm3 hi) rfl rfl ?_
      refine V_iconst X (1 : Int32) dX3_skip_39 (by decide) ?_
      refine V_iadd X dX3_skip_40 ?_
      refine V_put X dX3_skip_41 f_X3_57 (gm3 hi) rfl (Nat.le_of_ble_eq_true rfl) rfl rfl rfl (fun Z4 eZ4 => ?_)
      replace hs := sv_some hs Z4 eZ4
      clear eZ4
      refine V_iload_n X dX3_skip_44 rfl 0 rfl ?_
      obtain ⟨h5, hs⟩ := gd_some hs
      obtain rfl := Option.some.inj hs; exact V_zret X hr (bnar h5) dX3_skip_45
  · refine V_icmp_ge X 28 dX3_skip_8 (by decide) (fun c6 => ?_) (fun c6 => ?_)
    · replace hs := if_tB hs c6
      refine V_iconst X (0 : Int32) dX3_skip_28 (by decide) ?_
      exact J29 _ (bs_some hs)
    · replace hs := if_fB hs c6
      refine V_aload_n X dX3_skip_11 rfl 0 rfl ?_
      refine V_get X dX3_skip_12 r_X3_18 (gm3 hi) rfl rfl ?_
      refine V_aload_n X dX3_skip_15 rfl 0 rfl ?_
      refine V_get X dX3_skip_16 r_X3_57 (gm3 hi) rfl rfl ?_
      obtain ⟨h7, hs⟩ := gd_someB hs
      refine V_cald X dX3_skip_19 hi.2.2 rfl h7 ?_
      refine V_iload_n X dX3_skip_20 rfl 1 rfl ?_
      refine V_icmp_ne X 28 dX3_skip_21 (by decide) (fun c8 => ?_) (fun c8 => ?_)
      · replace hs := if_fB hs c8
        refine V_iconst X (0 : Int32) dX3_skip_28 (by decide) ?_
        exact J29 _ (bs_some hs)
      · replace hs := if_tB hs c8
        refine V_iconst X (1 : Int32) dX3_skip_24 (by decide) ?_
        refine V_goto X 29 dX3_skip_25 (by decide) ?_
        exact J29 _ (bs_some hs)

def s_X3_nextDigit (i : Nat) (p1 : Int32) (S : S4) : Option Int32 := ((if (S 3 0 i 3) ≤ (S 3 0 i 1) then some (-1 : Int32) else gd (inb (S 3 0 i 1) 80) (some ((S 23 0 0 (S 3 0 i 1).toNatClampNeg) - (48 : Int32))))).bind fun q1 => (if q1 < 0 then some (-1 : Int32) else (if p1 < q1 then some (-1 : Int32) else some q1))
set_option maxRecDepth 100000 in
set_option maxHeartbeats 4000000 in
theorem c_X3_nextDigit {l : Launch} {D : va_G} {cA : Nat → ClassId} {dm : Dm} {ad : Ad} {S : S4} {i : Nat} {p1 : Int32} (hi : DR dm i) {out : Int32} (hs : s_X3_nextDigit i p1 S = some out) : Ct D cA dm ad l yX3_nextDigit cX3_nextDigit 3 (some .int) 0 0 S [.ref (ad 3 0 i), .int p1] (some (.int out)) S := by
  refine Ct.of (by decide +kernel) (Nat.le_of_ble_eq_true rfl) [(0, .ref (ad 3 0 i)), (1, .int p1)] rfl (fun p e s m args below meth c A X hr => ?_)
  unfold s_X3_nextDigit at hs
  refine V_aload_n X dX3_nextDigit_0 rfl 0 rfl ?_
  refine V_get X dX3_nextDigit_1 r_X3_57 (gm3 hi) rfl rfl ?_
  refine V_aload_n X dX3_nextDigit_4 rfl 0 rfl ?_
  refine V_get X dX3_nextDigit_5 r_X3_28 (gm3 hi) rfl rfl ?_
  refine jn (P := fun q => V D cA dm ad A 3 p l e ({ frames := 0, cells := 0, slots := 0, locals := 0 }) s m args below meth c 0 0 (MQ below (gQ D cA dm ad S (some (.int out)) A) args s 0 0 A) S 27 [(0, .ref (ad 3 0 i)), (1, .int p1)] [.int q]) hs (fun q1 hs => ?_) (fun J27 hs => ?_)
  · refine V_istore_n X dX3_nextDigit_27 rfl [(2, .int q1), (0, .ref (ad 3 0 i)), (1, .int p1)] (by decide) rfl ?_
    refine V_iload_n X dX3_nextDigit_28 rfl 0 rfl ?_
    refine V_if_lt X 41 dX3_nextDigit_29 (by decide) (fun c2 => ?_) (fun c2 => ?_)
    · replace hs := if_t hs c2
      refine V_iconst X (-1 : Int32) dX3_nextDigit_41 (by decide) ?_
      obtain rfl := Option.some.inj hs; exact V_iret X hr dX3_nextDigit_42
    · replace hs := if_f hs c2
      refine V_iload_n X dX3_nextDigit_32 rfl 0 rfl ?_
      refine V_iload_n X dX3_nextDigit_33 rfl 2 rfl ?_
      refine V_icmp_gt X 41 dX3_nextDigit_34 (by decide) (fun c3 => ?_) (fun c3 => ?_)
      · replace hs := if_t hs c3
        refine V_iconst X (-1 : Int32) dX3_nextDigit_41 (by decide) ?_
        obtain rfl := Option.some.inj hs; exact V_iret X hr dX3_nextDigit_42
      · replace hs := if_f hs c3
        refine V_iload_n X dX3_nextDigit_37 rfl 0 rfl ?_
        refine V_goto X 42 dX3_nextDigit_38 (by decide) ?_
        obtain rfl := Option.some.inj hs; exact V_iret X hr dX3_nextDigit_42
  · refine V_icmp_ge X 26 dX3_nextDigit_8 (by decide) (fun c4 => ?_) (fun c4 => ?_)
    · replace hs := if_tB hs c4
      refine V_iconst X (-1 : Int32) dX3_nextDigit_26 (by decide) ?_
      exact J27 _ (bs_some hs)
    · replace hs := if_fB hs c4
      refine V_aload_n X dX3_nextDigit_11 rfl 0 rfl ?_
      refine V_get X dX3_nextDigit_12 r_X3_18 (gm3 hi) rfl rfl ?_
      refine V_aload_n X dX3_nextDigit_15 rfl 0 rfl ?_
      refine V_get X dX3_nextDigit_16 r_X3_57 (gm3 hi) rfl rfl ?_
      obtain ⟨h5, hs⟩ := gd_someB hs
      refine V_cald X dX3_nextDigit_19 hi.2.2 rfl h5 ?_
      refine V_bipush X (48 : Int32) dX3_nextDigit_20 (by decide) ?_
      refine V_isub X dX3_nextDigit_22 ?_
      refine V_goto X 27 dX3_nextDigit_23 (by decide) ?_
      exact J27 _ (bs_some hs)

def s_X3_readDigit (i : Nat) (p1 : Int32) (S : S4) : Option (Int32 × S4) := (s_X3_nextDigit i p1 S).bind fun q1 => (if q1 = (-1 : Int32) then some (q1, S) else sv (u4 S 3 0 i 1 ((S 3 0 i 1) + (1 : Int32))) fun Z3 => some (q1, Z3))
set_option maxRecDepth 100000 in
set_option maxHeartbeats 4000000 in
theorem c_X3_readDigit {l : Launch} {D : va_G} {cA : Nat → ClassId} {dm : Dm} {ad : Ad} {S : S4} {i : Nat} {p1 : Int32} (hi : DR dm i) {out : (Int32 × S4)} (hs : s_X3_readDigit i p1 S = some out) : Ct D cA dm ad l yX3_readDigit cX3_readDigit 3 (some .int) 1 22 S [.ref (ad 3 0 i), .int p1] (some (.int out.1)) out.2 := by
  refine Ct.of (by decide +kernel) (Nat.le_of_ble_eq_true rfl) [(0, .ref (ad 3 0 i)), (1, .int p1)] rfl (fun p e s m args below meth c A X hr => ?_)
  unfold s_X3_readDigit at hs
  refine V_aload_n X dX3_readDigit_0 rfl 0 rfl ?_
  refine V_iload_n X dX3_readDigit_1 rfl 1 rfl ?_
  obtain ⟨q1, eq1, hs⟩ := bd_some hs
  refine V_callVs X [.int p1] dX3_readDigit_2 m_X3_70 v_X3_nextDigit ⟨Nat.le_of_ble_eq_true rfl, Nat.le_of_ble_eq_true rfl⟩ ⟨Nat.zero_le _, Nat.zero_le _⟩ rfl (Nat.le_of_ble_eq_true rfl) (gm3 hi) rfl cl3 (c_X3_nextDigit hi eq1) ?_
  refine V_istore_n X dX3_readDigit_5 rfl [(2, .int q1), (0, .ref (ad 3 0 i)), (1, .int p1)] (by decide) rfl ?_
  refine V_iload_n X dX3_readDigit_6 rfl 0 rfl ?_
  refine V_iconst X (-1 : Int32) dX3_readDigit_7 (by decide) ?_
  refine V_icmp_eq X 21 dX3_readDigit_8 (by decide) (fun c2 => ?_) (fun c2 => ?_)
  · replace hs := if_t hs c2
    refine V_iload_n X dX3_readDigit_21 rfl 0 rfl ?_
    obtain rfl := Option.some.inj hs; exact V_iret X hr dX3_readDigit_22
  · replace hs := if_f hs c2
    refine V_aload_n X dX3_readDigit_11 rfl 1 rfl ?_
    refine V_dup X dX3_readDigit_12 rfl ?_
    refine V_get X dX3_readDigit_13 r_X3_57 (gm3 hi) rfl rfl ?_
    refine V_iconst X (1 : Int32) dX3_readDigit_16 (by decide) ?_
    refine V_iadd X dX3_readDigit_17 ?_
    refine V_put X dX3_readDigit_18 f_X3_57 (gm3 hi) rfl (Nat.le_of_ble_eq_true rfl) rfl rfl rfl (fun Z3 eZ3 => ?_)
    replace hs := sv_some hs Z3 eZ3
    clear eZ3
    refine V_iload_n X dX3_readDigit_21 rfl 0 rfl ?_
    obtain rfl := Option.some.inj hs; exact V_iret X hr dX3_readDigit_22

def s_X3_readNumber_L16 (fu : Nat) (i : Nat) : Nat → Int32 → Int32 → S4 → Option (Int32 × S4)
  | 0, _, _, _ => none
  | f16+1, v1, v2, Z3 => (if (4 : Int32) ≤ v2 then some (v1, Z3) else (s_X3_readDigit i (9 : Int32) Z3).bind fun q5 => (if q5.1 = (-1 : Int32) then some (v1, q5.2) else s_X3_readNumber_L16 fu i f16 ((v1 * (10 : Int32)) + q5.1) (v2 + (1 : Int32)) q5.2))
def s_X3_readNumber (fu : Nat) (i : Nat) (S : S4) : Option (Int32 × S4) := (s_X3_readDigit i (9 : Int32) S).bind fun q1 => (if q1.1 = (-1 : Int32) then some ((-1 : Int32), q1.2) else s_X3_readNumber_L16 fu i fu q1.1 (1 : Int32) q1.2)
set_option maxRecDepth 100000 in
set_option maxHeartbeats 4000000 in
theorem c_X3_readNumber {l : Launch} {D : va_G} {cA : Nat → ClassId} {dm : Dm} {ad : Ad} {fu : Nat} {S : S4} {i : Nat} (hi : DR dm i) {out : (Int32 × S4)} (hs : s_X3_readNumber fu i S = some out) : Ct D cA dm ad l yX3_readNumber cX3_readNumber 4 (some .int) 2 44 S [.ref (ad 3 0 i)] (some (.int out.1)) out.2 := by
  refine Ct.of (by decide +kernel) (Nat.le_of_ble_eq_true rfl) [(0, .ref (ad 3 0 i))] rfl (fun p e s m args below meth c A X hr => ?_)
  unfold s_X3_readNumber at hs
  refine V_aload_n X dX3_readNumber_0 rfl 0 rfl ?_
  refine V_bipush X (9 : Int32) dX3_readNumber_1 (by decide) ?_
  obtain ⟨q1, eq1, hs⟩ := bd_some hs
  refine V_callVs X [.int (9 : Int32)] dX3_readNumber_3 m_X3_47 v_X3_readDigit ⟨Nat.le_of_ble_eq_true rfl, Nat.le_of_ble_eq_true rfl⟩ ⟨Nat.zero_le _, Nat.zero_le _⟩ rfl (Nat.le_of_ble_eq_true rfl) (gm3 hi) rfl cl3 (c_X3_readDigit hi eq1) ?_
  refine V_istore_n X dX3_readNumber_6 rfl [(1, .int q1.1), (0, .ref (ad 3 0 i))] (by decide) rfl ?_
  refine V_iload_n X dX3_readNumber_7 rfl 0 rfl ?_
  refine V_iconst X (-1 : Int32) dX3_readNumber_8 (by decide) ?_
  refine V_icmp_ne X 14 dX3_readNumber_9 (by decide) (fun c2 => ?_) (fun c2 => ?_)
  · replace hs := if_f hs c2
    refine V_iconst X (1 : Int32) dX3_readNumber_14 (by decide) ?_
    refine V_istore_n X dX3_readNumber_15 rfl [(2, .int (1 : Int32)), (1, .int q1.1), (0, .ref (ad 3 0 i))] (by decide) rfl ?_
    have L16 : ∀ (n : Nat) (v1 v2 : Int32) (S1 : S4), s_X3_readNumber_L16 fu i n v1 v2 S1 = some out → V D cA dm ad A 4 p l e ({ frames := 2, cells := 0, slots := 0, locals := 44 }) s m args below meth c 0 0 (MQ below (gQ D cA dm ad out.2 (some (.int out.1)) A) args s 0 0 A) S1 16 [(0, .ref (ad 3 0 i)), (1, .int v1), (2, .int v2)] [] := by
      intro n
      induction n with
      | zero => intro v1 v2 S1 hs; rw [s_X3_readNumber_L16] at hs; cases hs
      | succ f16 ih16 =>
        intro v1 v2 Z3 hs
        rw [s_X3_readNumber_L16] at hs
        refine V_iload_n X dX3_readNumber_16 rfl 2 rfl ?_
        refine V_iconst X (4 : Int32) dX3_readNumber_17 (by decide) ?_
        refine V_icmp_ge X 48 dX3_readNumber_18 (by decide) (fun c4 => ?_) (fun c4 => ?_)
        · replace hs := if_t hs c4
          refine V_iload_n X dX3_readNumber_48 rfl 1 rfl ?_
          obtain rfl := Option.some.inj hs; exact V_iret X hr dX3_readNumber_49
        · replace hs := if_f hs c4
          refine V_aload_n X dX3_readNumber_21 rfl 0 rfl ?_
          refine V_bipush X (9 : Int32) dX3_readNumber_22 (by decide) ?_
          obtain ⟨q5, eq5, hs⟩ := bd_some hs
          refine V_callVs X [.int (9 : Int32)] dX3_readNumber_24 m_X3_47 v_X3_readDigit ⟨Nat.le_of_ble_eq_true rfl, Nat.le_of_ble_eq_true rfl⟩ ⟨Nat.zero_le _, Nat.zero_le _⟩ rfl (Nat.le_of_ble_eq_true rfl) (gm3 hi) rfl cl3 (c_X3_readDigit hi eq5) ?_
          refine V_istore_n X dX3_readNumber_27 rfl [(3, .int q5.1), (0, .ref (ad 3 0 i)), (1, .int v1), (2, .int v2)] (by decide) rfl ?_
          refine V_iload_n X dX3_readNumber_28 rfl 0 rfl ?_
          refine V_iconst X (-1 : Int32) dX3_readNumber_29 (by decide) ?_
          refine V_icmp_ne X 35 dX3_readNumber_30 (by decide) (fun c6 => ?_) (fun c6 => ?_)
          · replace hs := if_f hs c6
            refine V_iload_n X dX3_readNumber_35 rfl 2 rfl ?_
            refine V_bipush X (10 : Int32) dX3_readNumber_36 (by decide) ?_
            refine V_imul X dX3_readNumber_38 ?_
            refine V_iload_n X dX3_readNumber_39 rfl 0 rfl ?_
            refine V_iadd X dX3_readNumber_40 ?_
            refine V_istore_n X dX3_readNumber_41 rfl [(1, .int ((v1 * (10 : Int32)) + q5.1)), (3, .int q5.1), (0, .ref (ad 3 0 i)), (2, .int v2)] (by decide) rfl ?_
            refine V_iinc X (v2 + (1 : Int32)) dX3_readNumber_42 3 rfl rfl [(2, .int (v2 + (1 : Int32))), (1, .int ((v1 * (10 : Int32)) + q5.1)), (3, .int q5.1), (0, .ref (ad 3 0 i))] (by decide) rfl ?_
            refine V_goto X 16 dX3_readNumber_45 (by decide) ?_
            refine V_sub [3, 1, 0] rfl ?_
            exact ih16 _ _ _ hs
          · replace hs := if_t hs c6
            refine V_iload_n X dX3_readNumber_33 rfl 2 rfl ?_
            obtain rfl := Option.some.inj hs; exact V_iret X hr dX3_readNumber_34
    refine V_sub [2, 1, 0] rfl ?_
    exact L16 _ _ _ _ hs
  · replace hs := if_t hs c2
    refine V_iconst X (-1 : Int32) dX3_readNumber_12 (by decide) ?_
    obtain rfl := Option.some.inj hs; exact V_iret X hr dX3_readNumber_13

def s_X3_readChutes_L4 (fu : Nat) (i : Nat) : Nat → Int32 → Int32 → S4 → Option (Int32 × S4)
  | 0, _, _, _ => none
  | f4+1, v1, v2, Z1 => (if (3 : Int32) < v2 then some ((1 : Int32), Z1) else (if v1 = 0 then some ((1 : Int32), Z1) else (s_X3_nextDigit i (7 : Int32) Z1).bind fun q4 => (if q4 = (-1 : Int32) then some ((0 : Int32), Z1) else (s_X2_hasChute fu i ((Z1 2 0 i 1) - (1 : Int32)) q4 Z1).bind fun q6 => (if q6 = 0 then sv (u4 Z1 3 0 i 1 ((Z1 3 0 i 1) + (1 : Int32))) fun Z8 => (s_X2_addChuteToLatestRule i q4 Z8).bind fun Z10 => (if (3 : Int32) ≤ v2 then s_X3_readChutes_L4 fu i f4 (0 : Int32) (v2 + (1 : Int32)) Z10 else (s_X3_skip i (44 : Int32) Z10).bind fun q12 => ((if q12.1 = 0 then some (0 : Int32) else some (1 : Int32))).bind fun q13 => s_X3_readChutes_L4 fu i f4 q13 (v2 + (1 : Int32)) q12.2) else some ((0 : Int32), Z1)))))
def s_X3_readChutes (fu : Nat) (i : Nat) (S : S4) : Option (Int32 × S4) := s_X3_readChutes_L4 fu i fu (1 : Int32) (1 : Int32) S
set_option maxRecDepth 100000 in
set_option maxHeartbeats 4000000 in
theorem c_X3_readChutes {l : Launch} {D : va_G} {cA : Nat → ClassId} {dm : Dm} {ad : Ad} {fu : Nat} {S : S4} {i : Nat} (hi : DR dm i) {out : (Int32 × S4)} (hs : s_X3_readChutes fu i S = some out) : Ct D cA dm ad l yX3_readChutes cX3_readChutes 4 (some .boolean) 2 45 S [.ref (ad 3 0 i)] (some (.int out.1)) out.2 := by
  refine Ct.of (by decide +kernel) (Nat.le_of_ble_eq_true rfl) [(0, .ref (ad 3 0 i))] rfl (fun p e s m args below meth c A X hr => ?_)
  unfold s_X3_readChutes at hs
  refine V_iconst X (1 : Int32) dX3_readChutes_0 (by decide) ?_
  refine V_istore_n X dX3_readChutes_1 rfl [(1, .int (1 : Int32)), (0, .ref (ad 3 0 i))] (by decide) rfl ?_
  refine V_iconst X (1 : Int32) dX3_readChutes_2 (by decide) ?_
  refine V_istore_n X dX3_readChutes_3 rfl [(2, .int (1 : Int32)), (1, .int (1 : Int32)), (0, .ref (ad 3 0 i))] (by decide) rfl ?_
  have L4 : ∀ (n : Nat) (v1 v2 : Int32) (S1 : S4), s_X3_readChutes_L4 fu i n v1 v2 S1 = some out → V D cA dm ad A 4 p l e ({ frames := 2, cells := 0, slots := 0, locals := 45 }) s m args below meth c 0 0 (MQ below (gQ D cA dm ad out.2 (some (.int out.1)) A) args s 0 0 A) S1 4 [(0, .ref (ad 3 0 i)), (1, .int v1), (2, .int v2)] [] := by
    intro n
    induction n with
    | zero => intro v1 v2 S1 hs; rw [s_X3_readChutes_L4] at hs; cases hs
    | succ f4 ih4 =>
      intro v1 v2 Z1 hs
      rw [s_X3_readChutes_L4] at hs
      refine V_iload_n X dX3_readChutes_4 rfl 2 rfl ?_
      refine V_iconst X (3 : Int32) dX3_readChutes_5 (by decide) ?_
      refine V_icmp_gt X 91 dX3_readChutes_6 (by decide) (fun c2 => ?_) (fun c2 => ?_)
      · replace hs := if_t hs c2
        refine V_iconst X (1 : Int32) dX3_readChutes_91 (by decide) ?_
        obtain rfl := Option.some.inj hs; exact V_zret X hr nb1 dX3_readChutes_92
      · replace hs := if_f hs c2
        refine V_iload_n X dX3_readChutes_9 rfl 1 rfl ?_
        refine V_if_eq X 91 dX3_readChutes_10 (by decide) (fun c3 => ?_) (fun c3 => ?_)
        · replace hs := if_t hs c3
          refine V_iconst X (1 : Int32) dX3_readChutes_91 (by decide) ?_
          obtain rfl := Option.some.inj hs; exact V_zret X hr nb1 dX3_readChutes_92
        · replace hs := if_f hs c3
          refine V_aload_n X dX3_readChutes_13 rfl 0 rfl ?_
          refine V_bipush X (7 : Int32) dX3_readChutes_14 (by decide) ?_
          obtain ⟨q4, eq4, hs⟩ := bd_some hs
          refine V_callVs X [.int (7 : Int32)] dX3_readChutes_16 m_X3_70 v_X3_nextDigit ⟨Nat.le_of_ble_eq_true rfl, Nat.le_of_ble_eq_true rfl⟩ ⟨Nat.zero_le _, Nat.zero_le _⟩ rfl (Nat.le_of_ble_eq_true rfl) (gm3 hi) rfl cl3 (c_X3_nextDigit hi eq4) ?_
          refine V_istore_n X dX3_readChutes_19 rfl [(3, .int q4), (0, .ref (ad 3 0 i)), (1, .int v1), (2, .int v2)] (by decide) rfl ?_
          refine V_iload_n X dX3_readChutes_20 rfl 0 rfl ?_
          refine V_iconst X (-1 : Int32) dX3_readChutes_21 (by decide) ?_
          refine V_icmp_eq X 45 dX3_readChutes_22 (by decide) (fun c5 => ?_) (fun c5 => ?_)
          · replace hs := if_t hs c5
            refine V_iconst X (0 : Int32) dX3_readChutes_45 (by decide) ?_
            obtain rfl := Option.some.inj hs; exact V_zret X hr nb0 dX3_readChutes_46
          · replace hs := if_f hs c5
            refine V_aload_n X dX3_readChutes_25 rfl 1 rfl ?_
            refine V_get X dX3_readChutes_26 r_X3_12 (gm3 hi) rfl rfl ?_
            refine V_aload_n X dX3_readChutes_29 rfl 1 rfl ?_
            refine V_get X dX3_readChutes_30 r_X3_12 (gm3 hi) rfl rfl ?_
            refine V_get X dX3_readChutes_33 r_X3_73 (gm2 hi.1) rfl rfl ?_
            refine V_iconst X (1 : Int32) dX3_readChutes_36 (by decide) ?_
            refine V_isub X dX3_readChutes_37 ?_
            refine V_iload_n X dX3_readChutes_38 rfl 0 rfl ?_
            obtain ⟨q6, eq6, hs⟩ := bd_some hs
            refine V_callVs X [.int ((Z1 2 0 i 1) - (1 : Int32)), .int q4] dX3_readChutes_39 m_X3_76 v_X2_hasChute ⟨Nat.le_of_ble_eq_true rfl, Nat.le_of_ble_eq_true rfl⟩ ⟨Nat.zero_le _, Nat.zero_le _⟩ rfl (Nat.le_of_ble_eq_true rfl) (gm2 hi.1) rfl cl2 (c_X2_hasChute hi.1 eq6) ?_
            refine V_if_eq X 47 dX3_readChutes_42 (by decide) (fun c7 => ?_) (fun c7 => ?_)
            · replace hs := if_t hs c7
              refine V_aload_n X dX3_readChutes_47 rfl 1 rfl ?_
              refine V_dup X dX3_readChutes_48 rfl ?_
              refine V_get X dX3_readChutes_49 r_X3_57 (gm3 hi) rfl rfl ?_
              refine V_iconst X (1 : Int32) dX3_readChutes_52 (by decide) ?_
              refine V_iadd X dX3_readChutes_53 ?_
              refine V_put X dX3_readChutes_54 f_X3_57 (gm3 hi) rfl (Nat.le_of_ble_eq_true rfl) rfl rfl rfl (fun Z8 eZ8 => ?_)
              replace hs := sv_some hs Z8 eZ8
              clear eZ8
              refine V_aload_n X dX3_readChutes_57 rfl 1 rfl ?_
              refine V_get X dX3_readChutes_58 r_X3_12 (gm3 hi) rfl rfl ?_
              refine V_iload_n X dX3_readChutes_61 rfl 0 rfl ?_
              obtain ⟨Z10, eZ10, hs⟩ := bd_some hs
              refine V_callVv X [.int q4] dX3_readChutes_62 m_X3_80 v_X2_addChuteToLatestRule ⟨Nat.le_of_ble_eq_true rfl, Nat.le_of_ble_eq_true rfl⟩ ⟨Nat.zero_le _, Nat.zero_le _⟩ rfl (Nat.le_of_ble_eq_true rfl) (gm2 hi.1) rfl cl2 (c_X2_addChuteToLatestRule hi.1 eZ10) ?_
              refine V_iload_n X dX3_readChutes_65 rfl 3 rfl ?_
              refine V_iconst X (3 : Int32) dX3_readChutes_66 (by decide) ?_
              refine V_icmp_ge X 83 dX3_readChutes_67 (by decide) (fun c11 => ?_) (fun c11 => ?_)
              · replace hs := if_t hs c11
                refine V_iconst X (0 : Int32) dX3_readChutes_83 (by decide) ?_
                refine V_istore_n X dX3_readChutes_84 rfl [(1, .int (0 : Int32)), (3, .int q4), (0, .ref (ad 3 0 i)), (2, .int v2)] (by decide) rfl ?_
                refine V_iinc X (v2 + (1 : Int32)) dX3_readChutes_85 3 rfl rfl [(2, .int (v2 + (1 : Int32))), (1, .int (0 : Int32)), (3, .int q4), (0, .ref (ad 3 0 i))] (by decide) rfl ?_
                refine V_goto X 4 dX3_readChutes_88 (by decide) ?_
                refine V_sub [3, 1, 0] rfl ?_
                exact ih4 _ _ _ hs
              · replace hs := if_f hs c11
                refine V_aload_n X dX3_readChutes_70 rfl 1 rfl ?_
                refine V_bipush X (44 : Int32) dX3_readChutes_71 (by decide) ?_
                obtain ⟨q12, eq12, hs⟩ := bd_some hs
                refine V_callVs X [.int (44 : Int32)] dX3_readChutes_73 m_X3_32 v_X3_skip ⟨Nat.le_of_ble_eq_true rfl, Nat.le_of_ble_eq_true rfl⟩ ⟨Nat.zero_le _, Nat.zero_le _⟩ rfl (Nat.le_of_ble_eq_true rfl) (gm3 hi) rfl cl3 (c_X3_skip hi eq12) ?_
                refine jn (P := fun q => V D cA dm ad A 4 p l e ({ frames := 2, cells := 0, slots := 0, locals := 45 }) s m args below meth c 0 0 (MQ below (gQ D cA dm ad out.2 (some (.int out.1)) A) args s 0 0 A) q12.2 84 [(3, .int q4), (0, .ref (ad 3 0 i)), (1, .int v1), (2, .int v2)] [.int q]) hs (fun q13 hs => ?_) (fun J84 hs => ?_)
                · refine V_istore_n X dX3_readChutes_84 rfl [(1, .int q13), (3, .int q4), (0, .ref (ad 3 0 i)), (2, .int v2)] (by decide) rfl ?_
                  refine V_iinc X (v2 + (1 : Int32)) dX3_readChutes_85 3 rfl rfl [(2, .int (v2 + (1 : Int32))), (1, .int q13), (3, .int q4), (0, .ref (ad 3 0 i))] (by decide) rfl ?_
                  refine V_goto X 4 dX3_readChutes_88 (by decide) ?_
                  refine V_sub [3, 1, 0] rfl ?_
                  exact ih4 _ _ _ hs
                · refine V_if_eq X 83 dX3_readChutes_76 (by decide) (fun c14 => ?_) (fun c14 => ?_)
                  · replace hs := if_tB hs c14
                    refine V_iconst X (0 : Int32) dX3_readChutes_83 (by decide) ?_
                    exact J84 _ (bs_some hs)
                  · replace hs := if_fB hs c14
                    refine V_iconst X (1 : Int32) dX3_readChutes_79 (by decide) ?_
                    refine V_goto X 84 dX3_readChutes_80 (by decide) ?_
                    exact J84 _ (bs_some hs)
            · replace hs := if_f hs c7
              refine V_iconst X (0 : Int32) dX3_readChutes_45 (by decide) ?_
              obtain rfl := Option.some.inj hs; exact V_zret X hr nb0 dX3_readChutes_46
  refine V_sub [2, 1, 0] rfl ?_
  exact L4 _ _ _ _ hs

def s_X3_readRule (fu : Nat) (i : Nat) (S : S4) : Option (Int32 × S4) := (s_X3_readNumber fu i S).bind fun q1 => (if q1.1 = (-1 : Int32) then some ((0 : Int32), q1.2) else (s_X3_skip i (45 : Int32) q1.2).bind fun q3 => (if q3.1 = 0 then (if q1.1 = (-1 : Int32) then some ((0 : Int32), q3.2) else (s_X3_skip i (61 : Int32) q3.2).bind fun q6 => (if q6.1 = 0 then some ((0 : Int32), q6.2) else (s_X2_addRule i q1.1 q1.1 q6.2).bind fun Z9 => (s_X3_readChutes fu i Z9).bind fun q10 => gd (isB q10.1) (some (q10.1, q10.2)))) else (s_X3_readNumber fu i q3.2).bind fun q12 => (if q12.1 = (-1 : Int32) then some ((0 : Int32), q12.2) else (s_X3_skip i (61 : Int32) q12.2).bind fun q14 => (if q14.1 = 0 then some ((0 : Int32), q14.2) else (s_X2_addRule i q1.1 q12.1 q14.2).bind fun Z17 => (s_X3_readChutes fu i Z17).bind fun q18 => gd (isB q18.1) (some (q18.1, q18.2))))))
set_option maxRecDepth 100000 in
set_option maxHeartbeats 4000000 in
theorem c_X3_readRule {l : Launch} {D : va_G} {cA : Nat → ClassId} {dm : Dm} {ad : Ad} {fu : Nat} {S : S4} {i : Nat} (hi : DR dm i) {out : (Int32 × S4)} (hs : s_X3_readRule fu i S = some out) : Ct D cA dm ad l yX3_readRule cX3_readRule 3 (some .boolean) 3 68 S [.ref (ad 3 0 i)] (some (.int out.1)) out.2 := by
  refine Ct.of (by decide +kernel) (Nat.le_of_ble_eq_true rfl) [(0, .ref (ad 3 0 i))] rfl (fun p e s m args below meth c A X hr => ?_)
  unfold s_X3_readRule at hs
  refine V_aload_n X dX3_readRule_0 rfl 0 rfl ?_
  obtain ⟨q1, eq1, hs⟩ := bd_some hs
  refine V_callVs X [] dX3_readRule_1 m_X3_36 v_X3_readNumber ⟨Nat.le_of_ble_eq_true rfl, Nat.le_of_ble_eq_true rfl⟩ ⟨Nat.zero_le _, Nat.zero_le _⟩ rfl (Nat.le_of_ble_eq_true rfl) (gm3 hi) rfl cl3 (c_X3_readNumber hi eq1) ?_
  refine V_istore_n X dX3_readRule_4 rfl [(1, .int q1.1), (0, .ref (ad 3 0 i))] (by decide) rfl ?_
  refine V_iload_n X dX3_readRule_5 rfl 0 rfl ?_
  refine V_iconst X (-1 : Int32) dX3_readRule_6 (by decide) ?_
  refine V_icmp_ne X 12 dX3_readRule_7 (by decide) (fun c2 => ?_) (fun c2 => ?_)
  · replace hs := if_f hs c2
    refine V_aload_n X dX3_readRule_12 rfl 1 rfl ?_
    refine V_bipush X (45 : Int32) dX3_readRule_13 (by decide) ?_
    obtain ⟨q3, eq3, hs⟩ := bd_some hs
    refine V_callVs X [.int (45 : Int32)] dX3_readRule_15 m_X3_32 v_X3_skip ⟨Nat.le_of_ble_eq_true rfl, Nat.le_of_ble_eq_true rfl⟩ ⟨Nat.zero_le _, Nat.zero_le _⟩ rfl (Nat.le_of_ble_eq_true rfl) (gm3 hi) rfl cl3 (c_X3_skip hi eq3) ?_
    refine V_if_eq X 28 dX3_readRule_18 (by decide) (fun c4 => ?_) (fun c4 => ?_)
    · replace hs := if_t hs c4
      refine V_iload_n X dX3_readRule_28 rfl 0 rfl ?_
      refine V_istore_n X dX3_readRule_29 rfl [(2, .int q1.1), (1, .int q1.1), (0, .ref (ad 3 0 i))] (by decide) rfl ?_
      refine V_iload_n X dX3_readRule_30 rfl 0 rfl ?_
      refine V_iconst X (-1 : Int32) dX3_readRule_31 (by decide) ?_
      refine V_icmp_eq X 44 dX3_readRule_32 (by decide) (fun c5 => ?_) (fun c5 => ?_)
      · replace hs := if_t hs c5
        refine V_iconst X (0 : Int32) dX3_readRule_44 (by decide) ?_
        obtain rfl := Option.some.inj hs; exact V_zret X hr nb0 dX3_readRule_45
      · replace hs := if_f hs c5
        refine V_aload_n X dX3_readRule_35 rfl 2 rfl ?_
        refine V_bipush X (61 : Int32) dX3_readRule_36 (by decide) ?_
        obtain ⟨q6, eq6, hs⟩ := bd_some hs
        refine V_callVs X [.int (61 : Int32)] dX3_readRule_38 m_X3_32 v_X3_skip ⟨Nat.le_of_ble_eq_true rfl, Nat.le_of_ble_eq_true rfl⟩ ⟨Nat.zero_le _, Nat.zero_le _⟩ rfl (Nat.le_of_ble_eq_true rfl) (gm3 hi) rfl cl3 (c_X3_skip hi eq6) ?_
        refine V_if_ne X 46 dX3_readRule_41 (by decide) (fun c7 => ?_) (fun c7 => ?_)
        · replace hs := if_f hs c7
          refine V_aload_n X dX3_readRule_46 rfl 2 rfl ?_
          refine V_get X dX3_readRule_47 r_X3_12 (gm3 hi) rfl rfl ?_
          refine V_iload_n X dX3_readRule_50 rfl 1 rfl ?_
          refine V_iload_n X dX3_readRule_51 rfl 0 rfl ?_
          obtain ⟨Z9, eZ9, hs⟩ := bd_some hs
          refine V_callVv X [.int q1.1, .int q1.1] dX3_readRule_52 m_X3_63 v_X2_addRule ⟨Nat.le_of_ble_eq_true rfl, Nat.le_of_ble_eq_true rfl⟩ ⟨Nat.zero_le _, Nat.zero_le _⟩ rfl (Nat.le_of_ble_eq_true rfl) (gm2 hi.1) rfl cl2 (c_X2_addRule hi.1 eZ9) ?_
          refine V_aload_n X dX3_readRule_55 rfl 2 rfl ?_
          obtain ⟨q10, eq10, hs⟩ := bd_some hs
          refine V_callVs X [] dX3_readRule_56 m_X3_67 v_X3_readChutes ⟨Nat.le_of_ble_eq_true rfl, Nat.le_of_ble_eq_true rfl⟩ ⟨Nat.zero_le _, Nat.zero_le _⟩ rfl (Nat.le_of_ble_eq_true rfl) (gm3 hi) rfl cl3 (c_X3_readChutes hi eq10) ?_
          obtain ⟨h11, hs⟩ := gd_some hs
          obtain rfl := Option.some.inj hs; exact V_zret X hr (bnar h11) dX3_readRule_59
        · replace hs := if_t hs c7
          refine V_iconst X (0 : Int32) dX3_readRule_44 (by decide) ?_
          obtain rfl := Option.some.inj hs; exact V_zret X hr nb0 dX3_readRule_45
    · replace hs := if_f hs c4
      refine V_aload_n X dX3_readRule_21 rfl 1 rfl ?_
      obtain ⟨q12, eq12, hs⟩ := bd_some hs
      refine V_callVs X [] dX3_readRule_22 m_X3_36 v_X3_readNumber ⟨Nat.le_of_ble_eq_true rfl, Nat.le_of_ble_eq_true rfl⟩ ⟨Nat.zero_le _, Nat.zero_le _⟩ rfl (Nat.le_of_ble_eq_true rfl) (gm3 hi) rfl cl3 (c_X3_readNumber hi eq12) ?_
      refine V_goto X 29 dX3_readRule_25 (by decide) ?_
      refine V_istore_n X dX3_readRule_29 rfl [(2, .int q12.1), (1, .int q1.1), (0, .ref (ad 3 0 i))] (by decide) rfl ?_
      refine V_iload_n X dX3_readRule_30 rfl 0 rfl ?_
      refine V_iconst X (-1 : Int32) dX3_readRule_31 (by decide) ?_
      refine V_icmp_eq X 44 dX3_readRule_32 (by decide) (fun c13 => ?_) (fun c13 => ?_)
      · replace hs := if_t hs c13
        refine V_iconst X (0 : Int32) dX3_readRule_44 (by decide) ?_
        obtain rfl := Option.some.inj hs; exact V_zret X hr nb0 dX3_readRule_45
      · replace hs := if_f hs c13
        refine V_aload_n X dX3_readRule_35 rfl 2 rfl ?_
        refine V_bipush X (61 : Int32) dX3_readRule_36 (by decide) ?_
        obtain ⟨q14, eq14, hs⟩ := bd_some hs
        refine V_callVs X [.int (61 : Int32)] dX3_readRule_38 m_X3_32 v_X3_skip ⟨Nat.le_of_ble_eq_true rfl, Nat.le_of_ble_eq_true rfl⟩ ⟨Nat.zero_le _, Nat.zero_le _⟩ rfl (Nat.le_of_ble_eq_true rfl) (gm3 hi) rfl cl3 (c_X3_skip hi eq14) ?_
        refine V_if_ne X 46 dX3_readRule_41 (by decide) (fun c15 => ?_) (fun c15 => ?_)
        · replace hs := if_f hs c15
          refine V_aload_n X dX3_readRule_46 rfl 2 rfl ?_
          refine V_get X dX3_readRule_47 r_X3_12 (gm3 hi) rfl rfl ?_
          refine V_iload_n X dX3_readRule_50 rfl 1 rfl ?_
          refine V_iload_n X dX3_readRule_51 rfl 0 rfl ?_
          obtain ⟨Z17, eZ17, hs⟩ := bd_some hs
          refine V_callVv X [.int q1.1, .int q12.1] dX3_readRule_52 m_X3_63 v_X2_addRule ⟨Nat.le_of_ble_eq_true rfl, Nat.le_of_ble_eq_true rfl⟩ ⟨Nat.zero_le _, Nat.zero_le _⟩ rfl (Nat.le_of_ble_eq_true rfl) (gm2 hi.1) rfl cl2 (c_X2_addRule hi.1 eZ17) ?_
          refine V_aload_n X dX3_readRule_55 rfl 2 rfl ?_
          obtain ⟨q18, eq18, hs⟩ := bd_some hs
          refine V_callVs X [] dX3_readRule_56 m_X3_67 v_X3_readChutes ⟨Nat.le_of_ble_eq_true rfl, Nat.le_of_ble_eq_true rfl⟩ ⟨Nat.zero_le _, Nat.zero_le _⟩ rfl (Nat.le_of_ble_eq_true rfl) (gm3 hi) rfl cl3 (c_X3_readChutes hi eq18) ?_
          obtain ⟨h19, hs⟩ := gd_some hs
          obtain rfl := Option.some.inj hs; exact V_zret X hr (bnar h19) dX3_readRule_59
        · replace hs := if_t hs c15
          refine V_iconst X (0 : Int32) dX3_readRule_44 (by decide) ?_
          obtain rfl := Option.some.inj hs; exact V_zret X hr nb0 dX3_readRule_45
  · replace hs := if_t hs c2
    refine V_iconst X (0 : Int32) dX3_readRule_10 (by decide) ?_
    obtain rfl := Option.some.inj hs; exact V_zret X hr nb0 dX3_readRule_11

def s_X3_readRules_L4 (fu : Nat) (i : Nat) : Nat → Int32 → Int32 → S4 → Option (Int32 × S4)
  | 0, _, _, _ => none
  | f4+1, v1, v2, Z1 => (if (8 : Int32) < v2 then some ((1 : Int32), Z1) else (if v1 = 0 then some ((1 : Int32), Z1) else (s_X3_readRule fu i Z1).bind fun q4 => (if q4.1 = 0 then some ((0 : Int32), q4.2) else (if (8 : Int32) ≤ v2 then s_X3_readRules_L4 fu i f4 (0 : Int32) (v2 + (1 : Int32)) q4.2 else (s_X3_skip i (59 : Int32) q4.2).bind fun q7 => ((if q7.1 = 0 then some (0 : Int32) else some (1 : Int32))).bind fun q8 => s_X3_readRules_L4 fu i f4 q8 (v2 + (1 : Int32)) q7.2))))
def s_X3_readRules (fu : Nat) (i : Nat) (S : S4) : Option (Int32 × S4) := s_X3_readRules_L4 fu i fu (1 : Int32) (1 : Int32) S
set_option maxRecDepth 100000 in
set_option maxHeartbeats 4000000 in
theorem c_X3_readRules {l : Launch} {D : va_G} {cA : Nat → ClassId} {dm : Dm} {ad : Ad} {fu : Nat} {S : S4} {i : Nat} (hi : DR dm i) {out : (Int32 × S4)} (hs : s_X3_readRules fu i S = some out) : Ct D cA dm ad l yX3_readRules cX3_readRules 3 (some .boolean) 4 90 S [.ref (ad 3 0 i)] (some (.int out.1)) out.2 := by
  refine Ct.of (by decide +kernel) (Nat.le_of_ble_eq_true rfl) [(0, .ref (ad 3 0 i))] rfl (fun p e s m args below meth c A X hr => ?_)
  unfold s_X3_readRules at hs
  refine V_iconst X (1 : Int32) dX3_readRules_0 (by decide) ?_
  refine V_istore_n X dX3_readRules_1 rfl [(1, .int (1 : Int32)), (0, .ref (ad 3 0 i))] (by decide) rfl ?_
  refine V_iconst X (1 : Int32) dX3_readRules_2 (by decide) ?_
  refine V_istore_n X dX3_readRules_3 rfl [(2, .int (1 : Int32)), (1, .int (1 : Int32)), (0, .ref (ad 3 0 i))] (by decide) rfl ?_
  have L4 : ∀ (n : Nat) (v1 v2 : Int32) (S1 : S4), s_X3_readRules_L4 fu i n v1 v2 S1 = some out → V D cA dm ad A 3 p l e ({ frames := 4, cells := 0, slots := 0, locals := 90 }) s m args below meth c 0 0 (MQ below (gQ D cA dm ad out.2 (some (.int out.1)) A) args s 0 0 A) S1 4 [(0, .ref (ad 3 0 i)), (1, .int v1), (2, .int v2)] [] := by
    intro n
    induction n with
    | zero => intro v1 v2 S1 hs; rw [s_X3_readRules_L4] at hs; cases hs
    | succ f4 ih4 =>
      intro v1 v2 Z1 hs
      rw [s_X3_readRules_L4] at hs
      refine V_iload_n X dX3_readRules_4 rfl 2 rfl ?_
      refine V_bipush X (8 : Int32) dX3_readRules_5 (by decide) ?_
      refine V_icmp_gt X 50 dX3_readRules_7 (by decide) (fun c2 => ?_) (fun c2 => ?_)
      · replace hs := if_t hs c2
        refine V_iconst X (1 : Int32) dX3_readRules_50 (by decide) ?_
        obtain rfl := Option.some.inj hs; exact V_zret X hr nb1 dX3_readRules_51
      · replace hs := if_f hs c2
        refine V_iload_n X dX3_readRules_10 rfl 1 rfl ?_
        refine V_if_eq X 50 dX3_readRules_11 (by decide) (fun c3 => ?_) (fun c3 => ?_)
        · replace hs := if_t hs c3
          refine V_iconst X (1 : Int32) dX3_readRules_50 (by decide) ?_
          obtain rfl := Option.some.inj hs; exact V_zret X hr nb1 dX3_readRules_51
        · replace hs := if_f hs c3
          refine V_aload_n X dX3_readRules_14 rfl 0 rfl ?_
          obtain ⟨q4, eq4, hs⟩ := bd_some hs
          refine V_callVs X [] dX3_readRules_15 m_X3_60 v_X3_readRule ⟨Nat.le_of_ble_eq_true rfl, Nat.le_of_ble_eq_true rfl⟩ ⟨Nat.zero_le _, Nat.zero_le _⟩ rfl (Nat.le_of_ble_eq_true rfl) (gm3 hi) rfl cl3 (c_X3_readRule hi eq4) ?_
          refine V_if_ne X 23 dX3_readRules_18 (by decide) (fun c5 => ?_) (fun c5 => ?_)
          · replace hs := if_f hs c5
            refine V_iload_n X dX3_readRules_23 rfl 2 rfl ?_
            refine V_bipush X (8 : Int32) dX3_readRules_24 (by decide) ?_
            refine V_icmp_ge X 42 dX3_readRules_26 (by decide) (fun c6 => ?_) (fun c6 => ?_)
            · replace hs := if_t hs c6
              refine V_iconst X (0 : Int32) dX3_readRules_42 (by decide) ?_
              refine V_istore_n X dX3_readRules_43 rfl [(1, .int (0 : Int32)), (0, .ref (ad 3 0 i)), (2, .int v2)] (by decide) rfl ?_
              refine V_iinc X (v2 + (1 : Int32)) dX3_readRules_44 2 rfl rfl [(2, .int (v2 + (1 : Int32))), (1, .int (0 : Int32)), (0, .ref (ad 3 0 i))] (by decide) rfl ?_
              refine V_goto X 4 dX3_readRules_47 (by decide) ?_
              refine V_sub [2, 1, 0] rfl ?_
              exact ih4 _ _ _ hs
            · replace hs := if_f hs c6
              refine V_aload_n X dX3_readRules_29 rfl 0 rfl ?_
              refine V_bipush X (59 : Int32) dX3_readRules_30 (by decide) ?_
              obtain ⟨q7, eq7, hs⟩ := bd_some hs
              refine V_callVs X [.int (59 : Int32)] dX3_readRules_32 m_X3_32 v_X3_skip ⟨Nat.le_of_ble_eq_true rfl, Nat.le_of_ble_eq_true rfl⟩ ⟨Nat.zero_le _, Nat.zero_le _⟩ rfl (Nat.le_of_ble_eq_true rfl) (gm3 hi) rfl cl3 (c_X3_skip hi eq7) ?_
              refine jn (P := fun q => V D cA dm ad A 3 p l e ({ frames := 4, cells := 0, slots := 0, locals := 90 }) s m args below meth c 0 0 (MQ below (gQ D cA dm ad out.2 (some (.int out.1)) A) args s 0 0 A) q7.2 43 [(0, .ref (ad 3 0 i)), (1, .int v1), (2, .int v2)] [.int q]) hs (fun q8 hs => ?_) (fun J43 hs => ?_)
              · refine V_istore_n X dX3_readRules_43 rfl [(1, .int q8), (0, .ref (ad 3 0 i)), (2, .int v2)] (by decide) rfl ?_
                refine V_iinc X (v2 + (1 : Int32)) dX3_readRules_44 2 rfl rfl [(2, .int (v2 + (1 : Int32))), (1, .int q8), (0, .ref (ad 3 0 i))] (by decide) rfl ?_
                refine V_goto X 4 dX3_readRules_47 (by decide) ?_
                refine V_sub [2, 1, 0] rfl ?_
                exact ih4 _ _ _ hs
              · refine V_if_eq X 42 dX3_readRules_35 (by decide) (fun c9 => ?_) (fun c9 => ?_)
                · replace hs := if_tB hs c9
                  refine V_iconst X (0 : Int32) dX3_readRules_42 (by decide) ?_
                  exact J43 _ (bs_some hs)
                · replace hs := if_fB hs c9
                  refine V_iconst X (1 : Int32) dX3_readRules_38 (by decide) ?_
                  refine V_goto X 43 dX3_readRules_39 (by decide) ?_
                  exact J43 _ (bs_some hs)
          · replace hs := if_t hs c5
            refine V_iconst X (0 : Int32) dX3_readRules_21 (by decide) ?_
            obtain rfl := Option.some.inj hs; exact V_zret X hr nb0 dX3_readRules_22
  refine V_sub [2, 1, 0] rfl ?_
  exact L4 _ _ _ _ hs

def s_X3_readBound (i : Nat) (S : S4) : Option (Int32 × S4) := (s_X3_skip i (42 : Int32) S).bind fun q1 => (if q1.1 = 0 then (if (q1.2 2 0 i 3) = (-1 : Int32) then some ((0 : Int32), q1.2) else some ((1 : Int32), q1.2)) else (s_X3_readDigit i (9 : Int32) q1.2).bind fun q4 => sv (u4 q4.2 2 0 i 3 q4.1) fun Z5 => (if (Z5 2 0 i 3) = (-1 : Int32) then some ((0 : Int32), Z5) else some ((1 : Int32), Z5)))
set_option maxRecDepth 100000 in
set_option maxHeartbeats 4000000 in
theorem c_X3_readBound {l : Launch} {D : va_G} {cA : Nat → ClassId} {dm : Dm} {ad : Ad} {S : S4} {i : Nat} (hi : DR dm i) {out : (Int32 × S4)} (hs : s_X3_readBound i S = some out) : Ct D cA dm ad l yX3_readBound cX3_readBound 1 (some .boolean) 2 44 S [.ref (ad 3 0 i)] (some (.int out.1)) out.2 := by
  refine Ct.of (by decide +kernel) (Nat.le_of_ble_eq_true rfl) [(0, .ref (ad 3 0 i))] rfl (fun p e s m args below meth c A X hr => ?_)
  unfold s_X3_readBound at hs
  refine V_aload_n X dX3_readBound_0 rfl 0 rfl ?_
  refine V_bipush X (42 : Int32) dX3_readBound_1 (by decide) ?_
  obtain ⟨q1, eq1, hs⟩ := bd_some hs
  refine V_callVs X [.int (42 : Int32)] dX3_readBound_3 m_X3_32 v_X3_skip ⟨Nat.le_of_ble_eq_true rfl, Nat.le_of_ble_eq_true rfl⟩ ⟨Nat.zero_le _, Nat.zero_le _⟩ rfl (Nat.le_of_ble_eq_true rfl) (gm3 hi) rfl cl3 (c_X3_skip hi eq1) ?_
  refine V_if_eq X 22 dX3_readBound_6 (by decide) (fun c2 => ?_) (fun c2 => ?_)
  · replace hs := if_t hs c2
    refine V_aload_n X dX3_readBound_22 rfl 0 rfl ?_
    refine V_get X dX3_readBound_23 r_X3_12 (gm3 hi) rfl rfl ?_
    refine V_get X dX3_readBound_26 r_X3_84 (gm2 hi.1) rfl rfl ?_
    refine V_iconst X (-1 : Int32) dX3_readBound_29 (by decide) ?_
    refine V_icmp_eq X 37 dX3_readBound_30 (by decide) (fun c3 => ?_) (fun c3 => ?_)
    · replace hs := if_t hs c3
      refine V_iconst X (0 : Int32) dX3_readBound_37 (by decide) ?_
      obtain rfl := Option.some.inj hs; exact V_zret X hr nb0 dX3_readBound_38
    · replace hs := if_f hs c3
      refine V_iconst X (1 : Int32) dX3_readBound_33 (by decide) ?_
      refine V_goto X 38 dX3_readBound_34 (by decide) ?_
      obtain rfl := Option.some.inj hs; exact V_zret X hr nb1 dX3_readBound_38
  · replace hs := if_f hs c2
    refine V_aload_n X dX3_readBound_9 rfl 0 rfl ?_
    refine V_get X dX3_readBound_10 r_X3_12 (gm3 hi) rfl rfl ?_
    refine V_aload_n X dX3_readBound_13 rfl 0 rfl ?_
    refine V_bipush X (9 : Int32) dX3_readBound_14 (by decide) ?_
    obtain ⟨q4, eq4, hs⟩ := bd_some hs
    refine V_callVs X [.int (9 : Int32)] dX3_readBound_16 m_X3_47 v_X3_readDigit ⟨Nat.le_of_ble_eq_true rfl, Nat.le_of_ble_eq_true rfl⟩ ⟨Nat.zero_le _, Nat.zero_le _⟩ rfl (Nat.le_of_ble_eq_true rfl) (gm3 hi) rfl cl3 (c_X3_readDigit hi eq4) ?_
    refine V_put X dX3_readBound_19 f_X3_84 (gm2 hi.1) rfl (Nat.le_of_ble_eq_true rfl) rfl rfl rfl (fun Z5 eZ5 => ?_)
    replace hs := sv_some hs Z5 eZ5
    clear eZ5
    refine V_aload_n X dX3_readBound_22 rfl 0 rfl ?_
    refine V_get X dX3_readBound_23 r_X3_12 (gm3 hi) rfl rfl ?_
    refine V_get X dX3_readBound_26 r_X3_84 (gm2 hi.1) rfl rfl ?_
    refine V_iconst X (-1 : Int32) dX3_readBound_29 (by decide) ?_
    refine V_icmp_eq X 37 dX3_readBound_30 (by decide) (fun c6 => ?_) (fun c6 => ?_)
    · replace hs := if_t hs c6
      refine V_iconst X (0 : Int32) dX3_readBound_37 (by decide) ?_
      obtain rfl := Option.some.inj hs; exact V_zret X hr nb0 dX3_readBound_38
    · replace hs := if_f hs c6
      refine V_iconst X (1 : Int32) dX3_readBound_33 (by decide) ?_
      refine V_goto X 38 dX3_readBound_34 (by decide) ?_
      obtain rfl := Option.some.inj hs; exact V_zret X hr nb1 dX3_readBound_38

def s_X3_readPlan (fu : Nat) (i : Nat) (S : S4) : Option (Int32 × S4) := (s_X3_skip i (64 : Int32) S).bind fun q1 => (if q1.1 = 0 then some ((0 : Int32), q1.2) else (s_X3_readNumber fu i q1.2).bind fun q3 => sv (u4 q3.2 2 0 i 0 q3.1) fun Z4 => (if (Z4 2 0 i 0) = (-1 : Int32) then some ((0 : Int32), Z4) else (s_X3_skip i (58 : Int32) Z4).bind fun q6 => (if q6.1 = 0 then some ((0 : Int32), q6.2) else (s_X3_readRules fu i q6.2).bind fun q8 => (if q8.1 = 0 then some ((0 : Int32), q8.2) else (s_X3_skip i (120 : Int32) q8.2).bind fun q10 => (if q10.1 = 0 then some ((0 : Int32), q10.2) else (s_X3_readDigit i (7 : Int32) q10.2).bind fun q12 => sv (u4 q12.2 2 0 i 2 q12.1) fun Z13 => (if (Z13 2 0 i 2) = (-1 : Int32) then some ((0 : Int32), Z13) else (s_X3_readBound i Z13).bind fun q15 => (if q15.1 = 0 then some ((0 : Int32), q15.2) else (if (q15.2 3 0 i 1) = (q15.2 3 0 i 3) then some ((1 : Int32), q15.2) else some ((0 : Int32), q15.2)))))))))
set_option maxRecDepth 100000 in
set_option maxHeartbeats 4000000 in
theorem c_X3_readPlan {l : Launch} {D : va_G} {cA : Nat → ClassId} {dm : Dm} {ad : Ad} {fu : Nat} {S : S4} {i : Nat} (hi : DR dm i) {out : (Int32 × S4)} (hs : s_X3_readPlan fu i S = some out) : Ct D cA dm ad l yX3_readPlan cX3_readPlan 1 (some .boolean) 5 112 S [.ref (ad 3 0 i)] (some (.int out.1)) out.2 := by
  refine Ct.of (by decide +kernel) (Nat.le_of_ble_eq_true rfl) [(0, .ref (ad 3 0 i))] rfl (fun p e s m args below meth c A X hr => ?_)
  unfold s_X3_readPlan at hs
  refine V_aload_n X dX3_readPlan_0 rfl 0 rfl ?_
  refine V_bipush X (64 : Int32) dX3_readPlan_1 (by decide) ?_
  obtain ⟨q1, eq1, hs⟩ := bd_some hs
  refine V_callVs X [.int (64 : Int32)] dX3_readPlan_3 m_X3_32 v_X3_skip ⟨Nat.le_of_ble_eq_true rfl, Nat.le_of_ble_eq_true rfl⟩ ⟨Nat.zero_le _, Nat.zero_le _⟩ rfl (Nat.le_of_ble_eq_true rfl) (gm3 hi) rfl cl3 (c_X3_skip hi eq1) ?_
  refine V_if_ne X 11 dX3_readPlan_6 (by decide) (fun c2 => ?_) (fun c2 => ?_)
  · replace hs := if_f hs c2
    refine V_aload_n X dX3_readPlan_11 rfl 0 rfl ?_
    refine V_get X dX3_readPlan_12 r_X3_12 (gm3 hi) rfl rfl ?_
    refine V_aload_n X dX3_readPlan_15 rfl 0 rfl ?_
    obtain ⟨q3, eq3, hs⟩ := bd_some hs
    refine V_callVs X [] dX3_readPlan_16 m_X3_36 v_X3_readNumber ⟨Nat.le_of_ble_eq_true rfl, Nat.le_of_ble_eq_true rfl⟩ ⟨Nat.zero_le _, Nat.zero_le _⟩ rfl (Nat.le_of_ble_eq_true rfl) (gm3 hi) rfl cl3 (c_X3_readNumber hi eq3) ?_
    refine V_put X dX3_readPlan_19 f_X3_40 (gm2 hi.1) rfl (Nat.le_of_ble_eq_true rfl) rfl rfl rfl (fun Z4 eZ4 => ?_)
    replace hs := sv_some hs Z4 eZ4
    clear eZ4
    refine V_aload_n X dX3_readPlan_22 rfl 0 rfl ?_
    refine V_get X dX3_readPlan_23 r_X3_12 (gm3 hi) rfl rfl ?_
    refine V_get X dX3_readPlan_26 r_X3_40 (gm2 hi.1) rfl rfl ?_
    refine V_iconst X (-1 : Int32) dX3_readPlan_29 (by decide) ?_
    refine V_icmp_eq X 58 dX3_readPlan_30 (by decide) (fun c5 => ?_) (fun c5 => ?_)
    · replace hs := if_t hs c5
      refine V_iconst X (0 : Int32) dX3_readPlan_58 (by decide) ?_
      obtain rfl := Option.some.inj hs; exact V_zret X hr nb0 dX3_readPlan_59
    · replace hs := if_f hs c5
      refine V_aload_n X dX3_readPlan_33 rfl 0 rfl ?_
      refine V_bipush X (58 : Int32) dX3_readPlan_34 (by decide) ?_
      obtain ⟨q6, eq6, hs⟩ := bd_some hs
      refine V_callVs X [.int (58 : Int32)] dX3_readPlan_36 m_X3_32 v_X3_skip ⟨Nat.le_of_ble_eq_true rfl, Nat.le_of_ble_eq_true rfl⟩ ⟨Nat.zero_le _, Nat.zero_le _⟩ rfl (Nat.le_of_ble_eq_true rfl) (gm3 hi) rfl cl3 (c_X3_skip hi eq6) ?_
      refine V_if_eq X 58 dX3_readPlan_39 (by decide) (fun c7 => ?_) (fun c7 => ?_)
      · replace hs := if_t hs c7
        refine V_iconst X (0 : Int32) dX3_readPlan_58 (by decide) ?_
        obtain rfl := Option.some.inj hs; exact V_zret X hr nb0 dX3_readPlan_59
      · replace hs := if_f hs c7
        refine V_aload_n X dX3_readPlan_42 rfl 0 rfl ?_
        obtain ⟨q8, eq8, hs⟩ := bd_some hs
        refine V_callVs X [] dX3_readPlan_43 m_X3_43 v_X3_readRules ⟨Nat.le_of_ble_eq_true rfl, Nat.le_of_ble_eq_true rfl⟩ ⟨Nat.zero_le _, Nat.zero_le _⟩ rfl (Nat.le_of_ble_eq_true rfl) (gm3 hi) rfl cl3 (c_X3_readRules hi eq8) ?_
        refine V_if_eq X 58 dX3_readPlan_46 (by decide) (fun c9 => ?_) (fun c9 => ?_)
        · replace hs := if_t hs c9
          refine V_iconst X (0 : Int32) dX3_readPlan_58 (by decide) ?_
          obtain rfl := Option.some.inj hs; exact V_zret X hr nb0 dX3_readPlan_59
        · replace hs := if_f hs c9
          refine V_aload_n X dX3_readPlan_49 rfl 0 rfl ?_
          refine V_bipush X (120 : Int32) dX3_readPlan_50 (by decide) ?_
          obtain ⟨q10, eq10, hs⟩ := bd_some hs
          refine V_callVs X [.int (120 : Int32)] dX3_readPlan_52 m_X3_32 v_X3_skip ⟨Nat.le_of_ble_eq_true rfl, Nat.le_of_ble_eq_true rfl⟩ ⟨Nat.zero_le _, Nat.zero_le _⟩ rfl (Nat.le_of_ble_eq_true rfl) (gm3 hi) rfl cl3 (c_X3_skip hi eq10) ?_
          refine V_if_ne X 60 dX3_readPlan_55 (by decide) (fun c11 => ?_) (fun c11 => ?_)
          · replace hs := if_f hs c11
            refine V_aload_n X dX3_readPlan_60 rfl 0 rfl ?_
            refine V_get X dX3_readPlan_61 r_X3_12 (gm3 hi) rfl rfl ?_
            refine V_aload_n X dX3_readPlan_64 rfl 0 rfl ?_
            refine V_bipush X (7 : Int32) dX3_readPlan_65 (by decide) ?_
            obtain ⟨q12, eq12, hs⟩ := bd_some hs
            refine V_callVs X [.int (7 : Int32)] dX3_readPlan_67 m_X3_47 v_X3_readDigit ⟨Nat.le_of_ble_eq_true rfl, Nat.le_of_ble_eq_true rfl⟩ ⟨Nat.zero_le _, Nat.zero_le _⟩ rfl (Nat.le_of_ble_eq_true rfl) (gm3 hi) rfl cl3 (c_X3_readDigit hi eq12) ?_
            refine V_put X dX3_readPlan_70 f_X3_51 (gm2 hi.1) rfl (Nat.le_of_ble_eq_true rfl) rfl rfl rfl (fun Z13 eZ13 => ?_)
            replace hs := sv_some hs Z13 eZ13
            clear eZ13
            refine V_aload_n X dX3_readPlan_73 rfl 0 rfl ?_
            refine V_get X dX3_readPlan_74 r_X3_12 (gm3 hi) rfl rfl ?_
            refine V_get X dX3_readPlan_77 r_X3_51 (gm2 hi.1) rfl rfl ?_
            refine V_iconst X (-1 : Int32) dX3_readPlan_80 (by decide) ?_
            refine V_icmp_eq X 91 dX3_readPlan_81 (by decide) (fun c14 => ?_) (fun c14 => ?_)
            · replace hs := if_t hs c14
              refine V_iconst X (0 : Int32) dX3_readPlan_91 (by decide) ?_
              obtain rfl := Option.some.inj hs; exact V_zret X hr nb0 dX3_readPlan_92
            · replace hs := if_f hs c14
              refine V_aload_n X dX3_readPlan_84 rfl 0 rfl ?_
              obtain ⟨q15, eq15, hs⟩ := bd_some hs
              refine V_callVs X [] dX3_readPlan_85 m_X3_54 v_X3_readBound ⟨Nat.le_of_ble_eq_true rfl, Nat.le_of_ble_eq_true rfl⟩ ⟨Nat.zero_le _, Nat.zero_le _⟩ rfl (Nat.le_of_ble_eq_true rfl) (gm3 hi) rfl cl3 (c_X3_readBound hi eq15) ?_
              refine V_if_ne X 93 dX3_readPlan_88 (by decide) (fun c16 => ?_) (fun c16 => ?_)
              · replace hs := if_f hs c16
                refine V_aload_n X dX3_readPlan_93 rfl 0 rfl ?_
                refine V_get X dX3_readPlan_94 r_X3_57 (gm3 hi) rfl rfl ?_
                refine V_aload_n X dX3_readPlan_97 rfl 0 rfl ?_
                refine V_get X dX3_readPlan_98 r_X3_28 (gm3 hi) rfl rfl ?_
                refine V_icmp_ne X 108 dX3_readPlan_101 (by decide) (fun c17 => ?_) (fun c17 => ?_)
                · replace hs := if_f hs c17
                  refine V_iconst X (0 : Int32) dX3_readPlan_108 (by decide) ?_
                  obtain rfl := Option.some.inj hs; exact V_zret X hr nb0 dX3_readPlan_109
                · replace hs := if_t hs c17
                  refine V_iconst X (1 : Int32) dX3_readPlan_104 (by decide) ?_
                  refine V_goto X 109 dX3_readPlan_105 (by decide) ?_
                  obtain rfl := Option.some.inj hs; exact V_zret X hr nb1 dX3_readPlan_109
              · replace hs := if_t hs c16
                refine V_iconst X (0 : Int32) dX3_readPlan_91 (by decide) ?_
                obtain rfl := Option.some.inj hs; exact V_zret X hr nb0 dX3_readPlan_92
          · replace hs := if_t hs c11
            refine V_iconst X (0 : Int32) dX3_readPlan_58 (by decide) ?_
            obtain rfl := Option.some.inj hs; exact V_zret X hr nb0 dX3_readPlan_59
  · replace hs := if_t hs c2
    refine V_iconst X (0 : Int32) dX3_readPlan_9 (by decide) ?_
    obtain rfl := Option.some.inj hs; exact V_zret X hr nb0 dX3_readPlan_10
