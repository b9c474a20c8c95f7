/-! a plan's text, written by the class (printed by jw.py) -/
theorem cl8 : ∃ T N, gCl[8]? = some (RJ4, T, N) := ⟨_, _, rfl⟩
section WO
variable {fu i : Nat} {p2 : Int32}
theorem wrL_ok : ∀ (f : Nat) (v : Int32) (Z S' : S4), s_X2_writeRule_L44 fu i p2 f v Z = some S' → (JB Z → JB S') ∧ ln Z ≤ ln S' := by
  intro f
  induction f with
  | zero => intro v Z S' hs; rw [s_X2_writeRule_L44] at hs; cases hs
  | succ f ih =>
    intro v Z S' hs
    rw [s_X2_writeRule_L44] at hs
    obtain ⟨h1, hs⟩ := gd_some hs
    by_cases c : (Z 12 0 i p2.toNatClampNeg) ≤ v
    · replace hs := if_t hs c
      obtain rfl := Option.some.inj hs
      exact ⟨id, Nat.le_refl _⟩
    · replace hs := if_f hs c
      obtain ⟨q, eq, hs⟩ := bd_some hs
      obtain ⟨Z1, e1, hs⟩ := bd_some hs
      obtain ⟨q2, eq2, hs⟩ := bd_some hs
      obtain ⟨Z2, e2, hs⟩ := bd_some hs
      obtain ⟨a1, b1, -⟩ := apc_ok e1
      obtain ⟨a2, b2, -⟩ := apn_ok e2
      obtain ⟨a3, b3⟩ := ih _ _ _ hs
      exact ⟨fun h => a3 (a2 (a1 h)), by omega⟩
theorem wr_ok {Z S' : S4} (hs : s_X2_writeRule fu i p2 Z = some S') : (JB Z → JB S') ∧ ln Z ≤ ln S' := by
  unfold s_X2_writeRule at hs
  obtain ⟨h1, hs⟩ := gd_some hs
  obtain ⟨Z1, e1, hs⟩ := bd_some hs
  obtain ⟨h2, hs⟩ := gd_some hs
  obtain ⟨a1, b1, -⟩ := apn_ok e1
  by_cases c : (Z1 11 0 i p2.toNatClampNeg) = (Z1 10 0 i p2.toNatClampNeg)
  · replace hs := if_t hs c
    obtain ⟨a3, b3⟩ := wrL_ok _ _ _ _ hs
    exact ⟨fun h => a3 (a1 h), by omega⟩
  · replace hs := if_f hs c
    obtain ⟨Z2, e2, hs⟩ := bd_some hs
    obtain ⟨h3, hs⟩ := gd_some hs
    obtain ⟨Z3, e3, hs⟩ := bd_some hs
    obtain ⟨a2, b2, -⟩ := apc_ok e2
    obtain ⟨a3, b3, -⟩ := apn_ok e3
    obtain ⟨a4, b4⟩ := wrL_ok _ _ _ _ hs
    exact ⟨fun h => a4 (a3 (a2 (a1 h))), by omega⟩
theorem wtL_ok : ∀ (f : Nat) (v : Int32) (Z S' : S4), s_X2_writeTo_L16 fu i f v Z = some S' → (JB Z → JB S') ∧ ln Z ≤ ln S' := by
  intro f
  induction f with
  | zero => intro v Z S' hs; rw [s_X2_writeTo_L16] at hs; cases hs
  | succ f ih =>
    intro v Z S' hs
    rw [s_X2_writeTo_L16] at hs
    by_cases c : (Z 2 0 i 1) ≤ v
    · replace hs := if_t hs c
      obtain ⟨Z1, e1, hs⟩ := bd_some hs
      obtain ⟨Z2, e2, hs⟩ := bd_some hs
      obtain ⟨a1, b1, -⟩ := apc_ok e1
      obtain ⟨a2, b2, -⟩ := apn_ok e2
      by_cases c2 : (Z2 2 0 i 3) = (3 : Int32)
      · replace hs := if_t hs c2
        obtain rfl := Option.some.inj hs
        exact ⟨fun h => a2 (a1 h), by omega⟩
      · replace hs := if_f hs c2
        obtain ⟨Z3, e3, hs⟩ := bd_some hs
        obtain ⟨a3, b3, -⟩ := apc_ok e3
        obtain ⟨a4, b4, -⟩ := apn_ok hs
        exact ⟨fun h => a4 (a3 (a2 (a1 h))), by omega⟩
    · replace hs := if_f hs c
      obtain ⟨q, eq, hs⟩ := bd_some hs
      obtain ⟨Z1, e1, hs⟩ := bd_some hs
      obtain ⟨Z2, e2, hs⟩ := bd_some hs
      obtain ⟨a1, b1, -⟩ := apc_ok e1
      obtain ⟨a2, b2⟩ := wr_ok e2
      obtain ⟨a3, b3⟩ := ih _ _ _ hs
      exact ⟨fun h => a3 (a2 (a1 h)), by omega⟩
theorem wt_ok {Z S' : S4} (hs : s_X2_writeTo fu i Z = some S') : (JB Z → JB S') ∧ ln Z ≤ ln S' := by
  unfold s_X2_writeTo at hs
  obtain ⟨Z1, e1, hs⟩ := bd_some hs
  obtain ⟨Z2, e2, hs⟩ := bd_some hs
  obtain ⟨a1, b1, -⟩ := apc_ok e1
  obtain ⟨a2, b2, -⟩ := apn_ok e2
  obtain ⟨a3, b3⟩ := wtL_ok _ _ _ _ hs
  exact ⟨fun h => a3 (a2 (a1 h)), by omega⟩
end WO
theorem c_X2_writeRule {l : Launch} {D : va_G} {cA : Nat → ClassId} {dm : Dm} {ad : Ad} {S S' : S4} {fu i : Nat} {p2 : Int32} (hP0 : Pb dm) (hi : DP dm i) (hB : JB S) (hs : s_X2_writeRule fu i p2 S = some S') : CtJ true D cA dm dm ad l yX2_writeRule cX2_writeRule 4 none 6 260 (ln S' - ln S) (2 * (ln S' - ln S)) S [.ref (ad 2 0 i), .ref (ad 8 0 0), .int p2] (fun _ => none) S' := by
  refine CtJ.of (by decide +kernel) (Nat.le_of_ble_eq_true rfl) [(0, .ref (ad 2 0 i)), (1, .ref (ad 8 0 0)), (2, .int p2)] rfl (fun p e s m args below meth c A X hr hY => ?_)
  have h8 := hP0.1
  have L : ∀ (n : Nat) (v : Int32) (Z : S4) (az : Ad), s_X2_writeRule_L44 fu i p2 n v Z = some S' → JB Z → ln S ≤ ln Z → agM true dm ad az → GX D cA dm az A 4 p s m args meth c yX2_writeRule.cls cX2_writeRule → V D cA dm az A 4 p l e ({ frames := 6, cells := ln S' - ln S, slots := 2 * (ln S' - ln S), locals := 260 }) s m args below meth c (ln Z - ln S) (2 * (ln Z - ln S)) (MQ below (gQJ true D cA dm dm ad S' (fun _ => none) A) args s (ln S' - ln S) (2 * (ln S' - ln S)) A) Z 44 [(3, .int v), (0, .ref (az 2 0 i)), (1, .ref (az 8 0 0)), (2, .int p2)] [] := by
    intro n
    induction n with
    | zero => intro v Z az hs; rw [s_X2_writeRule_L44] at hs; cases hs
    | succ n ih =>
      intro v Z az hs hBz hlz hag Xz
      obtain ⟨-, hlE⟩ := wrL_ok _ _ _ _ hs
      rw [s_X2_writeRule_L44] at hs
      obtain ⟨h1, hs⟩ := gd_some hs
      refine V_iload_n Xz dX2_writeRule_44 rfl 0 rfl ?_
      refine V_aload_n Xz dX2_writeRule_45 rfl 1 rfl ?_
      refine V_get Xz dX2_writeRule_46 r_X2_22 (gm2 hi) rfl rfl ?_
      refine V_iload_n Xz dX2_writeRule_49 rfl 3 rfl ?_
      refine V_iald Xz dX2_writeRule_50 (gm12 hi) rfl h1 ?_
      refine V_icmp_ge Xz 85 dX2_writeRule_51 (by decide) (fun c1 => ?_) (fun c1 => ?_)
      · replace hs := if_t hs c1
        obtain rfl := Option.some.inj hs
        exact V_sub [] rfl (V_vretJ Xz hag hr dX2_writeRule_85)
      replace hs := if_f hs c1
      obtain ⟨q, eq, hs⟩ := bd_some hs
      obtain ⟨Z1, e1, hs⟩ := bd_some hs
      obtain ⟨q2, eq2, hs⟩ := bd_some hs
      obtain ⟨Z2, e2, hs⟩ := bd_some hs
      obtain ⟨-, l1, -⟩ := apc_ok e1
      obtain ⟨-, l2, -⟩ := apn_ok e2
      obtain ⟨-, l3⟩ := wrL_ok _ _ _ _ hs
      refine V_aload_n Xz dX2_writeRule_54 rfl 2 rfl ?_
      refine V_iload_n Xz dX2_writeRule_55 rfl 0 rfl ?_
      have J : V D cA dm az A 4 p l e ({ frames := 6, cells := ln S' - ln S, slots := 2 * (ln S' - ln S), locals := 260 }) s m args below meth c (ln Z - ln S) (2 * (ln Z - ln S)) (MQ below (gQJ true D cA dm dm ad S' (fun _ => none) A) args s (ln S' - ln S) (2 * (ln S' - ln S)) A) Z 66 [(3, .int v), (0, .ref (az 2 0 i)), (1, .ref (az 8 0 0)), (2, .int p2)] [.int q, .ref (az 8 0 0)] := by
        refine V_callVJs Xz hY [.int q] dX2_writeRule_66 m_X2_46 v_J4_append_cf468 ⟨Nat.le_of_ble_eq_true rfl, Nat.le_of_ble_eq_true rfl⟩ ⟨by show ln Z - ln S + (ln Z1 - ln Z) ≤ ln S' - ln S; omega, by show 2 * (ln Z - ln S) + 2 * (ln Z1 - ln Z) ≤ 2 * (ln S' - ln S); omega⟩ rfl (Nat.le_of_ble_eq_true rfl) h8 rfl cl8 (c_J_apc hP0 hBz e1) (fun ad1 a2 X3 => ?_)
        rw [← a2 2 0 i (gm2 hi) (Or.inl (by decide))]
        rw [← a2 8 0 0 h8 (Or.inl (by decide))]
        have g3 := agM.trans hag a2 (fun _ _ _ h => h)
        refine V_widen (k := ln Z1 - ln S) (n := 2 * (ln Z1 - ln S)) (by omega) (by omega) ?_
        have hB3 := (apc_ok e1).1 hBz
        refine V_aload_n X3 dX2_writeRule_69 rfl 1 rfl ?_
        refine V_iload_n X3 dX2_writeRule_70 rfl 3 rfl ?_
        refine V_iload_n X3 dX2_writeRule_71 rfl 0 rfl ?_
        refine V_callVs X3 [.int p2, .int v] dX2_writeRule_72 m_X2_35 v_X2_chuteIn ⟨Nat.le_of_ble_eq_true rfl, Nat.le_of_ble_eq_true rfl⟩ ⟨by show ln Z1 - ln S ≤ ln S' - ln S; omega, by show 2 * (ln Z1 - ln S) ≤ 2 * (ln S' - ln S); omega⟩ rfl (Nat.le_of_ble_eq_true rfl) (gm2 hi) rfl cl2 (c_X2_chuteIn hi eq2) ?_
        refine V_callVJs X3 hY [.int q2] dX2_writeRule_75 m_X2_55 v_J4_append_bf812 ⟨Nat.le_of_ble_eq_true rfl, Nat.le_of_ble_eq_true rfl⟩ ⟨by show ln Z1 - ln S + (ln Z2 - ln Z1) ≤ ln S' - ln S; omega, by show 2 * (ln Z1 - ln S) + 2 * (ln Z2 - ln Z1) ≤ 2 * (ln S' - ln S); omega⟩ rfl (Nat.le_of_ble_eq_true rfl) h8 rfl cl8 (c_J_apn hP0 hB3 e2) (fun ad4 a5 X6 => ?_)
        rw [← a5 2 0 i (gm2 hi) (Or.inl (by decide))]
        rw [← a5 8 0 0 h8 (Or.inl (by decide))]
        have g6 := agM.trans g3 a5 (fun _ _ _ h => h)
        refine V_widen (k := ln Z2 - ln S) (n := 2 * (ln Z2 - ln S)) (by omega) (by omega) ?_
        have hB6 := (apn_ok e2).1 hB3
        refine V_pop X6 dX2_writeRule_78 rfl ?_
        refine V_iinc X6 (v + (1 : Int32)) dX2_writeRule_79 0 rfl rfl [(3, .int (v + (1 : Int32))), (0, .ref (ad4 2 0 i)), (1, .ref (ad4 8 0 0)), (2, .int p2)] (by decide) rfl ?_
        refine V_goto X6 44 dX2_writeRule_82 (by decide) ?_
        exact ih _ _ _ hs hB6 (by omega) g6 X6
      refine V_if_ne Xz 64 dX2_writeRule_56 (by decide) (fun c2 => ?_) (fun c2 => ?_)
      · replace eq := if_f eq c2
        obtain rfl := Option.some.inj eq
        refine V_bipush Xz (44 : Int32) dX2_writeRule_64 (by decide) ?_
        exact J
      · replace eq := if_t eq c2
        obtain rfl := Option.some.inj eq
        refine V_bipush Xz (61 : Int32) dX2_writeRule_59 (by decide) ?_
        refine V_goto Xz 66 dX2_writeRule_61 (by decide) ?_
        exact J
  unfold s_X2_writeRule at hs
  obtain ⟨h1, hs⟩ := gd_some hs
  obtain ⟨Z1, e1, hs⟩ := bd_some hs
  obtain ⟨h2, hs⟩ := gd_some hs
  obtain ⟨-, l1, -⟩ := apn_ok e1
  refine V_widen (k := ln S - ln S) (n := 2 * (ln S - ln S)) (by omega) (by omega) ?_
  have lE : ln Z1 ≤ ln S' := by
    by_cases c : (Z1 11 0 i p2.toNatClampNeg) = (Z1 10 0 i p2.toNatClampNeg)
    · exact (wrL_ok _ _ _ _ (if_t hs c)).2
    · obtain ⟨Z2, e2, hs⟩ := bd_some (if_f hs c)
      obtain ⟨h3, hs⟩ := gd_some hs
      obtain ⟨Z3, e3, hs⟩ := bd_some hs
      have x1 := (apc_ok e2).2.1
      have x2 := (apn_ok e3).2.1
      have x3 := (wrL_ok _ _ _ _ hs).2
      omega
  refine V_aload_n X dX2_writeRule_0 rfl 1 rfl ?_
  refine V_aload_n X dX2_writeRule_1 rfl 0 rfl ?_
  refine V_get X dX2_writeRule_2 r_X2_15 (gm2 hi) rfl rfl ?_
  refine V_iload_n X dX2_writeRule_5 rfl 2 rfl ?_
  refine V_iald X dX2_writeRule_6 (gm10 hi) rfl h1 ?_
  refine V_callVJs X hY [.int (S 10 0 i p2.toNatClampNeg)] dX2_writeRule_7 m_X2_55 v_J4_append_bf812 ⟨Nat.le_of_ble_eq_true rfl, Nat.le_of_ble_eq_true rfl⟩ ⟨by show ln S - ln S + (ln Z1 - ln S) ≤ ln S' - ln S; omega, by show 2 * (ln S - ln S) + 2 * (ln Z1 - ln S) ≤ 2 * (ln S' - ln S); omega⟩ rfl (Nat.le_of_ble_eq_true rfl) h8 rfl cl8 (c_J_apn hP0 hB e1) (fun ad1 a2 X3 => ?_)
  rw [← a2 2 0 i (gm2 hi) (Or.inl (by decide))]
  rw [← a2 8 0 0 h8 (Or.inl (by decide))]
  have g3 := agM.trans agM.refl a2 (fun _ _ _ h => h)
  refine V_widen (k := ln Z1 - ln S) (n := 2 * (ln Z1 - ln S)) (by omega) (by omega) ?_
  have hB3 := (apn_ok e1).1 hB
  refine V_pop X3 dX2_writeRule_10 rfl ?_
  refine V_aload_n X3 dX2_writeRule_11 rfl 0 rfl ?_
  refine V_get X3 dX2_writeRule_12 r_X2_19 (gm2 hi) rfl rfl ?_
  refine V_iload_n X3 dX2_writeRule_15 rfl 2 rfl ?_
  refine V_iald X3 dX2_writeRule_16 (gm11 hi) rfl h1 ?_
  refine V_aload_n X3 dX2_writeRule_17 rfl 0 rfl ?_
  refine V_get X3 dX2_writeRule_18 r_X2_15 (gm2 hi) rfl rfl ?_
  refine V_iload_n X3 dX2_writeRule_21 rfl 2 rfl ?_
  refine V_iald X3 dX2_writeRule_22 (gm10 hi) rfl h1 ?_
  refine V_icmp_eq X3 42 dX2_writeRule_23 (by decide) (fun c1 => ?_) (fun c1 => ?_)
  · replace hs := if_t hs c1
    refine V_iconst X3 (0 : Int32) dX2_writeRule_42 (by decide) ?_
    refine V_istore_n X3 dX2_writeRule_43 rfl [(3, .int (0 : Int32)), (0, .ref (ad1 2 0 i)), (1, .ref (ad1 8 0 0)), (2, .int p2)] (by decide) rfl ?_
    exact L _ _ _ _ hs hB3 (by omega) g3 X3
  · replace hs := if_f hs c1
    obtain ⟨Z2, e2, hs⟩ := bd_some hs
    obtain ⟨h3, hs⟩ := gd_some hs
    obtain ⟨Z3, e3, hs⟩ := bd_some hs
    obtain ⟨-, l2, -⟩ := apc_ok e2
    obtain ⟨-, l3, -⟩ := apn_ok e3
    obtain ⟨-, l4⟩ := wrL_ok _ _ _ _ hs
    refine V_aload_n X3 dX2_writeRule_26 rfl 1 rfl ?_
    refine V_bipush X3 (45 : Int32) dX2_writeRule_27 (by decide) ?_
    refine V_callVJs X3 hY [.int (45 : Int32)] dX2_writeRule_29 m_X2_46 v_J4_append_cf468 ⟨Nat.le_of_ble_eq_true rfl, Nat.le_of_ble_eq_true rfl⟩ ⟨by show ln Z1 - ln S + (ln Z2 - ln Z1) ≤ ln S' - ln S; omega, by show 2 * (ln Z1 - ln S) + 2 * (ln Z2 - ln Z1) ≤ 2 * (ln S' - ln S); omega⟩ rfl (Nat.le_of_ble_eq_true rfl) h8 rfl cl8 (c_J_apc hP0 hB3 e2) (fun ad4 a5 X6 => ?_)
    rw [← a5 2 0 i (gm2 hi) (Or.inl (by decide))]
    rw [← a5 8 0 0 h8 (Or.inl (by decide))]
    have g6 := agM.trans g3 a5 (fun _ _ _ h => h)
    refine V_widen (k := ln Z2 - ln S) (n := 2 * (ln Z2 - ln S)) (by omega) (by omega) ?_
    have hB6 := (apc_ok e2).1 hB3
    refine V_aload_n X6 dX2_writeRule_32 rfl 0 rfl ?_
    refine V_get X6 dX2_writeRule_33 r_X2_19 (gm2 hi) rfl rfl ?_
    refine V_iload_n X6 dX2_writeRule_36 rfl 2 rfl ?_
    refine V_iald X6 dX2_writeRule_37 (gm11 hi) rfl h3 ?_
    refine V_callVJs X6 hY [.int (Z2 11 0 i p2.toNatClampNeg)] dX2_writeRule_38 m_X2_55 v_J4_append_bf812 ⟨Nat.le_of_ble_eq_true rfl, Nat.le_of_ble_eq_true rfl⟩ ⟨by show ln Z2 - ln S + (ln Z3 - ln Z2) ≤ ln S' - ln S; omega, by show 2 * (ln Z2 - ln S) + 2 * (ln Z3 - ln Z2) ≤ 2 * (ln S' - ln S); omega⟩ rfl (Nat.le_of_ble_eq_true rfl) h8 rfl cl8 (c_J_apn hP0 hB6 e3) (fun ad7 a8 X9 => ?_)
    rw [← a8 2 0 i (gm2 hi) (Or.inl (by decide))]
    rw [← a8 8 0 0 h8 (Or.inl (by decide))]
    have g9 := agM.trans g6 a8 (fun _ _ _ h => h)
    refine V_widen (k := ln Z3 - ln S) (n := 2 * (ln Z3 - ln S)) (by omega) (by omega) ?_
    have hB9 := (apn_ok e3).1 hB6
    refine V_pop X9 dX2_writeRule_41 rfl ?_
    refine V_iconst X9 (0 : Int32) dX2_writeRule_42 (by decide) ?_
    refine V_istore_n X9 dX2_writeRule_43 rfl [(3, .int (0 : Int32)), (0, .ref (ad7 2 0 i)), (1, .ref (ad7 8 0 0)), (2, .int p2)] (by decide) rfl ?_
    exact L _ _ _ _ hs hB9 (by omega) g9 X9
theorem c_X2_writeTo {l : Launch} {D : va_G} {cA : Nat → ClassId} {dm : Dm} {ad : Ad} {S S' : S4} {fu i : Nat} (hP0 : Pb dm) (hi : DP dm i) (hB : JB S) (hs : s_X2_writeTo fu i S = some S') : CtJ true D cA dm dm ad l yX2_writeTo cX2_writeTo 3 none 7 320 (ln S' - ln S) (2 * (ln S' - ln S)) S [.ref (ad 2 0 i), .ref (ad 8 0 0)] (fun _ => none) S' := by
  refine CtJ.of (by decide +kernel) (Nat.le_of_ble_eq_true rfl) [(0, .ref (ad 2 0 i)), (1, .ref (ad 8 0 0))] rfl (fun p e s m args below meth c A X hr hY => ?_)
  have h8 := hP0.1
  have L : ∀ (n : Nat) (v : Int32) (Z : S4) (az : Ad), s_X2_writeTo_L16 fu i n v Z = some S' → JB Z → ln S ≤ ln Z → agM true dm ad az → GX D cA dm az A 3 p s m args meth c yX2_writeTo.cls cX2_writeTo → V D cA dm az A 3 p l e ({ frames := 7, cells := ln S' - ln S, slots := 2 * (ln S' - ln S), locals := 320 }) s m args below meth c (ln Z - ln S) (2 * (ln Z - ln S)) (MQ below (gQJ true D cA dm dm ad S' (fun _ => none) A) args s (ln S' - ln S) (2 * (ln S' - ln S)) A) Z 16 [(2, .int v), (0, .ref (az 2 0 i)), (1, .ref (az 8 0 0))] [] := by
    intro n
    induction n with
    | zero => intro v Z az hs; rw [s_X2_writeTo_L16] at hs; cases hs
    | succ n ih =>
      intro v Z az hs hBz hlz hag Xz
      obtain ⟨-, hlE⟩ := wtL_ok _ _ _ _ hs
      rw [s_X2_writeTo_L16] at hs
      refine V_iload_n Xz dX2_writeTo_16 rfl 0 rfl ?_
      refine V_aload_n Xz dX2_writeTo_17 rfl 1 rfl ?_
      refine V_get Xz dX2_writeTo_18 r_X2_28 (gm2 hi) rfl rfl ?_
      refine V_icmp_ge Xz 52 dX2_writeTo_21 (by decide) (fun c1 => ?_) (fun c1 => ?_)
      · replace hs := if_t hs c1
        obtain ⟨Z1, e1, hs⟩ := bd_some hs
        obtain ⟨Z2, e2, hs⟩ := bd_some hs
        obtain ⟨-, l1, -⟩ := apc_ok e1
        obtain ⟨-, l2, -⟩ := apn_ok e2
        have lE : ln Z2 ≤ ln S' := by
          by_cases c : (Z2 2 0 i 3) = (3 : Int32)
          · exact Nat.le_of_eq (congrArg ln (Option.some.inj (if_t hs c)))
          · obtain ⟨Z3, e3, hs⟩ := bd_some (if_f hs c)
            have x1 := (apc_ok e3).2.1
            have x2 := (apn_ok hs).2.1
            omega
        refine V_aload_n Xz dX2_writeTo_52 rfl 2 rfl ?_
        refine V_bipush Xz (120 : Int32) dX2_writeTo_53 (by decide) ?_
        refine V_callVJs Xz hY [.int (120 : Int32)] dX2_writeTo_55 m_X2_46 v_J4_append_cf468 ⟨Nat.le_of_ble_eq_true rfl, Nat.le_of_ble_eq_true rfl⟩ ⟨by show ln Z - ln S + (ln Z1 - ln Z) ≤ ln S' - ln S; omega, by show 2 * (ln Z - ln S) + 2 * (ln Z1 - ln Z) ≤ 2 * (ln S' - ln S); omega⟩ rfl (Nat.le_of_ble_eq_true rfl) h8 rfl cl8 (c_J_apc hP0 hBz e1) (fun ad1 a2 X3 => ?_)
        rw [← a2 2 0 i (gm2 hi) (Or.inl (by decide))]
        rw [← a2 8 0 0 h8 (Or.inl (by decide))]
        have g3 := agM.trans hag a2 (fun _ _ _ h => h)
        refine V_widen (k := ln Z1 - ln S) (n := 2 * (ln Z1 - ln S)) (by omega) (by omega) ?_
        have hB3 := (apc_ok e1).1 hBz
        refine V_aload_n X3 dX2_writeTo_58 rfl 1 rfl ?_
        refine V_get X3 dX2_writeTo_59 r_X2_43 (gm2 hi) rfl rfl ?_
        refine V_callVJs X3 hY [.int (Z1 2 0 i 2)] dX2_writeTo_62 m_X2_55 v_J4_append_bf812 ⟨Nat.le_of_ble_eq_true rfl, Nat.le_of_ble_eq_true rfl⟩ ⟨by show ln Z1 - ln S + (ln Z2 - ln Z1) ≤ ln S' - ln S; omega, by show 2 * (ln Z1 - ln S) + 2 * (ln Z2 - ln Z1) ≤ 2 * (ln S' - ln S); omega⟩ rfl (Nat.le_of_ble_eq_true rfl) h8 rfl cl8 (c_J_apn hP0 hB3 e2) (fun ad4 a5 X6 => ?_)
        rw [← a5 2 0 i (gm2 hi) (Or.inl (by decide))]
        rw [← a5 8 0 0 h8 (Or.inl (by decide))]
        have g6 := agM.trans g3 a5 (fun _ _ _ h => h)
        refine V_widen (k := ln Z2 - ln S) (n := 2 * (ln Z2 - ln S)) (by omega) (by omega) ?_
        have hB6 := (apn_ok e2).1 hB3
        refine V_pop X6 dX2_writeTo_65 rfl ?_
        refine V_aload_n X6 dX2_writeTo_66 rfl 1 rfl ?_
        refine V_get X6 dX2_writeTo_67 r_X2_9 (gm2 hi) rfl rfl ?_
        refine V_iconst X6 (3 : Int32) dX2_writeTo_70 (by decide) ?_
        refine V_icmp_eq X6 88 dX2_writeTo_71 (by decide) (fun c2 => ?_) (fun c2 => ?_)
        · replace hs := if_t hs c2
          obtain rfl := Option.some.inj hs
          exact V_sub [] rfl (V_vretJ X6 g6 hr dX2_writeTo_88)
        · replace hs := if_f hs c2
          obtain ⟨Z3, e3, hs⟩ := bd_some hs
          obtain ⟨-, l3, -⟩ := apc_ok e3
          obtain ⟨-, l4, -⟩ := apn_ok hs
          refine V_aload_n X6 dX2_writeTo_74 rfl 2 rfl ?_
          refine V_bipush X6 (42 : Int32) dX2_writeTo_75 (by decide) ?_
          refine V_callVJs X6 hY [.int (42 : Int32)] dX2_writeTo_77 m_X2_46 v_J4_append_cf468 ⟨Nat.le_of_ble_eq_true rfl, Nat.le_of_ble_eq_true rfl⟩ ⟨by show ln Z2 - ln S + (ln Z3 - ln Z2) ≤ ln S' - ln S; omega, by show 2 * (ln Z2 - ln S) + 2 * (ln Z3 - ln Z2) ≤ 2 * (ln S' - ln S); omega⟩ rfl (Nat.le_of_ble_eq_true rfl) h8 rfl cl8 (c_J_apc hP0 hB6 e3) (fun ad7 a8 X9 => ?_)
          rw [← a8 2 0 i (gm2 hi) (Or.inl (by decide))]
          rw [← a8 8 0 0 h8 (Or.inl (by decide))]
          have g9 := agM.trans g6 a8 (fun _ _ _ h => h)
          refine V_widen (k := ln Z3 - ln S) (n := 2 * (ln Z3 - ln S)) (by omega) (by omega) ?_
          have hB9 := (apc_ok e3).1 hB6
          refine V_aload_n X9 dX2_writeTo_80 rfl 1 rfl ?_
          refine V_get X9 dX2_writeTo_81 r_X2_9 (gm2 hi) rfl rfl ?_
          refine V_callVJs X9 hY [.int (Z3 2 0 i 3)] dX2_writeTo_84 m_X2_55 v_J4_append_bf812 ⟨Nat.le_of_ble_eq_true rfl, Nat.le_of_ble_eq_true rfl⟩ ⟨by show ln Z3 - ln S + (ln S' - ln Z3) ≤ ln S' - ln S; omega, by show 2 * (ln Z3 - ln S) + 2 * (ln S' - ln Z3) ≤ 2 * (ln S' - ln S); omega⟩ rfl (Nat.le_of_ble_eq_true rfl) h8 rfl cl8 (c_J_apn hP0 hB9 hs) (fun ad10 a11 X12 => ?_)
          rw [← a11 2 0 i (gm2 hi) (Or.inl (by decide))]
          rw [← a11 8 0 0 h8 (Or.inl (by decide))]
          have g12 := agM.trans g9 a11 (fun _ _ _ h => h)
          refine V_widen (k := ln S' - ln S) (n := 2 * (ln S' - ln S)) (by omega) (by omega) ?_
          have hB12 := (apn_ok hs).1 hB9
          refine V_pop X12 dX2_writeTo_87 rfl ?_
          exact V_sub [] rfl (V_vretJ X12 g12 hr dX2_writeTo_88)
      · replace hs := if_f hs c1
        obtain ⟨q, eq, hs⟩ := bd_some hs
        obtain ⟨Z1, e1, hs⟩ := bd_some hs
        obtain ⟨Z2, e2, hs⟩ := bd_some hs
        obtain ⟨-, l1, -⟩ := apc_ok e1
        obtain ⟨-, l2⟩ := wr_ok e2
        obtain ⟨-, l3⟩ := wtL_ok _ _ _ _ hs
        refine V_aload_n Xz dX2_writeTo_24 rfl 2 rfl ?_
        refine V_iload_n Xz dX2_writeTo_25 rfl 0 rfl ?_
        have J : V D cA dm az A 3 p l e ({ frames := 7, cells := ln S' - ln S, slots := 2 * (ln S' - ln S), locals := 320 }) s m args below meth c (ln Z - ln S) (2 * (ln Z - ln S)) (MQ below (gQJ true D cA dm dm ad S' (fun _ => none) A) args s (ln S' - ln S) (2 * (ln S' - ln S)) A) Z 36 [(2, .int v), (0, .ref (az 2 0 i)), (1, .ref (az 8 0 0))] [.int q, .ref (az 8 0 0)] := by
          refine V_callVJs Xz hY [.int q] dX2_writeTo_36 m_X2_46 v_J4_append_cf468 ⟨Nat.le_of_ble_eq_true rfl, Nat.le_of_ble_eq_true rfl⟩ ⟨by show ln Z - ln S + (ln Z1 - ln Z) ≤ ln S' - ln S; omega, by show 2 * (ln Z - ln S) + 2 * (ln Z1 - ln Z) ≤ 2 * (ln S' - ln S); omega⟩ rfl (Nat.le_of_ble_eq_true rfl) h8 rfl cl8 (c_J_apc hP0 hBz e1) (fun ad51 a52 X53 => ?_)
          rw [← a52 2 0 i (gm2 hi) (Or.inl (by decide))]
          rw [← a52 8 0 0 h8 (Or.inl (by decide))]
          have g53 := agM.trans hag a52 (fun _ _ _ h => h)
          refine V_widen (k := ln Z1 - ln S) (n := 2 * (ln Z1 - ln S)) (by omega) (by omega) ?_
          have hB53 := (apc_ok e1).1 hBz
          refine V_pop X53 dX2_writeTo_39 rfl ?_
          refine V_aload_n X53 dX2_writeTo_40 rfl 1 rfl ?_
          refine V_aload_n X53 dX2_writeTo_41 rfl 2 rfl ?_
          refine V_iload_n X53 dX2_writeTo_42 rfl 0 rfl ?_
          refine V_callVJv X53 hY [.ref (ad51 8 0 0), .int v] dX2_writeTo_43 m_X2_58 v_X2_writeRule ⟨Nat.le_of_ble_eq_true rfl, Nat.le_of_ble_eq_true rfl⟩ ⟨by show ln Z1 - ln S + (ln Z2 - ln Z1) ≤ ln S' - ln S; omega, by show 2 * (ln Z1 - ln S) + 2 * (ln Z2 - ln Z1) ≤ 2 * (ln S' - ln S); omega⟩ rfl (Nat.le_of_ble_eq_true rfl) (gm2 hi) rfl cl2 (c_X2_writeRule hP0 hi hB53 e2) (fun ad54 a55 X56 => ?_)
          rw [← a55 2 0 i (gm2 hi) (Or.inl (by decide))]
          rw [← a55 8 0 0 h8 (Or.inl (by decide))]
          have h56 := agM.trans g53 a55 (fun _ _ _ h => h)
          refine V_widen (k := ln Z2 - ln S) (n := 2 * (ln Z2 - ln S)) (by omega) (by omega) ?_
          have hBq := (wr_ok e2).1 hB53
          refine V_iinc X56 (v + (1 : Int32)) dX2_writeTo_46 0 rfl rfl [(2, .int (v + (1 : Int32))), (0, .ref (ad54 2 0 i)), (1, .ref (ad54 8 0 0))] (by decide) rfl ?_
          refine V_goto X56 16 dX2_writeTo_49 (by decide) ?_
          exact ih _ _ _ hs hBq (by omega) h56 X56
        refine V_if_ne Xz 34 dX2_writeTo_26 (by decide) (fun c2 => ?_) (fun c2 => ?_)
        · replace eq := if_f eq c2
          obtain rfl := Option.some.inj eq
          refine V_bipush Xz (59 : Int32) dX2_writeTo_34 (by decide) ?_
          exact J
        · replace eq := if_t eq c2
          obtain rfl := Option.some.inj eq
          refine V_bipush Xz (58 : Int32) dX2_writeTo_29 (by decide) ?_
          refine V_goto Xz 36 dX2_writeTo_31 (by decide) ?_
          exact J
  unfold s_X2_writeTo at hs
  obtain ⟨Z1, e1, hs⟩ := bd_some hs
  obtain ⟨Z2, e2, hs⟩ := bd_some hs
  obtain ⟨-, l1, -⟩ := apc_ok e1
  obtain ⟨-, l2, -⟩ := apn_ok e2
  obtain ⟨-, l3⟩ := wtL_ok _ _ _ _ hs
  refine V_widen (k := ln S - ln S) (n := 2 * (ln S - ln S)) (by omega) (by omega) ?_
  refine V_aload_n X dX2_writeTo_0 rfl 1 rfl ?_
  refine V_bipush X (64 : Int32) dX2_writeTo_1 (by decide) ?_
  refine V_callVJs X hY [.int (64 : Int32)] dX2_writeTo_3 m_X2_46 v_J4_append_cf468 ⟨Nat.le_of_ble_eq_true rfl, Nat.le_of_ble_eq_true rfl⟩ ⟨by show ln S - ln S + (ln Z1 - ln S) ≤ ln S' - ln S; omega, by show 2 * (ln S - ln S) + 2 * (ln Z1 - ln S) ≤ 2 * (ln S' - ln S); omega⟩ rfl (Nat.le_of_ble_eq_true rfl) h8 rfl cl8 (c_J_apc hP0 hB e1) (fun ad1 a2 X3 => ?_)
  rw [← a2 2 0 i (gm2 hi) (Or.inl (by decide))]
  rw [← a2 8 0 0 h8 (Or.inl (by decide))]
  have g3 := agM.trans agM.refl a2 (fun _ _ _ h => h)
  refine V_widen (k := ln Z1 - ln S) (n := 2 * (ln Z1 - ln S)) (by omega) (by omega) ?_
  have hB3 := (apc_ok e1).1 hB
  refine V_aload_n X3 dX2_writeTo_6 rfl 0 rfl ?_
  refine V_get X3 dX2_writeTo_7 r_X2_52 (gm2 hi) rfl rfl ?_
  refine V_callVJs X3 hY [.int (Z1 2 0 i 0)] dX2_writeTo_10 m_X2_55 v_J4_append_bf812 ⟨Nat.le_of_ble_eq_true rfl, Nat.le_of_ble_eq_true rfl⟩ ⟨by show ln Z1 - ln S + (ln Z2 - ln Z1) ≤ ln S' - ln S; omega, by show 2 * (ln Z1 - ln S) + 2 * (ln Z2 - ln Z1) ≤ 2 * (ln S' - ln S); omega⟩ rfl (Nat.le_of_ble_eq_true rfl) h8 rfl cl8 (c_J_apn hP0 hB3 e2) (fun ad4 a5 X6 => ?_)
  rw [← a5 2 0 i (gm2 hi) (Or.inl (by decide))]
  rw [← a5 8 0 0 h8 (Or.inl (by decide))]
  have g6 := agM.trans g3 a5 (fun _ _ _ h => h)
  refine V_widen (k := ln Z2 - ln S) (n := 2 * (ln Z2 - ln S)) (by omega) (by omega) ?_
  have hB6 := (apn_ok e2).1 hB3
  refine V_pop X6 dX2_writeTo_13 rfl ?_
  refine V_iconst X6 (0 : Int32) dX2_writeTo_14 (by decide) ?_
  refine V_istore_n X6 dX2_writeTo_15 rfl [(2, .int (0 : Int32)), (0, .ref (ad4 2 0 i)), (1, .ref (ad4 8 0 0))] (by decide) rfl ?_
  exact L _ _ _ _ hs hB6 (by omega) g6 X6
