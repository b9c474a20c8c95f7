/-! the law's loop (printed by jn.py) -/
theorem and31 (x : Int32) : ∃ k : Nat, k < 32 ∧ (x &&& 31).toInt = (k : Int) := by
  have h1 : (x.toBitVec &&& 31#32).toNat = x.toBitVec.toNat % 32 := by
    rw [BitVec.toNat_and]
    exact Nat.and_two_pow_sub_one_eq_mod _ 5
  have h2 : (x.toBitVec &&& 31#32).toNat < 32 := by rw [h1]; exact Nat.mod_lt _ (by decide)
  refine ⟨(x.toBitVec &&& 31#32).toNat, h2, ?_⟩
  show (x.toBitVec &&& 31#32).toInt = _
  exact BitVec.toInt_eq_toNat_of_lt (by omega)
theorem scr_room {n L : Nat} (hL : L ≤ 3584) (hn : n ≤ 512) (h : ¬ nI L - 7 < nI (7 * n)) : 7 * n + 7 ≤ L := by
  have h2 : (nI (7 * n)).toInt = ((7 * n : Nat) : Int) := nI_toInt (by omega)
  by_cases h7 : 7 ≤ L
  · have e : nI L - 7 = nI (L - 7) := by
      have : nI L = nI (L - 7) + 7 := by
        rw [show (7 : Int32) = nI 7 from rfl, nI_add, Nat.sub_add_cancel h7]
      rw [this]
      exact Int32.add_sub_cancel _ _
    rw [e] at h
    have h3 : (nI (L - 7)).toInt = ((L - 7 : Nat) : Int) := nI_toInt (by omega)
    rw [Int32.lt_iff_toInt_lt, h2, h3] at h
    omega
  · exfalso
    apply h
    rw [Int32.lt_iff_toInt_lt, h2]
    rcases (by omega : L = 0 ∨ L = 1 ∨ L = 2 ∨ L = 3 ∨ L = 4 ∨ L = 5 ∨ L = 6) with rfl | rfl | rfl | rfl | rfl | rfl | rfl
    all_goals
      refine Int.lt_of_lt_of_le (b := 0) (by decide) (by omega)
theorem nI_7 (n : Nat) : nI (7 * n) + Int32.ofInt 7 = nI (7 * (n + 1)) := by
  rw [show Int32.ofInt 7 = nI 7 from rfl, nI_add]
  congr 1
theorem rmN {n : Nat} (h : n < 512) : 1000 + 150 * n + 150 ≤ room_1.cells ∧ 28000 + 400 * n + 400 ≤ room_1.slots := by
  show 1000 + 150 * n + 150 ≤ 603072 ∧ 28000 + 400 * n + 400 ≤ 7194730
  omega
set_option maxHeartbeats 4000000 in
theorem law_step {l : Launch} {D : va_G} {cA : Nat → ClassId} {p : Program} {e : Env} {s : State} {m : MethodId} {below : List Frame} {meth : Method} {c : Code} {b L : Nat} {xs : Nat → Int32} {Q : State → Prop} {n np T : Nat} {S : S4} {ad : Ad} {o : Int32} (hZ : gZ (lwA s) s s.heap) (hY : gY (lwA s) s s.heap) (hl : l.stackTraces = false) (hX : va_X b L xs s s.heap) (hbl : b < s.heap.size) (hL : L ≤ 3584) (X : GX D cA (dL np) ad (lwA s) 9 p s m #[Value.ref b] meth c RL cL_law) (hI : LI np T S) (hn : np ≤ n) (hT : T ≤ 200 * n) (hn5 : n < 512) (h7 : 7 * n + 7 ≤ L) (kk : KK l D cA p e s m below meth c b Q n (1000 + 150 * n) (28000 + 400 * n)) : V D cA (dL np) ad (lwA s) 9 p l e room_1 s m #[Value.ref b] below meth c (1000 + 150 * n) (28000 + 400 * n) Q S 45 (lvL ad b (nI (7 * n))) [.int (o &&& 31)] := by
  obtain ⟨hc, hs⟩ := rmN hn5
  obtain ⟨k, hk, ho⟩ := and31 o
  have df : 26 < k → V D cA (dL np) ad (lwA s) 9 p l e room_1 s m #[Value.ref b] below meth c (1000 + 150 * n) (28000 + 400 * n) Q S 45 (lvL ad b (nI (7 * n))) [.int (o &&& 31)] := fun h => V_tswD X 1838 dL_law_45 (Or.inr (by rw [ho]; omega)) (by decide) (V_widen (Nat.le_add_right _ _) (Nat.le_add_right _ _) (kk np T S ad (by omega) (by omega) hI X))
  by_cases h26 : 26 < k
  · exact df h26
  · clear df
    rcases (by omega : k = 0 ∨ k = 1 ∨ k = 2 ∨ k = 3 ∨ k = 4 ∨ k = 5 ∨ k = 6 ∨ k = 7 ∨ k = 8 ∨ k = 9 ∨ k = 10 ∨ k = 11 ∨ k = 12 ∨ k = 13 ∨ k = 14 ∨ k = 15 ∨ k = 16 ∨ k = 17 ∨ k = 18 ∨ k = 19 ∨ k = 20 ∨ k = 21 ∨ k = 22 ∨ k = 23 ∨ k = 24 ∨ k = 25 ∨ k = 26) with rfl | rfl | rfl | rfl | rfl | rfl | rfl | rfl | rfl | rfl | rfl | rfl | rfl | rfl | rfl | rfl | rfl | rfl | rfl | rfl | rfl | rfl | rfl | rfl | rfl | rfl | rfl
    · exact V_tsw X 168 dL_law_45 0 ho (by decide) (by decide) rfl (by decide) (law_c0 X hI hn hT hn5 hZ hY hl hX hbl h7 hL hc hs kk)
    · exact V_tsw X 224 dL_law_45 1 ho (by decide) (by decide) rfl (by decide) (law_c1 X hI hn hT hn5 hZ hY hl hX hbl h7 hL hc hs kk)
    · exact V_tsw X 280 dL_law_45 2 ho (by decide) (by decide) rfl (by decide) (law_c2 X hI hn hT hn5 hZ hY hl hX hbl h7 hL hc hs kk)
    · exact V_tsw X 398 dL_law_45 3 ho (by decide) (by decide) rfl (by decide) (law_c3 X hI hn hT hn5 hZ hY hl hX hbl h7 hL hc hs kk)
    · exact V_tsw X 456 dL_law_45 4 ho (by decide) (by decide) rfl (by decide) (law_c4 X hI hn hT hn5 hZ hY hl hX hbl h7 hL hc hs kk)
    · exact V_tsw X 500 dL_law_45 5 ho (by decide) (by decide) rfl (by decide) (law_c5 X hI hn hT hn5 hZ hY hl hX hbl h7 hL hc hs kk)
    · exact V_tsw X 568 dL_law_45 6 ho (by decide) (by decide) rfl (by decide) (law_c6 X hI hn hT hn5 hZ hY hl hX hbl h7 hL hc hs kk)
    · exact V_tsw X 648 dL_law_45 7 ho (by decide) (by decide) rfl (by decide) (law_c7 X hI hn hT hn5 hZ hY hl hX hbl h7 hL hc hs kk)
    · exact V_tsw X 740 dL_law_45 8 ho (by decide) (by decide) rfl (by decide) (law_c8 X hI hn hT hn5 hZ hY hl hX hbl h7 hL hc hs kk)
    · exact V_tsw X 808 dL_law_45 9 ho (by decide) (by decide) rfl (by decide) (law_c9 X hI hn hT hn5 hZ hY hl hX hbl h7 hL hc hs kk)
    · exact V_tsw X 876 dL_law_45 10 ho (by decide) (by decide) rfl (by decide) (law_c10 X hI hn hT hn5 hZ hY hl hX hbl h7 hL hc hs kk)
    · exact V_tsw X 932 dL_law_45 11 ho (by decide) (by decide) rfl (by decide) (law_c11 X hI hn hT hn5 hZ hY hl hX hbl h7 hL hc hs kk)
    · exact V_tsw X 988 dL_law_45 12 ho (by decide) (by decide) rfl (by decide) (law_c12 X hI hn hT hn5 hZ hY hl hX hbl h7 hL hc hs kk)
    · exact V_tsw X 1079 dL_law_45 13 ho (by decide) (by decide) rfl (by decide) (law_c13 X hI hn hT hn5 hZ hY hl hX hbl h7 hL hc hs kk)
    · exact V_tsw X 1135 dL_law_45 14 ho (by decide) (by decide) rfl (by decide) (law_c14 X hI hn hT hn5 hZ hY hl hX hbl h7 hL hc hs kk)
    · exact V_tsw X 1203 dL_law_45 15 ho (by decide) (by decide) rfl (by decide) (law_c15 X hI hn hT hn5 hZ hY hl hX hbl h7 hL hc hs kk)
    · exact V_tsw X 1271 dL_law_45 16 ho (by decide) (by decide) rfl (by decide) (law_c16 X hI hn hT hn5 hZ hY hl hX hbl h7 hL hc hs kk)
    · exact V_tsw X 1327 dL_law_45 17 ho (by decide) (by decide) rfl (by decide) (law_c17 X hI hn hT hn5 hZ hY hl hX hbl h7 hL hc hs kk)
    · exact V_tsw X 1392 dL_law_45 18 ho (by decide) (by decide) rfl (by decide) (law_c18 X hI hn hT hn5 hZ hY hl hX hbl h7 hL hc hs kk)
    · exact V_tsw X 1488 dL_law_45 19 ho (by decide) (by decide) rfl (by decide) (law_c19 X hI hn hT hn5 hZ hY hl hX hbl h7 hL hc hs kk)
    · exact V_tsw X 1544 dL_law_45 20 ho (by decide) (by decide) rfl (by decide) (law_c20 X hI hn hT hn5 hZ hY hl hX hbl h7 hL hc hs kk)
    · exact V_tsw X 1557 dL_law_45 21 ho (by decide) (by decide) rfl (by decide) (law_c21 X hI hn hT hn5 hZ hY hl hX hbl h7 hL hc hs kk)
    · exact V_tsw X 1625 dL_law_45 22 ho (by decide) (by decide) rfl (by decide) (law_c22 X hI hn hT hn5 hZ hY hl hX hbl h7 hL hc hs kk)
    · exact V_tsw X 1669 dL_law_45 23 ho (by decide) (by decide) rfl (by decide) (law_c23 X hI hn hT hn5 hZ hY hl hX hbl h7 hL hc hs kk)
    · exact V_tsw X 1682 dL_law_45 24 ho (by decide) (by decide) rfl (by decide) (law_c24 X hI hn hT hn5 hZ hY hl hX hbl h7 hL hc hs kk)
    · exact V_tsw X 1726 dL_law_45 25 ho (by decide) (by decide) rfl (by decide) (law_c25 X hI hn hT hn5 hZ hY hl hX hbl h7 hL hc hs kk)
    · exact V_tsw X 1782 dL_law_45 26 ho (by decide) (by decide) rfl (by decide) (law_c26 X hI hn hT hn5 hZ hY hl hX hbl h7 hL hc hs kk)
set_option maxHeartbeats 4000000 in
theorem law_loop {l : Launch} {D : va_G} {cA : Nat → ClassId} {p : Program} {e : Env} {s : State} {m : MethodId} {below : List Frame} {meth : Method} {c : Code} {b L : Nat} {xs : Nat → Int32} {Q : State → Prop} (hZ : gZ (lwA s) s s.heap) (hY : gY (lwA s) s s.heap) (hl : l.stackTraces = false) (hX : va_X b L xs s s.heap) (hbl : b < s.heap.size) (hL : L ≤ 3584) (hend : ∀ (np : Nat) (S : S4) (ad : Ad) (lv : List (Nat × Value)), GX D cA (dL np) ad (lwA s) 9 p s m #[Value.ref b] meth c RL cL_law → V D cA (dL np) ad (lwA s) 9 p l e room_1 s m #[Value.ref b] below meth c 603072 7194730 Q S 1845 lv [.int 1]) : ∀ (d n np T : Nat) (S : S4) (ad : Ad), n + d = 513 → n ≤ 512 → np ≤ n → T ≤ 200 * n → LI np T S → GX D cA (dL np) ad (lwA s) 9 p s m #[Value.ref b] meth c RL cL_law → V D cA (dL np) ad (lwA s) 9 p l e room_1 s m #[Value.ref b] below meth c (1000 + 150 * n) (28000 + 400 * n) Q S 28 (lvL ad b (nI (7 * n))) [] := by
  intro d
  induction d with
  | zero => intro n np T S ad h1 h2; omega
  | succ d ih =>
    intro n np T S ad h1 h2 hn hT hI X
    refine V_iload X dL_law_28 5 rfl ?_
    refine V_aload_n X dL_law_30 rfl 0 rfl ?_
    refine V_slen X hX hbl (lwA_not _ hbl) dL_law_31 ?_
    refine V_bipush X (7 : Int32) dL_law_32 (by decide) ?_
    refine V_isub X dL_law_34 ?_
    refine V_icmp_gt X 1844 dL_law_35 (by decide) (fun _ => ?_) (fun hle => ?_)
    · refine V_iconst X (1 : Int32) dL_law_1844 (by decide) ?_
      exact V_widen (by omega) (by omega) (hend np S ad _ X)
    · have h7 := scr_room hL h2 hle
      refine V_aload_n X dL_law_38 rfl 0 rfl ?_
      refine V_iload X dL_law_39 5 rfl ?_
      refine V_sld X hX hbl (lwA_not _ hbl) (inb_nI (by omega) (by omega)) dL_law_41 ?_
      refine V_bipush X (31 : Int32) dL_law_42 (by decide) ?_
      refine V_iand X dL_law_44 ?_
      refine law_step hZ hY hl hX hbl hL X hI hn hT (by omega) h7 (fun np' T' S' ad' hn' hT' hI' X' => ?_)
      refine V_iinc X' (nI (7 * (n + 1))) dL_law_1838 5 rfl (nI_7 n) [(5, .int (nI (7 * (n + 1)))), (0, .ref b), (1, .ref (ad' 6 0 0)), (2, .ref (ad' 7 0 0)), (3, .ref (ad' 36 0 0)), (4, .ref (ad' 37 0 0))] (by decide) rfl ?_
      refine V_goto X' 28 dL_law_1841 (by decide) ?_
      refine V_sub [1, 2, 3, 4, 5, 0] rfl ?_
      exact V_widen (by omega) (by omega) (ih (n + 1) np' T' S' ad' (by omega) (by omega) hn' hT' hI' X')
