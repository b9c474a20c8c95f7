/-! the law calls write and paper (printed by jm.py) -/
theorem w_L_write : MLW RL 204 yL_write cL_write 4 (some .int) [(0, 9, 12, 38)] 3 := ⟨gin 1189 (by decide +kernel) (by decide +kernel), nw_L_write, ni_L, by decide +kernel, t_L_write⟩
set_option maxHeartbeats 1000000 in
theorem law_c25 {l : Launch} {D : va_G} {cA : Nat → ClassId} {p : Program} {e : Env} {s : State} {m : MethodId} {below : List Frame} {meth : Method} {c : Code} {b L : Nat} {xs : Nat → Int32} {Q : State → Prop} {n np T cells slots : Nat} {S : S4} {ad : Ad} (X : GX D cA (dL np) ad (lwA s) 9 p s m #[Value.ref b] meth c RL cL_law) (hI : LI np T S) (hn : np ≤ n) (hT : T ≤ 200 * n) (hn5 : n < 512) (hZ : gZ (lwA s) s s.heap) (hY : gY (lwA s) s s.heap) (hl : l.stackTraces = false) (hX : va_X b L xs s s.heap) (hbl : b < s.heap.size) (h7 : 7 * n + 7 ≤ L) (hL : L ≤ 3584) (hc : cells + 150 ≤ room_1.cells) (hs : slots + 400 ≤ room_1.slots) (kk : KK l D cA p e s m below meth c b Q n cells slots) : V D cA (dL np) ad (lwA s) 9 p l e room_1 s m #[Value.ref b] below meth c cells slots Q S 1726 (lvL ad b (nI (7 * n))) [] := by
  obtain ⟨k, S1, y, S2, e1, e2, g7, g36, hI2, hln⟩ := li_write (fu := 9601) (p := (sx xs n 1)) hI (by omega) (by decide)
  refine V_aload_n X dL_law_1726 rfl 1 rfl ?_
  refine V_aload_n X dL_law_1727 rfl 0 rfl ?_
  refine V_iload X dL_law_1728 5 rfl ?_
  refine V_iconst X (1 : Int32) dL_law_1730 (by decide) ?_
  refine V_iadd X dL_law_1731 ?_
  refine V_sld X hX hbl (lwA_not _ hbl) (in_scr h7 hL (j := 1) (by decide) (by decide)) dL_law_1732 ?_
  refine V_aload_n X dL_law_1733 rfl 3 rfl ?_
  have C : CwJ D cA (dL np) (dL np) ad l yL_write cL_write 4 (some .int) [(0, 9, 12, 38)] 22 670 (ln S1 - ln S + 1) (2 * (ln S1 - ln S) + 6) S [.ref (ad 6 0 0), .int (sx xs n 1), .ref (ad 36 0 0)] (some (.int k)) S1 := c_L_write (out := (k, S1)) dL_K dL_Pb dL36 dL_P hI.2.2 hl e1
  obtain ⟨mc, emc, bc⟩ : ∃ mc, mc = ln S1 - ln S + 1 ∧ mc ≤ 150 := ⟨_, rfl, by omega⟩
  obtain ⟨ms, ems, bs⟩ : ∃ ms, ms = 2 * (ln S1 - ln S) + 6 ∧ ms ≤ 400 := ⟨_, rfl, by omega⟩
  rw [← emc, ← ems] at C
  clear emc ems hln
  refine V_callSCJs X hZ hY [.ref (ad 6 0 0), .int (sx xs n 1), .ref (ad 36 0 0)] dL_law_1734 w_L_write ⟨Nat.le_of_ble_eq_true rfl, Nat.le_of_ble_eq_true rfl⟩ ⟨lrA hc bc, lrA hs bs⟩ rfl (Nat.le_of_ble_eq_true rfl) C (fun ad2 hag X2 => ?_)
  rw [← lvL_ag hag]
  refine V_istore X2 dL_law_1737 ((6, .int k) :: lvL ad2 b (nI (7 * n))) (by decide) rfl ?_
  refine V_aload_n X2 dL_law_1739 rfl 3 rfl ?_
  refine V_aload_n X2 dL_law_1740 rfl 1 rfl ?_
  refine V_iload X2 dL_law_1741 6 rfl ?_
  refine V_iconst X2 (1 : Int32) dL_law_1743 (by decide) ?_
  refine V_iadd X2 dL_law_1744 ?_
  refine V_sld X2 hX hbl (lwA_not _ hbl) (in_scr h7 hL (j := 1) (by decide) (by decide)) dL_law_1745 ?_
  refine V_callVs X2 [.int (sx xs n 1)] dL_law_1746 m_L_206 v_X7_write ⟨Nat.le_of_ble_eq_true rfl, Nat.le_of_ble_eq_true rfl⟩ ⟨lrA hc bc, lrA hs bs⟩ rfl (Nat.le_of_ble_eq_true rfl) (gm7 dL_M) rfl cl7 (c_X7_write dL_M e2) ?_
  exact law_tail X2 dL_M dL36 ⟨lrA hc bc, lrA hs bs⟩ g7 g36 dL_law_1749 dL_law_1751 dL_law_1752 dL_law_1755 dL_law_1757 dL_law_1762 dL_law_1764 dL_law_1767 dL_law_1768 dL_law_1769 dL_law_1770 dL_law_1772 dL_law_1773 dL_law_1774 dL_law_1779 (by decide) (V_widen (Nat.add_le_add_left bc _) (Nat.add_le_add_left bs _) (kk (np) (T) S2 ad2 (by omega) (by omega) hI2 X2))
theorem w_L_paper : MLW RL 207 yL_paper cL_paper 4 (some .int) [(0, 9, 12, 38)] 3 := ⟨gin 1479 (by decide +kernel) (by decide +kernel), nw_L_paper, ni_L, by decide +kernel, t_L_paper⟩
set_option maxHeartbeats 1000000 in
theorem law_c26 {l : Launch} {D : va_G} {cA : Nat → ClassId} {p : Program} {e : Env} {s : State} {m : MethodId} {below : List Frame} {meth : Method} {c : Code} {b L : Nat} {xs : Nat → Int32} {Q : State → Prop} {n np T cells slots : Nat} {S : S4} {ad : Ad} (X : GX D cA (dL np) ad (lwA s) 9 p s m #[Value.ref b] meth c RL cL_law) (hI : LI np T S) (hn : np ≤ n) (hT : T ≤ 200 * n) (hn5 : n < 512) (hZ : gZ (lwA s) s s.heap) (hY : gY (lwA s) s s.heap) (hl : l.stackTraces = false) (hX : va_X b L xs s s.heap) (hbl : b < s.heap.size) (h7 : 7 * n + 7 ≤ L) (hL : L ≤ 3584) (hc : cells + 150 ≤ room_1.cells) (hs : slots + 400 ≤ room_1.slots) (kk : KK l D cA p e s m below meth c b Q n cells slots) : V D cA (dL np) ad (lwA s) 9 p l e room_1 s m #[Value.ref b] below meth c cells slots Q S 1782 (lvL ad b (nI (7 * n))) [] := by
  obtain ⟨k, S1, y, S2, e1, e2, g7, g36, hG⟩ := st_paper (p2 := (sx xs n 1)) hI.1
  have hI2 : LI np (T) S2 := hI.next (fz_L_paper _ e1) (fr_X7_paper e2) hG
  refine V_aload_n X dL_law_1782 rfl 1 rfl ?_
  refine V_aload_n X dL_law_1783 rfl 0 rfl ?_
  refine V_iload X dL_law_1784 5 rfl ?_
  refine V_iconst X (1 : Int32) dL_law_1786 (by decide) ?_
  refine V_iadd X dL_law_1787 ?_
  refine V_sld X hX hbl (lwA_not _ hbl) (in_scr h7 hL (j := 1) (by decide) (by decide)) dL_law_1788 ?_
  refine V_aload_n X dL_law_1789 rfl 3 rfl ?_
  have hln : ln S1 ≤ 142 := by rw [show ln S1 = ln S from ln_k (fz_L_paper (np := np) _ e1).2.1]; exact hI.1.ln
  have C : CwJ D cA (dL np) (dL np) ad l yL_paper cL_paper 4 (some .int) [(0, 9, 12, 38)] 22 670 (ln S1 - ln S + 1) (2 * (ln S1 - ln S) + 6) S [.ref (ad 6 0 0), .int (sx xs n 1), .ref (ad 36 0 0)] (some (.int k)) S1 := c_L_paper (np := np) (fu := 0) (out := (k, S1)) dL_K dL_Pb dL36 hI.2.2 hl e1
  obtain ⟨mc, emc, bc⟩ : ∃ mc, mc = ln S1 - ln S + 1 ∧ mc ≤ 150 := ⟨_, rfl, by omega⟩
  obtain ⟨ms, ems, bs⟩ : ∃ ms, ms = 2 * (ln S1 - ln S) + 6 ∧ ms ≤ 400 := ⟨_, rfl, by omega⟩
  rw [← emc, ← ems] at C
  clear emc ems hln
  refine V_callSCJs X hZ hY [.ref (ad 6 0 0), .int (sx xs n 1), .ref (ad 36 0 0)] dL_law_1790 w_L_paper ⟨Nat.le_of_ble_eq_true rfl, Nat.le_of_ble_eq_true rfl⟩ ⟨lrA hc bc, lrA hs bs⟩ rfl (Nat.le_of_ble_eq_true rfl) C (fun ad2 hag X2 => ?_)
  rw [← lvL_ag hag]
  refine V_istore X2 dL_law_1793 ((6, .int k) :: lvL ad2 b (nI (7 * n))) (by decide) rfl ?_
  refine V_aload_n X2 dL_law_1795 rfl 3 rfl ?_
  refine V_aload_n X2 dL_law_1796 rfl 1 rfl ?_
  refine V_iload X2 dL_law_1797 6 rfl ?_
  refine V_iconst X2 (1 : Int32) dL_law_1799 (by decide) ?_
  refine V_iadd X2 dL_law_1800 ?_
  refine V_sld X2 hX hbl (lwA_not _ hbl) (in_scr h7 hL (j := 1) (by decide) (by decide)) dL_law_1801 ?_
  refine V_callVs X2 [.int (sx xs n 1)] dL_law_1802 m_L_209 v_X7_paper ⟨Nat.le_of_ble_eq_true rfl, Nat.le_of_ble_eq_true rfl⟩ ⟨lrA hc bc, lrA hs bs⟩ rfl (Nat.le_of_ble_eq_true rfl) (gm7 dL_M) rfl cl7 (c_X7_paper dL_M e2) ?_
  exact law_tail X2 dL_M dL36 ⟨lrA hc bc, lrA hs bs⟩ g7 g36 dL_law_1805 dL_law_1807 dL_law_1808 dL_law_1811 dL_law_1813 dL_law_1818 dL_law_1820 dL_law_1823 dL_law_1824 dL_law_1825 dL_law_1826 dL_law_1828 dL_law_1829 dL_law_1830 dL_law_1835 (by decide) (V_widen (Nat.add_le_add_left bc _) (Nat.add_le_add_left bs _) (kk (np) (T) S2 ad2 (by omega) (by omega) hI2 X2))
theorem w_L_meanRounds : MLW RL 175 yL_meanRounds cL_meanRounds 3 (some .int) [(0, 7, 10, 82)] 2 := ⟨gin 1118 (by decide +kernel) (by decide +kernel), nw_L_meanRounds, ni_L, by decide +kernel, t_L_meanRounds⟩
set_option maxHeartbeats 1000000 in
theorem law_c17 {l : Launch} {D : va_G} {cA : Nat → ClassId} {p : Program} {e : Env} {s : State} {m : MethodId} {below : List Frame} {meth : Method} {c : Code} {b L : Nat} {xs : Nat → Int32} {Q : State → Prop} {n np T cells slots : Nat} {S : S4} {ad : Ad} (X : GX D cA (dL np) ad (lwA s) 9 p s m #[Value.ref b] meth c RL cL_law) (hI : LI np T S) (hn : np ≤ n) (hT : T ≤ 200 * n) (hn5 : n < 512) (hZ : gZ (lwA s) s s.heap) (hY : gY (lwA s) s s.heap) (hl : l.stackTraces = false) (hX : va_X b L xs s s.heap) (hbl : b < s.heap.size) (h7 : 7 * n + 7 ≤ L) (hL : L ≤ 3584) (hc : cells + 150 ≤ room_1.cells) (hs : slots + 400 ≤ room_1.slots) (kk : KK l D cA p e s m below meth c b Q n cells slots) : V D cA (dL np) ad (lwA s) 9 p l e room_1 s m #[Value.ref b] below meth c cells slots Q S 1327 (lvL ad b (nI (7 * n))) [] := by
  obtain ⟨k, S1, a, b1, S2, e1, e2, g7, g37, hG⟩ := st_meanRounds (fu := 9601) hI.1 (by omega) (by decide)
  have hI2 : LI np T S2 := hI.next (fz_L_meanRounds _ e1) (fr_X7_meanRounds e2) hG
  refine V_aload_n X dL_law_1327 rfl 1 rfl ?_
  refine V_aload X dL_law_1328 4 rfl ?_
  refine V_callSCs X hZ [.ref (ad 6 0 0), .ref (ad 37 0 0)] dL_law_1330 w_L_meanRounds ⟨Nat.le_of_ble_eq_true rfl, Nat.le_of_ble_eq_true rfl⟩ ⟨lrA hc (by decide), lrA hs (by decide)⟩ rfl (Nat.le_of_ble_eq_true rfl) (c_L_meanRounds dL_K dL37 hl e1) ?_
  refine V_istore X dL_law_1333 ((6, .int k) :: lvL ad b (nI (7 * n))) (by decide) rfl ?_
  refine V_aload_n X dL_law_1335 rfl 3 rfl ?_
  refine V_callVs X [] dL_law_1336 m_L_178 v_X7_meanRounds ⟨Nat.le_of_ble_eq_true rfl, Nat.le_of_ble_eq_true rfl⟩ ⟨lrA hc (by decide), lrA hs (by decide)⟩ rfl (Nat.le_of_ble_eq_true rfl) (gm7 dL_M) rfl cl7 (c_X7_meanRounds dL_M e2) ?_
  refine V_dstore X dL_law_1339 ((7, .double (dv a b1)) :: (6, .int k) :: lvL ad b (nI (7 * n))) (by decide) rfl ?_
  refine V_aload_n X dL_law_1341 rfl 4 rfl ?_
  refine V_callVs X [] dL_law_1342 m_L_117 v_X7_thrown ⟨Nat.le_of_ble_eq_true rfl, Nat.le_of_ble_eq_true rfl⟩ ⟨lrA hc (by decide), lrA hs (by decide)⟩ rfl (Nat.le_of_ble_eq_true rfl) (gm7 dL_M) rfl cl7 (c_X7_thrown dL_M (rfl : s_X7_thrown S2 = some (S2 7 0 0 0))) ?_
  have fin : V D cA (dL np) ad (lwA s) 9 p l e room_1 s m #[Value.ref b] below meth c (cells + 1) (slots + 6) Q S2 1389 ((7, .double (dv a b1)) :: (6, .int k) :: lvL ad b (nI (7 * n))) [] := V_goto X 1838 dL_law_1389 (by decide) (V_sub [2, 3, 4, 5, 6, 7] rfl (V_widen (Nat.add_le_add_left (by decide) _) (Nat.add_le_add_left (by decide) _) (kk np T S2 ad (by omega) (by omega) hI2 X)))
  refine V_iload X dL_law_1345 1 rfl ?_
  refine V_icmp_eq X 1352 dL_law_1347 (by decide) (fun _ => ?_) (fun h => absurd g7 h)
  refine V_iload X dL_law_1352 1 rfl ?_
  refine V_if_ne X 1389 dL_law_1354 (by decide) (fun _ => fin) (fun h0 => ?_)
  obtain ⟨q1, q2, q3, q4⟩ := g37 h0
  have hdq : dq (S2 37 0 0 0) (S2 37 0 0 1) (S2 37 0 0 2) = dv a b1 := by rw [q1, q2, q3]; exact if_neg (by decide)
  refine V_aload X dL_law_1357 6 rfl ?_
  refine V_iconst X (0 : Int32) dL_law_1359 (by decide) ?_
  refine V_dald0 X dL37 hdq dL_law_1360 ?_
  refine V_dload X dL_law_1361 0 rfl ?_
  refine V_dcmp X dL_law_1363 ?_
  refine V_if_eq X 1389 dL_law_1364 (by decide) (fun _ => fin) (fun hv => ?_)
  refine V_aload X dL_law_1367 6 rfl ?_
  refine V_iconst X (0 : Int32) dL_law_1369 (by decide) ?_
  refine V_dald0 X dL37 hdq dL_law_1370 ?_
  refine V_aload X dL_law_1371 6 rfl ?_
  refine V_iconst X (0 : Int32) dL_law_1373 (by decide) ?_
  refine V_dald0 X dL37 hdq dL_law_1374 ?_
  refine V_dcmp X dL_law_1375 ?_
  refine V_if_eq X 1387 dL_law_1376 (by decide) (fun h => absurd h hv) (fun _ => ?_)
  refine V_dload X dL_law_1379 0 rfl ?_
  refine V_dload X dL_law_1381 0 rfl ?_
  refine V_dcmp X dL_law_1383 ?_
  exact V_if_ne X 1389 dL_law_1384 (by decide) (fun _ => fin) (fun h => absurd h hv)
set_option maxHeartbeats 1000000 in
theorem law_c20 {l : Launch} {D : va_G} {cA : Nat → ClassId} {p : Program} {e : Env} {s : State} {m : MethodId} {below : List Frame} {meth : Method} {c : Code} {b L : Nat} {xs : Nat → Int32} {Q : State → Prop} {n np T cells slots : Nat} {S : S4} {ad : Ad} (X : GX D cA (dL np) ad (lwA s) 9 p s m #[Value.ref b] meth c RL cL_law) (hI : LI np T S) (hn : np ≤ n) (hT : T ≤ 200 * n) (hn5 : n < 512) (hZ : gZ (lwA s) s s.heap) (hY : gY (lwA s) s s.heap) (hl : l.stackTraces = false) (hX : va_X b L xs s s.heap) (hbl : b < s.heap.size) (h7 : 7 * n + 7 ≤ L) (hL : L ≤ 3584) (hc : cells + 150 ≤ room_1.cells) (hs : slots + 400 ≤ room_1.slots) (kk : KK l D cA p e s m below meth c b Q n cells slots) : V D cA (dL np) ad (lwA s) 9 p l e room_1 s m #[Value.ref b] below meth c cells slots Q S 1544 (lvL ad b (nI (7 * n))) [] := by
  obtain ⟨e1, S2, e2, hG⟩ := st_audit (fu := 9601) hI.1 (by omega) (by decide)
  have hI2 : LI np T S2 := hI.next (FZ.refl np S) (fr_X7_audit e2) hG
  refine V_aload_n X dL_law_1544 rfl 1 rfl ?_
  refine V_callVs X [] dL_law_1545 m_L_186 v_X6_audit ⟨Nat.le_of_ble_eq_true rfl, Nat.le_of_ble_eq_true rfl⟩ ⟨lr0 hc, lr0 hs⟩ rfl (Nat.le_of_ble_eq_true rfl) (gm6 dL_K) rfl cl6 (c_X6_audit dL_K e1) ?_
  refine V_aload_n X dL_law_1548 rfl 2 rfl ?_
  refine V_callVs X [] dL_law_1549 m_L_190 v_X7_audit ⟨Nat.le_of_ble_eq_true rfl, Nat.le_of_ble_eq_true rfl⟩ ⟨lr0 hc, lr0 hs⟩ rfl (Nat.le_of_ble_eq_true rfl) (gm7 dL_M) rfl cl7 (c_X7_audit dL_M e2) ?_
  exact V_icmp_eq X 1838 dL_law_1552 (by decide) (fun _ => (V_widen (Nat.le_add_right _ _) (Nat.le_add_right _ _) (kk np T S2 ad (by omega) (by omega) hI2 X))) (fun h => absurd rfl h)
set_option maxHeartbeats 1000000 in
theorem law_c23 {l : Launch} {D : va_G} {cA : Nat → ClassId} {p : Program} {e : Env} {s : State} {m : MethodId} {below : List Frame} {meth : Method} {c : Code} {b L : Nat} {xs : Nat → Int32} {Q : State → Prop} {n np T cells slots : Nat} {S : S4} {ad : Ad} (X : GX D cA (dL np) ad (lwA s) 9 p s m #[Value.ref b] meth c RL cL_law) (hI : LI np T S) (hn : np ≤ n) (hT : T ≤ 200 * n) (hn5 : n < 512) (hZ : gZ (lwA s) s s.heap) (hY : gY (lwA s) s s.heap) (hl : l.stackTraces = false) (hX : va_X b L xs s s.heap) (hbl : b < s.heap.size) (h7 : 7 * n + 7 ≤ L) (hL : L ≤ 3584) (hc : cells + 150 ≤ room_1.cells) (hs : slots + 400 ≤ room_1.slots) (kk : KK l D cA p e s m below meth c b Q n cells slots) : V D cA (dL np) ad (lwA s) 9 p l e room_1 s m #[Value.ref b] below meth c cells slots Q S 1669 (lvL ad b (nI (7 * n))) [] := by
  obtain ⟨y, S1, S2, e1, e2, hG⟩ := st_saveSnapshot (fu := 9601) hI.1 (by omega) (by decide)
  have hI2 : LI np T S2 := hI.next (fz_X6_saveSnapshot _ e1) (fr_X7_saveSnapshot e2) hG
  refine V_aload_n X dL_law_1669 rfl 1 rfl ?_
  refine V_callVs X [] dL_law_1670 m_L_197 v_X6_saveSnapshot ⟨Nat.le_of_ble_eq_true rfl, Nat.le_of_ble_eq_true rfl⟩ ⟨lr0 hc, lr0 hs⟩ rfl (Nat.le_of_ble_eq_true rfl) (gm6 dL_K) rfl cl6 (c_X6_saveSnapshot dL_K dL_P e1) ?_
  refine V_aload_n X dL_law_1673 rfl 2 rfl ?_
  refine V_callVs X [] dL_law_1674 m_L_200 v_X7_saveSnapshot ⟨Nat.le_of_ble_eq_true rfl, Nat.le_of_ble_eq_true rfl⟩ ⟨lr0 hc, lr0 hs⟩ rfl (Nat.le_of_ble_eq_true rfl) (gm7 dL_M) rfl cl7 (c_X7_saveSnapshot dL_M e2) ?_
  exact V_icmp_eq X 1838 dL_law_1677 (by decide) (fun _ => (V_widen (Nat.le_add_right _ _) (Nat.le_add_right _ _) (kk np T S2 ad (by omega) (by omega) hI2 X))) (fun h => absurd rfl h)
