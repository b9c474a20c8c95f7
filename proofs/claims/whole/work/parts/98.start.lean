-- ===== YOUR PART BEGINS =====
theorem law_NM : NM (dmu (dF (fun k => k = 6 ∨ k = 22 ∨ k = 23 ∨ k = 8 ∨ k = 9) (fun t => t < 11)) 47 0 0) := by
  intro k hk h
  rcases h with ⟨rfl, -, -⟩ | ⟨-, -, h⟩ | ⟨-, h⟩
  · omega
  · omega
  · exact nsk (by omega) (stK_sk h)
theorem law_dom {k t i : Nat} (h : dL 0 k t i) : dmu (dmu (dM2 (dmu (dF (fun k => k = 6 ∨ k = 22 ∨ k = 23 ∨ k = 8 ∨ k = 9) (fun t => t < 11)) 47 0 0)) 36 0 0) 37 0 0 k t i := by
  rcases h with (⟨rfl, rfl, h⟩ | ⟨h1, h2⟩) | h
  · unfold eL at h
    by_cases e37 : k = 37
    · exact Or.inl ⟨e37, rfl, rfl⟩
    · by_cases e36 : k = 36
      · exact Or.inr (Or.inl ⟨e36, rfl, rfl⟩)
      · by_cases e7 : k = 7 ∨ (24 ≤ k ∧ k ≤ 35)
        · exact Or.inr (Or.inr (Or.inl ⟨rfl, rfl, e7⟩))
        · exact Or.inr (Or.inr (Or.inr ⟨Or.inr (Or.inl ⟨rfl, rfl, by omega⟩), by omega⟩))
  · have n47 : k ≠ 47 := fun z => nsk (k := 47) (by decide) (by have hk := stK_sk h2; rw [z] at hk; exact hk)
    exact Or.inr (Or.inr (Or.inr ⟨Or.inr (Or.inr ⟨h1, h2⟩), fun z => n47 z.1⟩))
  · omega
set_option maxHeartbeats 4000000 in
/-- from the entry, for every script of at most 3584 ints, the law comes to its end with true -/
theorem whole_start {p : Program} {e : Env} {s : State} {m : MethodId} {below : List Frame} {meth : Method} {c : Code} (l : Launch) (hflags : l.flags = flags0) {b L : Nat} {xs : Nat → Int32} (hL : L ≤ 3584) (C0 : lw_At p s m meth c b L xs) : W p l e room_1 s m #[Value.ref b] below meth c s.heap [] 0 0 (lw_Z below #[Value.ref b] s) (entryFrame m ([Value.ref b] : List Value).toArray 9) := by
  obtain ⟨hx, hb, hr, hml, hown, hts, hX, hbl, hlocks, hgv⟩ := id C0
  have hnr : ∀ w ∈ nrL, w.before #[Value.ref b] s = true := flat_of_before _ hgv
  obtain ⟨D, cA, hK⟩ := law_K hts
  have hN := law_N hts hnr hK
  have hZ := law_Z hts hnr
  have hY := law_Y hts hnr
  have hl : l.stackTraces = false := by
    unfold Launch.stackTraces
    rw [hflags]
    decide +kernel
  obtain ⟨ad, aXx, a46, a47, a7, aM, a36, a37⟩ := ad_ex s.heap.size
  obtain ⟨S2, z1, r7, r8, r24, rz, hk⟩ := start_ref (w4 Sb0 47 0 0 (fun _ => 0))
  have hLI := law_LI r7 r8 r24 rz hk
  have X : GX D cA (fun _ _ _ => False) ad (lwA s) 9 p s m #[Value.ref b] meth c RL cL_law := ⟨hx, hb, hml, hown, fun w h => hts w (gT_in h), hK, fun _ _ _ _ _ _ h => h.elim, fun _ _ _ h => h.elim, fun q h => h, hlocks, hN⟩
  have hl0 := lv_entry ([.ref b]) (n := 9) (Nat.le_of_ble_eq_true rfl)
  rw [lg_entry_eq]
  have hl0 : lv_has ((lg_sl ([.ref b]) ++ List.replicate (9 - (lg_sl ([.ref b])).length) Slot.unset).toArray) 9 [(0, .ref b)] := hl0
  suffices W0 : V D cA (fun _ _ _ => False) ad (lwA s) 9 p l e room_1 s m #[Value.ref b] below meth c 0 0 (lw_Z below #[Value.ref b] s) S00 0 [(0, .ref b)] [] from W0 s.heap [] _ (fun k t i h => h.elim) va_S.rf hl0
  refine V_newX X rfl (Or.inl rfl) (k := 46) (t := 0) (i := 0) (r0 := fun _ => 0) gc6 k_L_8 in_RX6 ni_X6 a46 rfl (fs := [.null, .null, .null, .null, .int 0, .int 0, .int 0, .null, .int 0, .null]) (by intro j hj; rcases (by omega : j = 0 ∨ j = 1 ∨ j = 2 ∨ j = 3 ∨ j = 4 ∨ j = 5 ∨ j = 6 ∨ j = 7 ∨ j = 8 ∨ j = 9) with rfl | rfl | rfl | rfl | rfl | rfl | rfl | rfl | rfl | rfl <;> rfl) (Nat.le_of_ble_eq_true rfl) (Nat.le_of_ble_eq_true rfl) dL_law_0 (fun X1 => ?_)
  refine V_dup X1 dL_law_3 rfl ?_
  refine V_dom X1 (dm' := dF (fun k => k = 46) (fun _ => False)) (S' := w4 S00 46 0 0 (fun _ => 0)) (fun k t i h => ⟨?_, rfl⟩) (fun X2 => ?_)
  · rcases h with ⟨rfl, rfl, rfl⟩ | h
    · exact Or.inl ⟨rfl, rfl, rfl⟩
    · exact h.1.elim
  refine V_callIF X2 hY rfl (Or.inr ⟨46, 0, 0, Or.inl ⟨rfl, rfl, rfl⟩, by omega⟩) [] dL_law_4 m_L_107 rfl ii_X6_init ⟨Nat.le_of_ble_eq_true rfl, Nat.le_of_ble_eq_true rfl⟩ ⟨Nat.le_of_ble_eq_true rfl, Nat.le_of_ble_eq_true rfl⟩ rfl (Nat.le_of_ble_eq_true rfl) (c_X6_init (fu := 9601) (by decide) aXx (fun j => by rw [w4_self])) (fun X3 => ?_)
  rw [show ad 46 0 0 = ad 6 0 0 from aXx.2.2.2.symm]
  refine V_astore_n X3 dL_law_7 rfl [(1, .ref (ad 6 0 0)), (0, .ref b)] (by decide) rfl ?_
  refine V_newX X3 rfl (lastS (t := 10) (aXx.2.2.1 7 (by decide)) (show 10 < 11 by decide) (by omega)) (k := 47) (t := 0) (i := 0) (r0 := fun _ => 0) gc7 k_L_108 in_RX7 ni_X7 a47 rfl (fs := [.int 0, .null, .null, .null, .null, .null, .null, .int 0, .int 0, .int 0, .int 0, .int 0, .int 0, .int 0, .null, .null, .int 0, .int 0, .null, .null, .null, .int 0, .int 0, .int 0, .int 0, .null, .int 0]) (by intro j hj; rcases (by omega : j = 0 ∨ j = 1 ∨ j = 2 ∨ j = 3 ∨ j = 4 ∨ j = 5 ∨ j = 6 ∨ j = 7 ∨ j = 8 ∨ j = 9 ∨ j = 10 ∨ j = 11 ∨ j = 12 ∨ j = 13 ∨ j = 14 ∨ j = 15 ∨ j = 16 ∨ j = 17 ∨ j = 18 ∨ j = 19 ∨ j = 20 ∨ j = 21 ∨ j = 22 ∨ j = 23 ∨ j = 24 ∨ j = 25 ∨ j = 26) with rfl | rfl | rfl | rfl | rfl | rfl | rfl | rfl | rfl | rfl | rfl | rfl | rfl | rfl | rfl | rfl | rfl | rfl | rfl | rfl | rfl | rfl | rfl | rfl | rfl | rfl | rfl <;> rfl) (Nat.le_of_ble_eq_true rfl) (Nat.le_of_ble_eq_true rfl) dL_law_8 (fun X4 => ?_)
  refine V_dup X4 dL_law_11 rfl ?_
  refine V_callIF X4 hY rfl (Or.inr ⟨47, 0, 0, Or.inl ⟨rfl, rfl, rfl⟩, by omega⟩) [] dL_law_12 m_L_110 rfl ii_X7_init ⟨Nat.le_of_ble_eq_true rfl, Nat.le_of_ble_eq_true rfl⟩ ⟨Nat.le_of_ble_eq_true rfl, Nat.le_of_ble_eq_true rfl⟩ rfl (Nat.le_of_ble_eq_true rfl) (c_X7_init (fu := 9601) (Or.inl ⟨rfl, rfl, rfl⟩) law_NM (fun j => by rw [w4_self]) aM a7 z1) (fun X5 => ?_)
  rw [← a7]
  refine V_astore_n X5 dL_law_15 rfl [(2, .ref (ad 7 0 0)), (1, .ref (ad 6 0 0)), (0, .ref b)] (by decide) rfl ?_
  refine V_iconst X5 (1 : Int32) dL_law_16 (by decide) ?_
  have a35 := aM 35 (by decide) (by decide)
  refine V_newaX X5 rfl (Or.inr ⟨35, 0, 0, Or.inl ⟨rfl, rfl, Or.inr (by decide)⟩, by omega⟩) (atype := .long) (ty := .long) (k := 36) (t := 0) (i := 0) (q := 7) (N := 1) (a0 := (1, .inr (.inl (fun _ => (0 : Int32).toInt64)))) (r0 := fun _ => 0) rfl ar_long rfl a36 (fun _ => by rw [show (0 : Int32).toInt64 = 0 from by decide]; rfl) rfl (by decide) (by decide) (by decide) (Nat.le_of_ble_eq_true rfl) (Nat.le_of_ble_eq_true rfl) dL_law_17 (fun X6 => ?_)
  refine V_astore_n X6 dL_law_19 rfl [(3, .ref (ad 36 0 0)), (2, .ref (ad 7 0 0)), (1, .ref (ad 6 0 0)), (0, .ref b)] (by decide) rfl ?_
  refine V_iconst X6 (1 : Int32) dL_law_20 (by decide) ?_
  refine V_newaX X6 rfl (Or.inr ⟨36, 0, 0, Or.inl ⟨rfl, rfl, rfl⟩, by omega⟩) (atype := .double) (ty := .double) (k := 37) (t := 0) (i := 0) (q := 8) (N := 1) (a0 := (1, .inr (.inr (.inr (.inl (fun _ => dq 0 0 0)))))) (r0 := fun _ => 0) rfl ar_double rfl a37 (fun _ => by rw [show dq 0 0 0 = 0 from if_pos rfl]; rfl) rfl (by decide) (by decide) (by decide) (Nat.le_of_ble_eq_true rfl) (Nat.le_of_ble_eq_true rfl) dL_law_21 (fun X7 => ?_)
  refine V_astore X7 dL_law_23 [(4, .ref (ad 37 0 0)), (3, .ref (ad 36 0 0)), (2, .ref (ad 7 0 0)), (1, .ref (ad 6 0 0)), (0, .ref b)] (by decide) rfl ?_
  refine V_iconst X7 (0 : Int32) dL_law_25 (by decide) ?_
  refine V_istore X7 dL_law_26 [(5, .int (0 : Int32)), (4, .ref (ad 37 0 0)), (3, .ref (ad 36 0 0)), (2, .ref (ad 7 0 0)), (1, .ref (ad 6 0 0)), (0, .ref b)] (by decide) rfl ?_
  refine V_dom X7 (dm' := dL 0) (S' := w4 (w4 S2 36 0 0 (fun _ => 0)) 37 0 0 (fun _ => 0)) (fun k t i h => ⟨law_dom h, rfl⟩) (fun X8 => ?_)
  refine V_sub [5, 4, 3, 2, 1, 0] (lv' := lvL ad b (nI (7 * 0))) rfl ?_
  refine V_widen (k := 1000 + 150 * 0) (n := 28000 + 400 * 0) (Nat.le_of_ble_eq_true rfl) (Nat.le_of_ble_eq_true rfl) ?_
  exact law_loop hZ hY hl hX hbl hL (fun np S ad lv X => fun H locs ls hP hS hl => va_forget (fun q hq => hS.2.2 q hq) (W.base (lw_ret (Drawn.sameBut.refl s.drawn lw_cs) X.1 X.2.1 hr hlocks dL_law_1845))) 513 0 0 0 _ ad rfl (Nat.zero_le _) (Nat.le_refl _) (Nat.zero_le _) hLI X8
-- ===== YOUR PART ENDS =====
