/-! addPlan (printed by je.py) -/
def adN (ad : Ad) (np n : Nat) : Ad := fun k t x => if t = 0 ∧ x = np then (if k = 43 ∨ k = 3 then n else if k = 42 ∨ k = 2 then n + 1 else if 10 ≤ k ∧ k ≤ 13 then n + 2 + (k - 10) else ad k t x) else ad k t x
section HN
variable {D : va_G} {cA : Nat → ClassId} {ad : Ad} {np n k' t' i' q : Nat} {r : Nat → Int32} {H : Heap}
theorem adN_k {k : Nat} (h : ¬ (k = 43 ∨ k = 3 ∨ k = 42 ∨ k = 2 ∨ (10 ≤ k ∧ k ≤ 13))) : adN ad np n k = ad k := by
  funext t x
  unfold adN
  by_cases h1 : t = 0 ∧ x = np
  · rw [if_pos h1, if_neg (by omega), if_neg (by omega), if_neg (by omega)]
  · rw [if_neg h1]
theorem adN_i {k t x : Nat} (h : x ≠ np) : adN ad np n k t x = ad k t x := by
  unfold adN
  rw [if_neg (fun z => h z.2)]
theorem holdN_eq (h : (k' = 2 ∨ k' = 3 ∨ k' = 42 ∨ k' = 43) → i' ≠ np) (h17 : k' ≠ 17) : ct cA (adN ad np n) k' t' i' r = ct cA ad k' t' i' r := by
  by_cases e : k' = 2 ∨ k' = 3 ∨ k' = 42 ∨ k' = 43
  · have ne : ∀ k, adN ad np n k 0 i' = ad k 0 i' := fun k => adN_i (h e)
    have n23 : adN ad np n 23 = ad 23 := adN_k (by decide)
    rcases e with rfl | rfl | rfl | rfl <;> simp only [ct, ne, n23]
  · unfold ct
    split
    all_goals first
      | rfl
      | (exfalso; omega)
      | simp only [adN_k (ad := ad) (np := np) (n := n) (k := 0) (by decide), adN_k (ad := ad) (np := np) (n := n) (k := 1) (by decide), adN_k (ad := ad) (np := np) (n := n) (k := 4) (by decide), adN_k (ad := ad) (np := np) (n := n) (k := 5) (by decide), adN_k (ad := ad) (np := np) (n := n) (k := 8) (by decide), adN_k (ad := ad) (np := np) (n := n) (k := 9) (by decide), adN_k (ad := ad) (np := np) (n := n) (k := 14) (by decide), adN_k (ad := ad) (np := np) (n := n) (k := 15) (by decide), adN_k (ad := ad) (np := np) (n := n) (k := 16) (by decide), adN_k (ad := ad) (np := np) (n := n) (k := 17) (by decide), adN_k (ad := ad) (np := np) (n := n) (k := 18) (by decide), adN_k (ad := ad) (np := np) (n := n) (k := 19) (by decide), adN_k (ad := ad) (np := np) (n := n) (k := 20) (by decide), adN_k (ad := ad) (np := np) (n := n) (k := 21) (by decide), adN_k (ad := ad) (np := np) (n := n) (k := 22) (by decide), adN_k (ad := ad) (np := np) (n := n) (k := 23) (by decide), adN_k (ad := ad) (np := np) (n := n) (k := 24) (by decide), adN_k (ad := ad) (np := np) (n := n) (k := 25) (by decide), adN_k (ad := ad) (np := np) (n := n) (k := 26) (by decide), adN_k (ad := ad) (np := np) (n := n) (k := 27) (by decide), adN_k (ad := ad) (np := np) (n := n) (k := 28) (by decide), adN_k (ad := ad) (np := np) (n := n) (k := 29) (by decide), adN_k (ad := ad) (np := np) (n := n) (k := 30) (by decide), adN_k (ad := ad) (np := np) (n := n) (k := 31) (by decide), adN_k (ad := ad) (np := np) (n := n) (k := 32) (by decide), adN_k (ad := ad) (np := np) (n := n) (k := 33) (by decide), adN_k (ad := ad) (np := np) (n := n) (k := 34) (by decide), adN_k (ad := ad) (np := np) (n := n) (k := 35) (by decide)]
theorem holdN (h : (k' = 2 ∨ k' = 3 ∨ k' = 42 ∨ k' = 43) → i' ≠ np) (h17 : k' = 17 → ∀ j, j < 5 → pcd (r j) ≠ some np) (hv : va_at D gCl (q, ct cA ad k' t' i' r) H) : va_at D gCl (q, ct cA (adN ad np n) k' t' i' r) H := by
  by_cases e : k' = 17
  · subst e
    have h0 : H[q]? = some (arrV (cA 5) 5 (fun j => va_rf ((pcd (r j)).map (ad 2 0)))) := hv
    show H[q]? = some (arrV (cA 5) 5 (fun j => va_rf ((pcd (r j)).map (adN ad np n 2 0))))
    rw [h0]
    congr 1
    refine arrV_same (fun j hj => ?_)
    have hq := h17 rfl j hj
    cases ep : pcd (r j) with
    | none => rfl
    | some x =>
      have hx : x ≠ np := fun e => hq (by rw [ep, e])
      show va_rf (some (ad 2 0 x)) = va_rf (some (adN ad np n 2 0 x))
      rw [adN_i hx]
  · rw [holdN_eq h e]
    exact hv
theorem newR_of {dm : Dm} {len : Int32} {S : S4} {k t x : Nat} (hfr : NFr dm np) (h : e4 dm np k t x) : (k = 3 ∧ t = 0 ∧ x = np) ∨ (e3 (dmu dm 43 0 np) np k t x ∧ ¬ (k = 43 ∧ t = 0 ∧ x = np) ∧ newR np (if (80 : Int32) < len then (80 : Int32) else len) S k t x = nwR np len (w4 S 43 0 np (fun _ => 0)) k t x) := by
  by_cases h3 : k = 3 ∧ t = 0 ∧ x = np
  · exact Or.inl h3
  · refine Or.inr ⟨?_, ?_, ?_⟩
    · rcases h with ⟨rfl, rfl, h⟩ | h
      · exact Or.inl ⟨rfl, rfl, by omega⟩
      · exact Or.inr (Or.inr h)
    · rcases h with ⟨rfl, rfl, h⟩ | h
      · omega
      · exact fun z => hfr 43 t (by omega) (by obtain ⟨rfl, -, rfl⟩ := z; exact h)
    · have n43 : ¬ (k = 43 ∧ t = 0 ∧ x = np) := by
        rcases h with ⟨rfl, rfl, h⟩ | h
        · omega
        · exact fun z => hfr 43 t (by omega) (by obtain ⟨rfl, -, rfl⟩ := z; exact h)
      funext j
      unfold newR nwR nwP
      simp only [w4_app]
      rw [if_neg h3, if_neg n43, if_neg n43]
end HN
theorem c_X6_addPlan {l : Launch} {D : va_G} {cA : Nat → ClassId} {dm : Dm} {ad : Ad} {np fu : Nat} {S : S4} (hK : DK dm) (hnp : ∀ i, i < np → DP dm i) (hfr : NFr dm np) (h17 : ∀ t i j, j < 5 → pcd (S 17 t i j) ≠ some np) {out : Int32 × S4} (hs : s_X6_addPlan np fu S = some (.inl out)) : CtJ true D cA dm (e4 dm np) ad l yX6_addPlan cX6_addPlan 3 (some .int) 8 200 6 60 S [.ref (ad 6 0 0)] (fun _ => some (.int out.1)) out.2 := by
  refine CtJ.of (by decide +kernel) (Nat.le_of_ble_eq_true rfl) [(0, .ref (ad 6 0 0))] rfl (fun p e s m args below meth c A X hr hY => ?_)
  obtain ⟨ad2, had2⟩ : ∃ ad2, ad2 = adN ad np s.heap.size := ⟨_, rfl⟩
  have hag : ∀ k t i, dm k t i → ad2 k t i = ad k t i := fun k t i g => by
    rw [had2]
    unfold adN
    by_cases h1 : t = 0 ∧ i = np
    · obtain ⟨rfl, rfl⟩ := h1
      have hx : ¬ (k = 2 ∨ k = 3 ∨ (10 ≤ k ∧ k ≤ 13) ∨ k = 42 ∨ k = 43) := fun z => hfr k 0 z g
      rw [if_pos ⟨rfl, rfl⟩, if_neg (by omega), if_neg (by omega), if_neg (by omega)]
    · rw [if_neg h1]
  have a43 : ad2 43 0 np = s.heap.size := by rw [had2]; unfold adN; simp
  have a3 : ad2 3 0 np = s.heap.size := by rw [had2]; unfold adN; simp
  have a42 : ad2 42 0 np = s.heap.size + 1 := by rw [had2]; unfold adN; simp
  have a2 : ad2 2 0 np = s.heap.size + 1 := by rw [had2]; unfold adN; simp
  have a10 : ad2 10 0 np = s.heap.size + 1 + 1 := by rw [had2]; unfold adN; simp
  have a11 : ad2 11 0 np = s.heap.size + 1 + 2 := by rw [had2]; unfold adN; simp
  have a12 : ad2 12 0 np = s.heap.size + 1 + 3 := by rw [had2]; unfold adN; simp
  have a13 : ad2 13 0 np = s.heap.size + 1 + 4 := by rw [had2]; unfold adN; simp
  have h23 : dm 23 0 0 := hK.2.2.1
  refine V_conv (dm' := dm) (ad' := ad2) (S' := S) (fun H hP k t i g => ?_) ?_
  · rw [hag k t i g, had2]
    exact holdN (fun z e => hfr k t (by omega) (by rw [← e]; exact g)) (fun z j hj => by subst z; exact h17 t i j hj) (hP k t i g)
  have X2 : GX D cA dm ad2 A 3 p s m args meth c yX6_addPlan.cls cX6_addPlan := GX_conv X (fun k t i k' t' i' g g' he => X.2.2.2.2.2.2.1 _ _ _ _ _ _ g g' (by rw [← hag _ _ _ g, ← hag _ _ _ g']; exact he)) (fun k t i g => by rw [hag k t i g]; exact X.2.2.2.2.2.2.2.1 _ _ _ g)
  rw [← hag 6 0 0 (gm6 hK)]
  refine V_newX X2 rfl (Or.inl rfl) (k := 43) (t := 0) (i := np) (r0 := fun _ => 0) gc3 cl_X6_116 in_RX3 ni_X3 a43 rfl (fs := [.null, .int 0, .null, .int 0]) (by intro j hj; rcases (by omega : j = 0 ∨ j = 1 ∨ j = 2 ∨ j = 3) with rfl | rfl | rfl | rfl <;> rfl) (Nat.le_of_ble_eq_true rfl) (Nat.le_of_ble_eq_true rfl) dX6_addPlan_0 (fun X3 => ?_)
  refine V_dup X3 dX6_addPlan_3 rfl ?_
  refine V_aload_n X3 dX6_addPlan_4 rfl 0 rfl ?_
  refine V_get X3 dX6_addPlan_5 r_X6_26 (Or.inr (gm6 hK)) rfl rfl ?_
  refine V_aload_n X3 dX6_addPlan_8 rfl 0 rfl ?_
  refine V_get X3 dX6_addPlan_9 r_X6_111 (Or.inr (gm6 hK)) rfl rfl ?_
  refine V_eqi (y := (S 6 0 0 8)) (by rw [w4_ne (by omega)]) ?_
  refine V_callIF X3 hY rfl (Or.inr ⟨43, 0, np, Or.inl ⟨rfl, rfl, rfl⟩, by rw [a43]⟩) [.ref (ad2 23 0 0), .int (S 6 0 0 8)] dX6_addPlan_12 m_X6_118 rfl ii_X3_init ⟨Nat.le_of_ble_eq_true rfl, Nat.le_of_ble_eq_true rfl⟩ ⟨Nat.le_of_ble_eq_true rfl, Nat.le_of_ble_eq_true rfl⟩ rfl (Nat.le_of_ble_eq_true rfl) (c_X3_init (Or.inl ⟨rfl, rfl, rfl⟩) (Or.inr h23) (fun j => by rw [w4_self]) (fun k z g => g.elim (fun q => by omega) (hfr k 0 (by omega))) a42 a2 a10 a11 a12 a13) (fun X4 => ?_)
  refine V_renF X4 (k := 43) (k2 := 3) (t := 0) (i := np) (dm' := e4 dm np) (S' := newR np (if 80 < S 6 0 0 8 then 80 else S 6 0 0 8) S) (Or.inr (Or.inl ⟨rfl, rfl, rfl⟩)) (a3.trans a43.symm) (fun H hv => ?_) (fun k t x h => newR_of hfr h) (fun X5 => ?_)
  · have e43 : ∀ j, nwR np (S 6 0 0 8) (w4 S 43 0 np (fun _ => 0)) 43 0 np j = if j = 3 then (if 80 < S 6 0 0 8 then 80 else S 6 0 0 8) else if j = 0 ∨ j = 2 then 1 else 0 := fun j => by unfold nwR; rw [w4_app, if_pos ⟨rfl, rfl, rfl⟩]
    have e33 : ∀ j, newR np (if 80 < S 6 0 0 8 then 80 else S 6 0 0 8) S 3 0 np j = if j = 3 then (if 80 < S 6 0 0 8 then 80 else S 6 0 0 8) else 0 := fun j => by unfold newR; rw [w4_app, if_pos ⟨rfl, rfl, rfl⟩]
    have ee : ct cA ad2 3 0 np (newR np (if 80 < S 6 0 0 8 then 80 else S 6 0 0 8) S 3 0 np) = ct cA ad2 43 0 np (nwR np (S 6 0 0 8) (w4 S 43 0 np (fun _ => 0)) 43 0 np) := by
      simp only [ct, e43, e33]
      rfl
    rw [ee]; exact hv
  rw [show ad2 43 0 np = ad2 3 0 np from a43.trans a3.symm]
  have hK5 : DK (e4 dm np) := ⟨Or.inr hK.1, Or.inr hK.2.1, Or.inr hK.2.2.1, fun t ht k i hk => Or.inr (hK.2.2.2 t ht k i hk)⟩
  have hD5 : DP (e4 dm np) np := fun k hk => Or.inl ⟨rfl, rfl, by omega⟩
  have hnp5 : ∀ i, i < np + 1 → DP (e4 dm np) i := fun i hi => by
    by_cases e : i = np
    · rw [e]; exact hD5
    · exact fun k hk => Or.inr (hnp i (by omega) k hk)
  have hR5 : DR (e4 dm np) np := ⟨hD5, Or.inl ⟨rfl, rfl, by omega⟩, Or.inr h23⟩
  have hT5 : DS (e4 dm np) 0 := hK5.2.2.2 0 (by decide)
  have hag5 : agM true dm ad ad2 := fun k t i g _ => hag k t i g
  unfold s_X6_addPlan at hs
  obtain ⟨q, eq, hs⟩ := bd_some hs
  refine V_astore_n X5 dX6_addPlan_15 rfl [(1, .ref (ad2 3 0 np)), (0, .ref (ad2 6 0 0))] (by decide) rfl ?_
  refine V_aload_n X5 dX6_addPlan_16 rfl 1 rfl ?_
  refine V_iconst X5 (0 : Int32) dX6_addPlan_17 (by decide) ?_
  refine V_put X5 dX6_addPlan_18 f_X6_111 (gm6 hK5) rfl (Nat.le_of_ble_eq_true rfl) rfl rfl rfl (fun Z1 e1 => ?_)
  rw [← e1] at eq
  refine V_aload_n X5 dX6_addPlan_21 rfl 0 rfl ?_
  refine V_callVs X5 [] dX6_addPlan_22 m_X6_121 v_X3_readPlan ⟨Nat.le_of_ble_eq_true rfl, Nat.le_of_ble_eq_true rfl⟩ ⟨Nat.le_of_ble_eq_true rfl, Nat.le_of_ble_eq_true rfl⟩ rfl (Nat.le_of_ble_eq_true rfl) hR5.2.1 rfl cl3 (c_X3_readPlan hR5 eq) ?_
  refine V_if_ne X5 36 dX6_addPlan_25 (by decide) (fun c1 => ?_) (fun c1 => ?_)
  · replace hs := if_f hs c1
    obtain ⟨b, eb, hs⟩ := bd_some hs
    refine V_aload_n X5 dX6_addPlan_36 rfl 0 rfl ?_
    refine V_get X5 dX6_addPlan_37 r_X6_128 hR5.2.1 rfl rfl ?_
    refine V_astore_n X5 dX6_addPlan_40 rfl [(2, .ref (ad2 2 0 np)), (1, .ref (ad2 3 0 np)), (0, .ref (ad2 6 0 0))] (by decide) rfl ?_
    refine V_aload_n X5 dX6_addPlan_41 rfl 0 rfl ?_
    refine V_aload_n X5 dX6_addPlan_42 rfl 2 rfl ?_
    refine V_get X5 dX6_addPlan_43 r_X6_10 (gm6 hK5) rfl rfl ?_
    refine V_get X5 dX6_addPlan_46 r_X6_82 (gm4 hT5) rfl rfl ?_
    refine V_callVs X5 [.int (q.2 4 0 0 4)] dX6_addPlan_49 m_X6_132 v_X2_isPossible ⟨Nat.le_of_ble_eq_true rfl, Nat.le_of_ble_eq_true rfl⟩ ⟨Nat.le_of_ble_eq_true rfl, Nat.le_of_ble_eq_true rfl⟩ rfl (Nat.le_of_ble_eq_true rfl) (gm2 hD5) rfl cl2 (c_X2_isPossible hD5 eb) ?_
    refine V_if_ne X5 65 dX6_addPlan_52 (by decide) (fun c2 => ?_) (fun c2 => ?_)
    · replace hs := if_f hs c2
      obtain ⟨h, eh, hs⟩ := bd_some hs
      have J : h ≠ 0 → V D cA (e4 dm np) ad2 A 3 p l e ({ frames := 8, cells := 6, slots := 60, locals := 200 }) s m args below meth c (0 + 1 + 5) (0 + 4 + 56) (MQ below (gQJ true D cA dm (e4 dm np) ad out.2 (fun _ => some (.int out.1)) A) args s 6 60 A) q.2 100 [(2, .ref (ad2 2 0 np)), (1, .ref (ad2 3 0 np)), (0, .ref (ad2 6 0 0))] [] := by
        intro ch
        replace hs := if_f hs ch
        obtain ⟨Z5, e5, hs⟩ := bd_some hs
        obtain ⟨Z6, e6, hs⟩ := bd_some hs
        obtain rfl := ll_eq hs
        refine V_aload_n X5 dX6_addPlan_100 rfl 2 rfl ?_
        refine V_callVv X5 [] dX6_addPlan_101 m_X6_69 v_X6_remember ⟨Nat.le_of_ble_eq_true rfl, Nat.le_of_ble_eq_true rfl⟩ ⟨Nat.le_of_ble_eq_true rfl, Nat.le_of_ble_eq_true rfl⟩ rfl (Nat.le_of_ble_eq_true rfl) (gm6 hK5) rfl cl6 (c_X6_remember hK5 hnp5 e5) ?_
        refine V_aload_n X5 dX6_addPlan_104 rfl 2 rfl ?_
        refine V_get X5 dX6_addPlan_105 r_X6_10 (gm6 hK5) rfl rfl ?_
        refine V_aload_n X5 dX6_addPlan_108 rfl 0 rfl ?_
        refine V_callVv X5 [.ref (ad2 2 0 np)] dX6_addPlan_109 m_X6_153 v_X4_putPlan ⟨Nat.le_of_ble_eq_true rfl, Nat.le_of_ble_eq_true rfl⟩ ⟨Nat.le_of_ble_eq_true rfl, Nat.le_of_ble_eq_true rfl⟩ rfl (Nat.le_of_ble_eq_true rfl) (gm4 hT5) rfl cl4 (c_X4_putPlan hT5 hD5 hnp5 e6) ?_
        refine V_aload_n X5 dX6_addPlan_112 rfl 2 rfl ?_
        refine V_get X5 dX6_addPlan_113 r_X6_10 (gm6 hK5) rfl rfl ?_
        refine V_get X5 dX6_addPlan_116 r_X6_142 (gm4 hT5) rfl rfl ?_
        exact V_zretJ X5 hag5 hr rfl dX6_addPlan_119
      refine V_aload_n X5 dX6_addPlan_65 rfl 2 rfl ?_
      refine V_get X5 dX6_addPlan_66 r_X6_10 (gm6 hK5) rfl rfl ?_
      refine V_get X5 dX6_addPlan_69 r_X6_142 (gm4 hT5) rfl rfl ?_
      refine V_iconst X5 (5 : Int32) dX6_addPlan_72 (by decide) ?_
      refine V_icmp_lt X5 100 dX6_addPlan_73 (by decide) (fun c3 => ?_) (fun c3 => ?_)
      · replace eh := if_f eh (Int32.not_le.mpr c3)
        exact J (by rw [← Option.some.inj eh]; decide)
      · replace eh := if_t eh (Int32.not_lt.mp c3)
        refine V_aload_n X5 dX6_addPlan_76 rfl 2 rfl ?_
        refine V_get X5 dX6_addPlan_77 r_X6_10 (gm6 hK5) rfl rfl ?_
        refine V_aload_n X5 dX6_addPlan_80 rfl 0 rfl ?_
        refine V_get X5 dX6_addPlan_81 r_X6_145 (gm2 hD5) rfl rfl ?_
        refine V_callVs X5 [.int (q.2 2 0 np 0)] dX6_addPlan_84 m_X6_148 v_X4_hasPlanFrom ⟨Nat.le_of_ble_eq_true rfl, Nat.le_of_ble_eq_true rfl⟩ ⟨Nat.le_of_ble_eq_true rfl, Nat.le_of_ble_eq_true rfl⟩ rfl (Nat.le_of_ble_eq_true rfl) (gm4 hT5) rfl cl4 (c_X4_hasPlanFrom hT5 hnp5 eh) ?_
        refine V_if_ne X5 100 dX6_addPlan_87 (by decide) (fun c4 => J c4) (fun c4 => ?_)
        replace hs := if_t hs c4
        exact (rl_no hs).elim
    · replace hs := if_t hs c2
      exact (rl_no hs).elim
  · replace hs := if_t hs c1
    obtain rfl := ll_eq hs
    refine V_bipush X5 (-100 : Int32) dX6_addPlan_28 (by decide) ?_
    refine V_aload_n X5 dX6_addPlan_30 rfl 0 rfl ?_
    refine V_get X5 dX6_addPlan_31 r_X6_125 hR5.2.1 rfl rfl ?_
    refine V_isub X5 dX6_addPlan_34 ?_
    exact V_zretJ X5 hag5 hr rfl dX6_addPlan_35
theorem x_X6_addPlan {l : Launch} {D : va_G} {cA : Nat → ClassId} {dm : Dm} {ad : Ad} {np fu : Nat} {S : S4} (hK : DK dm) (hnp : ∀ i, i < np → DP dm i) (hfr : NFr dm np) (h17 : ∀ t i j, j < 5 → pcd (S 17 t i j) ≠ some np) (hl : l.stackTraces = false) {out : Nat × S4} (hs : s_X6_addPlan np fu S = some (.inr out)) : CxJ D cA dm (e4 dm np) ad l yX6_addPlan cX6_addPlan 3 (some .int) 8 200 7 66 S [.ref (ad 6 0 0)] out := by
  refine CxJ.of (by decide +kernel) (Nat.le_of_ble_eq_true rfl) [(0, .ref (ad 6 0 0))] rfl (fun p e s m args below meth c A X hr hZ hY hE => ?_)
  obtain ⟨ad2, had2⟩ : ∃ ad2, ad2 = adN ad np s.heap.size := ⟨_, rfl⟩
  have hag : ∀ k t i, dm k t i → ad2 k t i = ad k t i := fun k t i g => by
    rw [had2]
    unfold adN
    by_cases h1 : t = 0 ∧ i = np
    · obtain ⟨rfl, rfl⟩ := h1
      have hx : ¬ (k = 2 ∨ k = 3 ∨ (10 ≤ k ∧ k ≤ 13) ∨ k = 42 ∨ k = 43) := fun z => hfr k 0 z g
      rw [if_pos ⟨rfl, rfl⟩, if_neg (by omega), if_neg (by omega), if_neg (by omega)]
    · rw [if_neg h1]
  have a43 : ad2 43 0 np = s.heap.size := by rw [had2]; unfold adN; simp
  have a3 : ad2 3 0 np = s.heap.size := by rw [had2]; unfold adN; simp
  have a42 : ad2 42 0 np = s.heap.size + 1 := by rw [had2]; unfold adN; simp
  have a2 : ad2 2 0 np = s.heap.size + 1 := by rw [had2]; unfold adN; simp
  have a10 : ad2 10 0 np = s.heap.size + 1 + 1 := by rw [had2]; unfold adN; simp
  have a11 : ad2 11 0 np = s.heap.size + 1 + 2 := by rw [had2]; unfold adN; simp
  have a12 : ad2 12 0 np = s.heap.size + 1 + 3 := by rw [had2]; unfold adN; simp
  have a13 : ad2 13 0 np = s.heap.size + 1 + 4 := by rw [had2]; unfold adN; simp
  have h23 : dm 23 0 0 := hK.2.2.1
  refine V_conv (dm' := dm) (ad' := ad2) (S' := S) (fun H hP k t i g => ?_) ?_
  · rw [hag k t i g, had2]
    exact holdN (fun z e => hfr k t (by omega) (by rw [← e]; exact g)) (fun z j hj => by subst z; exact h17 t i j hj) (hP k t i g)
  have X2 : GX D cA dm ad2 A 3 p s m args meth c yX6_addPlan.cls cX6_addPlan := GX_conv X (fun k t i k' t' i' g g' he => X.2.2.2.2.2.2.1 _ _ _ _ _ _ g g' (by rw [← hag _ _ _ g, ← hag _ _ _ g']; exact he)) (fun k t i g => by rw [hag k t i g]; exact X.2.2.2.2.2.2.2.1 _ _ _ g)
  rw [← hag 6 0 0 (gm6 hK)]
  refine V_newX X2 rfl (Or.inl rfl) (k := 43) (t := 0) (i := np) (r0 := fun _ => 0) gc3 cl_X6_116 in_RX3 ni_X3 a43 rfl (fs := [.null, .int 0, .null, .int 0]) (by intro j hj; rcases (by omega : j = 0 ∨ j = 1 ∨ j = 2 ∨ j = 3) with rfl | rfl | rfl | rfl <;> rfl) (Nat.le_of_ble_eq_true rfl) (Nat.le_of_ble_eq_true rfl) dX6_addPlan_0 (fun X3 => ?_)
  refine V_dup X3 dX6_addPlan_3 rfl ?_
  refine V_aload_n X3 dX6_addPlan_4 rfl 0 rfl ?_
  refine V_get X3 dX6_addPlan_5 r_X6_26 (Or.inr (gm6 hK)) rfl rfl ?_
  refine V_aload_n X3 dX6_addPlan_8 rfl 0 rfl ?_
  refine V_get X3 dX6_addPlan_9 r_X6_111 (Or.inr (gm6 hK)) rfl rfl ?_
  refine V_eqi (y := (S 6 0 0 8)) (by rw [w4_ne (by omega)]) ?_
  refine V_callIF X3 hY rfl (Or.inr ⟨43, 0, np, Or.inl ⟨rfl, rfl, rfl⟩, by rw [a43]⟩) [.ref (ad2 23 0 0), .int (S 6 0 0 8)] dX6_addPlan_12 m_X6_118 rfl ii_X3_init ⟨Nat.le_of_ble_eq_true rfl, Nat.le_of_ble_eq_true rfl⟩ ⟨Nat.le_of_ble_eq_true rfl, Nat.le_of_ble_eq_true rfl⟩ rfl (Nat.le_of_ble_eq_true rfl) (c_X3_init (Or.inl ⟨rfl, rfl, rfl⟩) (Or.inr h23) (fun j => by rw [w4_self]) (fun k z g => g.elim (fun q => by omega) (hfr k 0 (by omega))) a42 a2 a10 a11 a12 a13) (fun X4 => ?_)
  refine V_renF X4 (k := 43) (k2 := 3) (t := 0) (i := np) (dm' := e4 dm np) (S' := newR np (if 80 < S 6 0 0 8 then 80 else S 6 0 0 8) S) (Or.inr (Or.inl ⟨rfl, rfl, rfl⟩)) (a3.trans a43.symm) (fun H hv => ?_) (fun k t x h => newR_of hfr h) (fun X5 => ?_)
  · have e43 : ∀ j, nwR np (S 6 0 0 8) (w4 S 43 0 np (fun _ => 0)) 43 0 np j = if j = 3 then (if 80 < S 6 0 0 8 then 80 else S 6 0 0 8) else if j = 0 ∨ j = 2 then 1 else 0 := fun j => by unfold nwR; rw [w4_app, if_pos ⟨rfl, rfl, rfl⟩]
    have e33 : ∀ j, newR np (if 80 < S 6 0 0 8 then 80 else S 6 0 0 8) S 3 0 np j = if j = 3 then (if 80 < S 6 0 0 8 then 80 else S 6 0 0 8) else 0 := fun j => by unfold newR; rw [w4_app, if_pos ⟨rfl, rfl, rfl⟩]
    have ee : ct cA ad2 3 0 np (newR np (if 80 < S 6 0 0 8 then 80 else S 6 0 0 8) S 3 0 np) = ct cA ad2 43 0 np (nwR np (S 6 0 0 8) (w4 S 43 0 np (fun _ => 0)) 43 0 np) := by
      simp only [ct, e43, e33]
      rfl
    rw [ee]; exact hv
  rw [show ad2 43 0 np = ad2 3 0 np from a43.trans a3.symm]
  have hK5 : DK (e4 dm np) := ⟨Or.inr hK.1, Or.inr hK.2.1, Or.inr hK.2.2.1, fun t ht k i hk => Or.inr (hK.2.2.2 t ht k i hk)⟩
  have hD5 : DP (e4 dm np) np := fun k hk => Or.inl ⟨rfl, rfl, by omega⟩
  have hnp5 : ∀ i, i < np + 1 → DP (e4 dm np) i := fun i hi => by
    by_cases e : i = np
    · rw [e]; exact hD5
    · exact fun k hk => Or.inr (hnp i (by omega) k hk)
  have hR5 : DR (e4 dm np) np := ⟨hD5, Or.inl ⟨rfl, rfl, by omega⟩, Or.inr h23⟩
  have hT5 : DS (e4 dm np) 0 := hK5.2.2.2 0 (by decide)
  have hag5 : agM true dm ad ad2 := fun k t i g _ => hag k t i g
  unfold s_X6_addPlan at hs
  obtain ⟨q, eq, hs⟩ := bd_some hs
  refine V_astore_n X5 dX6_addPlan_15 rfl [(1, .ref (ad2 3 0 np)), (0, .ref (ad2 6 0 0))] (by decide) rfl ?_
  refine V_aload_n X5 dX6_addPlan_16 rfl 1 rfl ?_
  refine V_iconst X5 (0 : Int32) dX6_addPlan_17 (by decide) ?_
  refine V_put X5 dX6_addPlan_18 f_X6_111 (gm6 hK5) rfl (Nat.le_of_ble_eq_true rfl) rfl rfl rfl (fun Z1 e1 => ?_)
  rw [← e1] at eq
  refine V_aload_n X5 dX6_addPlan_21 rfl 0 rfl ?_
  refine V_callVs X5 [] dX6_addPlan_22 m_X6_121 v_X3_readPlan ⟨Nat.le_of_ble_eq_true rfl, Nat.le_of_ble_eq_true rfl⟩ ⟨Nat.le_of_ble_eq_true rfl, Nat.le_of_ble_eq_true rfl⟩ rfl (Nat.le_of_ble_eq_true rfl) hR5.2.1 rfl cl3 (c_X3_readPlan hR5 eq) ?_
  refine V_if_ne X5 36 dX6_addPlan_25 (by decide) (fun c1 => ?_) (fun c1 => ?_)
  · replace hs := if_f hs c1
    obtain ⟨b, eb, hs⟩ := bd_some hs
    refine V_aload_n X5 dX6_addPlan_36 rfl 0 rfl ?_
    refine V_get X5 dX6_addPlan_37 r_X6_128 hR5.2.1 rfl rfl ?_
    refine V_astore_n X5 dX6_addPlan_40 rfl [(2, .ref (ad2 2 0 np)), (1, .ref (ad2 3 0 np)), (0, .ref (ad2 6 0 0))] (by decide) rfl ?_
    refine V_aload_n X5 dX6_addPlan_41 rfl 0 rfl ?_
    refine V_aload_n X5 dX6_addPlan_42 rfl 2 rfl ?_
    refine V_get X5 dX6_addPlan_43 r_X6_10 (gm6 hK5) rfl rfl ?_
    refine V_get X5 dX6_addPlan_46 r_X6_82 (gm4 hT5) rfl rfl ?_
    refine V_callVs X5 [.int (q.2 4 0 0 4)] dX6_addPlan_49 m_X6_132 v_X2_isPossible ⟨Nat.le_of_ble_eq_true rfl, Nat.le_of_ble_eq_true rfl⟩ ⟨Nat.le_of_ble_eq_true rfl, Nat.le_of_ble_eq_true rfl⟩ rfl (Nat.le_of_ble_eq_true rfl) (gm2 hD5) rfl cl2 (c_X2_isPossible hD5 eb) ?_
    refine V_if_ne X5 65 dX6_addPlan_52 (by decide) (fun c2 => ?_) (fun c2 => ?_)
    · replace hs := if_f hs c2
      obtain ⟨h, eh, hs⟩ := bd_some hs
      have J : h ≠ 0 → V D cA (e4 dm np) ad2 A 3 p l e ({ frames := 8, cells := 7, slots := 66, locals := 200 }) s m args below meth c (0 + 1 + 5) (0 + 4 + 56) (vx_MQ below qN (xQJ D cA dm (e4 dm np) ad out.2 out.1 A) args s 7 66 A) q.2 100 [(2, .ref (ad2 2 0 np)), (1, .ref (ad2 3 0 np)), (0, .ref (ad2 6 0 0))] [] := by
        intro ch
        replace hs := if_f hs ch
        obtain ⟨Z5, e5, hs⟩ := bd_some hs
        obtain ⟨Z6, e6, hs⟩ := bd_some hs
        exact (lr_no hs).elim
      refine V_aload_n X5 dX6_addPlan_65 rfl 2 rfl ?_
      refine V_get X5 dX6_addPlan_66 r_X6_10 (gm6 hK5) rfl rfl ?_
      refine V_get X5 dX6_addPlan_69 r_X6_142 (gm4 hT5) rfl rfl ?_
      refine V_iconst X5 (5 : Int32) dX6_addPlan_72 (by decide) ?_
      refine V_icmp_lt X5 100 dX6_addPlan_73 (by decide) (fun c3 => ?_) (fun c3 => ?_)
      · replace eh := if_f eh (Int32.not_le.mpr c3)
        exact J (by rw [← Option.some.inj eh]; decide)
      · replace eh := if_t eh (Int32.not_lt.mp c3)
        refine V_aload_n X5 dX6_addPlan_76 rfl 2 rfl ?_
        refine V_get X5 dX6_addPlan_77 r_X6_10 (gm6 hK5) rfl rfl ?_
        refine V_aload_n X5 dX6_addPlan_80 rfl 0 rfl ?_
        refine V_get X5 dX6_addPlan_81 r_X6_145 (gm2 hD5) rfl rfl ?_
        refine V_callVs X5 [.int (q.2 2 0 np 0)] dX6_addPlan_84 m_X6_148 v_X4_hasPlanFrom ⟨Nat.le_of_ble_eq_true rfl, Nat.le_of_ble_eq_true rfl⟩ ⟨Nat.le_of_ble_eq_true rfl, Nat.le_of_ble_eq_true rfl⟩ rfl (Nat.le_of_ble_eq_true rfl) (gm4 hT5) rfl cl4 (c_X4_hasPlanFrom hT5 hnp5 eh) ?_
        refine V_if_ne X5 100 dX6_addPlan_87 (by decide) (fun c4 => J c4) (fun c4 => ?_)
        replace hs := if_t hs c4
        obtain rfl := rr_eq hs
        exact V_throwSJ X5 hag5 hE hl hZ tw_2 (text := "too many plans") (by decide +kernel) dX6_addPlan_90 dX6_addPlan_93 dX6_addPlan_94 dX6_addPlan_96 dX6_addPlan_99 (Nat.le_of_ble_eq_true rfl) ⟨by decide, by decide, by decide, by decide⟩ ⟨by decide, by decide⟩
    · replace hs := if_t hs c2
      obtain rfl := rr_eq hs
      exact V_throwSJ X5 hag5 hE hl hZ tw_3 (text := "impossible plan") (by decide +kernel) dX6_addPlan_55 dX6_addPlan_58 dX6_addPlan_59 dX6_addPlan_61 dX6_addPlan_64 (Nat.le_of_ble_eq_true rfl) ⟨by decide, by decide, by decide, by decide⟩ ⟨by decide, by decide⟩
  · replace hs := if_t hs c1
    exact (lr_no hs).elim
theorem c_L_addPlan {l : Launch} {D : va_G} {cA : Nat → ClassId} {dm : Dm} {ad : Ad} {np fu : Nat} {S : S4} (hK : DK dm) (hnp : ∀ i, i < np → DP dm i) (hfr : NFr dm np) (h17 : ∀ t i j, j < 5 → pcd (S 17 t i j) ≠ some np) (hL : dm 36 0 0) (hl : l.stackTraces = false) {out : Int32 × S4} (hs : s_L_addPlan np fu S = some out) : CwJ D cA dm (e4 dm np) ad l yL_addPlan cL_addPlan 3 (some .int) [(0, 8, 11, 32), (0, 8, 14, 18)] 22 670 7 66 S [.ref (ad 6 0 0), .ref (ad 36 0 0)] (some (.int out.1)) out.2 := by
  refine CwJ.of (by decide +kernel) (Nat.le_of_ble_eq_true rfl) [(0, .ref (ad 6 0 0)), (1, .ref (ad 36 0 0))] rfl (fun p e s m args below meth c A X hr hZ hY htab => ?_)
  unfold s_L_addPlan at hs
  refine V_aload_n X dL_addPlan_0 rfl 1 rfl ?_
  refine V_iconst X (0 : Int32) dL_addPlan_1 (by decide) ?_
  refine V_aload_n X dL_addPlan_2 rfl 0 rfl ?_
  obtain ⟨r1, er1, hs⟩ := bd_some hs
  cases r1 with
  | inl q2 =>
    replace hs := el_l hs
    refine V_callVJs X hY [] dL_addPlan_3 m_L_28 v_X6_addPlan ⟨Nat.le_of_ble_eq_true rfl, Nat.le_of_ble_eq_true rfl⟩ ⟨Nat.le_of_ble_eq_true rfl, Nat.le_of_ble_eq_true rfl⟩ rfl (Nat.le_of_ble_eq_true rfl) (gm6 hK) rfl cl6 (c_X6_addPlan hK hnp hfr h17 er1) (fun ad1 a2 X3 => ?_)
    rw [← a2 6 0 0 (gm6 hK) (Or.inl (by decide))]
    rw [← a2 36 0 0 hL (Or.inl (by decide))]
    refine V_i2l X3 dL_addPlan_6 ?_
    refine V_last X3 (Or.inr hL) (z := q2.1) rfl (by decide) dL_addPlan_7 (fun Z4 eZ4 => ?_)
    replace hs := sv_some hs Z4 eZ4
    clear eZ4
    refine V_goto X3 17 dL_addPlan_8 (by decide) ?_
    refine V_iconst X3 (0 : Int32) dL_addPlan_17 (by decide) ?_
    obtain rfl := Option.some.inj hs
    exact V_wretJ X3 a2 hr dL_addPlan_18 (by decide) (by decide)
  | inr e3 =>
    replace hs := el_r hs
    by_cases c0 : e3.1 = 3
    · replace hs := if_t hs c0
      obtain rfl := Option.some.inj hs
      refine V_callVCJ X hZ hY htab c0 [] dL_addPlan_3 m_L_28 v_X6_addPlan ⟨Nat.le_of_ble_eq_true rfl, Nat.le_of_ble_eq_true rfl⟩ ⟨Nat.le_of_ble_eq_true rfl, Nat.le_of_ble_eq_true rfl⟩ rfl (Nat.le_of_ble_eq_true rfl) (gm6 hK) rfl cl6 (x_X6_addPlan hK hnp hfr h17 hl er1) [] ⟨0, 8, 11, 32⟩ [⟨0, 8, 14, 18⟩] rfl (fun z hz => nomatch hz) rfl (by decide) k_L_32 (by decide) (fun ad1 a1 X1 q6 => ?_)
      refine V_astore_n X1 dL_addPlan_11 rfl [(2, .ref q6), (0, .ref (ad 6 0 0)), (1, .ref (ad 36 0 0))] (by decide) rfl ?_
      refine V_iconst X1 (1 : Int32) dL_addPlan_12 (by decide) ?_
      exact V_wretJ X1 a1 hr dL_addPlan_13 (by decide) (by decide)
    replace hs := if_f hs c0
    by_cases c1 : e3.1 = 2
    · replace hs := if_t hs c1
      obtain rfl := Option.some.inj hs
      refine V_callVCJ X hZ hY htab c1 [] dL_addPlan_3 m_L_28 v_X6_addPlan ⟨Nat.le_of_ble_eq_true rfl, Nat.le_of_ble_eq_true rfl⟩ ⟨Nat.le_of_ble_eq_true rfl, Nat.le_of_ble_eq_true rfl⟩ rfl (Nat.le_of_ble_eq_true rfl) (gm6 hK) rfl cl6 (x_X6_addPlan hK hnp hfr h17 hl er1) [⟨0, 8, 11, 32⟩] ⟨0, 8, 14, 18⟩ [] rfl (by intro z hz; simp only [List.mem_cons, List.not_mem_nil, or_false] at hz; rcases hz with rfl; exact ⟨by decide, _, k_L_32, by decide⟩) rfl (by decide) k_L_18 (by decide) (fun ad1 a1 X1 q6 => ?_)
      refine V_astore_n X1 dL_addPlan_14 rfl [(2, .ref q6), (0, .ref (ad 6 0 0)), (1, .ref (ad 36 0 0))] (by decide) rfl ?_
      refine V_iconst X1 (2 : Int32) dL_addPlan_15 (by decide) ?_
      exact V_wretJ X1 a1 hr dL_addPlan_16 (by decide) (by decide)
    replace hs := if_f hs c1
    cases hs
