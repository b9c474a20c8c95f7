section PA
variable {np fu T : Nat} {S Z : S4}
theorem RO.s6 {t : Nat} {v : Vw} {i j : Nat} {x : Int32} (h : RO np T S t v) : RO np T (u4 S 6 0 i j x) t v := by
  obtain ⟨a, b, c, d, e, f, g, hh⟩ := h
  refine ⟨a, b, c, d, e, f, g, ?_⟩
  rw [pln_u (by decide)]
  refine hh.c6 (fun k hk => ?_)
  funext a b
  show u4 S 6 0 i j x k t a b = S k t a b
  rw [u4_app, if_neg (fun z => hk z.1)]
theorem k_forget : s_X6_forgetChanges S = some (u4 S 6 0 0 4 0) := rfl
theorem pr_undo (h : GG np T S Z) (hnp : np < 2 ^ 31) (hf : 9600 < fu) : PR np T S (s_X6_undo np fu S) (s_X7_undo fu Z) [(2, 1)] := by
  obtain ⟨h1, ⟨pn, pe, a1, a2, a3, a4, a5, a6⟩, ⟨b1, b2⟩, h4, h5⟩ := id h
  unfold s_X6_undo s_X7_undo
  rw [a1, a2]
  by_cases h0 : pn = 0
  · subst h0
    rw [if_pos (by rfl), if_pos (by rfl)]
    exact PR.fail h (by simp)
  · obtain ⟨n, rfl⟩ : ∃ n, pn = n + 1 := ⟨pn - 1, by omega⟩
    have ep : (if nI pe ≤ 0 then some (7 : Int32) else some (nI pe - 1)) = some (nI ((pe + 7) % 8)) := by
      by_cases e : pe = 0
      · subst e; rfl
      · rw [if_neg (nI_nle (by omega) (by omega)), show nI pe - 1 = nI (pe - 1) from pk_sub (a := pe) (b := 1) (by omega), show (pe + 7) % 8 = pe - 1 by omega]
    rw [if_neg (nI_ne0 (by omega) (by omega)), if_neg (nI_ne0 (by omega) (by omega)), sv_e, sv_e, sv_e, nI_pred, show u4 S 6 0 0 4 (nI n) 6 0 0 5 = nI pe from by rw [u4_app, if_neg (by omega)]; exact a4, ep, bd_s, sv_e]
    have hm := Nat.mod_lt (pe + 7) (show 8 > 0 by decide)
    have hlast := a6 n (by omega)
    rw [show 3 + (pe + 8 - (n + 1) + n) % 8 = 3 + (pe + 7) % 8 by omega] at hlast
    have hlast2 : RO np T (u4 (u4 S 6 0 0 4 (nI n)) 6 0 0 5 (nI ((pe + 7) % 8))) (3 + (pe + 7) % 8) (rowv Z 33 (1360 * n)) := hlast.s6.s6
    obtain ⟨ns, nc, nl, nq, nd, fo, pc, hR⟩ := hlast2
    obtain ⟨S1, s1, s2, s3⟩ := k_copy (np := np) (fu := fu) (t := 0) (t1 := 3 + (pe + 7) % 8) (by omega) hnp (by omega) hR
    rw [show u4 (u4 S 6 0 0 4 (nI n)) 6 0 0 5 (nI ((pe + 7) % 8)) 6 0 0 5 = nI ((pe + 7) % 8) from by rw [u4_app, if_pos ⟨rfl, rfl, rfl, rfl⟩], gd_t (inb_nI hm (by decide)), nI_clamp (by omega), s1, bd_s]
    have e21 : u4 Z 7 0 0 0 0 7 0 0 21 = nI (n + 1) := by rw [u4_app, if_neg (by omega)]; exact a2
    rw [e21, nI_pred, show u4 (u4 Z 7 0 0 0 0) 7 0 0 21 (nI n) 7 0 0 21 = nI n from by rw [u4_app, if_pos ⟨rfl, rfl, rfl, rfl⟩], show (1360 : Int32) * nI n = nI (1360 * n) from pk_mul 1360 n]
    obtain ⟨Z1, z1, z2⟩ := r_back (Z := u4 (u4 Z 7 0 0 0 0) 7 0 0 21 (nI n)) (fu := fu) (a := 33) (ln2 := 10880) (o := 1360 * n) (by decide) (by decide) (by omega) (by decide) (by omega)
    rw [z1, bd_s]
    have hK := FK.ld z2
    have z21 : Z1 7 0 0 21 = nI n := by rw [hK.2.2.2.2.2.1, u4_app, if_pos ⟨rfl, rfl, rfl, rfl⟩]
    have hl : live Z1 = rowv Z 33 (1360 * n) := by
      rw [← rowv_of (fun j hj => (z2.2.2.2.2 j hj).symm), rowv_u (by decide), rowv_u (by decide)]
    have x6 : S1 6 = u4 (u4 S 6 0 0 4 (nI n)) 6 0 0 5 (nI ((pe + 7) % 8)) 6 := by funext t; exact s2 6 t (by simp [stk])
    have st : ∀ t v, t ≠ 0 → RO np T S t v → RO np T S1 t v := fun t v ht hh => hh.s6.s6.of (pln_fs s2) (by
      funext k i j
      exact congrFun (congrFun (s2 k t (fun z => ht z.2)) i) j) rfl
    have r33 : Z1 33 = Z 33 := by rw [hK.2.1]; funext t i j; rw [u4_app, if_neg (by omega), u4_app, if_neg (by omega)]
    have r34 : Z1 34 = Z 34 := by rw [hK.2.2.1]; funext t i j; rw [u4_app, if_neg (by omega), u4_app, if_neg (by omega)]
    have r30 : Z1 30 = Z 30 := by rw [hK.1]; funext t i j; rw [u4_app, if_neg (by omega), u4_app, if_neg (by omega)]
    have r35 : Z1 35 = Z 35 := by rw [hK.2.2.2.1]; funext t i j; rw [u4_app, if_neg (by omega), u4_app, if_neg (by omega)]
    have c6 : ∀ j, j ≠ 4 → j ≠ 5 → S1 6 0 0 j = S 6 0 0 j := fun j e4 e5 => by rw [x6, u4_app, if_neg (by omega), u4_app, if_neg (by omega)]
    have c64 : S1 6 0 0 4 = nI n := by rw [x6, u4_app, if_neg (by omega), u4_app, if_pos ⟨rfl, rfl, rfl, rfl⟩]
    have ck : ∀ k, k ≠ 6 → ¬ stk k = true → S1 k = S k := fun k hk hs => by
      funext t i j
      rw [congrFun (congrFun (s2 k t (fun z => hs z.1)) i) j, u4_app, if_neg (fun z => hk z.1), u4_app, if_neg (fun z => hk z.1)]
    rw [c64, z21]
    refine ⟨_, S1, nI n, Z1, rfl, rfl, Or.inl ⟨rfl, ?_⟩, ⟨?_, ⟨n, (pe + 7) % 8, c64, z21, by omega, ?_, hm, fun j hj => ?_⟩, ⟨?_, ?_⟩, ?_, ?_⟩, ?_⟩
    · rw [z2.2.2.2.1 0 (by omega), u4_app, if_neg (by omega), th_0]
    · rw [hl]; exact ⟨ns, nc, nl, nq, nd, fo, pc, s3⟩
    · rw [x6, u4_app, if_pos ⟨rfl, rfl, rfl, rfl⟩]
    · rw [rowv_k r33]
      refine st _ _ (by omega) ?_
      rw [show 3 + ((pe + 7) % 8 + 8 - n + j) % 8 = 3 + (pe + 8 - (n + 1) + j) % 8 by omega]
      exact a6 j (by omega)
    · rw [c6 6 (by decide) (by decide), hK.2.2.2.2.2.2.1, u4_app, if_neg (by omega), u4_app, if_neg (by omega)]; exact b1
    · rw [c6 6 (by decide) (by decide), rowv_k r34]
      rcases b2 with b2 | ⟨b2, b3⟩
      · exact Or.inl b2
      · exact Or.inr ⟨b2, st 2 _ (by decide) b3⟩
    · unfold GT at *
      rw [c6 8 (by decide) (by decide), ck 23 (by decide) (by simp [stk]), r30, hK.2.2.2.2.1, u4_app, if_neg (by omega), u4_app, if_neg (by omega)]
      exact h4
    · unfold GW GWt at *
      rw [ck 8 (by decide) (by simp [stk]), ck 9 (by decide) (by simp [stk]), r35, hK.2.2.2.2.2.2.2, u4_app, if_neg (by omega), u4_app, if_neg (by omega)]
      exact h5
    · exact ((FC.putu (by decide)).trans (FC.putu (by decide))).trans (FC.fs s2)
theorem pr_save (h : GG np T S Z) (hnp : np < 2 ^ 31) (hf : 9600 < fu) : ∃ b S' Z', s_X6_saveSnapshot np fu S = some (b, S') ∧ s_X7_saveSnapshot fu Z = some (b, Z') ∧ GG np T S' Z' ∧ FC S S' := by
  obtain ⟨⟨ns, nc, nl, nq, nd, fo, pc, hR⟩, ⟨pn, pe, a1, a2, a3, a4, a5, a6⟩, ⟨b1, b2⟩, h4, h5⟩ := id h
  obtain ⟨S1, s1, s2, s3⟩ := k_copy (np := np) (fu := fu) (t := 2) (t1 := 0) (by decide) hnp (by omega) hR
  obtain ⟨Z1, z1, z2⟩ := r_keep (Z := u4 (u4 Z 7 0 0 0 0) 7 0 0 24 1) (fu := fu) (a := 34) (ln2 := 1360) (o := 0) (by decide) (by decide) (by decide) (by decide) (by omega)
  have z1' : s_X7_handsAll fu 34 0 0 1360 0 1 (u4 (u4 Z 7 0 0 0 0) 7 0 0 24 1) = some Z1 := z1
  have lZ : live (u4 (u4 Z 7 0 0 0 0) 7 0 0 24 1) = live Z := by rw [live_un (by decide) (by decide), live_th]
  have lZ1 : live Z1 = live Z := by rw [live_sv z2 (by decide) (by decide), lZ]
  have zk : ∀ k t i j, k ≠ 34 → ¬ (k = 7 ∧ (j = 0 ∨ j = 22 ∨ j = 23 ∨ j = 24)) → Z1 k t i j = Z k t i j := fun k t i j hk hj => by
    rw [z2.2.2.1 k t i j (by omega) (by omega), u4_app, if_neg (by omega), u4_app, if_neg (by omega)]
  have st : ∀ t v, t ≠ 2 → RO np T S t v → RO np T S1 t v := fun t v ht hh => hh.of (pln_fs s2) (by
    funext k i j
    exact congrFun (congrFun (s2 k t (fun z => ht z.2)) i) j) rfl
  have x6 : S1 6 = S 6 := by funext t; exact s2 6 t (by simp [stk])
  have ck : ∀ k, k ≠ 6 → ¬ stk k = true → u4 S1 6 0 0 6 1 k = S k := fun k hk hs => by
    funext t i j
    rw [u4_app, if_neg (fun z => hk z.1)]
    exact congrFun (congrFun (s2 k t (fun z => hs z.1)) i) j
  have c6 : ∀ j, j ≠ 6 → u4 S1 6 0 0 6 1 6 0 0 j = S 6 0 0 j := fun j e => by rw [u4_app, if_neg (by omega), x6]
  have h34 : rowv Z1 34 0 = live Z := (rowv_of (fun j hj => z2.2.2.2.2 j hj)).trans lZ
  unfold s_X6_saveSnapshot s_X7_saveSnapshot
  rw [s1, bd_s, sv_e, sv_e, sv_e, z1', bd_s]
  have e1 : u4 S1 6 0 0 6 1 4 0 0 0 = live Z 6 0 6 := by
    rw [u4_app, if_neg (by omega), congrFun (congrFun (s2 4 0 (by simp)) 0) 0]
    exact hR.1.2.1
  have e2 : Z1 7 0 0 13 = live Z 6 0 6 := by rw [rd_n6 Z1, lZ1]
  rw [e1, e2]
  refine ⟨_, _, Z1, rfl, rfl, ⟨?_, ⟨pn, pe, ?_, ?_, a3, ?_, a5, fun j hj => ?_⟩, ⟨?_, Or.inr ⟨?_, ?_⟩⟩, ?_, ?_⟩, (FC.fs s2).trans (FC.putu (by decide))⟩
  · rw [lZ1]; exact (st 0 _ (by decide) ⟨ns, nc, nl, nq, nd, fo, pc, hR⟩).s6
  · rw [c6 4 (by decide)]; exact a1
  · rw [zk 7 0 0 21 (by decide) (by omega)]; exact a2
  · rw [c6 5 (by decide)]; exact a4
  · rw [rowv_k (show Z1 33 = Z 33 from by funext t i j; exact zk 33 t i j (by decide) (by omega))]
    exact (st _ _ (by omega) (a6 j hj)).s6
  · rw [u4_app, if_pos ⟨rfl, rfl, rfl, rfl⟩, z2.2.2.1 7 0 0 24 (by omega) (by omega), u4_app, if_pos ⟨rfl, rfl, rfl, rfl⟩]
  · rw [u4_app, if_pos ⟨rfl, rfl, rfl, rfl⟩]
  · rw [h34]
    exact RO.s6 ⟨ns, nc, nl, nq, nd, fo, pc, s3⟩
  · unfold GT at *
    rw [c6 8 (by decide), ck 23 (by decide) (by simp [stk]), show Z1 30 = Z 30 from by funext t i j; exact zk 30 t i j (by decide) (by omega), zk 7 0 0 16 (by decide) (by omega)]
    exact h4
  · unfold GW GWt at *
    rw [ck 8 (by decide) (by simp [stk]), ck 9 (by decide) (by simp [stk]), show Z1 35 = Z 35 from by funext t i j; exact zk 35 t i j (by decide) (by omega), zk 7 0 0 26 (by decide) (by omega)]
    exact h5
theorem pr_restore (h : GG np T S Z) (hnp : np < 2 ^ 31) (hf : 9600 < fu) : PR np T S (s_X6_restoreSnapshot np fu S) (s_X7_restoreSnapshot fu Z) [(2, 1)] := by
  obtain ⟨h1, ⟨pn, pe, a1, a2, a3, a4, a5, a6⟩, ⟨b1, b2⟩, h4, h5⟩ := id h
  unfold s_X6_restoreSnapshot s_X7_restoreSnapshot
  rw [← b1]
  rcases b2 with b2 | ⟨b2, ns, nc, nl, nq, nd, fo, pc, hR⟩
  · rw [b2, if_pos rfl, if_pos rfl]
    exact PR.fail h (by simp)
  · obtain ⟨S1, s1, s2, s3⟩ := k_copy (np := np) (fu := fu) (t := 0) (t1 := 2) (by decide) hnp (by omega) hR
    obtain ⟨Z1, z1, z2⟩ := r_back (Z := u4 Z 7 0 0 0 0) (fu := fu) (a := 34) (ln2 := 1360) (o := 0) (by decide) (by decide) (by decide) (by decide) (by omega)
    have z1' : s_X7_handsAll fu 34 0 0 1360 0 0 (u4 Z 7 0 0 0 0) = some Z1 := z1
    have hK := fk_th.trans (FK.ld z2)
    have hl : live Z1 = rowv Z 34 0 := by
      rw [← rowv_of (fun j hj => (z2.2.2.2.2 j hj).symm), rowv_u (by decide)]
    have st : ∀ t v, t ≠ 0 → RO np T S t v → RO np T S1 t v := fun t v ht hh => hh.of (pln_fs s2) (by
      funext k i j
      exact congrFun (congrFun (s2 k t (fun z => ht z.2)) i) j) rfl
    have x6 : S1 6 = S 6 := by funext t; exact s2 6 t (by simp [stk])
    have ck : ∀ k, k ≠ 6 → ¬ stk k = true → u4 S1 6 0 0 4 0 k = S k := fun k hk hs => by
      funext t i j
      rw [u4_app, if_neg (fun z => hk z.1)]
      exact congrFun (congrFun (s2 k t (fun z => hs z.1)) i) j
    have c6 : ∀ j, j ≠ 4 → u4 S1 6 0 0 4 0 6 0 0 j = S 6 0 0 j := fun j e => by rw [u4_app, if_neg (by omega), x6]
    have zk : ∀ k, k ≠ 7 → u4 Z1 7 0 0 21 0 k = Z1 k := fun k hk => by funext t i j; rw [u4_app, if_neg (fun z => hk z.1)]
    have zk7 : ∀ j, j ≠ 21 → u4 Z1 7 0 0 21 0 7 0 0 j = Z1 7 0 0 j := fun j hj => by rw [u4_app, if_neg (by omega)]
    rw [b2, if_neg (by decide), if_neg (by decide), s1, bd_s, k_forget, bd_s, sv_e, z1', bd_s, sv_e, zk7 13 (by decide), rd_n6 Z1, hl, show u4 S1 6 0 0 4 0 4 0 0 0 = rowv Z 34 0 6 0 6 from by rw [u4_app, if_neg (by omega)]; exact s3.1.2.1]
    refine ⟨_, _, _, _, rfl, rfl, Or.inl ⟨rfl, ?_⟩, ⟨?_, ⟨0, pe, ?_, ?_, by decide, ?_, a5, fun j hj => absurd hj (by omega)⟩, ⟨?_, Or.inr ⟨?_, ?_⟩⟩, ?_, ?_⟩, (FC.fs s2).trans (FC.putu (by decide))⟩
    · rw [zk7 0 (by decide), z2.2.2.2.1 0 (by omega), th_0]
    · rw [live_un (by decide) (by decide), hl]; exact RO.s6 ⟨ns, nc, nl, nq, nd, fo, pc, s3⟩
    · rw [u4_app, if_pos ⟨rfl, rfl, rfl, rfl⟩]; rfl
    · rw [u4_app, if_pos ⟨rfl, rfl, rfl, rfl⟩]; rfl
    · rw [c6 5 (by decide)]; exact a4
    · rw [c6 6 (by decide), zk7 24 (by decide), hK.2.2.2.2.2.2.1]; exact b1
    · rw [c6 6 (by decide)]; exact b2
    · rw [rowv_u (by decide), rowv_k hK.2.2.1]
      exact (st 2 _ (by decide) ⟨ns, nc, nl, nq, nd, fo, pc, hR⟩).s6
    · unfold GT at *
      rw [c6 8 (by decide), ck 23 (by decide) (by simp [stk]), zk 30 (by decide), zk7 16 (by decide), hK.1, hK.2.2.2.2.1]
      exact h4
    · unfold GW GWt at *
      rw [ck 8 (by decide) (by simp [stk]), ck 9 (by decide) (by simp [stk]), zk 35 (by decide), zk7 26 (by decide), hK.2.2.2.1, hK.2.2.2.2.2.2.2]
      exact h5
theorem pr_feed {x : Int32} (h : GG np T S Z) : PR np T S (s_X6_feed x S) (s_X7_feed x Z) [(2, 1)] := by
  obtain ⟨h1, ⟨pn, pe, a1, a2, a3, a4, a5, a6⟩, ⟨b1, b2⟩, ⟨len, g1, g2, g3, g4⟩, h5⟩ := id h
  unfold s_X6_feed s_X7_feed
  rw [g2, g3]
  by_cases e : len = 80
  · subst e
    rw [if_neg (by decide), if_pos (by decide)]
    exact PR.fail h (by simp)
  · have z16 : u4 Z 7 0 0 0 0 7 0 0 16 = nI len := by rw [u4_app, if_neg (by omega)]; exact g3
    rw [if_pos (show nI len < (80 : Int32) from nI_lt (b := 80) (by omega) (by decide)), if_neg (show ¬ nI len = (80 : Int32) from nI_ne (b := 80) e (by omega) (by decide)), gd_t (inb_nI (by omega) (by decide)), nI_clamp (by omega), sv_e, sv_e, sv_e, z16, gd_t (inb_nI (by omega) (by decide)), nI_clamp (by omega), sv_e, show ∀ y, u4 S 23 0 0 len y 6 0 0 8 = nI len from fun y => by rw [u4_app, if_neg (by omega)]; exact g2, show ∀ y, u4 (u4 Z 7 0 0 0 0) 30 0 0 len y 7 0 0 16 = nI len from fun y => by rw [u4_app, if_neg (by omega)]; exact z16, sv_e, nI_1, show ∀ y, u4 (u4 S 23 0 0 len y) 6 0 0 8 (nI (len + 1)) 6 0 0 8 = nI (len + 1) from fun y => by rw [u4_app, if_pos ⟨rfl, rfl, rfl, rfl⟩], show ∀ y, u4 (u4 (u4 Z 7 0 0 0 0) 30 0 0 len y) 7 0 0 16 (nI (len + 1)) 7 0 0 16 = nI (len + 1) from fun y => by rw [u4_app, if_pos ⟨rfl, rfl, rfl, rfl⟩]]
    generalize vp_nar .char x = y
    have sk : ∀ k t i j, k ≠ 23 → ¬ (k = 6 ∧ j = 8) → u4 (u4 S 23 0 0 len y) 6 0 0 8 (nI (len + 1)) k t i j = S k t i j := fun k t i j e1 e2 => by rw [u4_app, if_neg (by omega), u4_app, if_neg (by omega)]
    have zk : ∀ k t i j, k ≠ 30 → ¬ (k = 7 ∧ (j = 0 ∨ j = 16)) → u4 (u4 (u4 Z 7 0 0 0 0) 30 0 0 len y) 7 0 0 16 (nI (len + 1)) k t i j = Z k t i j := fun k t i j e1 e2 => by rw [u4_app, if_neg (by omega), u4_app, if_neg (by omega), u4_app, if_neg (by omega)]
    have hp : pln (u4 (u4 S 23 0 0 len y) 6 0 0 8 (nI (len + 1))) = pln S := by rw [pln_u (by decide), pln_u (by decide)]
    have ro : ∀ t v, RO np T S t v → RO np T (u4 (u4 S 23 0 0 len y) 6 0 0 8 (nI (len + 1))) t v := fun t v hh => by
      refine RO.s6 ?_
      obtain ⟨a, b, c, d, e, f, g, hh⟩ := hh
      refine ⟨a, b, c, d, e, f, g, ?_⟩
      rw [pln_u (by decide)]
      obtain ⟨r1, r2, r3, r4, r5, r6, r7, r8⟩ := hh
      have k4 : ∀ k, k ≠ 23 → cls (u4 S 23 0 0 len y) t k = cls S t k := fun k hk => by
        funext i j
        show u4 S 23 0 0 len y k t i j = S k t i j
        rw [u4_app, if_neg (fun z => hk z.1)]
      refine ⟨?_, ?_, ?_, r4.of rfl (k4 17 (by decide)), ?_, ?_, ?_, ?_⟩
      · unfold RN at *; rw [k4 4 (by decide)]; exact r1
      · unfold RSt at *; rw [k4 5 (by decide), k4 14 (by decide)]; exact r2
      · unfold RCh at *; rw [k4 0 (by decide)]; exact r3
      · unfold RPa at *; rw [k4 1 (by decide)]; exact r5
      · unfold RBe at *; rw [k4 19 (by decide)]; exact r6
      · unfold RLe at *; rw [k4 20 (by decide)]; exact r7
      · unfold RCo at *; rw [k4 19 (by decide), k4 21 (by decide), k4 4 (by decide)]; exact r8
    have lz : live (u4 (u4 (u4 Z 7 0 0 0 0) 30 0 0 len y) 7 0 0 16 (nI (len + 1))) = live Z := by rw [live_un (by decide) (by decide), live_un (by decide) (fun z => absurd z (by decide)), live_th]
    have rk : ∀ a o, a ≠ 30 → a ≠ 7 → rowv (u4 (u4 (u4 Z 7 0 0 0 0) 30 0 0 len y) 7 0 0 16 (nI (len + 1))) a o = rowv Z a o := fun a o e1 e2 => by rw [rowv_u e2.symm, rowv_u e1.symm, rowv_u e2.symm]
    refine ⟨_, _, _, _, rfl, rfl, Or.inl ⟨rfl, ?_⟩, ⟨?_, ⟨pn, pe, ?_, ?_, a3, ?_, a5, fun j hj => ?_⟩, ⟨?_, ?_⟩, ⟨len + 1, by omega, ?_, ?_, fun j hj => ?_⟩, ?_⟩, (FC.putu (by decide)).trans (FC.putu (by decide))⟩
    · rw [u4_app, if_neg (by omega), u4_app, if_neg (by omega), th_0]
    · rw [lz]; exact ro _ _ h1
    · rw [sk 6 0 0 4 (by decide) (by omega)]; exact a1
    · rw [zk 7 0 0 21 (by decide) (by omega)]; exact a2
    · rw [sk 6 0 0 5 (by decide) (by omega)]; exact a4
    · rw [rk 33 _ (by decide) (by decide)]; exact ro _ _ (a6 j hj)
    · rw [sk 6 0 0 6 (by decide) (by omega), zk 7 0 0 24 (by decide) (by omega)]; exact b1
    · rw [sk 6 0 0 6 (by decide) (by omega), rk 34 _ (by decide) (by decide)]
      rcases b2 with b2 | ⟨b2, b3⟩
      · exact Or.inl b2
      · exact Or.inr ⟨b2, ro _ _ b3⟩
    · rw [u4_app, if_pos ⟨rfl, rfl, rfl, rfl⟩]
    · rw [u4_app, if_pos ⟨rfl, rfl, rfl, rfl⟩]
    · by_cases e2 : j = len
      · subst e2
        rw [u4_app, if_neg (by omega), u4_app, if_pos ⟨rfl, rfl, rfl, rfl⟩, u4_app, if_neg (by omega), u4_app, if_pos ⟨rfl, rfl, rfl, rfl⟩]
      · rw [u4_app, if_neg (by omega), u4_app, if_neg (by omega), u4_app, if_neg (by omega), u4_app, if_neg (by omega), u4_app, if_neg (by omega)]
        exact g4 j (by omega)
    · obtain ⟨w, w1, w2, w3, wq, w4⟩ := h5
      refine ⟨w, w1, by rw [sk 8 0 0 0 (by decide) (by omega)]; exact w2, by rw [zk 7 0 0 26 (by decide) (by omega)]; exact w3, by rw [sk 9 0 0 200 (by decide) (by omega)]; exact wq, fun j hj => ?_⟩
      rw [sk 9 0 0 j (by decide) (by omega), zk 35 0 0 j (by decide) (by omega)]
      exact w4 j hj
end PA
