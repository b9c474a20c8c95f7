theorem us_nj {v : Vw} {k i j k' i' j' : Nat} {x : Int32} (h : j' ≠ j) : us v k i j x k' i' j' = v k' i' j' := us_ne (fun z => h z.2.2)
theorem us_nk {v : Vw} {k i j k' i' j' : Nat} {x : Int32} (h : k' ≠ k) : us v k i j x k' i' j' = v k' i' j' := us_ne (fun z => h z.1)
theorem r_wl2 {Z : S4} {c : Nat} (hc : c < 8) : ∃ Z', ((s_X7_ofChute (nI c) 8 Z).bind fun q3 => if q3 = 0 then some Z else (s_X7_addsChute (nI c) 8 (-1) Z).bind fun Z6 => (s_X7_ofChute (nI c) 8 Z6).bind fun q7 => if q7 = 0 then (s_X7_setsChute (nI c) 6 0 Z6).bind fun Z10 => some Z10 else some Z6) = some Z' ∧ live Z' = ctk2 (live Z) c := by
  unfold ctk2
  rw [q_ofChute hc (by decide), bd_s]
  by_cases h : live Z 2 c 8 = 0
  · rw [if_pos h, if_pos h]; exact ⟨Z, rfl, rfl⟩
  · rw [if_neg h, if_neg h, q_addsChute hc (by decide), bd_s, q_ofChute hc (by decide), bd_s, live_zc hc (by decide), us_self]
    by_cases h2 : live Z 2 c 8 + (-1) = 0
    · rw [if_pos h2, if_pos h2, q_setsChute hc (by decide), bd_s]
      exact ⟨_, rfl, by rw [live_zc hc (by decide), live_zc hc (by decide)]⟩
    · rw [if_neg h2, if_neg h2]
      exact ⟨_, rfl, live_zc hc (by decide)⟩
theorem r_waitsLess {Z : S4} {c : Nat} (hc : c < 8) : ∃ Z', s_X7_waitsLess (nI c) Z = some Z' ∧ live Z' = ctk (live Z) c := by
  unfold s_X7_waitsLess ctk
  rw [q_ofChute hc (by decide), bd_s]
  by_cases h : live Z 2 c 7 ≤ 0
  · rw [if_pos h, if_pos h]
    exact r_wl2 hc
  · rw [if_neg h, if_neg h, q_addsChute hc (by decide), bd_s, ← live_zc hc (by decide)]
    exact r_wl2 hc
theorem r_jam {Z : S4} {c : Nat} (hc : c < 8) : ∃ Z', ((s_X7_ofChute (nI c) 4 Z).bind fun q13 => (s_X7_setsChute (nI c) 7 q13 Z).bind fun Z15 => (s_X7_addsChute (nI c) 12 1 Z15).bind fun Z17 => some Z17) = some Z' ∧ live Z' = jamd (live Z) c := by
  rw [q_ofChute hc (by decide), bd_s, q_setsChute hc (by decide), bd_s, q_addsChute hc (by decide), bd_s]
  refine ⟨_, rfl, ?_⟩
  rw [live_zc hc (by decide), live_zc hc (by decide), us_nj (by decide)]
  rfl
theorem r_trx {Z : S4} {q c : Nat} {h : Prop} [Decidable h] (hq : q < 60) (hc : c < 8) : ∃ Z', ((s_X7_setsParcel (nI q) 7 (-1) Z).bind fun Z9 => (s_X7_isUsable (nI c) Z9).bind fun q10 => if q10 = 0 then (s_X7_addsChute (nI c) 13 1 Z9).bind fun Z27 => some Z27 else if b2 h = 0 then (s_X7_ofChute (nI c) 4 Z9).bind fun q13 => (s_X7_setsChute (nI c) 7 q13 Z9).bind fun Z15 => (s_X7_addsChute (nI c) 12 1 Z15).bind fun Z17 => some Z17 else (s_X7_ofParcel (nI q) 11 Z9).bind fun q18 => (s_X7_setsParcel (nI q) 11 (q18 ||| ((1 : Int32) <<< (nI c &&& 31))) Z9).bind fun Z20 => (s_X7_ofChute (nI c) 4 Z20).bind fun q21 => (s_X7_setsChute (nI c) 7 q21 Z20).bind fun Z23 => (s_X7_addsChute (nI c) 12 1 Z23).bind fun Z25 => some Z25) = some Z' ∧ live Z' = trx (live Z) q c h := by
  have hu : usbl (live (zp Z q 7 (-1))) c ↔ usbl (live Z) c := usbl_of (fun j => by rw [live_zp hq (by decide), us_ne (by omega)])
  unfold trx
  rw [q_setsParcel hq (by decide), bd_s, r_isUsable hc, bd_s, b2_if]
  by_cases u : usbl (live Z) c
  · rw [if_pos (hu.mpr u), b2_if]
    dsimp only
    rw [if_pos u]
    by_cases g : h
    · rw [if_pos g, if_pos g, q_ofParcel hq (by decide), bd_s, q_setsParcel hq (by decide), bd_s]
      obtain ⟨Z', a, b⟩ := r_jam (Z := zp (zp Z q 7 (-1)) q 11 (live (zp Z q 7 (-1)) 4 q 11 ||| 1 <<< (nI c &&& 31))) hc
      refine ⟨Z', a, ?_⟩
      rw [b, live_zp hq (by decide), live_zp hq (by decide), us_ne (by omega)]
    · rw [if_neg g, if_neg g]
      obtain ⟨Z', a, b⟩ := r_jam (Z := zp Z q 7 (-1)) hc
      refine ⟨Z', a, ?_⟩
      rw [b, live_zp hq (by decide)]
  · rw [if_neg (fun z => u (hu.mp z)), q_addsChute hc (by decide), bd_s]
    dsimp only
    rw [if_neg u]
    refine ⟨_, rfl, ?_⟩
    rw [live_zc hc (by decide), live_zp hq (by decide), us_ne (by omega)]
theorem r_bag {Z : S4} {c : Nat} (hc : c < 8) : ∃ Z', ((s_X7_addsChute (nI c) 14 1 Z).bind fun Z28 => (s_X7_ofChute (nI c) 5 Z28).bind fun q29 => (s_X7_setsChute (nI c) 8 q29 Z28).bind fun Z31 => (s_X7_ofChute (nI c) 5 Z31).bind fun q32 => if q32 = 0 then (s_X7_setsChute (nI c) 6 0 Z31).bind fun Z35 => some Z35 else some Z31) = some Z' ∧ live Z' = bag (live Z) c := by
  unfold bag
  dsimp only
  rw [q_addsChute hc (by decide), bd_s, q_ofChute hc (by decide), bd_s, q_setsChute hc (by decide), bd_s, q_ofChute hc (by decide), bd_s, live_zc hc (by decide), live_zc hc (by decide), us_nj (by decide), us_nj (by decide)]
  by_cases h : live Z 2 c 5 = 0
  · rw [if_pos h, if_pos h, q_setsChute hc (by decide), bd_s]
    exact ⟨_, rfl, by rw [live_zc hc (by decide), live_zc hc (by decide), live_zc hc (by decide)]⟩
  · rw [if_neg h, if_neg h]
    exact ⟨_, rfl, by rw [live_zc hc (by decide), live_zc hc (by decide)]⟩
theorem r_rcv {Z : S4} {c : Nat} (hc : c < 8) : ∃ Z', ((s_X7_setsChute (nI c) 10 (Z 7 0 0 13) Z).bind fun Z19 => (s_X7_addsChute (nI c) 11 1 Z19).bind fun Z21 => (s_X7_addsChute (nI c) 6 1 Z21).bind fun Z23 => (s_X7_ofChute (nI c) 6 Z23).bind fun q24 => (s_X7_ofChute (nI c) 1 Z23).bind fun q25 => if q25 ≤ q24 then (s_X7_addsChute (nI c) 14 1 Z23).bind fun Z28 => (s_X7_ofChute (nI c) 5 Z28).bind fun q29 => (s_X7_setsChute (nI c) 8 q29 Z28).bind fun Z31 => (s_X7_ofChute (nI c) 5 Z31).bind fun q32 => if q32 = 0 then (s_X7_setsChute (nI c) 6 0 Z31).bind fun Z35 => some Z35 else some Z31 else some Z23) = some Z' ∧ live Z' = rcv (live Z) c := by
  rw [q_setsChute hc (by decide), bd_s, q_addsChute hc (by decide), bd_s, q_addsChute hc (by decide), bd_s, q_ofChute hc (by decide), bd_s, q_ofChute hc (by decide), bd_s]
  generalize hZ : zc (zc (zc Z c 10 (Z 7 0 0 13)) c 11 (live (zc Z c 10 (Z 7 0 0 13)) 2 c 11 + 1)) c 6 (live (zc (zc Z c 10 (Z 7 0 0 13)) c 11 (live (zc Z c 10 (Z 7 0 0 13)) 2 c 11 + 1)) 2 c 6 + 1) = Y
  have hY : live Y = rcv0 (live Z) c := by
    rw [← hZ, live_zc hc (by decide), live_zc hc (by decide), live_zc hc (by decide), us_ne (by omega), us_ne (by omega), us_ne (by omega), rd_n6 Z]
    rfl
  have h6 : rcv0 (live Z) c 2 c 6 = live Z 2 c 6 + 1 := us_self _ _ _ _ _
  have h1 : rcv0 (live Z) c 2 c 1 = live Z 2 c 1 := by unfold rcv0; rw [us_ne (by omega), us_ne (by omega), us_ne (by omega)]
  unfold rcv
  rw [hY, h6, h1]
  by_cases h : live Z 2 c 1 ≤ live Z 2 c 6 + 1
  · rw [if_pos h, if_pos h, ← hY]
    exact r_bag hc
  · rw [if_neg h, if_neg h]
    exact ⟨Y, rfl, hY⟩
theorem VN.of {v w : Vw} {ns nc nl nq nd pc : Nat} (h : VN v ns nc nl nq nd pc) (e : w 6 0 = v 6 0) : VN w ns nc nl nq nd pc := by
  unfold VN at *
  rw [e]
  exact h
theorem r_drops {Z : S4} {fu q c k ns nc nl nq nd pc : Nat} (hq : q < nq) (hc : c < 8) (hk : live Z 4 q 5 = nI k) (hk3 : k < 30) (hnd : nd < 60) (hN : VN (live Z) ns nc nl nq nd pc) (hL : VL (live Z) nl nc) (hf : 8 < fu) : ∃ Z', s_X7_drops fu (nI q) (nI c) Z = some Z' ∧ live Z' = drp (live Z) q c := by
  have hq' : q < 60 := by have := hN.2.2.2.2.2.2.2.2.2.2.2.1; omega
  have hnd' := hN.2.2.2.2.2.1
  unfold s_X7_drops drp
  dsimp only
  rw [q_ofParcel hq' (by decide), bd_s, hk, gd_t (inb_nI hk3 (by decide)), nI_clamp (by omega), sv_e, show u4 Z 24 0 0 k (-1) = zb Z k (-1) from rfl]
  have e1 : live (zb Z k (-1)) = us (live Z) 0 0 k (-1) := live_zb hk3
  have hN1 : VN (live (zb Z k (-1))) ns nc nl nq nd pc := hN.of (by rw [e1]; funext j; exact us_ne (by omega))
  have hL1 : VL (live (zb Z k (-1))) nl nc := hL.of (fun p => by rw [e1]; funext j; exact us_ne (by omega))
  rw [← e1]
  generalize zb Z k (-1) = Z1 at hN1 hL1 ⊢
  rw [r_verd hq' hc hN1 hL1 hf, bd_s]
  generalize verd (live Z1) q c = x
  rw [q_setsParcel hq' (by decide), bd_s, q_setsParcel hq' (by decide), bd_s, q_setsParcel hq' (by decide), bd_s, q_setsParcel hq' (by decide), bd_s, q_setsParcel hq' (by decide), bd_s]
  generalize hZ2 : zp (zp (zp (zp Z1 q 10 x) q 4 2) q 5 (nI c)) q 7 (-1) = Z2
  have e2 : live Z2 = us (us (us (us (live Z1) 4 q 10 x) 4 q 4 2) 4 q 5 (nI c)) 4 q 7 (-1) := by
    rw [← hZ2, live_zp hq' (by decide), live_zp hq' (by decide), live_zp hq' (by decide), live_zp hq' (by decide)]
  have e2t : live Z2 6 0 6 = live Z1 6 0 6 := by rw [e2, us_ne (by omega), us_ne (by omega), us_ne (by omega), us_ne (by omega)]
  rw [rd_n6 Z2]
  generalize hZ3 : zp Z2 q 9 (live Z2 6 0 6) = Z3
  have e3 : live Z3 = drq (live Z1) q c x := by
    rw [← hZ3, live_zp hq' (by decide), e2t, e2]
    rfl
  have e3d : live Z3 6 0 5 = nI nd := by
    rw [e3]
    unfold drq
    rw [us_ne (by omega), us_ne (by omega), us_ne (by omega), us_ne (by omega), us_ne (by omega)]
    exact hN1.2.2.2.2.2.1
  rw [rd_n5 Z3, e3d, gd_t (inb_nI hnd (by decide)), nI_clamp (by omega), sv_e, sv_e, show u4 Z3 29 0 0 nd (nI q) = zg Z3 nd (nI q) from rfl, rd_n5 (zg Z3 nd (nI q)), show ∀ y, u4 (zg Z3 nd (nI q)) 7 0 0 12 y = zn (zg Z3 nd (nI q)) 5 y from fun _ => rfl]
  generalize hZ4 : zn (zg Z3 nd (nI q)) 5 (live (zg Z3 nd (nI q)) 6 0 5 + 1) = Z4
  have e4 : live Z4 = drg (drq (live Z1) q c x) q := by
    rw [← hZ4, live_zn (by decide), live_zg hnd, us_ne (by omega), e3d, e3]
    unfold drg
    rw [← e3, e3d, nI_clamp (by omega)]
  rw [← e4]
  exact r_rcv hc
theorem r_tries {Z : S4} {fu q c k ns nc nl nq nd pc : Nat} (hq : q < nq) (hc : c < 8) (hk : live Z 4 q 5 = nI k) (hk3 : k < 30) (hnd : nd < 60) (hN : VN (live Z) ns nc nl nq nd pc) (hL : VL (live Z) nl nc) (hf : 8 < fu) : ∃ Z', s_X7_tries fu (nI q) (nI c) Z = some Z' ∧ live Z' = tri (live Z) q c := by
  have hq' : q < 60 := by have := hN.2.2.2.2.2.2.2.2.2.2.2.1; omega
  have e1 : (if live Z 4 q 2 ≤ live Z 2 c 3 then some (0 : Int32) else some 1) = some (b2 (hvy (live Z) q c)) := by
    unfold b2 hvy
    by_cases h : live Z 4 q 2 ≤ live Z 2 c 3
    · rw [if_pos h, if_neg (fun z => z h)]
    · rw [if_neg h, if_pos h]
  have e2 : (if live Z 2 c 10 < 0 then some (0 : Int32) else some (live Z 2 c 10) |>.bind fun q73 => (some (live Z 2 c 2)).bind fun q74 => if q74 ≤ Z 7 0 0 13 - q73 then some (0 : Int32) else some 1) = some (b2 (clo (live Z) c)) := by
    rw [rd_n6 Z]
    unfold b2 clo
    by_cases h : live Z 2 c 10 < 0
    · rw [if_pos h, if_neg (fun z => z.1 h)]
    · rw [if_neg h, bd_s, bd_s]
      by_cases h2 : live Z 2 c 2 ≤ live Z 6 0 6 - live Z 2 c 10
      · rw [if_pos h2, if_neg (fun z => z.2 h2)]
      · rw [if_neg h2, if_pos ⟨h, h2⟩]
  unfold s_X7_tries
  rw [q_ofParcel hq' (by decide), bd_s, q_ofChute hc (by decide), bd_s, e1, bd_s, q_ofChute hc (by decide), bd_s, q_ofChute hc (by decide), e2, bd_s, r_isUsable hc, bd_s, b2_if]
  unfold tri
  by_cases u : usbl (live Z) c
  · rw [if_pos u, b2_if]
    by_cases g : hvy (live Z) q c
    · rw [if_pos g, if_neg (fun z => z.2.1 g)]
      exact r_trx hq' hc
    · rw [if_neg g, b2_if]
      by_cases w : clo (live Z) c
      · rw [if_pos w, if_neg (fun z => z.2.2 w)]
        exact r_trx hq' hc
      · rw [if_neg w, if_pos ⟨u, g, w⟩]
        obtain ⟨Z', a, b⟩ := r_drops hq hc hk hk3 hnd hN hL hf
        rw [a, bd_s]
        exact ⟨Z', rfl, b⟩
  · rw [if_neg u, if_neg (fun z => u z.1)]
    exact r_trx hq' hc
/-! the belt turns -/
theorem r_turns_B {fu pc : Nat} (h3 : pc ≤ 30) : ∀ (m k f : Nat) (Z : S4), k + m = pc → m < f → live Z 6 0 0 = nI pc → (∀ j, j < pc → live Z 0 0 j = -1 ∨ ∃ p, p < 60 ∧ live Z 0 0 j = nI p) → ∃ Z', s_X7_turns_L52 fu f (nI k) Z = some Z' ∧ live Z' = ats (live Z) m k := by
  intro m
  induction m with
  | zero =>
    intro k f Z hk hf hp hB
    obtain ⟨f, rfl⟩ : ∃ g, f = g + 1 := ⟨f - 1, by omega⟩
    rw [s_X7_turns_L52, rd_n0 Z, hp, if_pos (nI_le (by omega) (by omega))]
    exact ⟨Z, rfl, rfl⟩
  | succ m ih =>
    intro k f Z hk hf hp hB
    obtain ⟨f, rfl⟩ : ∃ g, f = g + 1 := ⟨f - 1, by omega⟩
    rw [s_X7_turns_L52, rd_n0 Z, hp, if_neg (nI_ge (by omega) (by omega)), gd_t (inb_nI (by omega) (by decide)), show Z 24 0 0 (nI k).toNatClampNeg = live Z 0 0 k from by rw [nI_clamp (by omega), rd_b Z (by omega)], nI_1, ats]
    rcases hB k (by omega) with h | ⟨p, h60, h⟩
    · rw [h, if_pos (by decide), if_pos (by decide)]
      exact ih (k + 1) f Z (by omega) (by omega) hp hB
    · rw [h, if_neg (nI_pos (by omega)), if_neg (nI_pos (by omega)), gd_t (inb_nI (by omega) (by decide)), q_setsParcel h60 (by decide), bd_s, nI_clamp (by omega)]
      have e : live (zp Z p 5 (nI k)) = us (live Z) 4 p 5 (nI k) := live_zp h60 (by decide)
      rw [← e]
      refine ih (k + 1) f (zp Z p 5 (nI k)) (by omega) (by omega) (by rw [e, us_ne (by omega)]; exact hp) (fun j hj => ?_)
      rw [e, us_ne (by omega)]
      exact hB j hj
theorem rot_ne {v : Vw} {n k i j : Nat} (h : ¬ (k = 0 ∧ i = 0 ∧ 1 ≤ j ∧ j ≤ n)) : rot v n k i j = v k i j := by
  induction n generalizing v with
  | zero => rfl
  | succ n ih => rw [rot, ih (by omega), us_ne (by omega)]
theorem rot_at {v : Vw} {n j : Nat} (h1 : 1 ≤ j) (h2 : j ≤ n) : rot v n 0 0 j = v 0 0 (j - 1) := by
  induction n generalizing v with
  | zero => omega
  | succ n ih =>
    rw [rot]
    by_cases e : j = n + 1
    · subst e
      rw [rot_ne (by omega), us_self]
      rfl
    · rw [ih (by omega), us_ne (by omega)]
theorem r_turns_A {fu pc : Nat} {x : Int32} (h3 : pc ≤ 30) (h1 : 1 ≤ pc) (hx : x = -1 ∨ ∃ p, p < 60 ∧ x = nI p) (hfu : 30 < fu) : ∀ (n f : Nat) (Z : S4), n < pc → n < f → live Z 6 0 0 = nI pc → (∀ j, j < pc → live Z 0 0 j = -1 ∨ ∃ p, p < 60 ∧ live Z 0 0 j = nI p) → ∃ Z', s_X7_turns_L19 fu f x (nI n) Z = some Z' ∧ live Z' = ats (us (rot (live Z) n) 0 0 0 x) pc 0 := by
  intro n
  induction n with
  | zero =>
    intro f Z hn hf hp hB
    obtain ⟨f, rfl⟩ : ∃ g, f = g + 1 := ⟨f - 1, by omega⟩
    rw [s_X7_turns_L19, if_pos (by decide), gd_t (show inb (0 : Int32) 30 from inb_nI (n := 0) (by decide) (by decide)), sv_e]
    have e : live (zb Z 0 x) = us (live Z) 0 0 0 x := live_zb (by decide)
    rw [show u4 Z 24 0 0 (0 : Int32).toNatClampNeg x = zb Z 0 x from rfl, rot, ← e]
    refine r_turns_B h3 pc 0 fu _ (by omega) (by omega) (by rw [e, us_ne (by omega)]; exact hp) (fun j hj => ?_)
    rw [e]
    by_cases hj0 : j = 0
    · subst hj0; rw [us_self]; exact hx
    · rw [us_ne (by omega)]; exact hB j hj
  | succ n ih =>
    intro f Z hn hf hp hB
    obtain ⟨f, rfl⟩ : ∃ g, f = g + 1 := ⟨f - 1, by omega⟩
    rw [s_X7_turns_L19, if_neg (nI_nle (by omega) (by omega)), nI_pred, gd_t (inb_nI (by omega) (by decide)), gd_t (inb_nI (by omega) (by decide)), nI_clamp (by omega), nI_clamp (by omega), sv_e, pk_m1, rd_b Z (by omega)]
    have e : live (zb Z (n + 1) (live Z 0 0 n)) = us (live Z) 0 0 (n + 1) (live Z 0 0 n) := live_zb (by omega)
    rw [show u4 Z 24 0 0 (n + 1) (live Z 0 0 n) = zb Z (n + 1) (live Z 0 0 n) from rfl, rot, ← e]
    refine ih f _ (by omega) (by omega) (by rw [e, us_ne (by omega)]; exact hp) (fun j hj => ?_)
    rw [e]
    by_cases hj0 : j = n + 1
    · subst hj0; rw [us_self]; exact hB n (by omega)
    · rw [us_ne (by omega)]; exact hB j hj
theorem r_turns {Z : S4} {fu pc : Nat} (h3 : pc ≤ 30) (h1 : 1 ≤ pc) (hp : live Z 6 0 0 = nI pc) (hB : ∀ j, j < pc → live Z 0 0 j = -1 ∨ ∃ p, p < 60 ∧ live Z 0 0 j = nI p) (hf : 30 < fu) : ∃ Z', s_X7_turns fu Z = some Z' ∧ live Z' = trn (live Z) pc := by
  have e : nI pc - 1 = nI (pc - 1) := by rw [show pc = (pc - 1) + 1 by omega, nI_pred]; rfl
  unfold s_X7_turns trn
  rw [rd_n0 Z, hp, e, gd_t (inb_nI (by omega) (by decide)), nI_clamp (by omega), rd_b Z (by omega)]
  exact r_turns_A h3 h1 (hB _ (by omega)) hf (pc - 1) fu Z (by omega) (by omega) hp hB
/-! a station sends -/
theorem i13 {s w : Nat} (hs : s < 3) (hw : w < 13) : inb ((13 : Int32) * nI s + nI w) 39 ∧ ((13 : Int32) * nI s + nI w).toNatClampNeg = 13 * s + w :=
  idx_nI (N := 39) (by rw [show (13 : Int32) = nI 13 from rfl, pk_mul, nI_add]) (by omega) (by omega)
theorem shf_ne {v : Vw} {s : Nat} : ∀ {m k a i j : Nat}, ¬ (a = 1 ∧ i = s ∧ k ≤ j ∧ j < k + m) → shf v s m k a i j = v a i j := by
  intro m
  induction m generalizing v with
  | zero => intro k a i j h; rfl
  | succ m ih => intro k a i j h; rw [shf, ih (by omega), us_ne (by omega)]
theorem shf_at {v : Vw} {s : Nat} : ∀ {m k j : Nat}, k ≤ j → j < k + m → shf v s m k 1 s j = v 1 s (j + 1) := by
  intro m
  induction m generalizing v with
  | zero => intro k j h h2; omega
  | succ m ih =>
    intro k j h h2
    rw [shf]
    by_cases e : j = k
    · subst e; rw [shf_ne (by omega), us_self]
    · rw [ih (by omega) (by omega), us_ne (by omega)]
theorem r_sends_L {fu s q p n : Nat} (hs : s < 3) (hq : q < 60) (hp : p < 30) (hn : n ≤ 10) (hn1 : 1 ≤ n) : ∀ (m k f : Nat) (Z : S4), k + m = 2 + n → 3 ≤ k → m < f → ∃ Z', s_X7_sends_L39 fu (nI s) f (nI p) (nI n) (nI q) (nI k) Z = some Z' ∧ live Z' = snd1 (shf (live Z) s m k) s q p := by
  intro m
  induction m with
  | zero =>
    intro k f Z hk h3 hf
    obtain ⟨f, rfl⟩ : ∃ g, f = g + 1 := ⟨f - 1, by omega⟩
    have a1 : inb ((13 : Int32) * nI s + 1) 39 ∧ ((13 : Int32) * nI s + 1).toNatClampNeg = 13 * s + 1 := i13 (s := s) (w := 1) hs (by decide)
    have a2 : inb ((13 : Int32) * nI s + 2) 39 ∧ ((13 : Int32) * nI s + 2).toNatClampNeg = 13 * s + 2 := i13 (s := s) (w := 2) hs (by decide)
    rw [s_X7_sends_L39, if_pos (show (2 : Int32) + nI n ≤ nI k from by rw [show (2 : Int32) = nI 2 from rfl, nI_add]; exact nI_le (by omega) (by omega))]
    rw [gd_t a1.1, gd_t a1.1, a1.2, sv_e, rd_s Z hs (by decide), gd_t a2.1, gd_t a2.1, a2.2, sv_e, rd_s (u4 Z 25 0 0 (13 * s + 1) (live Z 1 s 1 - 1)) hs (by decide), gd_t (inb_nI hp (by decide)), nI_clamp (by omega), sv_e]
    rw [q_setsParcel hq (by decide), bd_s, q_setsParcel hq (by decide), bd_s]
    refine ⟨_, rfl, ?_⟩
    rw [live_zp hq (by decide), live_zp hq (by decide)]
    have e1 : live (u4 Z 25 0 0 (13 * s + 1) (live Z 1 s 1 - 1)) = us (live Z) 1 s 1 (live Z 1 s 1 - 1) := live_zs hs (by decide)
    have e2 : ∀ y, live (u4 (u4 Z 25 0 0 (13 * s + 1) (live Z 1 s 1 - 1)) 25 0 0 (13 * s + 2) y) = us (us (live Z) 1 s 1 (live Z 1 s 1 - 1)) 1 s 2 y := fun y => (live_zs (Z := u4 Z 25 0 0 (13 * s + 1) (live Z 1 s 1 - 1)) hs (by decide)).trans (by rw [e1])
    have e3 : ∀ y x, live (u4 (u4 (u4 Z 25 0 0 (13 * s + 1) (live Z 1 s 1 - 1)) 25 0 0 (13 * s + 2) y) 24 0 0 p x) = us (us (us (live Z) 1 s 1 (live Z 1 s 1 - 1)) 1 s 2 y) 0 0 p x := fun y x => (live_zb (Z := u4 (u4 Z 25 0 0 (13 * s + 1) (live Z 1 s 1 - 1)) 25 0 0 (13 * s + 2) y) hp).trans (by rw [e2])
    rw [e3, e1, us_ne (k' := 1) (i' := s) (j' := 2) (by omega)]
    rfl
  | succ m ih =>
    intro k f Z hk h3 hf
    obtain ⟨f, rfl⟩ : ∃ g, f = g + 1 := ⟨f - 1, by omega⟩
    have a1 := i13 (s := s) (w := k) hs (by omega)
    have a2 := i13 (s := s) (w := k + 1) hs (by omega)
    have e0 : (13 : Int32) * nI s + nI k + 1 = 13 * nI s + nI (k + 1) := by rw [← nI_1]; grind
    rw [s_X7_sends_L39, if_neg (show ¬ (2 : Int32) + nI n ≤ nI k from by rw [show (2 : Int32) = nI 2 from rfl, nI_add]; exact nI_ge (by omega) (by omega))]
    rw [e0, gd_t a2.1, gd_t a1.1, a1.2, a2.2, sv_e, rd_s Z hs (by omega), nI_1, shf]
    have e : live (zs Z s k (live Z 1 s (k + 1))) = us (live Z) 1 s k (live Z 1 s (k + 1)) := live_zs hs (by omega)
    rw [← e]
    exact ih (k + 1) f (zs Z s k (live Z 1 s (k + 1))) (by omega) (by omega) (by omega)
theorem r_sends {Z : S4} {fu s p n : Nat} (hs : s < 3) (hpl : live Z 1 s 0 = nI p) (hp : p < 30) (hw : live Z 1 s 1 = nI n) (hn : n ≤ 10) (hB : live Z 0 0 p = -1 ∨ ∃ q, q < 60 ∧ live Z 0 0 p = nI q) (hQ : 1 ≤ n → ∃ q, q < 60 ∧ live Z 1 s 3 = nI q) (hf : 10 < fu) : ∃ Z', s_X7_sends fu (nI s) Z = some Z' ∧ live Z' = snd0 (live Z) s := by
  unfold s_X7_sends snd0
  rw [q_ofStation hs (by decide), bd_s, q_ofStation hs (by decide), bd_s, hpl, gd_t (inb_nI hp (by decide)), nI_clamp (by omega), rd_b Z hp, hw]
  rcases hB with h | ⟨q, hq, h⟩
  · rw [h, if_neg (by decide)]
    by_cases h0 : n = 0
    · subst h0
      rw [if_pos (by rfl), if_neg (by decide)]
      exact ⟨Z, rfl, rfl⟩
    · obtain ⟨q, hq, hqv⟩ := hQ (by omega)
      rw [if_neg (nI_ne0 (by omega) (by omega)), if_pos ⟨by decide, nI_ne0 (by omega) (by omega)⟩, q_ofStation hs (by decide), bd_s, hqv, nI_clamp (by omega), nI_clamp (by omega)]
      exact r_sends_L hs hq hp hn (by omega) (n - 1) 3 fu Z (by omega) (by omega) (by omega)
  · rw [h, if_pos (nI_pos' (by omega)), if_neg (fun z => nI_pos (n := q) (by omega) z.1)]
    exact ⟨Z, rfl, rfl⟩
