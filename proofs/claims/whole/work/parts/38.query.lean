/-! the pairs: methods that only answer -/
theorem tb_il {α β : Type} {a : α} {f : α → Option (β ⊕ (Nat × S4))} : tb (some (.inl a)) f = f a := rfl
theorem tb_ir {α β : Type} {e : Nat × S4} {f : α → Option (β ⊕ (Nat × S4))} : tb (some (.inr e)) f = some (.inr e) := rfl
def PR (np T : Nat) (S : S4) (A : Option ((Int32 × S4) ⊕ (Nat × S4))) (B : Option (Int32 × S4)) (cs : List (Nat × Int32)) : Prop :=
  ∃ r S' b Z', A = some r ∧ B = some (b, Z') ∧ ((r = .inl (b, S') ∧ Z' 7 0 0 0 = 0) ∨ ∃ e c, r = .inr (e, S') ∧ (e, c) ∈ cs ∧ Z' 7 0 0 0 = c) ∧ GG np T S' Z' ∧ FC S S'
theorem live_th {Z : S4} {c : Int32} : live (u4 Z 7 0 0 0 c) = live Z := live_un (by decide) (by decide)
theorem GG.th {np T : Nat} {S Z : S4} {c : Int32} (h : GG np T S Z) : GG np T S (u4 Z 7 0 0 0 c) :=
  h.now (FS.refl 0 S) (FK.putu ⟨by decide, by decide, by decide, by decide, fun _ => ⟨by decide, by decide, by decide, by decide⟩⟩) (by rw [live_th]; exact h.1) (Nat.le_refl _)
theorem th_0 {Z : S4} {c : Int32} : u4 Z 7 0 0 0 c 7 0 0 0 = c := by rw [u4_app, if_pos ⟨rfl, rfl, rfl, rfl⟩]
section QQ
variable {np fu T : Nat} {S Z : S4} {cs : List (Nat × Int32)}
theorem PR.fail {e : Nat} {c : Int32} (h : GG np T S Z) (hm : (e, c) ∈ cs) : PR np T S (some (.inr (e, S))) ((s_X7_fails c Z).bind fun q => some (q.1, q.2)) cs :=
  ⟨_, S, 0, u4 Z 7 0 0 0 c, rfl, rfl, Or.inr ⟨e, c, rfl, hm, th_0⟩, h.th, FC.refl S⟩
theorem PR.ok {x : Int32} (h : GG np T S Z) : PR np T S (some (.inl (x, S))) (some (x, u4 Z 7 0 0 0 0)) cs :=
  ⟨_, S, x, u4 Z 7 0 0 0 0, rfl, rfl, Or.inl ⟨rfl, th_0⟩, h.th, FC.refl S⟩
theorem rq_bad {x n : Int32} (h : x < 0 ∨ n ≤ x) : s_X6_requireIndex x n S = some (.inr (5, S)) := by
  unfold s_X6_requireIndex
  by_cases h0 : x < 0
  · rw [if_pos h0]
  · rw [if_neg h0, if_neg (Int32.not_lt.mpr (h.resolve_left h0))]
theorem rq_ok {j n : Nat} (h : j < n) (hn : n < 2 ^ 31) : s_X6_requireIndex (nI j) (nI n) S = some (.inl S) := by
  unfold s_X6_requireIndex
  rw [if_neg (nI_pos (by omega)), if_pos (nI_lt h hn)]
theorem rw_bad {x g : Int32} (h : ¬ (0 ≤ x ∧ x ≤ g)) : s_X6_requireWhat x g S = some (.inr (1, S)) := by
  unfold s_X6_requireWhat
  by_cases h0 : x < 0
  · rw [if_pos h0]
  · rw [if_neg h0, if_neg (fun z => h ⟨Int32.not_lt.mp h0, z⟩)]
theorem rw_ok {x g : Int32} (h : 0 ≤ x ∧ x ≤ g) : s_X6_requireWhat x g S = some (.inl S) := by
  unfold s_X6_requireWhat
  rw [if_neg (Int32.not_lt.mpr h.1), if_pos h.2]
theorem rt_bad {x g : Int32} (h : ¬ (1 ≤ x ∧ x ≤ g)) : s_X6_requireTicks x g S = some (.inr (1, S)) := by
  unfold s_X6_requireTicks
  by_cases h0 : x < 1
  · rw [if_pos h0]
  · rw [if_neg h0, if_neg (fun z => h ⟨Int32.not_lt.mp h0, z⟩)]
theorem rt_ok {x g : Int32} (h : 1 ≤ x ∧ x ≤ g) : s_X6_requireTicks x g S = some (.inl S) := by
  unfold s_X6_requireTicks
  rw [if_neg (Int32.not_lt.mpr h.1), if_pos h.2]
theorem what_cases {x : Int32} {n : Nat} (hn : n < 2 ^ 31) (h : 0 ≤ x ∧ x ≤ nI n) : ∃ j, j ≤ n ∧ x = nI j := nI_of2 (nI_toInt hn) (Int32.not_lt.mpr h.1) h.2
theorem isX_bad {x n : Int32} {α : Type} {a b : α} (h : x < 0 ∨ n ≤ x) : (if x < 0 then a else if n ≤ x then a else b) = a := by
  by_cases h0 : x < 0
  · rw [if_pos h0]
  · rw [if_neg h0, if_pos (h.resolve_left h0)]
theorem isX_ok {j n : Nat} {α : Type} {a b : α} (h : j < n) (hn : n < 2 ^ 31) : (if nI j < 0 then a else if nI n ≤ nI j then a else b) = b := by
  rw [if_neg (nI_pos (by omega)), if_neg (nI_ge h hn)]
theorem k_placeOf {t fo pc k : Nat} (h1 : cls S t 4 0 1 = nI pc) (h2 : cls S t 4 0 2 = nI fo) (hk : k < pc) (hf : fo < pc) (h3 : pc ≤ 30) : s_X4_placeOf t (nI (cri pc fo k)) S = some (nI k) := by
  unfold s_X4_placeOf cri
  rw [show S 4 t 0 1 = nI pc from h1, show S 4 t 0 2 = nI fo from h2]
  by_cases h : fo + k < pc
  · rw [if_pos h, show nI (fo + k) - nI fo = nI k from by rw [pk_sub (by omega), Nat.add_sub_cancel_left], if_neg (nI_pos (by omega))]
  · rw [if_neg h, if_pos (pk_sneg (by omega) (by omega))]
    congr 1
    rw [show nI (fo + k - pc) = nI (fo + k) - nI pc from (pk_sub (by omega)).symm, ← nI_add fo k]
    grind
theorem pr_parcel {p w : Int32} (h : GG np T S Z) : PR np T S (s_X6_parcel p w S) (s_X7_parcel p w Z) [(5, 1), (1, 2)] := by
  obtain ⟨⟨ns, nc, nl, nq, nd, fo, pc, hR⟩, -⟩ := id h
  obtain ⟨⟨⟨a1, a2, a3, a4, a5, a6, b1, b2', b3, b4, b5, b6, b7⟩, d0, d1, d2, d3, d4, d5, d6, d7, d8, -⟩, hS, hCh, hL, hP, hB, hG, hK⟩ := id hR
  unfold s_X6_parcel s_X7_parcel s_X7_isParcel
  rw [show S 4 0 0 6 = nI nq from d6, rd_n4 Z, a5]
  rcases pk_ix p (n := nq) (by omega) with hx | hx | ⟨q, hq, rfl⟩
  · rw [rq_bad (Or.inl hx), tb_ir, isX_bad (Or.inl hx), bd_s, if_pos rfl]
    exact PR.fail h (by simp)
  · rw [rq_bad (Or.inr hx), tb_ir, isX_bad (Or.inr hx), bd_s, if_pos rfl]
    exact PR.fail h (by simp)
  · rw [rq_ok hq (by omega), tb_il, isX_ok hq (by omega), bd_s, if_neg (by decide), p_isBetween, bd_s, b2_if]
    by_cases hw : 0 ≤ w ∧ w ≤ 11
    · rw [rw_ok hw, tb_il, if_pos hw, gd_t (inb_nI (by omega) (by decide)), nI_clamp (by omega), sv_e]
      obtain ⟨j, hj, rfl⟩ := what_cases (n := 11) (by decide) hw
      obtain ⟨g1, -, g3⟩ := hP q hq
      rw [n_ofParcel (by omega) (by omega), bd_s, live_th]
      have e5 : j = 5 → s_X6_parcel (nI q) (nI j) S = some (.inl (live Z 4 q 5, S)) := fun e => by
        subst e
        unfold s_X6_parcel
        rw [show S 4 0 0 6 = nI nq from d6, rq_ok hq (by omega), tb_il, rw_ok hw, tb_il, gd_t (inb_nI (by omega) (by decide)), nI_clamp (by omega), if_neg (by decide), if_neg (by decide), if_neg (by decide), if_neg (by decide), if_neg (by decide), if_pos (by decide), show S 1 0 q 4 = live Z 4 q 4 from g1 4 (by decide) (by decide)]
        rcases g3 with ⟨z1, -, z2, -⟩ | ⟨z1, -, k, z3, z4, -, z5⟩ | ⟨z1, z2, -⟩
        · rw [z1, if_neg (by decide), show S 1 0 q 5 = live Z 4 q 5 from z2]
        · rw [z1, if_pos rfl, show S 1 0 q 5 = nI (cri pc fo k) from z5, k_placeOf d1 d2 z3 d8 b2', bd_s, z4]
        · rw [z1, if_neg (by decide), show S 1 0 q 5 = live Z 4 q 5 from z2]
      have fin : ∀ x, x = some (.inl (live Z 4 q j, S)) → PR np T S x (some (live Z 4 q j, u4 Z 7 0 0 0 0)) [(5, 1), (1, 2)] := fun x hx => by rw [hx]; exact PR.ok h
      refine fin _ ?_
      by_cases e : j = 5
      · have h5 := e5 e
        unfold s_X6_parcel at h5
        rw [show S 4 0 0 6 = nI nq from d6, rq_ok hq (by omega), tb_il, rw_ok hw, tb_il, gd_t (inb_nI (by omega) (by decide)), nI_clamp (by omega)] at h5
        rw [h5, e]
      · have hv : S 1 0 q j = live Z 4 q j := g1 j (by omega) e
        rw [← hv]
        rcases (by omega : j = 0 ∨ j = 1 ∨ j = 2 ∨ j = 3 ∨ j = 4 ∨ j = 6 ∨ j = 7 ∨ j = 8 ∨ j = 9 ∨ j = 10 ∨ j = 11) with rfl | rfl | rfl | rfl | rfl | rfl | rfl | rfl | rfl | rfl | rfl <;> rfl
    · rw [rw_bad hw, tb_ir, if_neg hw]
      exact PR.fail h (by simp)
theorem pr_carried {p : Int32} (h : GG np T S Z) : PR np T S (s_X6_carried p S) (s_X7_carried p Z) [(5, 1), (4, 2)] := by
  obtain ⟨⟨ns, nc, nl, nq, nd, fo, pc, hR⟩, -⟩ := id h
  obtain ⟨⟨⟨a1, a2, a3, a4, a5, a6, b1, b2', b3, b4, b5, b6, b7⟩, d0, d1, d2, d3, d4, d5, d6, d7, d8, -⟩, hS, hCh, hL, hP, hB, hG, hK⟩ := id hR
  unfold s_X6_carried s_X7_carried
  rw [show S 4 0 0 1 = nI pc from d1, rd_n0 Z, a1, p_isBetween, bd_s, b2_if, show nI pc - 1 = nI (pc - 1) from pk_sub (a := pc) (b := 1) (by omega)]
  rcases pk_ix p (n := pc) (by omega) with hx | hx | ⟨q, hq, rfl⟩
  · rw [rq_bad (Or.inl hx), tb_ir, if_neg (fun z => absurd hx (Int32.not_lt.mpr z.1))]
    exact PR.fail h (by simp)
  · rw [rq_bad (Or.inr hx), tb_ir, if_neg (fun z => by
      obtain ⟨j, hj, rfl⟩ := what_cases (n := pc - 1) (by omega) z
      have := (nI_leI (a := pc) (b := j) (by omega) (by omega)).mp hx
      omega)]
    exact PR.fail h (by simp)
  · rw [rq_ok hq (by omega), tb_il, if_pos ⟨nI_pos' (by omega), nI_le (by omega) (by omega)⟩, k_parcelAt d1 d2 hq d8 b2', bd_s, (hB q hq).1, gd_t (inb_nI (by omega) (by decide)), show Z 24 0 0 (nI q).toNatClampNeg = live Z 0 0 q from by rw [nI_clamp (by omega)]; exact rd_b Z (by omega)]
    rcases (hB q hq).2 with z | ⟨p, m1, m2, -⟩
    · rw [z, if_pos rfl, if_neg (by decide)]
      exact PR.fail h (by simp)
    · rw [m2, if_neg (nI_m1 (by omega)), if_pos (nI_pos' (by omega)), sv_e, gd_t (inb_nI (by omega) (by decide)), nI_clamp (by omega), rd_b (u4 Z 7 0 0 0 0) (by omega), live_th, m2]
      exact PR.ok h
theorem find_L {p1 p2 : Int32} (h : GG np T S Z) {nq : Nat} (h6 : S 4 0 0 6 = nI nq) (h60 : nq ≤ 60) (h4 : live Z 6 0 4 = nI nq) (hP : ∀ p, p < nq → ∀ j, j < 12 → j ≠ 5 → cls S 0 1 p j = live Z 4 p j) : ∀ (d p f f' : Nat), p + d = nq → d < f → d < f' → PR np T S (s_X6_find_L2 fu p1 p2 f (nI p) S) (s_X7_find_L2 fu p1 p2 f' (nI p) Z) [(4, 1)] := by
  intro d
  induction d with
  | zero =>
    intro p f f' hp hf hf'
    obtain ⟨f, rfl⟩ : ∃ g, f = g + 1 := ⟨f - 1, by omega⟩
    obtain ⟨f', rfl⟩ : ∃ g, f' = g + 1 := ⟨f' - 1, by omega⟩
    rw [s_X6_find_L2, s_X7_find_L2, h6, rd_n4 Z, h4, if_pos (nI_le (by omega) (by omega)), if_pos (nI_le (by omega) (by omega))]
    exact PR.fail h (by simp)
  | succ d ih =>
    intro p f f' hp hf hf'
    obtain ⟨f, rfl⟩ : ∃ g, f = g + 1 := ⟨f - 1, by omega⟩
    obtain ⟨f', rfl⟩ : ∃ g, f' = g + 1 := ⟨f' - 1, by omega⟩
    have g := hP p (by omega)
    have hih := ih (p + 1) f f' (by omega) (by omega) (by omega)
    rw [s_X6_find_L2, s_X7_find_L2, h6, rd_n4 Z, h4, if_neg (nI_ge (by omega) (by omega)), if_neg (nI_ge (by omega) (by omega)), gd_t (inb_nI (by omega) (by decide)), nI_clamp (by omega), q_ofParcel (by omega) (by decide), bd_s, q_ofParcel (by omega) (by decide), bd_s, show S 1 0 p 0 = live Z 4 p 0 from g 0 (by decide) (by decide), show S 1 0 p 1 = live Z 4 p 1 from g 1 (by decide) (by decide), nI_1]
    by_cases c1 : live Z 4 p 0 = p1
    · rw [if_pos c1, if_pos c1]
      by_cases c2 : live Z 4 p 1 = p2
      · rw [if_pos c2, if_pos c2, sv_e]
        exact PR.ok h
      · rw [if_neg c2, if_neg c2]
        exact hih
    · rw [if_neg c1, if_neg c1]
      exact hih
theorem pr_find {p1 p2 : Int32} (h : GG np T S Z) (hf : 60 < fu) : PR np T S (s_X6_find fu p1 p2 S) (s_X7_find fu p1 p2 Z) [(4, 1)] := by
  obtain ⟨⟨ns, nc, nl, nq, nd, fo, pc, hR⟩, -⟩ := id h
  obtain ⟨⟨⟨a1, a2, a3, a4, a5, a6, b1, b2', b3, b4, b5, b6, b7⟩, d0, d1, d2, d3, d4, d5, d6, d7, d8, -⟩, hS, hCh, hL, hP, hB, hG, hK⟩ := id hR
  exact find_L h d6 b6 a5 (fun p hp => (hP p hp).1) nq 0 fu fu (by omega) (by omega) (by omega)
theorem pr_ledger {p w : Int32} (h : GG np T S Z) : PR np T S (s_X6_ledger p w S) (s_X7_ledger p w Z) [(5, 1), (1, 2)] := by
  obtain ⟨⟨ns, nc, nl, nq, nd, fo, pc, hR⟩, -⟩ := id h
  obtain ⟨⟨⟨a1, a2, a3, a4, a5, a6, b1, b2', b3, b4, b5, b6, b7⟩, d0, d1, d2, d3, d4, d5, d6, d7, d8, -⟩, hS, hCh, hL, hP, hB, hG, hK⟩ := id hR
  unfold s_X6_ledger s_X7_ledger
  rw [show S 4 0 0 7 = nI nd from d7, rd_n5 Z, a6, p_isBetween, bd_s, b2_if]
  rcases pk_ix p (n := nd) (by omega) with hx | hx | ⟨i, hi, rfl⟩
  · rw [rq_bad (Or.inl hx), tb_ir, if_neg (fun z => absurd hx (Int32.not_lt.mpr z.1))]
    exact PR.fail h (by simp)
  · rw [rq_bad (Or.inr hx), tb_ir, if_neg (fun z => by
      have h1 := z.1
      have h2 := z.2
      by_cases hz : nd = 0
      · subst hz
        have : nI 0 - 1 = (-1 : Int32) := by decide
        rw [this] at h2
        exact absurd (Int32.le_trans h1 h2) (by decide)
      · rw [show nI nd - 1 = nI (nd - 1) from pk_sub (a := nd) (b := 1) (by omega)] at h2
        obtain ⟨j, hj, rfl⟩ := what_cases (n := nd - 1) (by omega) ⟨h1, h2⟩
        have := (nI_leI (a := nd) (b := j) (by omega) (by omega)).mp hx
        omega)]
    exact PR.fail h (by simp)
  · rw [rq_ok hi (by omega), tb_il, if_pos ⟨nI_pos' (by omega), by rw [show nI nd - 1 = nI (nd - 1) from pk_sub (a := nd) (b := 1) (by omega)]; exact nI_le (by omega) (by omega)⟩, p_isBetween, bd_s, b2_if]
    by_cases hw : 0 ≤ w ∧ w ≤ 3
    · obtain ⟨g1, q, g2, g3, g4⟩ := hG i hi
      obtain ⟨c1, -, c3⟩ := hP q g2
      have c5 : S 1 0 q 5 = live Z 4 q 5 := by
        rcases c3 with ⟨z, -⟩ | ⟨z, -⟩ | ⟨-, z, -⟩
        · rw [g4] at z; exact absurd z (by decide)
        · rw [g4] at z; exact absurd z (by decide)
        · exact z
      rw [rw_ok hw, tb_il, if_pos hw, sv_e, gd_t (inb_nI (n := i) (by omega) (by decide)), gd_t (inb_nI (n := i) (by omega) (by decide)), show S 20 0 0 (nI i).toNatClampNeg = nI q from by rw [nI_clamp (by omega)]; exact g1.trans g3, show S 4 0 0 6 = nI nq from d6, rq_ok g2 (by omega), tb_il, gd_t (inb_nI (n := q) (by omega) (by decide)), nI_clamp (n := q) (by omega), nI_clamp (n := i) (by omega), rd_g (u4 Z 7 0 0 0 0) (by omega), live_th, g3, c5, show S 1 0 q 9 = live Z 4 q 9 from c1 9 (by decide) (by decide), show S 1 0 q 10 = live Z 4 q 10 from c1 10 (by decide) (by decide)]
      obtain ⟨j, hj, rfl⟩ := what_cases (n := 3) (by decide) hw
      rcases (by omega : j = 0 ∨ j = 1 ∨ j = 2 ∨ j = 3) with rfl | rfl | rfl | rfl
      · rw [if_pos (by decide), if_pos (by decide)]
        exact PR.ok h
      · rw [if_neg (by decide), if_pos (by decide), if_neg (by decide), if_pos (by decide), bd_s, q_ofParcel (by omega) (by decide), bd_s, live_th]
        exact PR.ok h
      · rw [if_neg (by decide), if_neg (by decide), if_pos (by decide), if_neg (by decide), if_neg (by decide), if_pos (by decide), bd_s, q_ofParcel (by omega) (by decide), bd_s, live_th]
        exact PR.ok h
      · rw [if_neg (by decide), if_neg (by decide), if_neg (by decide), if_neg (by decide), if_neg (by decide), if_neg (by decide), bd_s, q_ofParcel (by omega) (by decide), bd_s, live_th]
        exact PR.ok h
    · rw [rw_bad hw, tb_ir, if_neg hw]
      exact PR.fail h (by simp)
theorem pr_station {p w : Int32} (h : GG np T S Z) : PR np T S (s_X6_station p w S) (s_X7_station p w Z) [(5, 1), (1, 2)] := by
  obtain ⟨⟨ns, nc, nl, nq, nd, fo, pc, hR⟩, -⟩ := id h
  obtain ⟨⟨⟨a1, a2, a3, a4, a5, a6, b1, b2', b3, b4, b5, b6, b7⟩, d0, d1, d2, d3, d4, d5, d6, d7, d8, -⟩, hS, hCh, hL, hP, hB, hG, hK⟩ := id hR
  unfold s_X6_station s_X7_station s_X7_isStation
  rw [show S 4 0 0 3 = nI ns from d3, rd_n1 Z, a2]
  rcases pk_ix p (n := ns) (by omega) with hx | hx | ⟨s, hs, rfl⟩
  · rw [rq_bad (Or.inl hx), tb_ir, isX_bad (Or.inl hx), bd_s, if_pos rfl]
    exact PR.fail h (by simp)
  · rw [rq_bad (Or.inr hx), tb_ir, isX_bad (Or.inr hx), bd_s, if_pos rfl]
    exact PR.fail h (by simp)
  · rw [rq_ok hs (by omega), tb_il, isX_ok hs (by omega), bd_s, if_neg (by decide), p_isBetween, bd_s, b2_if]
    by_cases hw : 0 ≤ w ∧ w ≤ 3
    · obtain ⟨pl, n, s1, s2, s3, s4, s5, s6, s7, s8, s9, s10⟩ := hS s hs
      rw [rw_ok hw, tb_il, if_pos hw, gd_t (inb_nI (by omega) (by decide)), nI_clamp (by omega), sv_e, show S 5 0 s 0 = live Z 1 s 0 from s6.trans s1.symm, show S 5 0 s 1 = live Z 1 s 1 from s7.trans s4.symm, show S 5 0 s 2 = live Z 1 s 2 from s8]
      obtain ⟨j, hj, rfl⟩ := what_cases (n := 3) (by decide) hw
      rcases (by omega : j = 0 ∨ j = 1 ∨ j = 2 ∨ j = 3) with rfl | rfl | rfl | rfl
      · rw [if_pos (by decide), if_neg (by decide), if_neg (by decide), bd_s, n_ofStation (by omega) (by decide), bd_s, live_th]
        exact PR.ok h
      · rw [if_neg (by decide), if_pos (by decide), if_neg (by decide), if_neg (by decide), bd_s, n_ofStation (by omega) (by decide), bd_s, live_th]
        exact PR.ok h
      · rw [if_neg (by decide), if_neg (by decide), if_pos (by decide), if_pos (by decide), q_ofStation (by omega) (by decide), bd_s, live_th, s4]
        unfold s_X5_firstWaiting
        rw [show S 5 0 s 1 = nI n from s7]
        by_cases h0 : n = 0
        · subst h0
          rw [if_pos (by decide), bd_s, if_pos (by rfl)]
          exact PR.ok h
        · rw [if_neg (nI_nle (by omega) (by omega)), gd_t (show inb (0 : Int32) 10 from inb_nI (n := 0) (by decide) (by decide)), bd_s, if_neg (nI_ne0 (by omega) (by omega)), q_ofStation (by omega) (by decide), bd_s, live_th, show S 14 0 s (0 : Int32).toNatClampNeg = live Z 1 s 3 from (s9 0 (by omega)).1]
          exact PR.ok h
      · rw [if_neg (by decide), if_neg (by decide), if_neg (by decide), if_neg (by decide), if_pos (by decide), bd_s, q_ofStation (by omega) (by decide), bd_s, live_th]
        exact PR.ok h
    · rw [rw_bad hw, tb_ir, if_neg hw]
      exact PR.fail h (by simp)
end QQ
