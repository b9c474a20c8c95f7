/-! the class' copy of a state -/
def CQ (S : S4) (k t i t1 i1 n : Nat) (Y : S4) : Prop := FA k t i S Y ∧ ∀ j, j < n → Y k t i j = S k t1 i1 j
theorem cp_0 {S : S4} {k t i t1 i1 : Nat} : CQ S k t i t1 i1 0 S := ⟨FA.refl _ _ _ _, fun j hj => absurd hj (by omega)⟩
theorem cp_rd {S Y : S4} {k t i t1 i1 n j : Nat} (ht : t1 ≠ t) (h : CQ S k t i t1 i1 n Y) : Y k t1 i1 j = S k t1 i1 j := congrFun (h.1 k t1 i1 (fun z => ht z.2.1)) j
theorem cp_step {S Y : S4} {k t i t1 i1 n : Nat} {f : S4 → Option S4} {Q : S4 → Prop} (ht : t1 ≠ t) (h : CQ S k t i t1 i1 n Y) (hh : ∀ Y', CQ S k t i t1 i1 (n + 1) Y' → ∃ Z, f Y' = some Z ∧ Q Z) : ∃ Z, sv (u4 Y k t i n (Y k t1 i1 n)) f = some Z ∧ Q Z := by
  rw [sv_e]
  refine hh _ ⟨h.1.trans (FA.putu rfl), fun j hj => ?_⟩
  rw [u4_app]
  by_cases e : j = n
  · subst e
    rw [if_pos ⟨rfl, rfl, rfl, rfl⟩, cp_rd ht h]
  · rw [if_neg (fun z => e z.2.2.2)]
    exact h.2 j (by omega)
theorem cp_X0 {S : S4} {t c t1 : Nat} (ht : t1 ≠ t) (h9 : isB (S 0 t1 c 9)) : ∃ Z, s_X0_copyFrom t c t1 c S = some Z ∧ CQ S 0 t c t1 c 15 Z := by
  unfold s_X0_copyFrom
  refine cp_step ht cp_0 fun Y1 H1 => cp_step ht H1 fun Y2 H2 => cp_step ht H2 fun Y3 H3 => cp_step ht H3 fun Y4 H4 => cp_step ht H4 fun Y5 H5 => cp_step ht H5 fun Y6 H6 => cp_step ht H6 fun Y7 H7 => cp_step ht H7 fun Y8 H8 => cp_step ht H8 fun Y9 H9 => ?_
  rw [gd_t (show isB (Y9 0 t1 c 9) from by rw [cp_rd ht H9]; exact h9)]
  exact cp_step ht H9 fun Y10 H10 => cp_step ht H10 fun Y11 H11 => cp_step ht H11 fun Y12 H12 => cp_step ht H12 fun Y13 H13 => cp_step ht H13 fun Y14 H14 => cp_step ht H14 fun Y15 H15 => ⟨Y15, rfl, H15⟩
theorem cp_X1 {S : S4} {t c t1 : Nat} (ht : t1 ≠ t) : ∃ Z, s_X1_copyFrom t c t1 c S = some Z ∧ CQ S 1 t c t1 c 12 Z := by
  unfold s_X1_copyFrom
  exact cp_step ht cp_0 fun Y1 H1 => cp_step ht H1 fun Y2 H2 => cp_step ht H2 fun Y3 H3 => cp_step ht H3 fun Y4 H4 => cp_step ht H4 fun Y5 H5 => cp_step ht H5 fun Y6 H6 => cp_step ht H6 fun Y7 H7 => cp_step ht H7 fun Y8 H8 => cp_step ht H8 fun Y9 H9 => cp_step ht H9 fun Y10 H10 => cp_step ht H10 fun Y11 H11 => cp_step ht H11 fun Y12 H12 => ⟨Y12, rfl, H12⟩
theorem cp_X5 {S : S4} {t c t1 : Nat} (ht : t1 ≠ t) : ∃ Z, s_X5_copyFrom t c t1 c S = some Z ∧ (∀ j, j < 3 → Z 5 t c j = S 5 t1 c j) ∧ (∀ j, j < 10 → Z 14 t c j = S 14 t1 c j) ∧ ∀ k t' i, ¬ (k = 5 ∧ t' = t ∧ i = c) → ¬ (k = 14 ∧ t' = t ∧ i = c) → Z k t' i = S k t' i := by
  unfold s_X5_copyFrom
  refine cp_step ht cp_0 fun Y1 H1 => cp_step ht H1 fun Y2 H2 => cp_step ht H2 fun Y3 H3 => ?_
  rw [sv_e]
  refine ⟨_, rfl, fun j hj => ?_, fun j hj => ?_, fun k t' i h5 h14 => ?_⟩
  · rw [w4_ne (by omega)]
    exact H3.2 j hj
  · rw [w4_self, show (0 : Int32).toNatClampNeg = 0 from rfl, show (10 : Int32).toNatClampNeg = 10 from rfl, pk_cpy_in (by omega) (by omega), H3.1 14 t1 c (by omega)]
    congr 1
    omega
  · rw [w4_ne h14]
    exact H3.1 k t' i h5
def CP (S : S4) (t t1 ns nc nl nq : Nat) (Y : S4) : Prop := FS t S Y ∧ (∀ j, j < 9 → Y 4 t 0 j = S 4 t1 0 j) ∧ (∀ s, s < ns → ∀ j, j < 3 → Y 5 t s j = S 5 t1 s j) ∧ (∀ s, s < ns → ∀ j, j < 10 → Y 14 t s j = S 14 t1 s j) ∧ (∀ c, c < nc → ∀ j, j < 15 → Y 0 t c j = S 0 t1 c j) ∧ (∀ p, p < nl → Y 17 t 0 p = S 17 t1 0 p) ∧ ∀ p, p < nq → ∀ j, j < 12 → Y 1 t p j = S 1 t1 p j
section CPP
variable {np fu t t1 ns nc nl nq : Nat} {S : S4}
theorem CP.rd {a b c d : Nat} {Y : S4} (ht : t1 ≠ t) (h : CP S t t1 a b c d Y) (k : Nat) : Y k t1 = S k t1 := h.1 k t1 (fun z => ht z.2)
theorem cp_L92 (ht : t1 ≠ t) (h60 : nq ≤ 60) (h6 : S 4 t1 0 6 = nI nq) : ∀ (d p f : Nat) (Y : S4), p + d = nq → d < f → CP S t t1 ns nc nl p Y → ∃ Z, s_X4_copyParts_L92 np fu t t1 f (nI p) Y = some Z ∧ CP S t t1 ns nc nl nq Z := by
  intro d
  induction d with
  | zero =>
    intro p f Y hp hf h
    obtain ⟨f, rfl⟩ : ∃ g, f = g + 1 := ⟨f - 1, by omega⟩
    obtain rfl : p = nq := by omega
    rw [s_X4_copyParts_L92, h.2.1 6 (by decide), h6, if_pos (nI_le (by omega) (by omega))]
    exact ⟨Y, rfl, h⟩
  | succ d ih =>
    intro p f Y hp hf h
    obtain ⟨f, rfl⟩ : ∃ g, f = g + 1 := ⟨f - 1, by omega⟩
    obtain ⟨Z, e1, e2, e3⟩ := cp_X1 (S := Y) (c := p) ht
    rw [s_X4_copyParts_L92, h.2.1 6 (by decide), h6, if_neg (nI_ge (by omega) (by omega)), gd_t (inb_nI (by omega) (by decide)), gd_t (inb_nI (by omega) (by decide)), nI_clamp (by omega), e1, bd_s, nI_1]
    refine ih (p + 1) f Z (by omega) (by omega) ?_
    obtain ⟨g1, g2, g3, g4, g5, g6, g7⟩ := id h
    refine ⟨g1.trans (e2.fs (by decide)), fun j hj => ?_, fun s hs j hj => ?_, fun s hs j hj => ?_, fun c hc j hj => ?_, fun q hq => ?_, fun q hq j hj => ?_⟩
    · rw [e2 4 t 0 (by omega)]; exact g2 j hj
    · rw [e2 5 t s (by omega)]; exact g3 s hs j hj
    · rw [e2 14 t s (by omega)]; exact g4 s hs j hj
    · rw [e2 0 t c (by omega)]; exact g5 c hc j hj
    · rw [e2 17 t 0 (by omega)]; exact g6 q hq
    · by_cases e : q = p
      · subst e; rw [e3 j hj, h.rd ht]
      · rw [e2 1 t q (by omega)]; exact g7 q (by omega) j hj
theorem cp_L64 (ht : t1 ≠ t) (h60 : nq ≤ 60) (h6 : S 4 t1 0 6 = nI nq) (h5 : nl ≤ 5) (hl : S 4 t1 0 5 = nI nl) (hP : ∀ p, p < nl → ∃ i, i < np ∧ S 17 t1 0 p = nI i) (hnp : np < 2 ^ 31) (hfu : 60 < fu) : ∀ (d p f : Nat) (Y : S4), p + d = nl → d < f → CP S t t1 ns nc p 0 Y → ∃ Z, s_X4_copyParts_L64 np fu t t1 f (nI p) Y = some Z ∧ CP S t t1 ns nc nl nq Z := by
  intro d
  induction d with
  | zero =>
    intro p f Y hp hf h
    obtain ⟨f, rfl⟩ : ∃ g, f = g + 1 := ⟨f - 1, by omega⟩
    obtain rfl : p = nl := by omega
    rw [s_X4_copyParts_L64, h.2.1 5 (by decide), hl, if_pos (nI_le (by omega) (by omega))]
    exact cp_L92 ht h60 h6 nq 0 fu Y (by omega) (by omega) h
  | succ d ih =>
    intro p f Y hp hf h
    obtain ⟨f, rfl⟩ : ∃ g, f = g + 1 := ⟨f - 1, by omega⟩
    obtain ⟨i, hi, hi17⟩ := hP p (by omega)
    rw [s_X4_copyParts_L64, h.2.1 5 (by decide), hl, if_neg (nI_ge (by omega) (by omega)), gd_t (inb_nI (by omega) (by decide)), gd_t (inb_nI (by omega) (by decide)), nI_clamp (by omega), show Y 17 t1 0 p = nI i from by rw [h.rd ht, hi17], gd_t (show nI i < 0 ∨ (nI i).toNatClampNeg < np from Or.inr (by rw [nI_clamp (by omega)]; exact hi)), sv_e, nI_1]
    refine ih (p + 1) f _ (by omega) (by omega) ?_
    obtain ⟨g1, g2, g3, g4, g5, g6, g7⟩ := id h
    refine ⟨g1.trans (FS.putu rfl (by decide)), fun j hj => ?_, fun s hs j hj => ?_, fun s hs j hj => ?_, fun c hc j hj => ?_, fun q hq => ?_, fun q hq j hj => ?_⟩
    · rw [u4_app, if_neg (by omega)]; exact g2 j hj
    · rw [u4_app, if_neg (by omega)]; exact g3 s hs j hj
    · rw [u4_app, if_neg (by omega)]; exact g4 s hs j hj
    · rw [u4_app, if_neg (by omega)]; exact g5 c hc j hj
    · rw [u4_app]
      by_cases e : q = p
      · subst e; rw [if_pos ⟨rfl, rfl, rfl, rfl⟩, hi17]
      · rw [if_neg (by omega)]; exact g6 q (by omega)
    · omega
theorem cp_L33 (ht : t1 ≠ t) (h60 : nq ≤ 60) (h6 : S 4 t1 0 6 = nI nq) (h5 : nl ≤ 5) (hl : S 4 t1 0 5 = nI nl) (hP : ∀ p, p < nl → ∃ i, i < np ∧ S 17 t1 0 p = nI i) (hnp : np < 2 ^ 31) (hfu : 60 < fu) (h8 : nc ≤ 8) (hc4 : S 4 t1 0 4 = nI nc) (h9 : ∀ c, c < nc → isB (S 0 t1 c 9)) : ∀ (d p f : Nat) (Y : S4), p + d = nc → d < f → CP S t t1 ns p 0 0 Y → ∃ Z, s_X4_copyParts_L33 np fu t t1 f (nI p) Y = some Z ∧ CP S t t1 ns nc nl nq Z := by
  intro d
  induction d with
  | zero =>
    intro p f Y hp hf h
    obtain ⟨f, rfl⟩ : ∃ g, f = g + 1 := ⟨f - 1, by omega⟩
    obtain rfl : p = nc := by omega
    rw [s_X4_copyParts_L33, h.2.1 4 (by decide), hc4, if_pos (nI_le (by omega) (by omega))]
    exact cp_L64 ht h60 h6 h5 hl hP hnp hfu nl 0 fu Y (by omega) (by omega) h
  | succ d ih =>
    intro p f Y hp hf h
    obtain ⟨f, rfl⟩ : ∃ g, f = g + 1 := ⟨f - 1, by omega⟩
    obtain ⟨Z, e1, e2, e3⟩ := cp_X0 (S := Y) (c := p) ht (by rw [h.rd ht]; exact h9 p (by omega))
    rw [s_X4_copyParts_L33, h.2.1 4 (by decide), hc4, if_neg (nI_ge (by omega) (by omega)), gd_t (inb_nI (by omega) (by decide)), gd_t (inb_nI (by omega) (by decide)), nI_clamp (by omega), e1, bd_s, nI_1]
    refine ih (p + 1) f Z (by omega) (by omega) ?_
    obtain ⟨g1, g2, g3, g4, g5, g6, g7⟩ := id h
    refine ⟨g1.trans (e2.fs (by decide)), fun j hj => ?_, fun s hs j hj => ?_, fun s hs j hj => ?_, fun c hc j hj => ?_, fun q hq => ?_, fun q hq j hj => ?_⟩
    · rw [e2 4 t 0 (by omega)]; exact g2 j hj
    · rw [e2 5 t s (by omega)]; exact g3 s hs j hj
    · rw [e2 14 t s (by omega)]; exact g4 s hs j hj
    · by_cases e : c = p
      · subst e; rw [e3 j hj, h.rd ht]
      · rw [e2 0 t c (by omega)]; exact g5 c (by omega) j hj
    · omega
    · omega
theorem cp_L2 (ht : t1 ≠ t) (h60 : nq ≤ 60) (h6 : S 4 t1 0 6 = nI nq) (h5 : nl ≤ 5) (hl : S 4 t1 0 5 = nI nl) (hP : ∀ p, p < nl → ∃ i, i < np ∧ S 17 t1 0 p = nI i) (hnp : np < 2 ^ 31) (hfu : 60 < fu) (h8 : nc ≤ 8) (hc4 : S 4 t1 0 4 = nI nc) (h9 : ∀ c, c < nc → isB (S 0 t1 c 9)) (h3 : ns ≤ 3) (hs3 : S 4 t1 0 3 = nI ns) : ∀ (d p f : Nat) (Y : S4), p + d = ns → d < f → CP S t t1 p 0 0 0 Y → ∃ Z, s_X4_copyParts_L2 np fu t t1 f (nI p) Y = some Z ∧ CP S t t1 ns nc nl nq Z := by
  intro d
  induction d with
  | zero =>
    intro p f Y hp hf h
    obtain ⟨f, rfl⟩ : ∃ g, f = g + 1 := ⟨f - 1, by omega⟩
    obtain rfl : p = ns := by omega
    rw [s_X4_copyParts_L2, h.2.1 3 (by decide), hs3, if_pos (nI_le (by omega) (by omega))]
    exact cp_L33 ht h60 h6 h5 hl hP hnp hfu h8 hc4 h9 nc 0 fu Y (by omega) (by omega) h
  | succ d ih =>
    intro p f Y hp hf h
    obtain ⟨f, rfl⟩ : ∃ g, f = g + 1 := ⟨f - 1, by omega⟩
    obtain ⟨Z, e1, e2, e3, e4⟩ := cp_X5 (S := Y) (c := p) ht
    rw [s_X4_copyParts_L2, h.2.1 3 (by decide), hs3, if_neg (nI_ge (by omega) (by omega)), gd_t (inb_nI (by omega) (by decide)), gd_t (inb_nI (by omega) (by decide)), nI_clamp (by omega), e1, bd_s, nI_1]
    refine ih (p + 1) f Z (by omega) (by omega) ?_
    obtain ⟨g1, g2, g3, g4, g5, g6, g7⟩ := id h
    refine ⟨g1.trans (fun k t' hk => funext fun i => e4 k t' i (fun z => hk ⟨by rw [z.1]; decide, z.2.1⟩) (fun z => hk ⟨by rw [z.1]; decide, z.2.1⟩)), fun j hj => ?_, fun s hs j hj => ?_, fun s hs j hj => ?_, fun c hc j hj => ?_, fun q hq => ?_, fun q hq j hj => ?_⟩
    · rw [e4 4 t 0 (by omega) (by omega)]; exact g2 j hj
    · by_cases e : s = p
      · subst e; rw [e2 j hj, h.rd ht]
      · rw [e4 5 t s (by omega) (by omega)]; exact g3 s (by omega) j hj
    · by_cases e : s = p
      · subst e; rw [e3 j hj, h.rd ht]
      · rw [e4 14 t s (by omega) (by omega)]; exact g4 s (by omega) j hj
    · omega
    · omega
    · omega
theorem k_copy {T nd fo pc : Nat} {v : Vw} (ht : t1 ≠ t) (hnp : np < 2 ^ 31) (hfu : 60 < fu) (h : RR np T (pln S) (cls S t1) v ns nc nl nq nd fo pc) : ∃ S', s_X4_copyFrom np fu t t1 S = some S' ∧ FS t S S' ∧ RR np T (pln S') (cls S' t) v ns nc nl nq nd fo pc := by
  obtain ⟨⟨⟨a1, a2, a3, a4, a5, a6, b1, b2', b3, b4, b5, b6, b7⟩, d0, d1, d2, d3, d4, d5, d6, d7, d8, tm, t1', t2⟩, hS, hCh, hL, hP, hB, hG, hK⟩ := id h
  have hmain : ∃ S', s_X4_copyFrom np fu t t1 S = some S' ∧ CP S t t1 ns nc nl nq S' ∧ (∀ j, j < 30 → S' 19 t 0 j = S 19 t1 0 j) ∧ (∀ j, j < 60 → S' 20 t 0 j = S 20 t1 0 j) ∧ (∀ j, j < 4 → S' 21 t 0 j = S 21 t1 0 j) := by
    unfold s_X4_copyFrom
    refine cp_step ht cp_0 fun Y1 H1 => cp_step ht H1 fun Y2 H2 => cp_step ht H2 fun Y3 H3 => cp_step ht H3 fun Y4 H4 => cp_step ht H4 fun Y5 H5 => cp_step ht H5 fun Y6 H6 => cp_step ht H6 fun Y7 H7 => cp_step ht H7 fun Y8 H8 => cp_step ht H8 fun Y9 H9 => ?_
    obtain ⟨Z, e1, e2⟩ := cp_L2 (np := np) (fu := fu) (S := S) (t := t) (t1 := t1) (ns := ns) (nc := nc) (nl := nl) (nq := nq) ht b6 d6 b5 d5 (fun p hp => by obtain ⟨-, -, i, g1, g2, -⟩ := hL.1 p hp; exact ⟨i, g1, g2⟩) hnp hfu b4 d4 (fun c hc => by obtain ⟨g1, -, -, -, g5, -⟩ := hCh c hc; rw [show S 0 t1 c 9 = v 2 c 9 from g1 9 (by decide)]; exact g5) b3 d3 ns 0 fu Y9 (by omega) (by omega) ⟨H9.1.fs (by decide), H9.2, fun _ hs => absurd hs (by omega), fun _ hs => absurd hs (by omega), fun _ hs => absurd hs (by omega), fun _ hs => absurd hs (by omega), fun _ hs => absurd hs (by omega)⟩
    unfold s_X4_copyParts
    rw [show (0 : Int32) = nI 0 from rfl, e1, bd_s, sv_e, sv_e, sv_e]
    refine ⟨_, rfl, ?_, fun j hj => ?_, fun j hj => ?_, fun j hj => ?_⟩
    · obtain ⟨g1, g2, g3, g4, g5, g6, g7⟩ := id e2
      refine ⟨((g1.trans (FS.putw rfl (by decide))).trans (FS.putw rfl (by decide))).trans (FS.putw rfl (by decide)), fun j hj => ?_, fun s hs j hj => ?_, fun s hs j hj => ?_, fun c hc j hj => ?_, fun q hq => ?_, fun q hq j hj => ?_⟩
      · rw [w4_ne (by omega), w4_ne (by omega), w4_ne (by omega)]; exact g2 j hj
      · rw [w4_ne (by omega), w4_ne (by omega), w4_ne (by omega)]; exact g3 s hs j hj
      · rw [w4_ne (by omega), w4_ne (by omega), w4_ne (by omega)]; exact g4 s hs j hj
      · rw [w4_ne (by omega), w4_ne (by omega), w4_ne (by omega)]; exact g5 c hc j hj
      · rw [w4_ne (by omega), w4_ne (by omega), w4_ne (by omega)]; exact g6 q hq
      · rw [w4_ne (by omega), w4_ne (by omega), w4_ne (by omega)]; exact g7 q hq j hj
    · rw [w4_ne (by omega), w4_ne (by omega), w4_self, show (nI 0).toNatClampNeg = 0 from rfl, show (30 : Int32).toNatClampNeg = 30 from rfl, pk_cpy_in (by omega) (by omega), e2.rd ht]
      congr 1
      omega
    · rw [w4_ne (by omega), w4_self, show (nI 0).toNatClampNeg = 0 from rfl, show (60 : Int32).toNatClampNeg = 60 from rfl, pk_cpy_in (by omega) (by omega), w4_ne (by omega), e2.rd ht]
      congr 1
      omega
    · rw [w4_self, show (nI 0).toNatClampNeg = 0 from rfl, show (4 : Int32).toNatClampNeg = 4 from rfl, pk_cpy_in (by omega) (by omega), w4_ne (by omega), w4_ne (by omega), e2.rd ht]
      congr 1
      omega
  obtain ⟨S', e1, ⟨g1, g2, g3, g4, g5, g6, g7⟩, e19, e20, e21⟩ := hmain
  refine ⟨S', e1, g1, ?_⟩
  rw [pln_fs g1]
  refine ⟨⟨⟨a1, a2, a3, a4, a5, a6, b1, b2', b3, b4, b5, b6, b7⟩, (g2 0 (by decide)).trans d0, (g2 1 (by decide)).trans d1, (g2 2 (by decide)).trans d2, (g2 3 (by decide)).trans d3, (g2 4 (by decide)).trans d4, (g2 5 (by decide)).trans d5, (g2 6 (by decide)).trans d6, (g2 7 (by decide)).trans d7, d8, tm, t1', t2⟩, fun s hs => ?_, fun c hc => ?_, ⟨fun p hp => ?_, hL.2⟩, fun p hp => ?_, fun k hk => ?_, fun i hi => ?_, ?_⟩
  · obtain ⟨pl, w, s1, s2, s3, s4, s5, s6, s7, s8, s9, s10⟩ := hS s hs
    exact ⟨pl, w, s1, s2, s3, s4, s5, (g3 s hs 0 (by decide)).trans s6, (g3 s hs 1 (by decide)).trans s7, (g3 s hs 2 (by decide)).trans s8, fun j hj => ⟨(g4 s hs j (by omega)).trans (s9 j hj).1, (s9 j hj).2⟩, s10⟩
  · obtain ⟨c1, c2⟩ := hCh c hc
    exact ⟨fun j hj => (g5 c hc j hj).trans (c1 j hj), c2⟩
  · obtain ⟨c1, c2, i, c3, c4, c5⟩ := hL.1 p hp
    exact ⟨c1, c2, i, c3, (g6 p hp).trans c4, c5⟩
  · obtain ⟨c1, c2, c3⟩ := hP p hp
    have h5 : cls S' t 1 p 5 = cls S t1 1 p 5 := g7 p hp 5 (by decide)
    rw [h5]
    exact ⟨fun j hj h5' => (g7 p hp j hj).trans (c1 j hj h5'), c2, c3⟩
  · have := cri_lt d8 hk
    exact ⟨(e19 _ (by omega)).trans (hB k hk).1, (hB k hk).2⟩
  · exact ⟨(e20 i (by omega)).trans (hG i hi).1, (hG i hi).2⟩
  · obtain ⟨k1, k2, k3, k4, k5, k6, k7, k8⟩ := hK
    refine ⟨k1, k2, ?_, k4, k5, fun w hw => (e21 w hw).trans (k6 w hw), (g2 8 (by decide)).trans k7, k8⟩
    rw [k3]
    exact sm_congr (fun k hk => by
      show b2 (¬ cls S t1 19 0 k = -1) = b2 (¬ cls S' t 19 0 k = -1)
      rw [show cls S' t 19 0 k = cls S t1 19 0 k from e19 k (by omega)])
end CPP
