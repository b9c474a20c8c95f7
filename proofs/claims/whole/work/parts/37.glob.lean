/-! the whole tie: class' store S, reference's store Z -/
def RO (np T : Nat) (S : S4) (t : Nat) (v : Vw) : Prop := ∃ ns nc nl nq nd fo pc, RR np T (pln S) (cls S t) v ns nc nl nq nd fo pc
def FC (S S' : S4) : Prop := ∀ k, mdk k = true → S' k = S k
def GH (np T : Nat) (S Z : S4) (pn pe : Nat) : Prop := S 6 0 0 4 = nI pn ∧ Z 7 0 0 21 = nI pn ∧ pn ≤ 8 ∧ S 6 0 0 5 = nI pe ∧ pe < 8 ∧ ∀ j, j < pn → RO np T S (3 + (pe + 8 - pn + j) % 8) (rowv Z 33 (1360 * j))
def GSn (np T : Nat) (S Z : S4) : Prop := S 6 0 0 6 = Z 7 0 0 24 ∧ (S 6 0 0 6 = 0 ∨ (S 6 0 0 6 = 1 ∧ RO np T S 2 (rowv Z 34 0)))
def GT (S Z : S4) : Prop := ∃ len, len ≤ 80 ∧ S 6 0 0 8 = nI len ∧ Z 7 0 0 16 = nI len ∧ ∀ j, j < len → S 23 0 0 j = Z 30 0 0 j
def GWt (S Z : S4) (w : Nat) : Prop := S 8 0 0 0 = nI w ∧ Z 7 0 0 26 = nI w ∧ (∃ q, (q = 16 ∨ q = 34 ∨ q = 70 ∨ q = 142) ∧ S 9 0 0 200 = nI q ∧ w ≤ q) ∧ ∀ j, j < w → S 9 0 0 j = Z 35 0 0 j ∧ ∃ c, c < 128 ∧ Z 35 0 0 j = nI c
def GW (S Z : S4) : Prop := ∃ w, w ≤ 140 ∧ GWt S Z w
def GG (np T : Nat) (S Z : S4) : Prop := RO np T S 0 (live Z) ∧ (∃ pn pe, GH np T S Z pn pe) ∧ GSn np T S Z ∧ GT S Z ∧ GW S Z
theorem FC.refl (S : S4) : FC S S := fun _ _ => rfl
theorem FC.trans {S1 S2 S3 : S4} (a : FC S1 S2) (b : FC S2 S3) : FC S1 S3 := fun k h => (b k h).trans (a k h)
theorem FC.putu {t k i j : Nat} {S : S4} {x : Int32} (hk : mdk k = false) : FC S (u4 S k t i j x) := fun k' h => by
  funext t' i' j'
  rw [u4_app, if_neg]
  rintro ⟨rfl, -⟩
  rw [hk] at h
  cases h
theorem FC.fs {t : Nat} {S S' : S4} (h : FS t S S') : FC S S' := fun k hk => by
  funext t'
  refine h k t' (fun z => ?_)
  have h1 := z.1
  simp only [stk, mdk, decide_eq_true_eq] at h1 hk
  omega
theorem RR.mono {np T np' T' : Nat} {P C v : Vw} {ns nc nl nq nd fo pc : Nat} (h : RR np T P C v ns nc nl nq nd fo pc) (h1 : np ≤ np') (h2 : T ≤ T') : RR np' T' P C v ns nc nl nq nd fo pc := by
  obtain ⟨⟨g0, g1, g2, g3, g4, g5, g6, g7, g8, g9, tm, g10, g11⟩, k1, k2, k3, k4, k5⟩ := h
  exact ⟨⟨g0, g1, g2, g3, g4, g5, g6, g7, g8, g9, tm, g10, by omega⟩, k1, k2, ⟨fun p hp => by obtain ⟨q1, q2, i, q3, q4⟩ := k3.1 p hp; exact ⟨q1, q2, i, by omega, q4⟩, k3.2⟩, fun p hp => by obtain ⟨q1, ⟨sc, q2, q3⟩, q4⟩ := k4 p hp; exact ⟨q1, ⟨sc, q2, by omega⟩, q4⟩, k5⟩
theorem RO.mono {np T np' T' : Nat} {S : S4} {t : Nat} {v : Vw} (h : RO np T S t v) (h1 : np ≤ np') (h2 : T ≤ T') : RO np' T' S t v := by
  obtain ⟨ns, nc, nl, nq, nd, fo, pc, h⟩ := h
  exact ⟨ns, nc, nl, nq, nd, fo, pc, h.mono h1 h2⟩
theorem RO.of {np T : Nat} {S S' : S4} {t : Nat} {v v' : Vw} (h : RO np T S t v) (hp : pln S' = pln S) (hc : cls S' t = cls S t) (hv : v' = v) : RO np T S' t v' := by
  unfold RO at *
  rw [hp, hc, hv]
  exact h
theorem RR.c6 {np T : Nat} {P C C' v : Vw} {ns nc nl nq nd fo pc : Nat} (h : RR np T P C v ns nc nl nq nd fo pc) (k4 : ∀ k, k ≠ 6 → C' k = C k) : RR np T P C' v ns nc nl nq nd fo pc := by
  obtain ⟨r1, r2, r3, r4, r5, r6, r7, r8⟩ := h
  refine ⟨?_, ?_, ?_, r4.of rfl (k4 17 (by decide)), ?_, ?_, ?_, ?_⟩
  · unfold RN at *; rw [k4 4 (by decide)]; exact r1
  · unfold RSt at *; rw [k4 5 (by decide), k4 14 (by decide)]; exact r2
  · unfold RCh at *; rw [k4 0 (by decide)]; exact r3
  · unfold RPa at *; rw [k4 1 (by decide)]; exact r5
  · unfold RBe at *; rw [k4 19 (by decide)]; exact r6
  · unfold RLe at *; rw [k4 20 (by decide)]; exact r7
  · unfold RCo at *; rw [k4 19 (by decide), k4 21 (by decide), k4 4 (by decide)]; exact r8
/-- what of the reference is no part of the live numbers -/
def FK (Z Z' : S4) : Prop := Z' 30 = Z 30 ∧ Z' 33 = Z 33 ∧ Z' 34 = Z 34 ∧ Z' 35 = Z 35 ∧ Z' 7 0 0 16 = Z 7 0 0 16 ∧ Z' 7 0 0 21 = Z 7 0 0 21 ∧ Z' 7 0 0 24 = Z 7 0 0 24 ∧ Z' 7 0 0 26 = Z 7 0 0 26
theorem FK.refl (Z : S4) : FK Z Z := ⟨rfl, rfl, rfl, rfl, rfl, rfl, rfl, rfl⟩
theorem FK.trans {Z1 Z2 Z3 : S4} (a : FK Z1 Z2) (b : FK Z2 Z3) : FK Z1 Z3 :=
  ⟨b.1.trans a.1, b.2.1.trans a.2.1, b.2.2.1.trans a.2.2.1, b.2.2.2.1.trans a.2.2.2.1, b.2.2.2.2.1.trans a.2.2.2.2.1, b.2.2.2.2.2.1.trans a.2.2.2.2.2.1, b.2.2.2.2.2.2.1.trans a.2.2.2.2.2.2.1, b.2.2.2.2.2.2.2.trans a.2.2.2.2.2.2.2⟩
theorem FK.fv {Z Z' : S4} (h : FV Z Z') : FK Z Z' :=
  ⟨by funext t i j; exact h 30 t i j (by simp [flk]), by funext t i j; exact h 33 t i j (by simp [flk]), by funext t i j; exact h 34 t i j (by simp [flk]), by funext t i j; exact h 35 t i j (by simp [flk]), h 7 0 0 16 (by decide), h 7 0 0 21 (by decide), h 7 0 0 24 (by decide), h 7 0 0 26 (by decide)⟩
theorem FK.putu {Z : S4} {k t i j : Nat} {x : Int32} (h : k ≠ 30 ∧ k ≠ 33 ∧ k ≠ 34 ∧ k ≠ 35 ∧ (k = 7 → j ≠ 16 ∧ j ≠ 21 ∧ j ≠ 24 ∧ j ≠ 26)) : FK Z (u4 Z k t i j x) := by
  obtain ⟨h1, h2, h3, h4, h5⟩ := h
  refine ⟨?_, ?_, ?_, ?_, ?_, ?_, ?_, ?_⟩
  · funext a b c; rw [u4_app, if_neg (fun z => h1 z.1.symm)]
  · funext a b c; rw [u4_app, if_neg (fun z => h2 z.1.symm)]
  · funext a b c; rw [u4_app, if_neg (fun z => h3 z.1.symm)]
  · funext a b c; rw [u4_app, if_neg (fun z => h4 z.1.symm)]
  · rw [u4_app, if_neg (fun z => (h5 z.1.symm).1 z.2.2.2.symm)]
  · rw [u4_app, if_neg (fun z => (h5 z.1.symm).2.1 z.2.2.2.symm)]
  · rw [u4_app, if_neg (fun z => (h5 z.1.symm).2.2.1 z.2.2.2.symm)]
  · rw [u4_app, if_neg (fun z => (h5 z.1.symm).2.2.2 z.2.2.2.symm)]
theorem rowv_k {Z Z' : S4} {a o : Nat} (h : Z' a = Z a) : rowv Z' a o = rowv Z a o := by
  funext k i j
  unfold rowv
  rw [h]
theorem FK.gt {S S' Z Z' : S4} (h : GT S Z) (hk : FK Z Z') (h6 : S' 6 0 0 8 = S 6 0 0 8) (h23 : S' 23 = S 23) : GT S' Z' := by
  unfold GT at *
  rw [hk.1, hk.2.2.2.2.1, h6, h23]
  exact h
theorem FK.gw {S S' Z Z' : S4} (h : GW S Z) (hk : FK Z Z') (h8 : S' 8 = S 8) (h9 : S' 9 = S 9) : GW S' Z' := by
  unfold GW GWt at *
  rw [hk.2.2.2.1, hk.2.2.2.2.2.2.2, h8, h9]
  exact h
/-- only the state that is now changes, and the reference's live numbers -/
theorem GG.now {np T T' : Nat} {S S' Z Z' : S4} (h : GG np T S Z) (hS : FS 0 S S') (hZ : FK Z Z') (hR : RO np T' S' 0 (live Z')) (hT : T ≤ T') : GG np T' S' Z' := by
  obtain ⟨h1, ⟨pn, pe, a1, a2, a3, a4, a5, a6⟩, ⟨b1, b2⟩, h4, h5⟩ := h
  have s6 : S' 6 = S 6 := by funext t; exact hS 6 t (by simp [stk])
  have s23 : S' 23 = S 23 := by funext t; exact hS 23 t (by simp [stk])
  have s8 : S' 8 = S 8 := by funext t; exact hS 8 t (by simp [stk])
  have s9 : S' 9 = S 9 := by funext t; exact hS 9 t (by simp [stk])
  have st : ∀ t, t ≠ 0 → cls S' t = cls S t := fun t ht => by
    funext k i j
    exact congrFun (congrFun (hS k t (fun z => ht z.2)) i) j
  refine ⟨hR, ⟨pn, pe, by rw [s6]; exact a1, by rw [hZ.2.2.2.2.2.1]; exact a2, a3, by rw [s6]; exact a4, a5, fun j hj => ?_⟩, ⟨by rw [s6, hZ.2.2.2.2.2.2.1]; exact b1, ?_⟩, hZ.gt h4 (by rw [s6]) s23, hZ.gw h5 s8 s9⟩
  · exact ((a6 j hj).mono (Nat.le_refl _) hT).of (pln_fs hS) (st _ (by omega)) (rowv_k hZ.2.1)
  · rw [s6]
    rcases b2 with b2 | ⟨b2, b3⟩
    · exact Or.inl b2
    · exact Or.inr ⟨b2, (b3.mono (Nat.le_refl _) hT).of (pln_fs hS) (st _ (by decide)) (rowv_k hZ.2.2.1)⟩
/-! the history grows -/
theorem shift_L {fu : Nat} {Z : S4} : ∀ (d k f : Nat) (Y : S4), k + d = 9520 → d < f → (∀ a t i j, ¬ (a = 33 ∧ t = 0 ∧ i = 0) → Y a t i j = Z a t i j) → (∀ j, j < k → Y 33 0 0 j = Z 33 0 0 (j + 1360)) → (∀ j, k ≤ j → Y 33 0 0 j = Z 33 0 0 j) →
    ∃ Y', s_X7_remembers_L11 fu f (nI k) Y = s_X7_remembers_L11 fu (f - d) (nI 9520) Y' ∧ (∀ a t i j, ¬ (a = 33 ∧ t = 0 ∧ i = 0) → Y' a t i j = Z a t i j) ∧ ∀ j, j < 9520 → Y' 33 0 0 j = Z 33 0 0 (j + 1360) := by
  intro d
  induction d with
  | zero =>
    intro k f Y hk hf h1 h2 h3
    obtain rfl : k = 9520 := by omega
    exact ⟨Y, rfl, h1, h2⟩
  | succ d ih =>
    intro k f Y hk hf h1 h2 h3
    obtain ⟨f, rfl⟩ : ∃ g, f = g + 1 := ⟨f - 1, by omega⟩
    rw [s_X7_remembers_L11, if_neg (show ¬ (9520 : Int32) ≤ nI k from nI_ge (b := 9520) (by omega) (by decide)), show nI k + (1360 : Int32) = nI (k + 1360) from nI_add k 1360, gd_t (inb_nI (by omega) (by decide)), gd_t (inb_nI (by omega) (by decide)), nI_clamp (by omega), nI_clamp (by omega), sv_e, nI_1, show f + 1 - (d + 1) = f - d by omega]
    refine ih (k + 1) f _ (by omega) (by omega) (fun a t i j hn => ?_) (fun j hj => ?_) (fun j hj => ?_)
    · rw [u4_app, if_neg (fun z => hn ⟨z.1, z.2.1, z.2.2.1⟩)]; exact h1 a t i j hn
    · rw [u4_app]
      by_cases e : j = k
      · subst e; rw [if_pos ⟨rfl, rfl, rfl, rfl⟩]; exact h3 _ (by omega)
      · rw [if_neg (fun z => e z.2.2.2)]; exact h2 j (by omega)
    · rw [u4_app, if_neg (by omega)]; exact h3 j (by omega)
theorem rowv_sh {Z Z' : S4} {o : Nat} (h : ∀ j, o ≤ j → j < o + 1236 → Z' 33 0 0 j = Z 33 0 0 (j + 1360)) : rowv Z' 33 o = rowv Z 33 (o + 1360) := by
  funext k i j
  unfold rowv
  by_cases hk : inV k i j = true
  · have hl := ofs_lt hk
    have hk7 := inV_lt hk
    have hb : bas k + ofs k i j < 1236 := by
      rcases hl with hl | ⟨h1, h2⟩
      · have : bas (k + 1) ≤ 1229 := by
          rcases k with _|_|_|_|_|_|_|k
          all_goals simp [bas]
        omega
      · subst h1
        simp only [bas]
        omega
    rw [if_pos hk, if_pos hk, h _ (by omega) (by omega)]
    congr 1
    omega
  · rw [if_neg hk, if_neg hk]
theorem rowv_cg {Z Z' : S4} {a o : Nat} (h : ∀ j, o ≤ j → j < o + 1236 → Z' a 0 0 j = Z a 0 0 j) : rowv Z' a o = rowv Z a o := by
  funext k i j
  unfold rowv
  by_cases hk : inV k i j = true
  · have hl := ofs_lt hk
    have hk7 := inV_lt hk
    have hb : bas k + ofs k i j < 1236 := by
      rcases hl with hl | ⟨h1, h2⟩
      · have : bas (k + 1) ≤ 1229 := by
          rcases k with _|_|_|_|_|_|_|k
          all_goals simp [bas]
        omega
      · subst h1
        simp only [bas]
        omega
    rw [if_pos hk, if_pos hk, h _ (by omega) (by omega)]
  · rw [if_neg hk, if_neg hk]
theorem live_of {Z Z' : S4} (h : ∀ k j, 24 ≤ k → k < 30 → Z' k 0 0 j = Z k 0 0 j) (h7 : ∀ j, 7 ≤ j → j < 14 → Z' 7 0 0 j = Z 7 0 0 j) : live Z' = live Z := by
  funext k i j
  rw [live_app, live_app]
  by_cases hk : inV k i j = true
  · have hk7 := inV_lt hk
    rw [if_pos hk, if_pos hk]
    by_cases h6 : k = 6
    · subst h6
      have h0 : i = 0 ∧ j < 7 := by simpa [inV] using hk
      rw [if_pos rfl, if_pos rfl, h7 _ (by omega) (by omega)]
    · rw [if_neg h6, if_neg h6, h _ _ (by omega) (by omega)]
  · rw [if_neg hk, if_neg hk]
/-- the reference's own history -/
theorem r_remembers {Z : S4} {fu pn : Nat} (hp : Z 7 0 0 21 = nI pn) (h8 : pn ≤ 8) (hf : 9600 < fu) : ∃ Z', s_X7_remembers fu Z = some Z' ∧ live Z' = live Z ∧ (∀ k t i j, k ≠ 33 → ¬ (k = 7 ∧ (j = 21 ∨ j = 22 ∨ j = 23)) → Z' k t i j = Z k t i j) ∧ Z' 7 0 0 21 = nI (if pn = 8 then 8 else pn + 1) ∧
    (pn < 8 → (∀ j, j < pn → rowv Z' 33 (1360 * j) = rowv Z 33 (1360 * j)) ∧ rowv Z' 33 (1360 * pn) = live Z) ∧ (pn = 8 → (∀ j, j < 7 → rowv Z' 33 (1360 * j) = rowv Z 33 (1360 * (j + 1))) ∧ rowv Z' 33 (1360 * 7) = live Z) := by
  unfold s_X7_remembers
  rw [hp]
  by_cases e : pn = 8
  · subst e
    rw [if_pos rfl]
    obtain ⟨Y, e1, e2, e3⟩ := shift_L (fu := fu) (Z := Z) 9520 0 fu Z (by omega) (by omega) (fun _ _ _ _ _ => rfl) (fun _ h => absurd h (by omega)) (fun _ _ => rfl)
    have y21 : Y 7 0 0 21 = nI 8 := by rw [e2 7 0 0 21 (by omega)]; exact hp
    obtain ⟨g, hg⟩ : ∃ g, fu - 9520 = g + 1 := ⟨fu - 9520 - 1, by omega⟩
    rw [show (0 : Int32) = nI 0 from rfl, e1, hg, s_X7_remembers_L11, if_pos (show (9520 : Int32) ≤ nI 9520 from nI_le (a := 9520) (Nat.le_refl _) (by decide)), sv_e, y21, show nI 8 - 1 = nI 7 from rfl, show u4 Y 7 0 0 21 (nI 7) 7 0 0 21 = nI 7 from by rw [u4_app, if_pos ⟨rfl, rfl, rfl, rfl⟩], show (1360 : Int32) * nI 7 = nI (1360 * 7) from rfl]
    obtain ⟨Z1, z1, z2, z3, z4, z5, z6⟩ := r_keep (Z := u4 Y 7 0 0 21 (nI 7)) (fu := fu) (a := 33) (ln2 := 10880) (o := 1360 * 7) (by decide) (by decide) (by decide) (by decide) (by omega)
    have z21 : Z1 7 0 0 21 = nI 7 := by rw [z4 7 0 0 21 (by omega) (by omega), u4_app, if_pos ⟨rfl, rfl, rfl, rfl⟩]
    rw [z1, bd_s, z21, sv_e]
    have hlY : live (u4 Y 7 0 0 21 (nI 7)) = live Z := by
      rw [live_un (by decide) (by decide)]
      exact live_of (fun k j _ _ => e2 k 0 0 j (by omega)) (fun j _ _ => e2 7 0 0 j (by omega))
    have hl1 : live (u4 Z1 7 0 0 21 (nI 7 + 1)) = live Z := by
      rw [live_un (by decide) (by decide), ← hlY]
      exact live_of (fun k j _ _ => z4 k 0 0 j (by omega) (by omega)) (fun j _ _ => z4 7 0 0 j (by omega) (by omega))
    refine ⟨_, rfl, hl1, fun k t i j hk hn => ?_, ?_, fun h => absurd h (by decide), fun _ => ⟨fun j hj => ?_, ?_⟩⟩
    · rw [u4_app, if_neg (by omega), z4 k t i j (by omega) (by omega), u4_app, if_neg (by omega), e2 k t i j (by omega)]
    · rw [u4_app, if_pos ⟨rfl, rfl, rfl, rfl⟩]; rfl
    · rw [rowv_u (by decide), rowv_sh (Z := Z) (fun j' h1 h2 => ?_)]
      · rfl
      · rw [z5 j' (by omega), u4_app, if_neg (by omega), e3 j' (by omega)]
    · rw [rowv_u (by decide), ← hlY]
      exact rowv_of (fun j hj => z6 j hj)
  · rw [if_neg (show ¬ nI pn = 8 from nI_ne (b := 8) e (by omega) (by decide)), show (1360 : Int32) * nI pn = nI (1360 * pn) from pk_mul 1360 pn]
    obtain ⟨Z1, z1, z2, z3, z4, z5, z6⟩ := r_keep (Z := Z) (fu := fu) (a := 33) (ln2 := 10880) (o := 1360 * pn) (by decide) (by decide) (by omega) (by decide) (by omega)
    have z21 : Z1 7 0 0 21 = nI pn := by rw [z4 7 0 0 21 (by omega) (by omega)]; exact hp
    rw [z1, bd_s, z21, sv_e, nI_1]
    have hl1 : live (u4 Z1 7 0 0 21 (nI (pn + 1))) = live Z := by
      rw [live_un (by decide) (by decide)]
      exact live_of (fun k j _ _ => z4 k 0 0 j (by omega) (by omega)) (fun j _ _ => z4 7 0 0 j (by omega) (by omega))
    refine ⟨_, rfl, hl1, fun k t i j hk hn => ?_, ?_, fun h => ⟨fun j hj => ?_, ?_⟩, fun h => absurd h e⟩
    · rw [u4_app, if_neg (by omega), z4 k t i j (by omega) (by omega)]
    · rw [u4_app, if_pos ⟨rfl, rfl, rfl, rfl⟩, if_neg e]
    · rw [rowv_u (by decide)]
      exact rowv_cg (fun j' h1 h2 => z5 j' (by omega))
    · rw [rowv_u (by decide)]
      exact rowv_of (fun j hj => z6 j hj)
/-- both histories grow alike -/
theorem t_remember {np fu T : Nat} {S Z : S4} (h : GG np T S Z) (hnp : np < 2 ^ 31) (hf : 9600 < fu) : ∃ S' Z', s_X6_remember np fu S = some S' ∧ s_X7_remembers fu Z = some Z' ∧ GG np T S' Z' ∧ FC S S' ∧ (∀ k, k ≠ 6 → cls S' 0 k = cls S 0 k) ∧ pln S' = pln S ∧ live Z' = live Z ∧ Z' 7 0 0 0 = Z 7 0 0 0 ∧ FM Z Z' := by
  obtain ⟨⟨ns, nc, nl, nq, nd, fo, pc, h1⟩, ⟨pn, pe, a1, a2, a3, a4, a5, a6⟩, ⟨b1, b2⟩, h4, h5⟩ := h
  obtain ⟨S1, s1, s2, s3⟩ := k_copy (np := np) (fu := fu) (t := 3 + pe) (t1 := 0) (by omega) hnp (by omega) h1
  obtain ⟨Z', z1, z2, z3, z4, z5, z6⟩ := r_remembers (fu := fu) a2 a3 hf
  have x6 : S1 6 = S 6 := by funext t; exact s2 6 t (by simp [stk])
  have x23 : S1 23 = S 23 := by funext t; exact s2 23 t (by simp [stk])
  have x8 : S1 8 = S 8 := by funext t; exact s2 8 t (by simp [stk])
  have x9 : S1 9 = S 9 := by funext t; exact s2 9 t (by simp [stk])
  have st : ∀ t, t ≠ 3 + pe → cls S1 t = cls S t := fun t ht => by
    funext k i j
    exact congrFun (congrFun (s2 k t (fun z => ht z.2)) i) j
  have ep : (if (7 : Int32) ≤ S1 6 0 0 5 then some (0 : Int32) else some (S1 6 0 0 5 + 1)) = some (nI ((pe + 1) % 8)) := by
    rw [x6, a4]
    by_cases e : pe = 7
    · subst e; rfl
    · rw [if_neg (show ¬ (7 : Int32) ≤ nI pe from nI_ge (b := 7) (by omega) (by decide)), nI_1, Nat.mod_eq_of_lt (by omega)]
  have en : (if (8 : Int32) < nI pn + 1 then (8 : Int32) else nI pn + 1) = nI (if pn = 8 then 8 else pn + 1) := by
    rw [nI_1]
    by_cases e : pn = 8
    · subst e; rfl
    · rw [if_neg e, if_neg (show ¬ (8 : Int32) < nI (pn + 1) from nI_nlt (a := 8) (by omega) (by decide))]
  unfold s_X6_remember
  rw [a4, gd_t (inb_nI (by omega) (by decide)), nI_clamp (by omega), s1, bd_s, ep, bd_s, sv_e, show ∀ y, u4 S1 6 0 0 5 y 6 0 0 4 = nI pn from fun y => by rw [u4_app, if_neg (by omega), x6]; exact a1, en, sv_e]
  have c6 : ∀ j, j ≠ 4 → j ≠ 5 → ∀ x y, u4 (u4 S1 6 0 0 5 x) 6 0 0 4 y 6 0 0 j = S 6 0 0 j := fun j h4 h5 x y => by rw [u4_app, if_neg (by omega), u4_app, if_neg (by omega), x6]
  have ck : ∀ k, k ≠ 6 → ∀ x y, u4 (u4 S1 6 0 0 5 x) 6 0 0 4 y k = S1 k := fun k hk x y => by funext t i j; rw [u4_app, if_neg (fun z => hk z.1), u4_app, if_neg (fun z => hk z.1)]
  have cc : ∀ t x y, (∀ i, S1 6 t i = S 6 t i) → ∀ k i j, k ≠ 6 → cls (u4 (u4 S1 6 0 0 5 x) 6 0 0 4 y) t k i j = cls S1 t k i j := fun t x y _ k i j hk => by show u4 (u4 S1 6 0 0 5 x) 6 0 0 4 y k t i j = S1 k t i j; rw [ck k hk]
  have hp2 : ∀ x y, pln (u4 (u4 S1 6 0 0 5 x) 6 0 0 4 y) = pln S := fun x y => by rw [pln_u (by decide), pln_u (by decide), pln_fs s2]
  -- RO does not look at kind 6
  have ro : ∀ t v x y, RO np T S1 t v → RO np T (u4 (u4 S1 6 0 0 5 x) 6 0 0 4 y) t v := by
    intro t v x y hro
    obtain ⟨a, b, c, d, e, f, g, hh⟩ := hro
    refine ⟨a, b, c, d, e, f, g, ?_⟩
    rw [hp2, ← pln_fs s2]
    have k4 : ∀ k, k ≠ 6 → cls (u4 (u4 S1 6 0 0 5 x) 6 0 0 4 y) t k = cls S1 t k := fun k hk => by funext i j; show u4 (u4 S1 6 0 0 5 x) 6 0 0 4 y k t i j = S1 k t i j; rw [ck k hk]
    exact hh.c6 k4
  have r30 : Z' 30 = Z 30 := by funext t i j; exact z3 30 t i j (by decide) (by omega)
  have r34 : Z' 34 = Z 34 := by funext t i j; exact z3 34 t i j (by decide) (by omega)
  have r35 : Z' 35 = Z 35 := by funext t i j; exact z3 35 t i j (by decide) (by omega)
  have hold : ∀ t v, t ≠ 3 + pe → RO np T S t v → RO np T S1 t v := fun t v ht hh => hh.of (pln_fs s2) (st t ht) rfl
  have hnew : RO np T S1 (3 + pe) (live Z) := ⟨ns, nc, nl, nq, nd, fo, pc, s3⟩
  refine ⟨_, Z', rfl, z1, ⟨?_, ⟨if pn = 8 then 8 else pn + 1, (pe + 1) % 8, ?_, z4, ?_, ?_, Nat.mod_lt _ (by decide), fun j hj => ?_⟩, ⟨?_, ?_⟩, ?_, ?_⟩, ?_, ?_, hp2 _ _, z2, z3 7 0 0 0 (by decide) (by omega), fr_X7_remembers z1⟩
  · rw [z2]
    exact ro _ _ _ _ (hold 0 _ (by omega) ⟨ns, nc, nl, nq, nd, fo, pc, h1⟩)
  · rw [u4_app, if_pos ⟨rfl, rfl, rfl, rfl⟩]
  · split <;> omega
  · rw [u4_app, if_neg (by omega), u4_app, if_pos ⟨rfl, rfl, rfl, rfl⟩]
  · refine ro _ _ _ _ ?_
    by_cases e : pn = 8
    · rw [if_pos e] at hj ⊢
      obtain ⟨y1, y2⟩ := z6 e
      by_cases e7 : j = 7
      · subst e7
        rw [show 3 + ((pe + 1) % 8 + 8 - 8 + 7) % 8 = 3 + pe by omega, y2]
        exact hnew
      · rw [y1 j (by omega), show 3 + ((pe + 1) % 8 + 8 - 8 + j) % 8 = 3 + (pe + 8 - pn + (j + 1)) % 8 by omega]
        exact hold _ _ (by omega) (a6 (j + 1) (by omega))
    · rw [if_neg e] at hj ⊢
      obtain ⟨y1, y2⟩ := z5 (by omega)
      by_cases e7 : j = pn
      · subst e7
        rw [show 3 + ((pe + 1) % 8 + 8 - (j + 1) + j) % 8 = 3 + pe by omega, y2]
        exact hnew
      · rw [y1 j (by omega), show 3 + ((pe + 1) % 8 + 8 - (pn + 1) + j) % 8 = 3 + (pe + 8 - pn + j) % 8 by omega]
        exact hold _ _ (by omega) (a6 j (by omega))
  · rw [c6 6 (by decide) (by decide), z3 7 0 0 24 (by decide) (by omega)]; exact b1
  · rw [c6 6 (by decide) (by decide)]
    rcases b2 with b2 | ⟨b2, b3⟩
    · exact Or.inl b2
    · refine Or.inr ⟨b2, ro _ _ _ _ ?_⟩
      rw [rowv_k r34]
      exact hold 2 _ (by omega) b3
  · unfold GT at *
    rw [c6 8 (by decide) (by decide), ck 23 (by decide), x23, r30, z3 7 0 0 16 (by decide) (by omega)]
    exact h4
  · unfold GW GWt at *
    rw [ck 8 (by decide), ck 9 (by decide), x8, x9, r35, z3 7 0 0 26 (by decide) (by omega)]
    exact h5
  · exact ((FC.fs s2).trans (FC.putu (by decide))).trans (FC.putu (by decide))
  · intro k hk
    funext i j
    show u4 (u4 S1 6 0 0 5 _) 6 0 0 4 _ k 0 i j = S k 0 i j
    rw [ck k hk]
    exact congrFun (congrFun (congrFun (st 0 (by omega)) k) i) j
