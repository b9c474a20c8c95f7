/-! the tie between the class' numbers C (of one state), its plans P and the reference's view v -/
def cls (S : S4) (t : Nat) : Vw := fun k i j => S k t i j
def pln (S : S4) : Vw := fun k i j => if k = 2 ∨ (10 ≤ k ∧ k ≤ 13) then S k 0 i j else 0
def cri (pc fo k : Nat) : Nat := if fo + k < pc then fo + k else fo + k - pc
def RN (C v : Vw) (T ns nc nl nq nd fo pc : Nat) : Prop :=
  VN v ns nc nl nq nd pc ∧ C 4 0 0 = v 6 0 6 ∧ C 4 0 1 = nI pc ∧ C 4 0 2 = nI fo ∧ C 4 0 3 = nI ns ∧ C 4 0 4 = nI nc ∧ C 4 0 5 = nI nl ∧ C 4 0 6 = nI nq ∧ C 4 0 7 = nI nd ∧ fo < pc ∧ ∃ tm, v 6 0 6 = nI tm ∧ tm ≤ T
def RSt (C v : Vw) (ns nq pc : Nat) : Prop := ∀ s, s < ns → ∃ pl w, v 1 s 0 = nI pl ∧ 1 ≤ pl ∧ pl < pc ∧ v 1 s 1 = nI w ∧ w ≤ 10 ∧ C 5 s 0 = nI pl ∧ C 5 s 1 = nI w ∧ C 5 s 2 = v 1 s 2 ∧ (∀ j, j < w → C 14 s j = v 1 s (3 + j) ∧ ∃ p, p < nq ∧ v 1 s (3 + j) = nI p ∧ v 4 p 4 = 0 ∧ v 4 p 5 = nI s) ∧ ∀ i j, i < j → j < w → v 1 s (3 + i) ≠ v 1 s (3 + j)
def RCh (C v : Vw) (nc pc : Nat) : Prop := ∀ c, c < nc → (∀ j, j < 15 → C 0 c j = v 2 c j) ∧ (∃ pl, v 2 c 0 = nI pl ∧ 1 ≤ pl ∧ pl < pc) ∧ 0 ≤ v 2 c 8 ∧ 0 ≤ v 2 c 5 ∧ isB (v 2 c 9) ∧ (v 2 c 10 = -1 ∨ 0 ≤ v 2 c 10)
def PM (P v : Vw) (i p : Nat) : Prop := P 2 i 0 = v 3 p 0 ∧ P 2 i 1 = v 3 p 1 ∧ P 2 i 2 = v 3 p 2 ∧ P 2 i 3 = v 3 p 3 ∧ ∀ r, r < (v 3 p 1).toNatClampNeg → P 10 i r = v 3 p (4 + 6 * r + 0) ∧ P 11 i r = v 3 p (4 + 6 * r + 1) ∧ P 12 i r = v 3 p (4 + 6 * r + 2) ∧ ∀ k, k < (v 3 p (4 + 6 * r + 2)).toNatClampNeg → P 13 i (r * 3 + k) = v 3 p (4 + 6 * r + (3 + k))
/-- what a plan's text needs -/
def PW (v : Vw) (p : Nat) : Prop := (∃ n, n ≤ 9999 ∧ v 3 p 0 = nI n) ∧ (∃ n, n ≤ 9 ∧ v 3 p 3 = nI n) ∧ 1 ≤ (v 3 p 1).toNatClampNeg ∧ ∀ r, r < (v 3 p 1).toNatClampNeg → ∃ a b, a ≤ b ∧ b ≤ 99 ∧ v 3 p (4 + 6 * r + 0) = nI a ∧ v 3 p (4 + 6 * r + 1) = nI b ∧ 1 ≤ (v 3 p (4 + 6 * r + 2)).toNatClampNeg
def RPl (P C v : Vw) (np nl nc : Nat) : Prop := (∀ p, p < nl → (∃ m c, VP v nc p m c) ∧ PW v p ∧ ∃ i, i < np ∧ C 17 0 p = nI i ∧ PM P v i p) ∧ ∀ a b, a < b → b < nl → v 3 a 0 < v 3 b 0
def RPa (C v : Vw) (T ns nc nq fo pc : Nat) : Prop := ∀ p, p < nq → (∀ j, j < 12 → j ≠ 5 → C 1 p j = v 4 p j) ∧ (∃ sc, v 4 p 6 = nI sc ∧ sc ≤ T) ∧
  ((v 4 p 4 = 0 ∧ v 4 p 10 = -1 ∧ C 1 p 5 = v 4 p 5 ∧ ∃ s, s < ns ∧ v 4 p 5 = nI s) ∨ (v 4 p 4 = 1 ∧ v 4 p 10 = -1 ∧ ∃ k, k < pc ∧ v 4 p 5 = nI k ∧ v 0 0 k = nI p ∧ C 1 p 5 = nI (cri pc fo k)) ∨ (v 4 p 4 = 2 ∧ C 1 p 5 = v 4 p 5 ∧ ∃ c, c < nc ∧ v 4 p 5 = nI c))
def RBe (C v : Vw) (nq fo pc : Nat) : Prop := ∀ k, k < pc → C 19 0 (cri pc fo k) = v 0 0 k ∧ (v 0 0 k = -1 ∨ ∃ p, p < nq ∧ v 0 0 k = nI p ∧ v 4 p 4 = 1 ∧ v 4 p 5 = nI k)
def RLe (C v : Vw) (nq nd : Nat) : Prop := ∀ i, i < nd → C 20 0 i = v 5 0 i ∧ ∃ p, p < nq ∧ v 5 0 i = nI p ∧ v 4 p 4 = 2
def rnd (v : Vw) (p : Nat) : Int32 := if v 4 p 6 = 0 then 0 else v 4 p 6 - 1
def RCo (C v : Vw) (ns nc nq nd pc : Nat) : Prop :=
  cn (fun p => v 4 p 4 = 2) nq = nd ∧ sm (fun p => b2 (v 4 p 4 = 0)) nq = sm (fun s => v 1 s 1) ns ∧ sm (fun p => b2 (v 4 p 4 = 1)) nq = sm (fun k => b2 (¬ C 19 0 k = -1)) pc ∧ sm (fun c => v 2 c 11) nc = nI nd ∧
  (∀ c, c < nc → v 2 c 11 = sm (fun p => b2 (v 4 p 4 = 2 ∧ v 4 p 5 = nI c)) nq) ∧ (∀ w, w < 4 → C 21 0 w = sm (fun p => b2 (v 4 p 10 = nI w)) nq) ∧ C 4 0 8 = sm (fun p => rnd v p) nq ∧
  sm (fun p => if v 4 p 4 = 2 then rnd v p else 0) nq = sm (fun i => rnd v (v 5 0 i).toNatClampNeg) nd
def RR (np T : Nat) (P C v : Vw) (ns nc nl nq nd fo pc : Nat) : Prop := RN C v T ns nc nl nq nd fo pc ∧ RSt C v ns nq pc ∧ RCh C v nc pc ∧ RPl P C v np nl nc ∧ RPa C v T ns nc nq fo pc ∧ RBe C v nq fo pc ∧ RLe C v nq nd ∧ RCo C v ns nc nq nd pc
theorem RR.VN {np T : Nat} {P C v : Vw} {ns nc nl nq nd fo pc : Nat} (h : RR np T P C v ns nc nl nq nd fo pc) : VN v ns nc nl nq nd pc := h.1.1
theorem RR.VL {np T : Nat} {P C v : Vw} {ns nc nl nq nd fo pc : Nat} (h : RR np T P C v ns nc nl nq nd fo pc) : VL v nl nc := fun p hp => (h.2.2.2.1.1 p hp).1
theorem PM.of {P v w : Vw} {i p : Nat} (h : PM P v i p) (e : w 3 p = v 3 p) : PM P w i p := by
  unfold PM at *
  rw [e]
  exact h
theorem PW.of {v w : Vw} {p : Nat} (h : PW v p) (e : w 3 p = v 3 p) : PW w p := by
  unfold PW at *
  rw [e]
  exact h
theorem RPl.of {P C C' v w : Vw} {np nl nc : Nat} (h : RPl P C v np nl nc) (e : w 3 = v 3) (c : C' 17 = C 17) : RPl P C' w np nl nc := by
  refine ⟨fun p hp => ?_, fun a b ha hb => ?_⟩
  · obtain ⟨⟨m, x, h1⟩, h2, i, h3, h4, h5⟩ := h.1 p hp
    exact ⟨⟨m, x, h1.of (by rw [e])⟩, h2.of (by rw [e]), i, h3, by rw [c]; exact h4, h5.of (by rw [e])⟩
  · rw [e]; exact h.2 a b ha hb
section RR0
variable {np T : Nat} {P C C' v v' : Vw} {ns nc nl nq nd fo pc : Nat}
/-- the time goes on -/
theorem RR_time (h : RR np T P C v ns nc nl nq nd fo pc) (hT : T + 1 < 2 ^ 31) : RR np (T + 1) P (us C 4 0 0 (C 4 0 0 + 1)) (us v 6 0 6 (v 6 0 6 + 1)) ns nc nl nq nd fo pc := by
  obtain ⟨hN, hS, hC, hL, hP, hB, hG, hK⟩ := h
  have e0 : ∀ k, k ≠ 6 → us v 6 0 6 (v 6 0 6 + 1) k = v k := fun k hk => by funext i j; exact us_ne (by omega)
  have c0 : ∀ k, k ≠ 4 → us C 4 0 0 (C 4 0 0 + 1) k = C k := fun k hk => by funext i j; exact us_ne (by omega)
  have e6 : ∀ j, j ≠ 6 → us v 6 0 6 (v 6 0 6 + 1) 6 0 j = v 6 0 j := fun j hj => us_ne (by omega)
  have c4 : ∀ j, j ≠ 0 → us C 4 0 0 (C 4 0 0 + 1) 4 0 j = C 4 0 j := fun j hj => us_ne (by omega)
  refine ⟨?_, ?_, ?_, hL.of (e0 3 (by decide)) (c0 17 (by decide)), ?_, ?_, ?_, ?_⟩
  · obtain ⟨⟨a1, a2, a3, a4, a5, a6, a7⟩, b0, b1, b2, b3, b4, b5, b6, b7, b8, tm, t1, t2⟩ := hN
    refine ⟨⟨?_, ?_, ?_, ?_, ?_, ?_, a7⟩, ?_, ?_, ?_, ?_, ?_, ?_, ?_, ?_, b8, tm + 1, ?_, by omega⟩
    · rw [e6 0 (by decide)]; exact a1
    · rw [e6 1 (by decide)]; exact a2
    · rw [e6 2 (by decide)]; exact a3
    · rw [e6 3 (by decide)]; exact a4
    · rw [e6 4 (by decide)]; exact a5
    · rw [e6 5 (by decide)]; exact a6
    · rw [us_self, us_self, b0]
    · rw [c4 1 (by decide)]; exact b1
    · rw [c4 2 (by decide)]; exact b2
    · rw [c4 3 (by decide)]; exact b3
    · rw [c4 4 (by decide)]; exact b4
    · rw [c4 5 (by decide)]; exact b5
    · rw [c4 6 (by decide)]; exact b6
    · rw [c4 7 (by decide)]; exact b7
    · rw [us_self, t1]; exact nI_1 tm
  · unfold RSt at *; rw [e0 1 (by decide), e0 4 (by decide), c0 5 (by decide), c0 14 (by decide)]; exact hS
  · unfold RCh at *; rw [e0 2 (by decide), c0 0 (by decide)]; exact hC
  · intro p hp
    obtain ⟨h1, ⟨sc, h2, h3⟩, h4⟩ := hP p hp
    rw [e0 4 (by decide), e0 0 (by decide), c0 1 (by decide)]
    exact ⟨h1, ⟨sc, h2, by omega⟩, h4⟩
  · unfold RBe at *; rw [e0 0 (by decide), e0 4 (by decide), c0 19 (by decide)]; exact hB
  · unfold RLe at *; rw [e0 5 (by decide), e0 4 (by decide), c0 20 (by decide)]; exact hG
  · unfold RCo rnd at *; rw [e0 5 (by decide), e0 4 (by decide), e0 1 (by decide), e0 2 (by decide), c0 19 (by decide), c0 21 (by decide), c4 8 (by decide)]; exact hK
/-- a chute's row changes alike on both sides -/
theorem RR_ch {c : Nat} (hc : c < nc) (h : RR np T P C v ns nc nl nq nd fo pc) (hC : ∀ k i j, ¬ (k = 0 ∧ i = c) → C' k i j = C k i j) (hv : ∀ k i j, ¬ (k = 2 ∧ i = c) → v' k i j = v k i j) (he : ∀ j, j < 15 → C' 0 c j = v' 2 c j) (h0 : v' 2 c 0 = v 2 c 0) (h11 : v' 2 c 11 = v 2 c 11) (h8 : 0 ≤ v' 2 c 8) (h5 : v' 2 c 5 = v 2 c 5) (h9 : isB (v' 2 c 9)) (h10 : v' 2 c 10 = v 2 c 10) : RR np T P C' v' ns nc nl nq nd fo pc := by
  obtain ⟨hN, hS, hCh, hL, hP, hB, hG, hK⟩ := h
  have e0 : ∀ k, k ≠ 2 → v' k = v k := fun k hk => by funext i j; exact hv k i j (by omega)
  have c0 : ∀ k, k ≠ 0 → C' k = C k := fun k hk => by funext i j; exact hC k i j (by omega)
  have e2 : ∀ c', v' 2 c' 11 = v 2 c' 11 := fun c' => by
    by_cases e : c' = c
    · subst e; exact h11
    · exact hv 2 c' 11 (by omega)
  refine ⟨?_, ?_, ?_, hL.of (e0 3 (by decide)) (c0 17 (by decide)), ?_, ?_, ?_, ?_⟩
  · unfold RN VN at *; rw [e0 6 (by decide), c0 4 (by decide)]; exact hN
  · unfold RSt at *; rw [e0 1 (by decide), e0 4 (by decide), c0 5 (by decide), c0 14 (by decide)]; exact hS
  · intro c' hc'
    by_cases e : c' = c
    · subst e
      obtain ⟨h1, ⟨pl, h2⟩, h3, h4, h5', h6⟩ := hCh c' hc'
      exact ⟨he, ⟨pl, by rw [h0]; exact h2⟩, h8, by rw [h5]; exact h4, h9, by rw [h10]; exact h6⟩
    · have e2' : v' 2 c' = v 2 c' := by funext j; exact hv 2 c' j (by omega)
      have c2' : C' 0 c' = C 0 c' := by funext j; exact hC 0 c' j (by omega)
      rw [e2', c2']
      exact hCh c' hc'
  · unfold RPa at *; rw [e0 4 (by decide), e0 0 (by decide), c0 1 (by decide)]; exact hP
  · unfold RBe at *; rw [e0 0 (by decide), e0 4 (by decide), c0 19 (by decide)]; exact hB
  · unfold RLe at *; rw [e0 5 (by decide), e0 4 (by decide), c0 20 (by decide)]; exact hG
  · unfold RCo rnd at *; simp only [e2]; rw [e0 5 (by decide), e0 4 (by decide), e0 1 (by decide), c0 19 (by decide), c0 21 (by decide), c0 4 (by decide)]; exact hK
/-- a parcel's target, reason and spoilt chutes change alike -/
theorem RR_pa {q : Nat} (h : RR np T P C v ns nc nl nq nd fo pc) (hC : ∀ k i j, ¬ (k = 1 ∧ i = q ∧ (j = 7 ∨ j = 8 ∨ j = 11)) → C' k i j = C k i j) (hv : ∀ k i j, ¬ (k = 4 ∧ i = q ∧ (j = 7 ∨ j = 8 ∨ j = 11)) → v' k i j = v k i j) (he : ∀ j, j = 7 ∨ j = 8 ∨ j = 11 → C' 1 q j = v' 4 q j) : RR np T P C' v' ns nc nl nq nd fo pc := by
  obtain ⟨hN, hS, hCh, hL, hP, hB, hG, hK⟩ := h
  have e0 : ∀ k, k ≠ 4 → v' k = v k := fun k hk => by funext i j; exact hv k i j (by omega)
  have c0 : ∀ k, k ≠ 1 → C' k = C k := fun k hk => by funext i j; exact hC k i j (by omega)
  have e4 : ∀ p, v' 4 p 4 = v 4 p 4 := fun p => hv 4 p 4 (by omega)
  have e5 : ∀ p, v' 4 p 5 = v 4 p 5 := fun p => hv 4 p 5 (by omega)
  have e6 : ∀ p, v' 4 p 6 = v 4 p 6 := fun p => hv 4 p 6 (by omega)
  have e10 : ∀ p, v' 4 p 10 = v 4 p 10 := fun p => hv 4 p 10 (by omega)
  have c5 : ∀ p, C' 1 p 5 = C 1 p 5 := fun p => hC 1 p 5 (by omega)
  refine ⟨?_, ?_, ?_, hL.of (e0 3 (by decide)) (c0 17 (by decide)), ?_, ?_, ?_, ?_⟩
  · unfold RN VN at *; rw [e0 6 (by decide), c0 4 (by decide)]; exact hN
  · unfold RSt at *; rw [e0 1 (by decide), c0 5 (by decide), c0 14 (by decide)]; simp only [e4, e5]; exact hS
  · unfold RCh at *; rw [e0 2 (by decide), c0 0 (by decide)]; exact hCh
  · intro p hp
    obtain ⟨h1, h2, h3⟩ := hP p hp
    rw [e4, e5, e6, e10, c5, e0 0 (by decide)]
    refine ⟨fun j hj h5 => ?_, h2, h3⟩
    by_cases hh : p = q ∧ (j = 7 ∨ j = 8 ∨ j = 11)
    · obtain ⟨rfl, hh⟩ := hh
      exact he j hh
    · rw [hC 1 p j (by omega), hv 4 p j (by omega)]
      exact h1 j hj h5
  · unfold RBe at *; rw [e0 0 (by decide), c0 19 (by decide)]; simp only [e4, e5]; exact hB
  · unfold RLe at *; rw [e0 5 (by decide), c0 20 (by decide)]; simp only [e4]; exact hG
  · unfold RCo rnd at *; rw [e0 5 (by decide), e0 2 (by decide), e0 1 (by decide), c0 19 (by decide), c0 21 (by decide), c0 4 (by decide)]; simp only [e4, e5, e6, e10]; exact hK
theorem rnd_1 {n : Nat} (hn : n + 1 < 2 ^ 31) : (if nI (n + 1) = 0 then 0 else nI (n + 1) - 1) = nI n := by
  rw [if_neg (nI_ne0 (by omega) hn), nI_pred]
/-- a parcel on the loop is scanned once more -/
theorem RR_sc {q : Nat} (hq : q < nq) (h : RR np T P C v ns nc nl nq nd fo pc) (h1 : v 4 q 4 = 1) (hT : T + 1 < 2 ^ 31) (hC : ∀ k i j, ¬ (k = 1 ∧ i = q ∧ j = 6) → ¬ (k = 4 ∧ i = 0 ∧ j = 8) → C' k i j = C k i j) (hv : ∀ k i j, ¬ (k = 4 ∧ i = q ∧ j = 6) → v' k i j = v k i j) (he : C' 1 q 6 = v' 4 q 6) (he2 : v' 4 q 6 = v 4 q 6 + 1) (hr : C' 4 0 8 = C 4 0 8 + (if v 4 q 6 = 0 then 0 else 1)) : RR np (T + 1) P C' v' ns nc nl nq nd fo pc := by
  obtain ⟨hN, hS, hCh, hL, hP, hB, hG, hK⟩ := h
  have e0 : ∀ k, k ≠ 4 → v' k = v k := fun k hk => by funext i j; exact hv k i j (by omega)
  have c0 : ∀ k, k ≠ 1 → k ≠ 4 → C' k = C k := fun k hk hk4 => by funext i j; exact hC k i j (by omega) (by omega)
  have e4 : ∀ p, v' 4 p 4 = v 4 p 4 := fun p => hv 4 p 4 (by omega)
  have e5 : ∀ p, v' 4 p 5 = v 4 p 5 := fun p => hv 4 p 5 (by omega)
  have e10 : ∀ p, v' 4 p 10 = v 4 p 10 := fun p => hv 4 p 10 (by omega)
  have e6 : ∀ p, p ≠ q → v' 4 p 6 = v 4 p 6 := fun p hp => hv 4 p 6 (by omega)
  have c5 : ∀ p, C' 1 p 5 = C 1 p 5 := fun p => hC 1 p 5 (by omega) (by omega)
  have c4 : ∀ j, j ≠ 8 → C' 4 0 j = C 4 0 j := fun j hj => hC 4 0 j (by omega) (by omega)
  obtain ⟨sc, hsc, hscT⟩ := (hP q hq).2.1
  have hr0 : ∀ p, p ≠ q → rnd v' p = rnd v p := fun p hp => by unfold rnd; rw [e6 p hp]
  have hrq : rnd v' q = nI sc := by unfold rnd; rw [he2, hsc, nI_1, rnd_1 (by omega)]
  have hrd : rnd v' q - rnd v q = if v 4 q 6 = 0 then 0 else 1 := by
    rw [hrq]
    unfold rnd
    rw [hsc]
    by_cases hz : nI sc = 0
    · rw [if_pos hz, if_pos hz, hz]; rfl
    · rw [if_neg hz, if_neg hz]; grind
  refine ⟨?_, ?_, ?_, hL.of (e0 3 (by decide)) (c0 17 (by decide) (by decide)), ?_, ?_, ?_, ?_⟩
  · unfold RN VN at *
    rw [e0 6 (by decide), c4 0 (by decide), c4 1 (by decide), c4 2 (by decide), c4 3 (by decide), c4 4 (by decide), c4 5 (by decide), c4 6 (by decide), c4 7 (by decide)]
    obtain ⟨a, b0, b1, b2, b3, b4, b5, b6, b7, b8, tm, t1, t2⟩ := hN
    exact ⟨a, b0, b1, b2, b3, b4, b5, b6, b7, b8, tm, t1, by omega⟩
  · unfold RSt at *; rw [e0 1 (by decide), c0 5 (by decide) (by decide), c0 14 (by decide) (by decide)]; simp only [e4, e5]; exact hS
  · unfold RCh at *; rw [e0 2 (by decide), c0 0 (by decide) (by decide)]; exact hCh
  · intro p hp
    obtain ⟨h1, ⟨sc', h2, h2'⟩, h3⟩ := hP p hp
    rw [e4, e5, e10, c5, e0 0 (by decide)]
    refine ⟨fun j hj h5 => ?_, ?_, h3⟩
    · by_cases hh : p = q ∧ j = 6
      · obtain ⟨rfl, rfl⟩ := hh
        exact he
      · rw [hC 1 p j (by omega) (by omega), hv 4 p j (by omega)]
        exact h1 j hj h5
    · by_cases hh : p = q
      · subst hh
        exact ⟨sc + 1, by rw [he2, hsc, nI_1], by omega⟩
      · exact ⟨sc', by rw [e6 p hh]; exact h2, by omega⟩
  · unfold RBe at *; rw [e0 0 (by decide), c0 19 (by decide) (by decide)]; simp only [e4, e5]; exact hB
  · unfold RLe at *; rw [e0 5 (by decide), c0 20 (by decide) (by decide)]; simp only [e4]; exact hG
  · obtain ⟨k1, k2, k3, k4, k5, k6, k7, k8⟩ := hK
    refine ⟨?_, ?_, ?_, ?_, ?_, ?_, ?_, ?_⟩
    · simp only [e4]; exact k1
    · rw [e0 1 (by decide)]; simp only [e4]; exact k2
    · rw [c0 19 (by decide) (by decide)]; simp only [e4]; exact k3
    · rw [e0 2 (by decide)]; exact k4
    · rw [e0 2 (by decide)]; simp only [e4, e5]; exact k5
    · rw [c0 21 (by decide) (by decide)]; simp only [e10]; exact k6
    · have k9 : sm (fun p => rnd v' p) nq = sm (fun p => rnd v p) nq + (rnd v' q - rnd v q) := sm_one q hq (fun j _ hj => hr0 j hj)
      rw [hr, k7, k9, hrd]
    · have k9 : sm (fun p => if v' 4 p 4 = 2 then rnd v' p else 0) nq = sm (fun p => if v 4 p 4 = 2 then rnd v p else 0) nq := sm_congr (fun p hp => by
        show (if v' 4 p 4 = 2 then rnd v' p else 0) = if v 4 p 4 = 2 then rnd v p else 0
        rw [e4]
        by_cases hh : p = q
        · subst hh
          rw [h1, if_neg (by decide), if_neg (by decide)]
        · rw [hr0 p hh])
      have k10 : sm (fun i => rnd v' (v' 5 0 i).toNatClampNeg) nd = sm (fun i => rnd v (v 5 0 i).toNatClampNeg) nd := sm_congr (fun i hi => by
        show rnd v' (v' 5 0 i).toNatClampNeg = rnd v (v 5 0 i).toNatClampNeg
        obtain ⟨-, p, hp, hpv, hp2⟩ := hG i hi
        have hpq : p ≠ q := fun z => by subst z; rw [h1] at hp2; exact absurd hp2 (by decide)
        rw [e0 5 (by decide), hpv, nI_clamp (by have := hN.1.2.2.2.2.2.2.2.2.2.2.2.1; omega)]
        exact hr0 p hpq)
      rw [k9, k10, k8]
end RR0
