section AQ
variable {np fu T : Nat} {S Z : S4}
theorem row_cg {P v v' : Vw} {nc i a a' : Nat} (h1 : ∃ m c, VP v nc a' m c) (h2 : PW v a') (h3 : PM P v i a') (hv : ∀ w, w < 52 → v' 3 a w = v 3 a' w) : (∃ m c, VP v' nc a m c) ∧ PW v' a ∧ PM P v' i a := by
  obtain ⟨m, c, g1, g8, g2, gc, gr⟩ := h1
  have hR : (v 3 a' 1).toNatClampNeg = m := by rw [g1]; exact nI_clamp (by omega)
  have hR' : (v' 3 a 1).toNatClampNeg = m := by rw [hv 1 (by decide), hR]
  obtain ⟨⟨n1, n1a, n1b⟩, ⟨n2, n2a, n2b⟩, w1, wr⟩ := h2
  obtain ⟨p0, p1, p2, p3, pr⟩ := h3
  refine ⟨⟨m, c, by rw [hv 1 (by decide)]; exact g1, g8, by rw [hv 2 (by decide)]; exact g2, gc, fun r hr => ?_⟩, ⟨⟨n1, n1a, by rw [hv 0 (by decide)]; exact n1b⟩, ⟨n2, n2a, by rw [hv 3 (by decide)]; exact n2b⟩, by rw [hR', ← hR]; exact w1, fun r hr => ?_⟩, ⟨by rw [hv 0 (by decide)]; exact p0, by rw [hv 1 (by decide)]; exact p1, by rw [hv 2 (by decide)]; exact p2, by rw [hv 3 (by decide)]; exact p3, fun r hr => ?_⟩⟩
  · obtain ⟨n, e2, e3, ek⟩ := gr r hr
    exact ⟨n, by rw [hv _ (by omega)]; exact e2, e3, fun k hk => by rw [hv _ (by omega)]; exact ek k hk⟩
  · rw [hR'] at hr
    rw [hv _ (by omega), hv _ (by omega), hv _ (by omega)]
    exact wr r (by omega)
  · rw [hR'] at hr
    obtain ⟨n, e2, e3, ek⟩ := gr r hr
    have hn : (v 3 a' (4 + 6 * r + 2)).toNatClampNeg = n := by rw [e2]; exact nI_clamp (by omega)
    obtain ⟨q1, q2, q3, q4⟩ := pr r (by omega)
    refine ⟨by rw [hv _ (by omega)]; exact q1, by rw [hv _ (by omega)]; exact q2, by rw [hv _ (by omega)]; exact q3, fun k hk => ?_⟩
    rw [hv _ (by omega), hn] at hk
    rw [hv _ (by omega)]
    exact q4 k (by omega)
theorem RPl_ins {P C C' v v' : Vw} {np nl nl' nc p i : Nat} (h : RPl P C v np nl nc) (hi : i < np) (hn : (∃ m c, VP v' nc p m c) ∧ PW v' p ∧ PM P v' i p) (h17 : C' 17 0 p = nI i) (ho : ∀ a, a < nl' → a ≠ p → ∃ a', a' < nl ∧ (∀ w, w < 52 → v' 3 a w = v 3 a' w) ∧ C' 17 0 a = C 17 0 a') (hs : ∀ a b, a < b → b < nl' → v' 3 a 0 < v' 3 b 0) : RPl P C' v' np nl' nc := by
  refine ⟨fun a ha => ?_, hs⟩
  by_cases e : a = p
  · subst e
    exact ⟨hn.1, hn.2.1, i, hi, h17, hn.2.2⟩
  · obtain ⟨a', h1, h2, h3⟩ := ho a ha e
    obtain ⟨g1, g2, j, g3, g4, g5⟩ := h.1 a' h1
    obtain ⟨k1, k2, k3⟩ := row_cg g1 g2 g5 h2
    exact ⟨k1, k2, j, g3, by rw [h3]; exact g4, k3⟩
theorem k_hasPlanFrom {np fu t nl : Nat} {S : S4} {f : Int32} {v : Vw} (h5 : cls S t 4 0 5 = nI nl) (hl : nl ≤ 5) (hnp : np < 2 ^ 31) (hp : ∀ p, p < nl → ∃ i, i < np ∧ cls S t 17 0 p = nI i ∧ PM (pln S) v i p) (ho : ∀ a b, a < b → b < nl → v 3 a 0 < v 3 b 0) (hf : 5 < fu) :
    (pof v f nl = none → s_X4_hasPlanFrom np fu t f S = some 0) ∧ ∀ p, pof v f nl = some p → s_X4_hasPlanFrom np fu t f S = some (if v 3 p 0 = f then 1 else 0) := by
  obtain ⟨h1, h2⟩ := k_planOf (np := np) (fu := fu) (tick := f) h5 hl hnp hp ho hf
  refine ⟨fun h => ?_, fun p h => ?_⟩
  · unfold s_X4_hasPlanFrom
    rw [h1 h, bd_s, if_pos rfl]
  · obtain ⟨i, hi, e, hM⟩ := h2 p h
    unfold s_X4_hasPlanFrom
    rw [e, bd_s, if_neg (by intro z; cases z), bd_s, gd_t hi, rk2 S, hM.1]
    split <;> rfl
theorem PR.fc {np T : Nat} {S0 S : S4} {A : Option ((Int32 × S4) ⊕ (Nat × S4))} {B : Option (Int32 × S4)} {cs : List (Nat × Int32)} (h : PR np T S A B cs) (hc : FC S0 S) : PR np T S0 A B cs := by
  obtain ⟨r, S', b, Z', h1, h2, h3, h4, h5⟩ := h
  exact ⟨r, S', b, Z', h1, h2, h3, h4, hc.trans h5⟩
theorem PD.z {S Z Z' : S4} {i : Nat} (h : PD S Z i) (e : Z' 31 = Z 31) : PD S Z' i := by
  unfold PD QR QC at *
  simp only [e]
  exact h
end AQ
