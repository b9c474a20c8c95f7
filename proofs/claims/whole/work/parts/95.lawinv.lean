/-! what the law carries from call to call -/
section WOc
variable {fu i : Nat} {p2 : Int32}
theorem cw_wrL : ∀ (f : Nat) (v : Int32) (Z S' : S4), s_X2_writeRule_L44 fu i p2 f v Z = some S' → CW Z S' := by
  intro f
  induction f with
  | zero => intro v Z S' hs; rw [s_X2_writeRule_L44] at hs; cases hs
  | succ f ih =>
    intro v Z S' hs
    rw [s_X2_writeRule_L44] at hs
    obtain ⟨h1, hs⟩ := gd_some hs
    rcases ite_or hs with hs | hs
    · rw [← Option.some.inj hs]; exact CW.refl _
    · obtain ⟨q, eq, hs⟩ := bd_some hs
      obtain ⟨Z1, e1, hs⟩ := bd_some hs
      obtain ⟨q2, eq2, hs⟩ := bd_some hs
      obtain ⟨Z2, e2, hs⟩ := bd_some hs
      exact (CW.trans (apc_ok e1).2.2 (apn_ok e2).2.2).trans (ih _ _ _ hs)
theorem cw_wr {Z S' : S4} (hs : s_X2_writeRule fu i p2 Z = some S') : CW Z S' := by
  unfold s_X2_writeRule at hs
  obtain ⟨h1, hs⟩ := gd_some hs
  obtain ⟨Z1, e1, hs⟩ := bd_some hs
  obtain ⟨h2, hs⟩ := gd_some hs
  have F : CW Z Z1 := (apn_ok e1).2.2
  rcases ite_or hs with hs | hs
  · exact F.trans (cw_wrL _ _ _ _ hs)
  · obtain ⟨Z2, e2, hs⟩ := bd_some hs
    obtain ⟨h3, hs⟩ := gd_some hs
    obtain ⟨Z3, e3, hs⟩ := bd_some hs
    have F2 : CW Z1 Z2 := (apc_ok e2).2.2
    have F3 : CW Z2 Z3 := (apn_ok e3).2.2
    exact ((F.trans F2).trans F3).trans (cw_wrL _ _ _ _ hs)
theorem cw_wtL : ∀ (f : Nat) (v : Int32) (Z S' : S4), s_X2_writeTo_L16 fu i f v Z = some S' → CW Z S' := by
  intro f
  induction f with
  | zero => intro v Z S' hs; rw [s_X2_writeTo_L16] at hs; cases hs
  | succ f ih =>
    intro v Z S' hs
    rw [s_X2_writeTo_L16] at hs
    rcases ite_or hs with hs | hs
    · obtain ⟨Z1, e1, hs⟩ := bd_some hs
      obtain ⟨Z2, e2, hs⟩ := bd_some hs
      have F : CW Z Z2 := CW.trans (apc_ok e1).2.2 (apn_ok e2).2.2
      rcases ite_or hs with hs | hs
      · rw [← Option.some.inj hs]; exact F
      · obtain ⟨Z3, e3, hs⟩ := bd_some hs
        have F2 : CW Z2 Z3 := (apc_ok e3).2.2
        have F3 : CW Z3 S' := (apn_ok hs).2.2
        exact (F.trans F2).trans F3
    · obtain ⟨q, eq, hs⟩ := bd_some hs
      obtain ⟨Z1, e1, hs⟩ := bd_some hs
      obtain ⟨Z2, e2, hs⟩ := bd_some hs
      have F : CW Z Z1 := (apc_ok e1).2.2
      exact (F.trans (cw_wr e2)).trans (ih _ _ _ hs)
theorem cw_wt {Z S' : S4} (hs : s_X2_writeTo fu i Z = some S') : CW Z S' := by
  unfold s_X2_writeTo at hs
  obtain ⟨Z1, e1, hs⟩ := bd_some hs
  obtain ⟨Z2, e2, hs⟩ := bd_some hs
  have F : CW Z Z1 := (apc_ok e1).2.2
  have F2 : CW Z1 Z2 := (apn_ok e2).2.2
  exact (F.trans F2).trans (cw_wtL _ _ _ _ hs)
end WOc
section LI0
variable {np T fu : Nat} {S S1 S2 : S4}
theorem P17.up (h : P17 np S) : P17 (np + 1) S := fun t i j q e => Nat.lt_succ_of_lt (h t i j q e)
theorem P17.k (h : P17 np S) (e : S1 17 = S 17) : P17 np S1 := by
  unfold P17
  rw [e]
  exact h
theorem JB.k (h : JB S) (e8 : S1 8 = S 8) (e9 : S1 9 = S 9) : JB S1 := by
  unfold JB
  rw [e8, e9]
  exact h
theorem ln_k (e9 : S1 9 = S 9) : ln S1 = ln S := by
  unfold ln
  rw [e9]
/-- the invariant: both agree; the plans' numbers; the builder -/
def LI (np T : Nat) (S : S4) : Prop := GG np T S S ∧ P17 np S ∧ JB S
theorem GG.ln {Z : S4} (h : GG np T S Z) : ln S ≤ 142 := by
  obtain ⟨-, -, -, -, w, hw, -, -, ⟨q, hq, e, -⟩, -⟩ := h
  unfold Jvm.Pilot.CParcelSorterLaw_law_r1949_b8d5e3.ln
  rw [e, nI_clamp (by omega)]
  omega
theorem LI.next {T' : Nat} (h : LI np T S) (f : FZ np S S1) (g : FM S1 S2) (hG : GG np T' S2 S2) : LI np T' S2 :=
  ⟨hG, (f.2.2 h.2.1).k (g 17 (by decide)), (h.2.2.k f.1 f.2.1).k (g 8 (by decide)) (g 9 (by decide))⟩
theorem fz_X6_addPlan : Kp (stE stP stP) (np + 1) S (s_X6_addPlan np fu S) := by
  unfold s_X6_addPlan
  have hN : ∀ len, FZ (np + 1) S (u4 (newR np len S) 6 0 0 8 0) := fun len => FZ.k (fun k hk => by
    funext t i
    rw [show u4 (newR np len S) 6 0 0 8 0 k t i = newR np len S k t i from w4_ne (by omega)]
    funext j
    exact newR_ne (by omega))
  refine Kp.bind (sb := stP) (fun o e => (hN _).trans (FZ.k (fun k hk => fr_X3_readPlan e k (by rcases hk with rfl | rfl | rfl <;> decide)))) (fun q => ?_)
  repeat (first | (exact Kp.none) | (exact Kp.done (FZ.refl _ _)) | (exact fz_X6_remember) | (exact (fz_X4_putPlan (Nat.lt_succ_self _))) | (with_reducible refine Kp.ite ?_ ?_) | (with_reducible refine Kp.bind fz_X6_remember (fun _ => ?_)) | (with_reducible refine Kp.bind (fz_X4_putPlan (Nat.lt_succ_self _)) (fun _ => ?_)) | (with_reducible refine Kp.bindp (fun _ => ?_)))
theorem fz_L_addPlan : Kp stP (np + 1) S (s_L_addPlan np fu S) := by
  unfold s_L_addPlan
  refine Kp.bind fz_X6_addPlan (fun r => ?_)
  repeat (first | (exact Kp.none) | (exact Kp.done (FZ.refl _ _)) | (with_reducible refine Kp.ite ?_ ?_) | ((with_reducible refine Kp.sv ?_ (fun Z => ?_)); exact FZ.w (by decide)) | (with_reducible refine Kp.elim (fun _ => ?_) (fun _ => ?_) _))
theorem li_addPlan (h : LI np T S) (hnp : np + 1 < 2 ^ 31) (hf : 9600 < fu) : ∃ k S1 b S2, s_L_addPlan np fu S = some (k, S1) ∧ s_X7_addPlan fu S1 = some (b, S2) ∧ S2 7 0 0 0 = k ∧ (k = 0 → S2 36 0 0 0 = b) ∧ LI (np + 1) T S2 := by
  obtain ⟨k, S1, b, S2, e1, e2, h7, h36, hG⟩ := st_addPlan h.1 hnp hf
  have f : FZ (np + 1) S S1 := fz_L_addPlan _ e1
  have g := fr_X7_addPlan e2
  exact ⟨k, S1, b, S2, e1, e2, h7, h36, hG, (f.2.2 h.2.1.up).k (g 17 (by decide)), (h.2.2.k f.1 f.2.1).k (g 8 (by decide)) (g 9 (by decide))⟩
theorem wr_keep {p : Int32} {k : Int32} (hs : s_L_write np fu p S = some (k, S1)) : (∀ kk, kk ≠ 8 → kk ≠ 9 → kk ≠ 36 → S1 kk = S kk) ∧ (JB S → JB S1) := by
  unfold s_L_write at hs
  obtain ⟨r1, e1, hs⟩ := bd_some hs
  unfold s_X6_write at e1
  cases r1 with
  | inl q2 =>
    obtain ⟨Z1, z1, f1⟩ := tb_l e1
    clear e1
    obtain ⟨rfl, -, -⟩ := rq_same z1
    obtain ⟨Z2, z2, e1⟩ := bd_some f1
    clear f1
    obtain ⟨-, e1⟩ := gd_some e1
    rcases ite_or e1 with e1 | e1
    · cases e1
    obtain ⟨i, -, e1⟩ := bd_some e1
    obtain ⟨-, e1⟩ := gd_some e1
    obtain ⟨Z3, z3, e1⟩ := bd_some e1
    have eq2 : q2 = (Z3 8 0 0 0, Z3) := (Sum.inl.inj (Option.some.inj e1)).symm
    subst eq2
    have e4 : u4 Z3 36 0 0 ((0 : Int32).toNatClampNeg) (Z3 8 0 0 0) = S1 := (Prod.mk.inj (Option.some.inj (show some ((0 : Int32), u4 Z3 36 0 0 ((0 : Int32).toNatClampNeg) (Z3 8 0 0 0)) = some (k, S1) from hs))).2
    have m : ∀ kk, kk ≠ 36 → S1 kk = Z3 kk := fun kk h36 => by
      rw [← e4]
      funext t i j
      rw [u4_app, if_neg (fun z => h36 z.1)]
    obtain ⟨l1, l2, l3⟩ := len0_ok z2
    have c3 := cw_wt z3
    exact ⟨fun kk h8 h9 h36 => (m kk h36).trans ((c3 kk h8 h9).trans (l3 kk h8)), fun hB => ((wt_ok z3).1 (l1 hB)).k (m 8 (by decide)) (m 9 (by decide))⟩
  | inr e3 =>
    rcases tb_r e1 with ⟨a, z1, f1⟩ | z1
    · exfalso
      clear e1
      obtain ⟨Z2, z2, e1⟩ := bd_some f1
      obtain ⟨-, e1⟩ := gd_some e1
      rcases ite_or e1 with e1 | e1
      · cases e1
      obtain ⟨i, -, e1⟩ := bd_some e1
      obtain ⟨-, e1⟩ := gd_some e1
      obtain ⟨Z3, z3, e1⟩ := bd_some e1
      cases e1
    · have e4 := rq_thrown z1
      subst e4
      have e5 : S = S1 := by
        exact (Prod.mk.inj (Option.some.inj (show some ((1 : Int32), S) = some (k, S1) from hs))).2
      rw [← e5]
      exact ⟨fun _ _ _ _ => rfl, id⟩
theorem li_write {p : Int32} (h : LI np T S) (hnp : np < 2 ^ 31) (hf : 100 < fu) : ∃ k S1 b S2, s_L_write np fu p S = some (k, S1) ∧ s_X7_write fu p S1 = some (b, S2) ∧ S2 7 0 0 0 = k ∧ (k = 0 → S2 36 0 0 0 = b) ∧ LI np T S2 ∧ ln S1 ≤ 142 := by
  obtain ⟨k, S1, b, S2, e1, e2, h7, h36, hG⟩ := st_write (p2 := p) h.1 hnp hf
  obtain ⟨w1, w2⟩ := wr_keep e1
  have g := fr_X7_write e2
  exact ⟨k, S1, b, S2, e1, e2, h7, h36, ⟨hG, (h.2.1.k (w1 17 (by decide) (by decide) (by decide))).k (g 17 (by decide)), (w2 h.2.2).k (g 8 (by decide)) (g 9 (by decide))⟩, by rw [← ln_k (g 9 (by decide))]; exact hG.ln⟩
theorem fz_X6_paper {p : Int32} : Kp (stE stP stP) np S (s_X6_paper p S) := by
  unfold s_X6_paper
  repeat (first | (exact Kp.none) | (exact Kp.done (FZ.refl _ _)) | (exact fz_X6_requireIndex) | (with_reducible refine Kp.gd (fun hg => ?_)) | (with_reducible refine Kp.tb (sb := stS) ?_ (fun _ => ?_)))
theorem fz_L_paper {p : Int32} : Kp stP np S (s_L_paper p S) := by
  unfold s_L_paper
  refine Kp.bind fz_X6_paper (fun r => ?_)
  repeat (first | (exact Kp.none) | (exact Kp.done (FZ.refl _ _)) | (with_reducible refine Kp.ite ?_ ?_) | ((with_reducible refine Kp.sv ?_ (fun Z => ?_)); exact FZ.w (by decide)) | (with_reducible refine Kp.elim (fun _ => ?_) (fun _ => ?_) _))
end LI0
/-! the names of the law: the class's and the reference's cells, and np plans with their readers -/
def eL : Nat → Prop := fun k => k = 6 ∨ k = 7 ∨ k = 8 ∨ k = 9 ∨ (22 ≤ k ∧ k ≤ 37)
def dL (np : Nat) : Dm := fun k t x => dF eL (fun t => t < 11) k t x ∨ (t = 0 ∧ x < np ∧ (k = 2 ∨ k = 3 ∨ (10 ≤ k ∧ k ≤ 13)))
theorem dL_e {np k : Nat} (h : eL k) : dL np k 0 0 := Or.inl (Or.inl ⟨rfl, rfl, h⟩)
theorem dL_K {np : Nat} : DK (dL np) := ⟨dL_e (by unfold eL; omega), dL_e (by unfold eL; omega), dL_e (by unfold eL; omega), fun t ht k i h => Or.inl (Or.inr ⟨ht, h⟩)⟩
theorem dL_M {np : Nat} : DM (dL np) := fun k hk => dL_e (by unfold eL; omega)
theorem dL_P {np : Nat} : ∀ i, i < np → DP (dL np) i := fun i hi k hk => Or.inr ⟨rfl, hi, by omega⟩
theorem dL_not {np k t x : Nat} (h : dL np k t x) : (t = 0 ∧ x = 0 ∧ eL k) ∨ (t < 11 ∧ sk k) ∨ (t = 0 ∧ x < np ∧ (k = 2 ∨ k = 3 ∨ (10 ≤ k ∧ k ≤ 13))) := by
  rcases h with (h | h) | h
  · exact Or.inl h
  · exact Or.inr (Or.inl ⟨h.1, stK_sk h.2⟩)
  · exact Or.inr (Or.inr h)
theorem dL_Pb {np : Nat} : Pb (dL np) := by
  refine ⟨dL_e (by unfold eL; omega), dL_e (by unfold eL; omega), fun h => ?_, fun t i h => ?_, fun t i h => ?_⟩
  · rcases dL_not h with h | h | h
    · omega
    · exact nsk (by omega) h.2
    · omega
  · rcases dL_not h with h | h | h
    · exact ⟨h.1, h.2.1⟩
    · exact absurd h.2 (nsk (by omega))
    · omega
  · rcases dL_not h with h | h | h
    · have := h.2.2
      unfold eL at this
      omega
    · exact nsk (by omega) h.2
    · omega
theorem dL_Fr {np : Nat} : NFr (dL np) np := by
  intro k t hk h
  rcases dL_not h with h | h | h
  · have := h.2.2
    unfold eL at this
    omega
  · have := h.2
    unfold sk at this
    omega
  · omega
theorem dL_up {np k t x : Nat} (h : dL (np + 1) k t x) : e4 (dL np) np k t x := by
  rcases h with h | ⟨h1, h2, h3⟩
  · exact Or.inr (Or.inl h)
  · by_cases e : x = np
    · exact Or.inl ⟨h1, e, by omega⟩
    · exact Or.inr (Or.inr ⟨h1, by omega, h3⟩)
