/-! an object that is made gets its lasting name -/
def ren (dm : Dm) (k t i k2 : Nat) : Dm := fun k' t' i' => (k' = k2 ∧ t' = t ∧ i' = i) ∨ (dm k' t' i' ∧ ¬ (k' = k ∧ t' = t ∧ i' = i))
section RE
variable {D : va_G} {cA : Nat → ClassId} {dm : Dm} {ad : Ad} {A : Nat → Prop} {nL : Nat} {p : Program} {l : Launch} {e : Env} {R : Room} {s : State} {m : MethodId} {args : Array Value} {below : List Frame} {meth : Method} {c : Code} {cells slots : Nat} {Q : State → Prop} {own : String} {cc : ByteArray} {S S' : S4} {pc : Nat} {lv lv' : List (Nat × Value)} {st : List Value}
theorem V_ren (X : GX D cA dm ad A nL p s m args meth c own cc) {k t i k2 : Nat} {r2 : Nat → Int32} (hg : dm k t i) (hn : ¬ dm k2 t i) (hct : ct cA (adu ad k2 t i (ad k t i)) k2 t i r2 = ct cA ad k t i (S k t i)) (hold : ∀ k' t' i', dm k' t' i' → ¬ (k' = k ∧ t' = t ∧ i' = i) → ∀ (q : Nat) (H2 : Heap), va_at D gCl (q, ct cA ad k' t' i' (S k' t' i')) H2 → va_at D gCl (q, ct cA (adu ad k2 t i (ad k t i)) k' t' i' (S k' t' i')) H2)
    (kk : ∀ ad2 : Ad, ad2 k2 t i = ad k t i → (∀ k' t' i', ¬ (k' = k2 ∧ t' = t ∧ i' = i) → ad2 k' t' i' = ad k' t' i') → GX D cA (ren dm k t i k2) ad2 A nL p s m args meth c own cc → V D cA (ren dm k t i k2) ad2 A nL p l e R s m args below meth c cells slots Q (w4 S k2 t i r2) pc lv st) : V D cA dm ad A nL p l e R s m args below meth c cells slots Q S pc lv st := by
  obtain ⟨hx, hb, hml, hown, hts, hK, hJ, hA, hA2, hlk⟩ := id X
  have ne : ∀ {k' t' i'}, dm k' t' i' → ¬ (k' = k2 ∧ t' = t ∧ i' = i) := fun {k' t' i'} hd z => hn (by obtain ⟨rfl, rfl, rfl⟩ := z; exact hd)
  refine V_conv (dm' := ren dm k t i k2) (ad' := adu ad k2 t i (ad k t i)) (S' := w4 S k2 t i r2) (fun H hP => ?_) (kk _ adu_self (fun k' t' i' h => adu_ne h) (GX_conv X ?_ ?_))
  · intro k' t' i' hd
    rcases hd with ⟨rfl, rfl, rfl⟩ | ⟨hd, hne⟩
    · rw [w4_self, adu_self, hct]
      exact hP _ _ _ hg
    · rw [w4_ne (ne hd), adu_ne (ne hd)]
      exact hold _ _ _ hd hne _ _ (hP _ _ _ hd)
  · intro k1 t1 i1 k3 t3 i3 d1 d3 he
    rcases d1 with ⟨rfl, rfl, rfl⟩ | ⟨d1, n1⟩
    · rcases d3 with ⟨rfl, rfl, rfl⟩ | ⟨d3, n3⟩
      · exact ⟨rfl, rfl, rfl⟩
      · rw [adu_self, adu_ne (ne d3)] at he
        exact absurd (hJ _ _ _ _ _ _ hg d3 he) n3
    · rcases d3 with ⟨rfl, rfl, rfl⟩ | ⟨d3, n3⟩
      · rw [adu_self, adu_ne (ne d1)] at he
        exact absurd (hJ _ _ _ _ _ _ hg d1 he.symm) n1
      · rw [adu_ne (ne d1), adu_ne (ne d3)] at he
        exact hJ _ _ _ _ _ _ d1 d3 he
  · intro k1 t1 i1 d1
    rcases d1 with ⟨rfl, rfl, rfl⟩ | ⟨d1, n1⟩
    · rw [adu_self]; exact hA _ _ _ hg
    · rw [adu_ne (ne d1)]; exact hA _ _ _ d1
end RE
