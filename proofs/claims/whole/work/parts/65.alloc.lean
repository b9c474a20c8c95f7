/-! a cell that comes anew gets a name: the domain grows -/
def adu (ad : Ad) (k t i z : Nat) : Ad := fun k' t' i' => if k' = k ∧ t' = t ∧ i' = i then z else ad k' t' i'
def dmu (dm : Dm) (k t i : Nat) : Dm := fun k' t' i' => (k' = k ∧ t' = t ∧ i' = i) ∨ dm k' t' i'
theorem adu_self {ad : Ad} {k t i z : Nat} : adu ad k t i z k t i = z := if_pos ⟨rfl, rfl, rfl⟩
theorem adu_ne {ad : Ad} {k t i z k' t' i' : Nat} (h : ¬ (k' = k ∧ t' = t ∧ i' = i)) : adu ad k t i z k' t' i' = ad k' t' i' := if_neg h
theorem hold_eq {D : va_G} {cA : Nat → ClassId} {dm : Dm} {ad : Ad} {S : S4} {k t i : Nat} (h : ∀ z k' t' i', dm k' t' i' → ¬ (k' = k ∧ t' = t ∧ i' = i) → ct cA (adu ad k t i z) k' t' i' (S k' t' i') = ct cA ad k' t' i' (S k' t' i')) : ∀ z k' t' i', dm k' t' i' → ¬ (k' = k ∧ t' = t ∧ i' = i) → ∀ (q : Nat) (H2 : Heap), va_at D gCl (q, ct cA ad k' t' i' (S k' t' i')) H2 → va_at D gCl (q, ct cA (adu ad k t i z) k' t' i' (S k' t' i')) H2 := fun z k' t' i' h1 h2 q H2 hv => by
  rw [h z k' t' i' h1 h2]
  exact hv
section VA
variable {D : va_G} {cA : Nat → ClassId} {dm : Dm} {ad : Ad} {A : Nat → Prop} {nL : Nat} {p : Program} {l : Launch} {e : Env} {R : Room} {s : State} {m : MethodId} {args : Array Value} {below : List Frame} {meth : Method} {c : Code} {cells slots : Nat} {Q : State → Prop} {own : String} {cc : ByteArray} {S S' : S4} {pc : Nat} {lv lv' : List (Nat × Value)} {st : List Value}
theorem va_at_lt {q : Nat} {x : va_E} {H : Heap} (h : va_at D gCl (q, x) H) : q < H.size := (show va_P D gCl [(q, x)] H from fun n y hn => by
  cases n with
  | zero => cases hn; exact h
  | succ n => simp at hn) 0 (q, x) rfl |>.lt
theorem gP_born {H H1 : Heap} {k t i : Nat} {r0 : Nat → Int32} (h : gP D cA dm ad S H) (o1 : ∀ q : Nat, q < H.size → H1[q]? = H[q]?) (hold : ∀ z k' t' i', dm k' t' i' → ¬ (k' = k ∧ t' = t ∧ i' = i) → ∀ (q : Nat) (H2 : Heap), va_at D gCl (q, ct cA ad k' t' i' (S k' t' i')) H2 → va_at D gCl (q, ct cA (adu ad k t i z) k' t' i' (S k' t' i')) H2) (hnew : va_at D gCl (H.size, ct cA (adu ad k t i H.size) k t i r0) H1) : gP D cA (dmu dm k t i) (adu ad k t i H.size) (w4 S k t i r0) H1 := by
  intro k' t' i' hd
  by_cases hn : k' = k ∧ t' = t ∧ i' = i
  · obtain ⟨rfl, rfl, rfl⟩ := hn
    rw [w4_self, adu_self]
    exact hnew
  · rcases hd with hd | hd
    · exact absurd hd hn
    · rw [w4_ne hn, adu_ne hn]
      exact hold _ _ _ _ hd hn _ _ ((h k' t' i' hd).kept (o1 _ (h k' t' i' hd).lt))
theorem GX_born {H : Heap} {k t i : Nat} {locs : List Loc} (X : GX D cA dm ad A nL p s m args meth c own cc) (h : gP D cA dm ad S H) (hS : va_S A s.heap H locs) : GX D cA (dmu dm k t i) (adu ad k t i H.size) A nL p s m args meth c own cc := by
  obtain ⟨hx, hb, hml, hown, hts, hK, hJ, hA, hA2, hlk, hN⟩ := X
  refine ⟨hx, hb, hml, hown, hts, hK, ?_, ?_, hA2, hlk, hN⟩
  · intro k1 t1 i1 k2 t2 i2 d1 d2 he
    by_cases n1 : k1 = k ∧ t1 = t ∧ i1 = i
    · by_cases n2 : k2 = k ∧ t2 = t ∧ i2 = i
      · omega
      · obtain ⟨rfl, rfl, rfl⟩ := n1
        rcases d2 with d2 | d2
        · exact absurd d2 n2
        · rw [adu_self, adu_ne n2] at he
          have := (h k2 t2 i2 d2).lt
          have h2 : ad k2 t2 i2 < H.size := this
          omega
    · rcases d1 with d1 | d1
      · exact absurd d1 n1
      · by_cases n2 : k2 = k ∧ t2 = t ∧ i2 = i
        · obtain ⟨rfl, rfl, rfl⟩ := n2
          rw [adu_self, adu_ne n1] at he
          have h2 : ad k1 t1 i1 < H.size := (h k1 t1 i1 d1).lt
          omega
        · rcases d2 with d2 | d2
          · exact absurd d2 n2
          · rw [adu_ne n1, adu_ne n2] at he
            exact hJ _ _ _ _ _ _ d1 d2 he
  · intro k1 t1 i1 d1
    by_cases n1 : k1 = k ∧ t1 = t ∧ i1 = i
    · obtain ⟨rfl, rfl, rfl⟩ := n1
      rw [adu_self]
      exact hA2 _ hS.1
    · rcases d1 with d1 | d1
      · exact absurd d1 n1
      · rw [adu_ne n1]; exact hA _ _ _ d1
/-- new -/
theorem V_new (X : GX D cA dm ad A nL p s m args meth c own cc) {idx ci k t i N : Nat} {C : String} {T : u_T} {tys : Nat → FieldType} (hG : GC ci C T N tys) (hl1 : Cond.classLink own idx C ∈ gT) (hi1 : Cond.instantiable C N ∈ gT) (hini : Cond.initialized C ∈ gT) {fs : List Value} {r0 : Nat → Int32} (hct : ∀ ad' : Ad, ct cA ad' k t i r0 = .inr (ci, fs)) (hfs : ∀ j, j < N → defaultValue (tys j) = vp_V fs j) (hold : ∀ z k' t' i', dm k' t' i' → ¬ (k' = k ∧ t' = t ∧ i' = i) → ∀ (q : Nat) (H2 : Heap), va_at D gCl (q, ct cA ad k' t' i' (S k' t' i')) H2 → va_at D gCl (q, ct cA (adu ad k t i z) k' t' i' (S k' t' i')) H2) (hcells : cells + 1 ≤ R.cells) (hslots : slots + N ≤ R.slots) (hdg : decode cc pc = .ok (.new idx, 3))
    (kk : ∀ z, s.heap.size ≤ z → (∀ k' t' i', dm k' t' i' → ad k' t' i' < z) → GX D cA (dmu dm k t i) (adu ad k t i z) A nL p s m args meth c own cc → V D cA (dmu dm k t i) (adu ad k t i z) A nL p l e R s m args below meth c (cells + 1) (slots + N) Q (w4 S k t i r0) (pc + 3) lv (.ref z :: st)) : V D cA dm ad A nL p l e R s m args below meth c cells slots Q S pc lv st := by
  obtain ⟨hx, hb, hml, hown, hts, hK, hJ, hA, hA2, hlk, hN⟩ := id X
  obtain ⟨hc, hin, hty, hnm⟩ := hG
  intro H locs ls hP hS hl
  have hKn := hK.1 ci _ hc
  refine W.newcK hx hb hown (hts _ hl1) (hts _ hi1) (hts _ hini) rfl hdg hcells hslots hKn.2.1 rfl fun H1 kC hkC e1 z1 o1 => ?_
  refine kk H.size hS.1 (fun k' t' i' hd => (hP k' t' i' hd).lt) (GX_born X hP hS) H1 locs ls (gP_born hP o1 hold ?_) ⟨Nat.le_trans hS.1 (by omega), fun x h1 h2 => (o1 x (Nat.lt_of_lt_of_le h1 hS.1)).trans (hS.2.1 x h1 h2), hS.2.2⟩ hl
  rw [hct]
  exact ⟨_, hc, (u_born tys hts hin hKn hkC e1 hty).to hfs⟩
/-- newarray -/
theorem V_newa (X : GX D cA dm ad A nL p s m args meth c own cc) {atype : ArrayType} {ty : FieldType} {k t i q N : Nat} (hty : newarray.typeOf atype = ty) (harr : Cond.arrayClass (newarray.typeOf atype) ∈ gT) (hq : (gTy cA)[q]? = some (cA q, ty)) {n : Int32} {a0 : vp_A} {r0 : Nat → Int32} (ha : ∀ cA' : ClassId, vp_cell cA' a0 = arrV cA' N (fun _ => defaultValue ty)) (hct : ∀ ad' : Ad, ct cA ad' k t i r0 = .inl (cA q, a0)) (hn : ¬ n < 0) (hN : n.toNatClampNeg = N) (hbytes : N * componentBytes ty ≤ 536870912) (hold : ∀ z k' t' i', dm k' t' i' → ¬ (k' = k ∧ t' = t ∧ i' = i) → ∀ (q : Nat) (H2 : Heap), va_at D gCl (q, ct cA ad k' t' i' (S k' t' i')) H2 → va_at D gCl (q, ct cA (adu ad k t i z) k' t' i' (S k' t' i')) H2) (hcells : cells + 1 ≤ R.cells) (hslots : slots + N ≤ R.slots) (hdg : decode cc pc = .ok (.newarray atype, 2))
    (kk : ∀ z, s.heap.size ≤ z → (∀ k' t' i', dm k' t' i' → ad k' t' i' < z) → GX D cA (dmu dm k t i) (adu ad k t i z) A nL p s m args meth c own cc → V D cA (dmu dm k t i) (adu ad k t i z) A nL p l e R s m args below meth c (cells + 1) (slots + N) Q (w4 S k t i r0) (pc + 2) lv (.ref z :: st)) : V D cA dm ad A nL p l e R s m args below meth c cells slots Q S pc lv (.int n :: st) := by
  obtain ⟨hx, hb, hml, hown, hts, hK, hJ, hA, hA2, hlk, hNn⟩ := id X
  subst hty
  intro H locs ls hP hS hl
  refine va_newaK hx hb (hts _ harr) rfl hdg rfl hn hN hbytes hcells hslots rfl fun H1 cA' e1 z1 o1 hAr hNm => ?_
  have hR := (hK.2 q _ hq).2
  have hNq : s.vm.findClass ("[" ++ (newarray.typeOf atype).toString) = some (cA q) := by cases atype <;> exact hR
  have ec : cA' = cA q := Option.some.inj (hNm.symm.trans hNq)
  refine kk H.size hS.1 (fun k' t' i' hd => (hP k' t' i' hd).lt) (GX_born X hP hS) H1 locs ls (gP_born hP o1 hold ?_) ⟨Nat.le_trans hS.1 (by omega), fun x h1 h2 => (o1 x (Nat.lt_of_lt_of_le h1 hS.1)).trans (hS.2.1 x h1 h2), hS.2.2⟩ hl
  rw [hct]
  show H1[H.size]? = some (vp_cell (cA q) a0)
  rw [ha, ← ec]
  exact e1
/-- anewarray -/
theorem V_anew (X : GX D cA dm ad A nL p s m args meth c own cc) {C : String} {idx k t i q N : Nat} (hl1 : Cond.classLink own idx C ∈ gT) (hov : Cond.arrayOver (.object C) ∈ gT) (hq : (gTy cA)[q]? = some (cA q, .object C)) {n : Int32} {a0 : vp_A} {r0 : Nat → Int32} (ha : ∀ cA' : ClassId, vp_cell cA' a0 = arrV cA' N (fun _ => .null)) (hct : ∀ ad' : Ad, ct cA ad' k t i r0 = .inl (cA q, a0)) (hn : ¬ n < 0) (hN : n.toNatClampNeg = N) (hbytes : N * 4 ≤ 536870912) (hold : ∀ z k' t' i', dm k' t' i' → ¬ (k' = k ∧ t' = t ∧ i' = i) → ∀ (q : Nat) (H2 : Heap), va_at D gCl (q, ct cA ad k' t' i' (S k' t' i')) H2 → va_at D gCl (q, ct cA (adu ad k t i z) k' t' i' (S k' t' i')) H2) (hcells : cells + 1 ≤ R.cells) (hslots : slots + N ≤ R.slots) (hdg : decode cc pc = .ok (.anewarray idx, 3))
    (kk : ∀ z, s.heap.size ≤ z → (∀ k' t' i', dm k' t' i' → ad k' t' i' < z) → GX D cA (dmu dm k t i) (adu ad k t i z) A nL p s m args meth c own cc → V D cA (dmu dm k t i) (adu ad k t i z) A nL p l e R s m args below meth c (cells + 1) (slots + N) Q (w4 S k t i r0) (pc + 3) lv (.ref z :: st)) : V D cA dm ad A nL p l e R s m args below meth c cells slots Q S pc lv (.int n :: st) := by
  obtain ⟨hx, hb, hml, hown, hts, hK, hJ, hA, hA2, hlk, hNn⟩ := id X
  subst hN
  intro H locs ls hP hS hl
  refine W.anew hx hb hown (hts _ hl1) (hts _ hov) rfl hdg rfl hn hbytes hcells hslots fun cA' kA comp f1 f2 f3 f4 => ?_
  generalize hH1 : H.push ({ cls := cA', slots := Array.replicate n.toNatClampNeg .null, vm := .none } : Cell) = H1
  have z1 : H1.size = H.size + 1 := by rw [← hH1, Array.size_push]
  have e1 : H1[H.size]? = some (arrV cA' n.toNatClampNeg (fun _ => .null)) := by rw [← hH1, Array.getElem?_push_size, ← arrV_new]
  have o1 : ∀ x : Nat, x < H.size → H1[x]? = H[x]? := fun x hx' => by rw [← hH1, Array.getElem?_push, if_neg (Nat.ne_of_lt hx')]
  obtain ⟨k2, c2, -, -, -, g4⟩ := (hK.2 q _ hq).2
  have ec : cA' = cA q := Option.some.inj (f1.symm.trans g4)
  refine kk H.size hS.1 (fun k' t' i' hd => (hP k' t' i' hd).lt) (GX_born X hP hS) H1 locs ls (gP_born hP o1 hold ?_) ⟨Nat.le_trans hS.1 (by omega), fun x h1 h2 => (o1 x (Nat.lt_of_lt_of_le h1 hS.1)).trans (hS.2.1 x h1 h2), hS.2.2⟩ hl
  rw [hct]
  show H1[H.size]? = some (vp_cell (cA q) a0)
  rw [ha, ← ec]
  exact e1
/-- the same cells by other names -/
theorem V_conv {dm' : Dm} {ad' : Ad} (hd : ∀ H : Heap, gP D cA dm ad S H → gP D cA dm' ad' S' H) (kk : V D cA dm' ad' A nL p l e R s m args below meth c cells slots Q S' pc lv st) : V D cA dm ad A nL p l e R s m args below meth c cells slots Q S pc lv st :=
  fun H locs ls hP hS hl => kk H locs ls (hd H hP) hS hl
theorem GX_conv {dm' : Dm} {ad' : Ad} (X : GX D cA dm ad A nL p s m args meth c own cc) (hJ' : gJ dm' ad') (hA' : ∀ k t i, dm' k t i → A (ad' k t i)) : GX D cA dm' ad' A nL p s m args meth c own cc := by
  obtain ⟨hx, hb, hml, hown, hts, hK, hJ, hA, hA2, hlk, hN⟩ := X
  exact ⟨hx, hb, hml, hown, hts, hK, hJ', hA', hA2, hlk, hN⟩
end VA
