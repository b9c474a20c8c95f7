/-! rules of the builder's fields; its new bytes -/
theorem gc8 : GC 8 RJ4 TJ4 4 tyJ4 := ⟨rfl, gws (ps := [384, 386, 388, 390]) (by decide +kernel) (by decide +kernel), tyJ4_ok, nmJ4⟩
def FRJ (own : String) (idx ci j : Nat) : Prop := ∃ (C : String) (T : u_T) (N : Nat) (tys : Nat → FieldType), GC ci C T N tys ∧ j < N ∧ Cond.fieldLink own idx (T j).1 (T j).2.1 (T j).2.2.1 ∈ gT
def FLJ (own : String) (idx ci j : Nat) (ty : FieldType) : Prop := ∃ (C : String) (T : u_T) (N : Nat) (tys : Nat → FieldType), GC ci C T N tys ∧ j < N ∧ tys j = ty ∧ (T j).2.2.2 = false ∧ Cond.fieldLink own idx (T j).1 (T j).2.1 (T j).2.2.1 ∈ gT
theorem FLJ.r {own : String} {idx ci j : Nat} {ty : FieldType} (h : FLJ own idx ci j ty) : FRJ own idx ci j := by
  obtain ⟨C, T, N, tys, h1, h2, -, -, h3⟩ := h
  exact ⟨C, T, N, tys, h1, h2, h3⟩
theorem f_J_value : FLJ RJ5 15 8 0 (.array .byte) := ⟨RJ4, TJ4, 4, tyJ4, gc8, by decide, rfl, rfl, gin 379 (by decide +kernel) (by decide +kernel)⟩
theorem f_J_coder : FLJ RJ5 22 8 1 .byte := ⟨RJ4, TJ4, 4, tyJ4, gc8, by decide, rfl, rfl, gin 380 (by decide +kernel) (by decide +kernel)⟩
theorem f_J_maybe : FLJ RJ5 73 8 2 .boolean := ⟨RJ4, TJ4, 4, tyJ4, gc8, by decide, rfl, rfl, gin 381 (by decide +kernel) (by decide +kernel)⟩
theorem f_J_count : FLJ RJ5 79 8 3 .int := ⟨RJ4, TJ4, 4, tyJ4, gc8, by decide, rfl, rfl, gin 383 (by decide +kernel) (by decide +kernel)⟩
/-- what the domain must be for the builder's bytes to move -/
def Pb (dm : Dm) : Prop := dm 8 0 0 ∧ dm 9 0 0 ∧ ¬ dm 9 1 0 ∧ (∀ t i, dm 8 t i → t = 0 ∧ i = 0) ∧ ∀ t i, ¬ dm 48 t i
section HB
variable {cA : Nat → ClassId} {ad : Ad} {z k' t' i' τ : Nat} {r : Nat → Int32}
theorem holdB (h8 : k' = 8 → τ ≠ 0) (h48 : k' = 48 → τ ≠ 0) : ct cA (adu ad 9 τ 0 z) k' t' i' r = ct cA ad k' t' i' r := by
  by_cases e8 : k' = 8
  · subst e8
    have ne : adu ad 9 τ 0 z 9 0 0 = ad 9 0 0 := adu_ne (fun p => h8 rfl p.2.1.symm)
    simp only [ct, ne]
  · by_cases e48 : k' = 48
    · subst e48
      have ne : adu ad 9 τ 0 z 9 0 0 = ad 9 0 0 := adu_ne (fun p => h48 rfl p.2.1.symm)
      simp only [ct, ne]
    · have b : ∀ k, k ≠ 9 → adu ad 9 τ 0 z k = ad k := fun k hk => by
        funext t j
        exact adu_ne (fun q => hk q.1)
      unfold ct
      split
      all_goals first
        | rfl
        | (exfalso; omega)
        | simp only [b 0 (by decide), b 1 (by decide), b 2 (by decide), b 4 (by decide), b 5 (by decide), b 8 (by decide), b 10 (by decide), b 11 (by decide), b 12 (by decide), b 13 (by decide), b 14 (by decide), b 15 (by decide), b 16 (by decide), b 17 (by decide), b 18 (by decide), b 19 (by decide), b 20 (by decide), b 21 (by decide), b 22 (by decide), b 23 (by decide), b 24 (by decide), b 25 (by decide), b 26 (by decide), b 27 (by decide), b 28 (by decide), b 29 (by decide), b 30 (by decide), b 31 (by decide), b 32 (by decide), b 33 (by decide), b 34 (by decide), b 35 (by decide)]
end HB
theorem arrV_same {c : ClassId} {n : Nat} {f g : Nat → Value} (h : ∀ j, j < n → f j = g j) : arrV c n f = arrV c n g := by
  unfold arrV
  congr 1
  apply Array.ext
  · simp
  · intro j h1 h2
    have hj : j < n := by simpa using h1
    simp [h j hj]
section VK
variable {D : va_G} {cA : Nat → ClassId} {dm E : Dm} {ad : Ad} {A : Nat → Prop} {nL : Nat} {p : Program} {l : Launch} {e : Env} {R : Room} {s : State} {m : MethodId} {args : Array Value} {below : List Frame} {meth : Method} {c : Code} {cells slots : Nat} {Q : State → Prop} {own : String} {cc : ByteArray} {S S' : S4} {pc : Nat} {lv lv' : List (Nat × Value)} {st : List Value}
theorem V_getJ (X : GX D cA dm ad A nL p s m args meth c own cc) {idx ci j k t i : Nat} {fs : List Value} {v : Value} (hdg : decode cc pc = .ok (.getfield idx, 3)) (hF : FRJ own idx ci j) (hg : dm k t i) (hct : ct cA ad k t i (S k t i) = .inr (ci, fs)) (hv : fs[j]? = some v) (kk : V D cA dm ad A nL p l e R s m args below meth c cells slots Q S (pc + 3) lv (v :: st)) : V D cA dm ad A nL p l e R s m args below meth c cells slots Q S pc lv (.ref (ad k t i) :: st) := by
  obtain ⟨hx, hb, hml, hown, hts, hK, hJ, hA, hA2, hlk⟩ := X
  obtain ⟨C, T, N, tys, ⟨hc, hin, hty, hnm⟩, hj, hlink⟩ := hF
  intro H locs ls hP hS hl
  exact va_get hx hb hts hin hown hK (gP_one hP hg hct) 0 rfl hc j hj (hts _ hlink) (fun x h => h) hv hdg (kk H locs ls hP hS hl)
/-- a field put, whatever it holds: what the heap holds then -/
theorem V_putA (X : GX D cA dm ad A nL p s m args meth c own cc) {idx ci j k t i : Nat} {fs : List Value} {v : Value} {ty : FieldType} (hdg : decode cc pc = .ok (.putfield idx, 3)) (hF : FLJ own idx ci j ty) (hg : dm k t i) (hct : ct cA ad k t i (S k t i) = .inr (ci, fs)) (hl : j < fs.length) (hn : narrow ty v = v) (hfit : fits ty v = true)
    (kk : ∀ (H H1 : Heap) (locs1 : List Loc) (ls : Array Slot), gP D cA dm ad S H → va_at D gCl (ad k t i, .inr (ci, fs.set j v)) H1 → (∀ q : Nat, q ≠ ad k t i → H1[q]? = H[q]?) → va_S A s.heap H1 locs1 → lv_has ls nL lv → W p l e R s m args below meth c H1 locs1 cells slots Q (F0 m (pc + 3) ls st)) : V D cA dm ad A nL p l e R s m args below meth c cells slots Q S pc lv (v :: .ref (ad k t i) :: st) := by
  obtain ⟨hx, hb, hml, hown, hts, hK, hJ, hA, hA2, hlk⟩ := X
  obtain ⟨C, T, N, tys, ⟨hc, hin, hty, hnm⟩, hj, rfl, hfin, hlink⟩ := hF
  intro H locs ls hP hS hl0
  have hap := va_apart (own := own) hts hin tys hty hnm hK hc
  obtain ⟨r, h1, cell, q1, q2, q3, q4⟩ := gP_one hP hg hct 0 _ rfl
  have hr : r = (C, T, N) := Option.some.inj (h1.symm.trans hc)
  subst hr
  obtain ⟨hS1, hfc, kC, hkC, hkind⟩ := hK.1 ci _ hc
  obtain ⟨cf, kf, fi, f, hi, hsl⟩ := hS1 j hj
  have hlay := hts _ (hin _ (u_in_lay hj))
  unfold u_lay at hlay
  rw [if_neg (by rw [hfin]; decide)] at hlay
  have hst := (u_facts hfc hkC (u_lays hts hin hj) hi).1
  have h6 := u_store hfc hkC hkind hlay hi (hty j hj) hn hfit
  refine W.putK hx hb (f := f) ⟨hown, hts _ hlink, ⟨_, _, _, hi⟩, hst⟩ (by rw [q2]; exact h6) q1 q3 (by rw [hsl]; exact k2_hasslot (q4 j hj)) rfl rfl hdg fun H' e1 e2 e3 => ?_
  rw [hsl] at e1 ⊢
  exact kk H H' _ ls hP ⟨_, hc, t_OB.to (V := updV (vp_V fs) j v) ⟨_, e1, q2, q3, t_set q4 hap hj v⟩ (fun n _ => vp_updV_set hl v n)⟩ e3 (hS.put e2 e3 (hA k t i hg)) hl0
theorem V_putJ (X : GX D cA dm ad A nL p s m args meth c own cc) {idx ci j j' k t i : Nat} {fs : List Value} {x : Int32} {ty : FieldType} (hdg : decode cc pc = .ok (.putfield idx, 3)) (hF : FLJ own idx ci j ty) (hg : dm k t i) (hct : ct cA ad k t i (S k t i) = .inr (ci, fs)) (hl : j < fs.length) (hct2 : ct cA ad k t i (upd (S k t i) j' x) = .inr (ci, fs.set j (.int x))) (hn : narrow ty (.int x) = .int x) (hfit : fits ty (.int x) = true) (kk : ∀ S1 : S4, S1 = u4 S k t i j' x → V D cA dm ad A nL p l e R s m args below meth c cells slots Q S1 (pc + 3) lv st) : V D cA dm ad A nL p l e R s m args below meth c cells slots Q S pc lv (.int x :: .ref (ad k t i) :: st) := by
  have hJ := X.2.2.2.2.2.2.1
  exact V_putA X hdg hF hg hct hl hn hfit (fun H H1 locs1 ls hP hat oq hS hl0 => kk _ rfl H1 locs1 ls (gP_upd hP hJ hg hct2 hat oq) hS hl0)
/-- the builder takes its new bytes -/
theorem V_swap (hP0 : Pb dm) (S1 : S4) (hS1 : ∀ k t i, dm k t i → S1 k t i = w4 S 9 0 0 (S 9 1 0) k t i) (X : GX D cA (dmu dm 9 1 0) ad A nL p s m args meth c RJ5 cc) (hdg : decode cc pc = .ok (.putfield 15, 3))
    (kk : ∀ ad2 : Ad, (∀ k t i, ¬ (k = 9 ∧ t = 0 ∧ i = 0) → ad2 k t i = ad k t i) → GX D cA dm ad2 A nL p s m args meth c RJ5 cc → V D cA dm ad2 A nL p l e R s m args below meth c cells slots Q S1 (pc + 3) lv st) : V D cA (dmu dm 9 1 0) ad A nL p l e R s m args below meth c cells slots Q S pc lv (.ref (ad 9 1 0) :: .ref (ad 8 0 0) :: st) := by
  obtain ⟨h8, h9, h91, h8u, h48⟩ := hP0
  obtain ⟨hx, hb, hml, hown, hts, hK, hJ, hA, hA2, hlk⟩ := id X
  have hne : ad 9 1 0 ≠ ad 8 0 0 := fun z => absurd (hJ _ _ _ _ _ _ (Or.inl ⟨rfl, rfl, rfl⟩) (Or.inr h8) z).1 (by decide)
  have g1 : ∀ k t i, dm k t i → ¬ (k = 9 ∧ t = 1 ∧ i = 0) := fun k t i hd z => h91 (by obtain ⟨rfl, rfl, rfl⟩ := z; exact hd)
  refine V_putA X (k := 8) (t := 0) (i := 0) (ci := 8) (j := 0) hdg f_J_value (Or.inr h8) rfl (Nat.le_of_ble_eq_true rfl) rfl rfl (fun H H1 locs1 ls hP hat oq hS hl0 => ?_)
  refine kk (adu ad 9 0 0 (ad 9 1 0)) (fun k t i h => adu_ne h) ⟨hx, hb, hml, hown, hts, hK, ?_, ?_, hA2, hlk⟩ H1 locs1 ls ?_ hS hl0
  · intro k1 t1 i1 k2 t2 i2 d1 d2 he
    by_cases n1 : k1 = 9 ∧ t1 = 0 ∧ i1 = 0
    · by_cases n2 : k2 = 9 ∧ t2 = 0 ∧ i2 = 0
      · omega
      · obtain ⟨rfl, rfl, rfl⟩ := n1
        rw [adu_self, adu_ne n2] at he
        exact absurd (hJ _ _ _ _ _ _ (Or.inl ⟨rfl, rfl, rfl⟩) (Or.inr d2) he) (g1 _ _ _ d2)
    · by_cases n2 : k2 = 9 ∧ t2 = 0 ∧ i2 = 0
      · obtain ⟨rfl, rfl, rfl⟩ := n2
        rw [adu_self, adu_ne n1] at he
        exact absurd (hJ _ _ _ _ _ _ (Or.inl ⟨rfl, rfl, rfl⟩) (Or.inr d1) he.symm) (g1 _ _ _ d1)
      · rw [adu_ne n1, adu_ne n2] at he
        exact hJ _ _ _ _ _ _ (Or.inr d1) (Or.inr d2) he
  · intro k1 t1 i1 d1
    by_cases n1 : k1 = 9 ∧ t1 = 0 ∧ i1 = 0
    · obtain ⟨rfl, rfl, rfl⟩ := n1
      rw [adu_self]; exact hA _ _ _ (Or.inl ⟨rfl, rfl, rfl⟩)
    · rw [adu_ne n1]; exact hA _ _ _ (Or.inr d1)
  · intro k1 t1 i1 d1
    rw [hS1 _ _ _ d1]
    by_cases n1 : k1 = 9 ∧ t1 = 0 ∧ i1 = 0
    · obtain ⟨rfl, rfl, rfl⟩ := n1
      rw [adu_self, w4_self]
      exact (hP 9 1 0 (Or.inl ⟨rfl, rfl, rfl⟩)).kept (oq _ hne)
    · rw [w4_ne n1, adu_ne n1]
      by_cases e8 : k1 = 8
      · subst e8
        obtain ⟨rfl, rfl⟩ := h8u _ _ d1
        have e9 : ct cA (adu ad 9 0 0 (ad 9 1 0)) 8 0 0 (S 8 0 0) = .inr (8, [Value.ref (ad 9 0 0), .int (S 8 0 0 1), .int (S 8 0 0 2), .int (S 8 0 0 0)].set 0 (.ref (ad 9 1 0))) := by
          show (Sum.inr (8, [Value.ref (adu ad 9 0 0 (ad 9 1 0) 9 0 0), .int (S 8 0 0 1), .int (S 8 0 0 2), .int (S 8 0 0 0)]) : va_E) = _
          rw [adu_self]
          rfl
        rw [e9]
        exact hat
      · rw [holdB (fun z => absurd z e8) (fun z => absurd d1 (by subst z; exact h48 _ _))]
        have := hP k1 t1 i1 (Or.inr d1)
        exact this.kept (oq _ (fun z => e8 (hJ _ _ _ _ _ _ (Or.inr d1) (Or.inr h8) z).1.symm))
/-- new bytes -/
theorem V_newB (X : GX D cA dm ad A nL p s m args meth c own cc) {N : Nat} {n : Int32} (h91 : ¬ dm 9 1 0) (hn : n = nI N) (hN : N ≤ 200) (hcells : cells + 1 ≤ R.cells) (hslots : slots + N ≤ R.slots) (hdg : decode cc pc = .ok (.newarray .byte, 2))
    (kk : ∀ ad2 : Ad, (∀ k' t' i', ¬ (k' = 9 ∧ t' = 1 ∧ i' = 0) → ad2 k' t' i' = ad k' t' i') → GX D cA (dmu dm 9 1 0) ad2 A nL p s m args meth c own cc → V D cA (dmu dm 9 1 0) ad2 A nL p l e R s m args below meth c (cells + 1) (slots + N) Q (w4 S 9 1 0 (fun j => if j = 200 then nI N else 0)) (pc + 2) lv (.ref (ad2 9 1 0) :: st)) : V D cA dm ad A nL p l e R s m args below meth c cells slots Q S pc lv (.int n :: st) := by
  subst hn
  have hc : (nI N).toNatClampNeg = N := nI_clamp (by omega)
  refine V_newa X (q := 9) (N := N) (a0 := (N, .inl (fun j => if j = 200 then nI N else 0))) (r0 := fun j => if j = 200 then nI N else 0) (ty := .byte) (k := 9) (t := 1) (i := 0) rfl (gin 394 (by decide +kernel) (by decide +kernel)) rfl (fun c => ?_) (fun ad' => ?_) (nI_pos (by omega)) hc (by show N * 1 ≤ _; omega) (hold_eq (fun z k' t' i' hd hne => holdB (fun _ => by decide) (fun _ => by decide))) hcells hslots hdg (fun z _ _ X2 => ?_)
  · show arrV c N (fun j => .int (if j = 200 then nI N else 0)) = arrV c N (fun _ => .int 0)
    exact arrV_same (fun j hj => by rw [if_neg (by omega)])
  · show (Sum.inl (cA 9, (if 200 = 200 then nI N else 0).toNatClampNeg, .inl (fun j => if j = 200 then nI N else 0)) : va_E) = _
    rw [if_pos rfl, hc]
  · have h := kk (adu ad 9 1 0 z) (fun k' t' i' hh => adu_ne hh) X2
    rw [adu_self] at h
    exact h
theorem V_copyB (X : GX D cA dm ad A nL p s m args meth c own cc) {idx k t i n k' t' i' n' : Nat} {sp dp z : Int32} (hdg : decode cc pc = .ok (.invokestatic idx, 3)) (hw : Cond.methodLink own idx arraycopyName ∈ gT ∧ Cond.native arraycopyName ∈ gT ∧ Cond.static arraycopyName ∈ gT ∧ Cond.initialized "java/lang/System" ∈ gT) (hg : dm k t i) (hct : ct cA ad k t i (S k t i) = .inl (cA 9, n, .inl (S k t i))) (hg' : dm k' t' i') (hct' : ct cA ad k' t' i' (S k' t' i') = .inl (cA 9, n', .inl (S k' t' i')))
    (h1 : ¬ sp < 0) (h2 : ¬ dp < 0) (h3 : ¬ z < 0) (h4 : sp.toNatClampNeg + z.toNatClampNeg ≤ n') (h5 : dp.toNatClampNeg + z.toNatClampNeg ≤ n) (hct2 : ∀ r : Nat → Int32, r 200 = S k t i 200 → ct cA ad k t i r = .inl (cA 9, n, .inl r)) (h200 : dp.toNatClampNeg + z.toNatClampNeg ≤ 200) (hfit : ∀ j, j < z.toNatClampNeg → fits .byte (.int (S k' t' i' (sp.toNatClampNeg + j))) = true) (hst : (st.map fun v => v.category).sum ≤ 8) (hR : 1 ≤ R.frames ∧ 8 + (nativeFrameWords "java/lang/System" "arraycopy" 5 + 11) ≤ R.locals)
    (kk : ∀ S1 : S4, S1 = w4 S k t i (va_cpy (S k' t' i') (S k t i) sp.toNatClampNeg dp.toNatClampNeg z.toNatClampNeg) → V D cA dm ad A nL p l e R s m args below meth c cells slots Q S1 (pc + 3) lv st) : V D cA dm ad A nL p l e R s m args below meth c cells slots Q S pc lv (.int z :: .int dp :: .ref (ad k t i) :: .int sp :: .ref (ad k' t' i') :: st) := by
  obtain ⟨hx, hb, hml, hown, hts, hK, hJ, hA, hA2, hlk⟩ := X
  have nn : ∀ z : Int32, ¬ z < 0 → z.toInt = (z.toNatClampNeg : Int) := by
    intro z hz
    have hz0 : (0 : Int) ≤ z.toInt := by
      have := Int32.not_lt.mp hz
      simpa using Int32.le_iff_toInt_le.mp this
    show z.toInt = ((z.toInt.toNat : Nat) : Int)
    omega
  intro H locs ls hP hS hl0 T hT X
  have hc0 : H[ad k' t' i']? = some (vp_cell (cA 9) (n', .inl (S k' t' i'))) := gP_one hP hg' hct' 0 _ rfl
  have hc1 : H[ad k t i]? = some (vp_cell (cA 9) (n, .inl (S k t i))) := gP_one hP hg hct 0 _ rfl
  obtain ⟨-, k0, hk0, cm0, hkk0⟩ := (hK.2 9 _ rfl).1 n' (fun j => .int (S k' t' i' j))
  obtain ⟨-, k1, hk1, cm1, hkk1⟩ := (hK.2 9 _ rfl).1 n (fun j => .int (S k t i j))
  obtain ⟨vm', X', step⟩ := X.arraycopy hx hown (hts _ hw.1) (hts _ hw.2.1) (hts _ hw.2.2.1) (hts _ hw.2.2.2) (src := ad k' t' i') (dst := ad k t i) (cs := vp_cell (cA 9) (n', .inl (S k' t' i'))) (cd := vp_cell (cA 9) (n, .inl (S k t i))) (srcPos := sp) (destPos := dp) (n := z) (by rw [hT]; exact hc0) (by rw [hT]; exact hc1)
    (fun _ h => by cases h) (fun _ h => by cases h) (fun h => by cases h) (fun h => by cases h) hk0 hk1 hkk0 hkk1 (by simp [refKind]) h1 h2 h3
    (by rw [nn sp h1, nn z h3]; show ¬ _ > ((arrV (cA 9) n' (fun j => .int (S k' t' i' j))).slots.size : Int); rw [arrV_size]; omega)
    (by rw [nn dp h2, nn z h3]; show ¬ _ > ((arrV (cA 9) n (fun j => .int (S k t i j))).slots.size : Int); rw [arrV_size]; omega)
    (fun vm₁ _ i0 hi => by
      have e : (vp_cell (cA 9) (n', .inl (S k' t' i'))).slots.getD (sp.toNatClampNeg + i0) .null = .int (S k' t' i' (sp.toNatClampNeg + i0)) := by
        show (arrV (cA 9) n' (fun j => .int (S k' t' i' j))).slots.getD _ _ = _
        rw [Array.getD_eq_getD_getElem?, arrV_read _ _ (by omega)]
        rfl
      refine ⟨?_, ?_⟩
      · rw [e]
        exact hfit i0 hi
      · rw [e]
        exact trivial)
    (g := F0 m pc ls (.int z :: .int dp :: .ref (ad k t i) :: .int sp :: .ref (ad k' t' i') :: st)) rfl (by rw [hml]; exact hl0.1) (rest := st) rfl (by rw [hb]; exact hdg) hR.1 (by show 2 * 0 + _ + _ ≤ _; omega)
  have e1 : copied (vp_cell (cA 9) (n', .inl (S k' t' i'))) (vp_cell (cA 9) (n, .inl (S k t i))) sp dp z = vp_cell (cA 9) (n, .inl (va_cpy (S k' t' i') (S k t i) sp.toNatClampNeg dp.toNatClampNeg z.toNatClampNeg)) := va_copied (fun z => .int z) (cA 9) (cA 9) (S k' t' i') (S k t i) h4
  rw [e1] at X' step
  have h9 : va_cpy (S k' t' i') (S k t i) sp.toNatClampNeg dp.toNatClampNeg z.toNatClampNeg 200 = S k t i 200 := by
    unfold va_cpy
    rw [if_neg (by omega)]
  generalize hr : va_cpy (S k' t' i') (S k t i) sp.toNatClampNeg dp.toNatClampNeg z.toNatClampNeg = r at X' step kk h9
  have hl : ad k t i < H.size := (Array.getElem?_eq_some_iff.mp hc1).1
  have hheap : ((T.setVm vm').setCell (ad k t i) (vp_cell (cA 9) (n, .inl r))).heap = H.setIfInBounds (ad k t i) (vp_cell (cA 9) (n, .inl r)) := by rw [← hT]; rfl
  have oq : ∀ q : Nat, q ≠ ad k t i → (H.setIfInBounds (ad k t i) (vp_cell (cA 9) (n, .inl r)))[q]? = H[q]? := fun q hq => by simp [Array.getElem?_setIfInBounds, Ne.symm hq]
  obtain ⟨t9, a1, b1⟩ := kk _ rfl _ _ ls (gP_upd hP hJ hg (hct2 r h9) (show (H.setIfInBounds (ad k t i) _)[ad k t i]? = some _ by simp [Array.getElem?_setIfInBounds, hl]) oq) ⟨by simp; exact hS.1, fun q g1 g2 => by
      rw [oq q (fun e => g2 (by rw [e]; exact hA k t i hg))]
      exact hS.2.1 q g1 g2, fun q hq => by
      rcases List.mem_append.mp hq with h | h
      · exact hS.2.2 q h
      · obtain ⟨z, -, hz⟩ := List.mem_map.mp h
        rw [← hz]
        exact hA k t i hg⟩ hl0 _ hheap X'
  exact ⟨t9, step t9 a1, b1⟩
end VK
