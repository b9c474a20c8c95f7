/-! calls of constructors; names that no cell looks at -/
section CI
variable {D : va_G} {cA : Nat → ClassId} {dm E : Dm} {ad : Ad} {A : Nat → Prop} {nL : Nat} {p : Program} {l : Launch} {e : Env} {R : Room} {s : State} {m : MethodId} {args : Array Value} {below : List Frame} {meth : Method} {c : Code} {cells slots : Nat} {Q : State → Prop} {own : String} {cc : ByteArray} {S S' : S4} {pc : Nat} {lv lv' : List (Nat × Value)} {st : List Value}
theorem V_callIE (X : GX D cA dm ad A nL p s m args meth c own cc) {y : MethodName} {cy : ByteArray} {mL idx n rf rl a mc ms : Nat} {S' : S4} (As : List Value) {rest : List Value} (hdg : decode cc pc = .ok (.invokespecial idx, 3)) (hM : ML own idx y cy mL none n) (hy : y.name = "<init>") (hI : Cond.instanceMethod y ∈ gT) (hR : rf + 1 ≤ R.frames ∧ 8 + (mL + 11) + rl ≤ R.locals) (hf : cells + mc ≤ R.cells ∧ slots + ms ≤ R.slots) (hn : As.length = n) (hst : (rest.map fun v => v.category).sum ≤ 8)
    (hC : CtE D cA dm E ad l y cy mL none rf rl mc ms S (.ref a :: As) none S') (kk : ∀ ad' : Ad, agE dm ad ad' → GX D cA E ad' A nL p s m args meth c own cc → V D cA E ad' A nL p l e R s m args below meth c (cells + mc) (slots + ms) Q S' (pc + 3) lv rest) : V D cA dm ad A nL p l e R s m args below meth c cells slots Q S pc lv (As.reverse ++ .ref a :: rest) := by
  intro H locs ls hP hS hl
  obtain ⟨hx, hb, hml, hown, hts, hK, hJ, hA, hA2, hlk⟩ := id X
  exact V_backE X (rv := none) (va_runI (As := As) (rest := rest) ⟨hx, hb, hml, hown, hts⟩ (hC H.size) ⟨g_cbE hts hM hR, hy, hts _ hI⟩ ⟨gB_blind, fun U hU hW => ⟨rfl, by rw [hU], gP_moved hP hU, gK_moved hW.alike hK, hJ, gN_moved hW hlk.2⟩⟩ rfl hn hl.1 rfl (lv_room hst) hdg hf) hS hl kk
/-- a nest mate's constructor -/
def NI (own : String) (idx : Nat) (y : MethodName) (host : String) (cy : ByteArray) (mL : Nat) (n : Nat) : Prop := Cond.methodLinkNest own idx y host ∈ gNx ∧ Cond.code y cy mL none ∈ gT ∧ Cond.initialized y.cls ∈ gT ∧ (y.cls ≠ "java/lang/invoke/MethodHandle" ∧ y.cls ≠ "java/lang/invoke/VarHandle" ∧ (parseMethodDescriptor y.desc).map (fun d => d.parameters.length) = some n) ∧ y.name = "<init>" ∧ Cond.instanceMethod y ∈ gT
theorem V_callINE (X : GX D cA dm ad A nL p s m args meth c own cc) {y : MethodName} {host : String} {cy : ByteArray} {mL idx n rf rl a mc ms : Nat} {S' : S4} (As : List Value) {rest : List Value} (hdg : decode cc pc = .ok (.invokespecial idx, 3)) (hM : NI own idx y host cy mL n) (hR : rf + 1 ≤ R.frames ∧ 8 + (mL + 11) + rl ≤ R.locals) (hf : cells + mc ≤ R.cells ∧ slots + ms ≤ R.slots) (hn : As.length = n) (hst : (rest.map fun v => v.category).sum ≤ 8)
    (hC : CtE D cA dm E ad l y cy mL none rf rl mc ms S (.ref a :: As) none S') (kk : ∀ ad' : Ad, agE dm ad ad' → GX D cA E ad' A nL p s m args meth c own cc → V D cA E ad' A nL p l e R s m args below meth c (cells + mc) (slots + ms) Q S' (pc + 3) lv rest) : V D cA dm ad A nL p l e R s m args below meth c cells slots Q S pc lv (As.reverse ++ .ref a :: rest) := by
  intro H locs ls hP hS hl
  obtain ⟨hx, hb, hml, hown, hts, hK, hJ, hA, hA2, hlk⟩ := id X
  exact V_backE X (rv := none) (va_runIN (As := As) (rest := rest) ⟨hx, hb, hml, hown, hts⟩ (hC H.size) ⟨va_cnB n hts (gGood hM.2.1) rfl rfl rfl (va_Nw.use rfl (hlk.2.1 _ hM.1)) (hts _ hM.2.2.1) hM.2.2.2.1 hR, hM.2.2.2.2.1, hts _ hM.2.2.2.2.2⟩ ⟨gB_blind, fun U hU hW => ⟨rfl, by rw [hU], gP_moved hP hU, gK_moved hW.alike hK, hJ, gN_moved hW hlk.2⟩⟩ rfl hn hl.1 rfl (lv_room hst) hdg hf) hS hl kk
/-- no cell looks at objects under construction -/
theorem holdU {κ τ ι z k' t' i' : Nat} {r : Nat → Int32} (hκ : 37 < κ) : ct cA (adu ad κ τ ι z) k' t' i' r = ct cA ad k' t' i' r := by
  have b : ∀ k, ¬ (37 < k) → adu ad κ τ ι z k = ad k := fun k hk => by
    funext t j
    exact adu_ne (fun q => by omega)
  unfold ct
  split
  all_goals first
    | rfl
    | simp only [b 0 (by decide), b 1 (by decide), b 2 (by decide), b 4 (by decide), b 5 (by decide), b 8 (by decide), b 9 (by decide), b 10 (by decide), b 11 (by decide), b 12 (by decide), b 13 (by decide), b 14 (by decide), b 15 (by decide), b 16 (by decide), b 17 (by decide), b 18 (by decide), b 19 (by decide), b 20 (by decide), b 21 (by decide), b 22 (by decide), b 23 (by decide), b 24 (by decide), b 25 (by decide), b 26 (by decide), b 27 (by decide), b 28 (by decide), b 29 (by decide), b 30 (by decide), b 31 (by decide), b 32 (by decide), b 33 (by decide), b 34 (by decide), b 35 (by decide)]
end CI
