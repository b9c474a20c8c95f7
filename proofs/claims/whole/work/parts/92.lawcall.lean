/-! the law calls its wrappers -/
def MLW (own : String) (idx : Nat) (y : MethodName) (cy : ByteArray) (mL : Nat) (ret : Option FieldType) (hh : List (Nat × Nat × Nat × Nat)) (n : Nat) : Prop := Cond.methodLink own idx y ∈ gT ∧ Cond.codeWith y cy mL ret hh ∈ gT ∧ Cond.initialized y.cls ∈ gT ∧ (y.cls ≠ "java/lang/invoke/MethodHandle" ∧ y.cls ≠ "java/lang/invoke/VarHandle" ∧ (parseMethodDescriptor y.desc).map (fun d => d.parameters.length) = some n) ∧ Cond.static y ∈ gT
section VLC
variable {D : va_G} {cA : Nat → ClassId} {dm E : Dm} {ad : Ad} {A : Nat → Prop} {nL : Nat} {p : Program} {l : Launch} {e : Env} {R : Room} {s : State} {m : MethodId} {args : Array Value} {below : List Frame} {meth : Method} {c : Code} {cells slots mc ms : Nat} {Q : State → Prop} {own : String} {cc : ByteArray} {S S' : S4} {pc : Nat} {lv : List (Nat × Value)}
theorem g_cbw {y : MethodName} {cy : ByteArray} {mL idx n rf rl : Nat} {ret : Option FieldType} {hh : List (Nat × Nat × Nat × Nat)} (hts : ∀ w ∈ gT, w.before args s = true) (hM : MLW own idx y cy mL ret hh n) (hR : rf + 1 ≤ R.frames ∧ 8 + (mL + 11) + rl ≤ R.locals) : vx_CSW R s args own idx y cy mL ret hh (Cond.codeWith y cy mL ret hh :: gT) ({ frames := rf, cells := mc, slots := ms, locals := rl }) mc ms n :=
  ⟨⟨rfl, rfl, hR.1, hR.2, pay_in hts (gGood hM.2.1), List.mem_cons_self⟩, hts _ hM.2.1, hts _ hM.2.2.1, ⟨hM.2.2.2.1.1, hM.2.2.2.1.2.1⟩, fun sig h => by
    have h2 := hM.2.2.2.1.2.2
    rw [h] at h2
    exact (Option.some.inj h2).symm, hts _ hM.1, hts _ hM.2.2.2.2⟩
theorem V_callSC (X : GX D cA dm ad A nL p s m args meth c own cc) (hZ : gZ A s s.heap) {y : MethodName} {cy : ByteArray} {mL idx n rf rl : Nat} {ret : Option FieldType} {hh : List (Nat × Nat × Nat × Nat)} {rv : Option Value} (As : List Value) {rest : List Value} (hdg : decode cc pc = .ok (.invokestatic idx, 3)) (hM : MLW own idx y cy mL ret hh n) (hR : rf + 1 ≤ R.frames ∧ 8 + (mL + 11) + rl ≤ R.locals) (hf : cells + 1 ≤ R.cells ∧ slots + 6 ≤ R.slots) (hn : As.length = n) (hst : (rest.map fun v => v.category).sum ≤ 8)
    (hC : Cw D cA dm ad l y cy mL ret hh rf rl S As rv S') (kk : V D cA dm ad A nL p l e R s m args below meth c (cells + 1) (slots + 6) Q S' (pc + 3) lv (rv.toList ++ rest)) : V D cA dm ad A nL p l e R s m args below meth c cells slots Q S pc lv (As.reverse ++ rest) := by
  intro H locs ls hP hS hl T hT X1
  obtain ⟨hx, hb, hml, hown, hts, hK, hJ, hA, hA2, hlk⟩ := id X
  have hAf : ∀ q, gA dm ad H.size q → A q := fun q h => h.elim (fun ⟨k, t, i, hg, e⟩ => by rw [e]; exact hA k t i hg) (fun h => hA2 q (Nat.le_trans hS.1 h))
  have hZH : gZ (gA dm ad H.size) s H := gZ_narrow (gZ_kept hZ (fun a h1 h2 => hS.2.1 a h1 h2)) hAf
  rcases vx_runSX (As := As) (rest := rest) (g := F0 m pc ls (As.reverse ++ rest)) (cells := cells) (slots := slots) ⟨hx, hb, hml, hown, hts⟩ (hC H.size) (g_cbw hts hM hR) ⟨gBx_blind, fun U hU hW => ⟨rfl, ⟨by rw [hU], gP_moved hP hU, gK_moved hW.alike hK, hJ, gN_moved hW hlk.2⟩, gZ_moved hW.alike (by rw [hU]; exact hZH)⟩⟩ rfl hn hl.1 rfl (lv_room hst) hdg hf T hT X1 with ⟨v, st₀, t, T', L, h0, X2, hL, e1, e2, ⟨⟨hv, hq⟩, hF⟩, st9⟩ | ⟨q, st₀, t, T', L, E', ce, h0, X2, hL, e1, e2, hq, hce, hcv, hcl, st9⟩
  · cases hv
    obtain ⟨k1, k2, k3⟩ := vx_keep h0 e1 hS (fun q _ h => hAf q h) hAf hL hF
    obtain ⟨t2, a1, b1⟩ := kk T'.heap (locs ++ L) ls (gP_moved hq e1) k3 hl T' rfl X2
    exact ⟨t2, st9 t2 a1, b1⟩
  · exact hq.elim
theorem V_callSCJ (X : GX D cA dm ad A nL p s m args meth c own cc) (hZ : gZ A s s.heap) (hY : gY A s s.heap) {y : MethodName} {cy : ByteArray} {mL idx n rf rl : Nat} {ret : Option FieldType} {hh : List (Nat × Nat × Nat × Nat)} {rv : Option Value} (As : List Value) {rest : List Value} (hdg : decode cc pc = .ok (.invokestatic idx, 3)) (hM : MLW own idx y cy mL ret hh n) (hR : rf + 1 ≤ R.frames ∧ 8 + (mL + 11) + rl ≤ R.locals) (hf : cells + mc ≤ R.cells ∧ slots + ms ≤ R.slots) (hn : As.length = n) (hst : (rest.map fun v => v.category).sum ≤ 8)
    (hC : CwJ D cA dm E ad l y cy mL ret hh rf rl mc ms S As rv S') (kk : ∀ ad' : Ad, agM true dm ad ad' → GX D cA E ad' A nL p s m args meth c own cc → V D cA E ad' A nL p l e R s m args below meth c (cells + mc) (slots + ms) Q S' (pc + 3) lv (rv.toList ++ rest)) : V D cA dm ad A nL p l e R s m args below meth c cells slots Q S pc lv (As.reverse ++ rest) := by
  intro H locs ls hP hS hl T hT X1
  obtain ⟨hx, hb, hml, hown, hts, hK, hJ, hA, hA2, hlk⟩ := id X
  have hAf : ∀ q, gA dm ad H.size q → A q := fun q h => h.elim (fun ⟨k, t, i, hg, e⟩ => by rw [e]; exact hA k t i hg) (fun h => hA2 q (Nat.le_trans hS.1 h))
  have hZH : gZ (gA dm ad H.size) s H := gZ_narrow (gZ_kept hZ (fun a h1 h2 => hS.2.1 a h1 h2)) hAf
  rcases vx_runSX (As := As) (rest := rest) (g := F0 m pc ls (As.reverse ++ rest)) (cells := cells) (slots := slots) ⟨hx, hb, hml, hown, hts⟩ (hC H.size) (g_cbw hts hM hR) ⟨gBz_blind, fun U hU hW => ⟨rfl, ⟨⟨by rw [hU], gP_moved hP hU, gK_moved hW.alike hK, hJ, gN_moved hW hlk.2⟩, gZ_moved hW.alike (by rw [hU]; exact hZH)⟩, gY_warm hW (by rw [hU]; exact gY_at X hY hS)⟩⟩ rfl hn hl.1 rfl (lv_room hst) hdg hf T hT X1 with ⟨v, st₀, t, T', L, h0, X2, hL, e1, e2, ⟨⟨ad', hv, hag, hJ', hA', hq⟩, hF⟩, st9⟩ | ⟨q, st₀, t, T', L, E', ce, h0, X2, hL, e1, e2, hq, hce, hcv, hcl, st9⟩
  · cases hv
    obtain ⟨k1, k2, k3⟩ := vx_keep h0 e1 hS (fun q _ h => hAf q h) hAf hL hF
    obtain ⟨t2, a1, b1⟩ := kk ad' hag ⟨hx, hb, hml, hown, hts, hK, hJ', fun k t i h => hAf _ (hA' k t i h), hA2, hlk⟩ T'.heap (locs ++ L) ls (gP_moved hq e1) k3 hl T' rfl X2
    exact ⟨t2, st9 t2 a1, b1⟩
  · exact hq.elim
end VLC
